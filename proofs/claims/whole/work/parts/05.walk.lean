theorem dX7_append_0 : decode cX7_append 0 = .ok (.bipush 24, 2) := by decide +kernel
theorem dX7_append_2 : decode cX7_append 2 = .ok (.istore_n 2, 1) := by decide +kernel
theorem dX7_append_3 : decode cX7_append 3 = .ok (.iload_n 2, 1) := by decide +kernel
theorem dX7_append_4 : decode cX7_append 4 = .ok (.ifCond .lt 42, 3) := by decide +kernel
theorem dX7_append_7 : decode cX7_append 7 = .ok (.aload_n 0, 1) := by decide +kernel
theorem dX7_append_8 : decode cX7_append 8 = .ok (.getfield 15, 3) := by decide +kernel
theorem dX7_append_11 : decode cX7_append 11 = .ok (.sipush 900, 3) := by decide +kernel
theorem dX7_append_14 : decode cX7_append 14 = .ok (.if_icmp .ge 32, 3) := by decide +kernel
theorem dX7_append_17 : decode cX7_append 17 = .ok (.aload_n 0, 1) := by decide +kernel
theorem dX7_append_18 : decode cX7_append 18 = .ok (.getfield 9, 3) := by decide +kernel
theorem dX7_append_21 : decode cX7_append 21 = .ok (.aload_n 0, 1) := by decide +kernel
theorem dX7_append_22 : decode cX7_append 22 = .ok (.getfield 15, 3) := by decide +kernel
theorem dX7_append_25 : decode cX7_append 25 = .ok (.iload_n 1, 1) := by decide +kernel
theorem dX7_append_26 : decode cX7_append 26 = .ok (.iload_n 2, 1) := by decide +kernel
theorem dX7_append_27 : decode cX7_append 27 = .ok (.iushr, 1) := by decide +kernel
theorem dX7_append_28 : decode cX7_append 28 = .ok (.i2b, 1) := by decide +kernel
theorem dX7_append_29 : decode cX7_append 29 = .ok (.bastore, 1) := by decide +kernel
theorem dX7_append_30 : decode cX7_append 30 = .ok (.aload_n 0, 1) := by decide +kernel
theorem dX7_append_31 : decode cX7_append 31 = .ok (.dup, 1) := by decide +kernel
theorem dX7_append_32 : decode cX7_append 32 = .ok (.getfield 15, 3) := by decide +kernel
theorem dX7_append_35 : decode cX7_append 35 = .ok (.iconst 1, 1) := by decide +kernel
theorem dX7_append_36 : decode cX7_append 36 = .ok (.iadd, 1) := by decide +kernel
theorem dX7_append_37 : decode cX7_append 37 = .ok (.putfield 15, 3) := by decide +kernel
theorem dX7_append_40 : decode cX7_append 40 = .ok (.iinc 2 (-8), 3) := by decide +kernel
theorem dX7_append_43 : decode cX7_append 43 = .ok (.goto (-40), 3) := by decide +kernel
theorem dX7_append_46 : decode cX7_append 46 = .ok (.return_, 1) := by decide +kernel
theorem dX10_feed_0 : decode cX10_feed 0 = .ok (.aload_n 0, 1) := by decide +kernel
theorem dX10_feed_1 : decode cX10_feed 1 = .ok (.getfield 12, 3) := by decide +kernel
theorem dX10_feed_4 : decode cX10_feed 4 = .ok (.getfield 54, 3) := by decide +kernel
theorem dX10_feed_7 : decode cX10_feed 7 = .ok (.astore 6, 2) := by decide +kernel
theorem dX10_feed_9 : decode cX10_feed 9 = .ok (.aload 6, 2) := by decide +kernel
theorem dX10_feed_11 : decode cX10_feed 11 = .ok (.getfield 58, 3) := by decide +kernel
theorem dX10_feed_14 : decode cX10_feed 14 = .ok (.bipush 20, 2) := by decide +kernel
theorem dX10_feed_16 : decode cX10_feed 16 = .ok (.iadd, 1) := by decide +kernel
theorem dX10_feed_17 : decode cX10_feed 17 = .ok (.sipush 900, 3) := by decide +kernel
theorem dX10_feed_20 : decode cX10_feed 20 = .ok (.if_icmp .le 5, 3) := by decide +kernel
theorem dX10_feed_23 : decode cX10_feed 23 = .ok (.iconst (-1), 1) := by decide +kernel
theorem dX10_feed_24 : decode cX10_feed 24 = .ok (.ireturn, 1) := by decide +kernel
theorem dX10_feed_25 : decode cX10_feed 25 = .ok (.aload 6, 2) := by decide +kernel
theorem dX10_feed_27 : decode cX10_feed 27 = .ok (.iload_n 1, 1) := by decide +kernel
theorem dX10_feed_28 : decode cX10_feed 28 = .ok (.invokevirtual 64, 3) := by decide +kernel
theorem dX10_feed_31 : decode cX10_feed 31 = .ok (.aload 6, 2) := by decide +kernel
theorem dX10_feed_33 : decode cX10_feed 33 = .ok (.iload_n 2, 1) := by decide +kernel
theorem dX10_feed_34 : decode cX10_feed 34 = .ok (.invokevirtual 64, 3) := by decide +kernel
theorem dX10_feed_37 : decode cX10_feed 37 = .ok (.aload 6, 2) := by decide +kernel
theorem dX10_feed_39 : decode cX10_feed 39 = .ok (.iload_n 3, 1) := by decide +kernel
theorem dX10_feed_40 : decode cX10_feed 40 = .ok (.invokevirtual 64, 3) := by decide +kernel
theorem dX10_feed_43 : decode cX10_feed 43 = .ok (.aload 6, 2) := by decide +kernel
theorem dX10_feed_45 : decode cX10_feed 45 = .ok (.iload 4, 2) := by decide +kernel
theorem dX10_feed_47 : decode cX10_feed 47 = .ok (.invokevirtual 64, 3) := by decide +kernel
theorem dX10_feed_50 : decode cX10_feed 50 = .ok (.aload 6, 2) := by decide +kernel
theorem dX10_feed_52 : decode cX10_feed 52 = .ok (.iload 5, 2) := by decide +kernel
theorem dX10_feed_54 : decode cX10_feed 54 = .ok (.invokevirtual 64, 3) := by decide +kernel
theorem dX10_feed_57 : decode cX10_feed 57 = .ok (.aload 6, 2) := by decide +kernel
theorem dX10_feed_59 : decode cX10_feed 59 = .ok (.getfield 58, 3) := by decide +kernel
theorem dX10_feed_62 : decode cX10_feed 62 = .ok (.ireturn, 1) := by decide +kernel
theorem dX10_refuse_0 : decode cX10_refuse 0 = .ok (.aload_n 0, 1) := by decide +kernel
theorem dX10_refuse_1 : decode cX10_refuse 1 = .ok (.iload_n 1, 1) := by decide +kernel
theorem dX10_refuse_2 : decode cX10_refuse 2 = .ok (.putfield 98, 3) := by decide +kernel
theorem dX10_refuse_5 : decode cX10_refuse 5 = .ok (.iconst (-1), 1) := by decide +kernel
theorem dX10_refuse_6 : decode cX10_refuse 6 = .ok (.ireturn, 1) := by decide +kernel
theorem dJ7_fill_53178_0 : decode cJ7_fill_53178 0 = .ok (.iconst 0, 1) := by decide +kernel
theorem dJ7_fill_53178_1 : decode cJ7_fill_53178 1 = .ok (.istore_n 2, 1) := by decide +kernel
theorem dJ7_fill_53178_2 : decode cJ7_fill_53178 2 = .ok (.aload_n 0, 1) := by decide +kernel
theorem dJ7_fill_53178_3 : decode cJ7_fill_53178 3 = .ok (.arraylength, 1) := by decide +kernel
theorem dJ7_fill_53178_4 : decode cJ7_fill_53178 4 = .ok (.istore_n 3, 1) := by decide +kernel
theorem dJ7_fill_53178_5 : decode cJ7_fill_53178 5 = .ok (.iload_n 2, 1) := by decide +kernel
theorem dJ7_fill_53178_6 : decode cJ7_fill_53178 6 = .ok (.iload_n 3, 1) := by decide +kernel
theorem dJ7_fill_53178_7 : decode cJ7_fill_53178 7 = .ok (.if_icmp .ge 13, 3) := by decide +kernel
theorem dJ7_fill_53178_10 : decode cJ7_fill_53178 10 = .ok (.aload_n 0, 1) := by decide +kernel
theorem dJ7_fill_53178_11 : decode cJ7_fill_53178 11 = .ok (.iload_n 2, 1) := by decide +kernel
theorem dJ7_fill_53178_12 : decode cJ7_fill_53178 12 = .ok (.iload_n 1, 1) := by decide +kernel
theorem dJ7_fill_53178_13 : decode cJ7_fill_53178 13 = .ok (.iastore, 1) := by decide +kernel
theorem dJ7_fill_53178_14 : decode cJ7_fill_53178 14 = .ok (.iinc 2 1, 3) := by decide +kernel
theorem dJ7_fill_53178_17 : decode cJ7_fill_53178 17 = .ok (.goto (-12), 3) := by decide +kernel
theorem dJ7_fill_53178_20 : decode cJ7_fill_53178 20 = .ok (.return_, 1) := by decide +kernel
theorem dX2_clear_0 : decode cX2_clear 0 = .ok (.aload_n 0, 1) := by decide +kernel
theorem dX2_clear_1 : decode cX2_clear 1 = .ok (.getfield 12, 3) := by decide +kernel
theorem dX2_clear_4 : decode cX2_clear 4 = .ok (.iconst 0, 1) := by decide +kernel
theorem dX2_clear_5 : decode cX2_clear 5 = .ok (.putfield 38, 3) := by decide +kernel
theorem dX2_clear_8 : decode cX2_clear 8 = .ok (.aload_n 0, 1) := by decide +kernel
theorem dX2_clear_9 : decode cX2_clear 9 = .ok (.getfield 12, 3) := by decide +kernel
theorem dX2_clear_12 : decode cX2_clear 12 = .ok (.iconst 0, 1) := by decide +kernel
theorem dX2_clear_13 : decode cX2_clear 13 = .ok (.putfield 42, 3) := by decide +kernel
theorem dX2_clear_16 : decode cX2_clear 16 = .ok (.aload_n 0, 1) := by decide +kernel
theorem dX2_clear_17 : decode cX2_clear 17 = .ok (.iconst 0, 1) := by decide +kernel
theorem dX2_clear_18 : decode cX2_clear 18 = .ok (.putfield 45, 3) := by decide +kernel
theorem dX2_clear_21 : decode cX2_clear 21 = .ok (.aload_n 0, 1) := by decide +kernel
theorem dX2_clear_22 : decode cX2_clear 22 = .ok (.iconst 0, 1) := by decide +kernel
theorem dX2_clear_23 : decode cX2_clear 23 = .ok (.putfield 48, 3) := by decide +kernel
theorem dX2_clear_26 : decode cX2_clear 26 = .ok (.aload_n 0, 1) := by decide +kernel
theorem dX2_clear_27 : decode cX2_clear 27 = .ok (.iconst 0, 1) := by decide +kernel
theorem dX2_clear_28 : decode cX2_clear 28 = .ok (.putfield 51, 3) := by decide +kernel
theorem dX2_clear_31 : decode cX2_clear 31 = .ok (.aload_n 0, 1) := by decide +kernel
theorem dX2_clear_32 : decode cX2_clear 32 = .ok (.getfield 26, 3) := by decide +kernel
theorem dX2_clear_35 : decode cX2_clear 35 = .ok (.iconst (-1), 1) := by decide +kernel
theorem dX2_clear_36 : decode cX2_clear 36 = .ok (.invokestatic 54, 3) := by decide +kernel
theorem dX2_clear_39 : decode cX2_clear 39 = .ok (.aload_n 0, 1) := by decide +kernel
theorem dX2_clear_40 : decode cX2_clear 40 = .ok (.iconst 0, 1) := by decide +kernel
theorem dX2_clear_41 : decode cX2_clear 41 = .ok (.putfield 60, 3) := by decide +kernel
theorem dX2_clear_44 : decode cX2_clear 44 = .ok (.aload_n 0, 1) := by decide +kernel
theorem dX2_clear_45 : decode cX2_clear 45 = .ok (.iconst 0, 1) := by decide +kernel
theorem dX2_clear_46 : decode cX2_clear 46 = .ok (.putfield 63, 3) := by decide +kernel
theorem dX2_clear_49 : decode cX2_clear 49 = .ok (.return_, 1) := by decide +kernel
theorem dX7_isLetter_0 : decode cX7_isLetter 0 = .ok (.iload_n 0, 1) := by decide +kernel
theorem dX7_isLetter_1 : decode cX7_isLetter 1 = .ok (.bipush 97, 2) := by decide +kernel
theorem dX7_isLetter_3 : decode cX7_isLetter 3 = .ok (.if_icmp .lt 13, 3) := by decide +kernel
theorem dX7_isLetter_6 : decode cX7_isLetter 6 = .ok (.iload_n 0, 1) := by decide +kernel
theorem dX7_isLetter_7 : decode cX7_isLetter 7 = .ok (.bipush 122, 2) := by decide +kernel
theorem dX7_isLetter_9 : decode cX7_isLetter 9 = .ok (.if_icmp .gt 7, 3) := by decide +kernel
theorem dX7_isLetter_12 : decode cX7_isLetter 12 = .ok (.iconst 1, 1) := by decide +kernel
theorem dX7_isLetter_13 : decode cX7_isLetter 13 = .ok (.goto 4, 3) := by decide +kernel
theorem dX7_isLetter_16 : decode cX7_isLetter 16 = .ok (.iconst 0, 1) := by decide +kernel
theorem dX7_isLetter_17 : decode cX7_isLetter 17 = .ok (.ireturn, 1) := by decide +kernel
theorem dX7_joined_0 : decode cX7_joined 0 = .ok (.lload_n 0, 1) := by decide +kernel
theorem dX7_joined_1 : decode cX7_joined 1 = .ok (.iconst 5, 1) := by decide +kernel
theorem dX7_joined_2 : decode cX7_joined 2 = .ok (.lshl, 1) := by decide +kernel
theorem dX7_joined_3 : decode cX7_joined 3 = .ok (.iload_n 2, 1) := by decide +kernel
theorem dX7_joined_4 : decode cX7_joined 4 = .ok (.bipush 97, 2) := by decide +kernel
theorem dX7_joined_6 : decode cX7_joined 6 = .ok (.isub, 1) := by decide +kernel
theorem dX7_joined_7 : decode cX7_joined 7 = .ok (.iconst 1, 1) := by decide +kernel
theorem dX7_joined_8 : decode cX7_joined 8 = .ok (.iadd, 1) := by decide +kernel
theorem dX7_joined_9 : decode cX7_joined 9 = .ok (.i2l, 1) := by decide +kernel
theorem dX7_joined_10 : decode cX7_joined 10 = .ok (.lor, 1) := by decide +kernel
theorem dX7_joined_11 : decode cX7_joined 11 = .ok (.lreturn, 1) := by decide +kernel
theorem dX7_isDigit_0 : decode cX7_isDigit 0 = .ok (.iload_n 0, 1) := by decide +kernel
theorem dX7_isDigit_1 : decode cX7_isDigit 1 = .ok (.bipush 48, 2) := by decide +kernel
theorem dX7_isDigit_3 : decode cX7_isDigit 3 = .ok (.if_icmp .lt 13, 3) := by decide +kernel
theorem dX7_isDigit_6 : decode cX7_isDigit 6 = .ok (.iload_n 0, 1) := by decide +kernel
theorem dX7_isDigit_7 : decode cX7_isDigit 7 = .ok (.bipush 57, 2) := by decide +kernel
theorem dX7_isDigit_9 : decode cX7_isDigit 9 = .ok (.if_icmp .gt 7, 3) := by decide +kernel
theorem dX7_isDigit_12 : decode cX7_isDigit 12 = .ok (.iconst 1, 1) := by decide +kernel
theorem dX7_isDigit_13 : decode cX7_isDigit 13 = .ok (.goto 4, 3) := by decide +kernel
theorem dX7_isDigit_16 : decode cX7_isDigit 16 = .ok (.iconst 0, 1) := by decide +kernel
theorem dX7_isDigit_17 : decode cX7_isDigit 17 = .ok (.ireturn, 1) := by decide +kernel
theorem dX7_passSign_0 : decode cX7_passSign 0 = .ok (.aload_n 0, 1) := by decide +kernel
theorem dX7_passSign_1 : decode cX7_passSign 1 = .ok (.getfield 22, 3) := by decide +kernel
theorem dX7_passSign_4 : decode cX7_passSign 4 = .ok (.aload_n 0, 1) := by decide +kernel
theorem dX7_passSign_5 : decode cX7_passSign 5 = .ok (.getfield 19, 3) := by decide +kernel
theorem dX7_passSign_8 : decode cX7_passSign 8 = .ok (.if_icmp .lt 5, 3) := by decide +kernel
theorem dX7_passSign_11 : decode cX7_passSign 11 = .ok (.iconst 0, 1) := by decide +kernel
theorem dX7_passSign_12 : decode cX7_passSign 12 = .ok (.ireturn, 1) := by decide +kernel
theorem dX7_passSign_13 : decode cX7_passSign 13 = .ok (.aload_n 0, 1) := by decide +kernel
theorem dX7_passSign_14 : decode cX7_passSign 14 = .ok (.getfield 9, 3) := by decide +kernel
theorem dX7_passSign_17 : decode cX7_passSign 17 = .ok (.aload_n 0, 1) := by decide +kernel
theorem dX7_passSign_18 : decode cX7_passSign 18 = .ok (.getfield 22, 3) := by decide +kernel
theorem dX7_passSign_21 : decode cX7_passSign 21 = .ok (.baload, 1) := by decide +kernel
theorem dX7_passSign_22 : decode cX7_passSign 22 = .ok (.istore_n 1, 1) := by decide +kernel
theorem dX7_passSign_23 : decode cX7_passSign 23 = .ok (.aload_n 0, 1) := by decide +kernel
theorem dX7_passSign_24 : decode cX7_passSign 24 = .ok (.dup, 1) := by decide +kernel
theorem dX7_passSign_25 : decode cX7_passSign 25 = .ok (.getfield 22, 3) := by decide +kernel
theorem dX7_passSign_28 : decode cX7_passSign 28 = .ok (.iconst 1, 1) := by decide +kernel
theorem dX7_passSign_29 : decode cX7_passSign 29 = .ok (.iadd, 1) := by decide +kernel
theorem dX7_passSign_30 : decode cX7_passSign 30 = .ok (.putfield 22, 3) := by decide +kernel
theorem dX7_passSign_33 : decode cX7_passSign 33 = .ok (.iload_n 1, 1) := by decide +kernel
theorem dX7_passSign_34 : decode cX7_passSign 34 = .ok (.bipush 59, 2) := by decide +kernel
theorem dX7_passSign_36 : decode cX7_passSign 36 = .ok (.if_icmp .ne 5, 3) := by decide +kernel
theorem dX7_passSign_39 : decode cX7_passSign 39 = .ok (.iconst 3, 1) := by decide +kernel
theorem dX7_passSign_40 : decode cX7_passSign 40 = .ok (.ireturn, 1) := by decide +kernel
theorem dX7_passSign_41 : decode cX7_passSign 41 = .ok (.iload_n 1, 1) := by decide +kernel
theorem dX7_passSign_42 : decode cX7_passSign 42 = .ok (.bipush 44, 2) := by decide +kernel
theorem dX7_passSign_44 : decode cX7_passSign 44 = .ok (.if_icmp .ne 7, 3) := by decide +kernel
theorem dX7_passSign_47 : decode cX7_passSign 47 = .ok (.iconst 4, 1) := by decide +kernel
theorem dX7_passSign_48 : decode cX7_passSign 48 = .ok (.goto 4, 3) := by decide +kernel
theorem dX7_passSign_51 : decode cX7_passSign 51 = .ok (.iconst 5, 1) := by decide +kernel
theorem dX7_passSign_52 : decode cX7_passSign 52 = .ok (.ireturn, 1) := by decide +kernel
theorem dX9_isKept_0 : decode cX9_isKept 0 = .ok (.iconst 0, 1) := by decide +kernel
theorem dX9_isKept_1 : decode cX9_isKept 1 = .ok (.istore_n 2, 1) := by decide +kernel
theorem dX9_isKept_2 : decode cX9_isKept 2 = .ok (.iload_n 2, 1) := by decide +kernel
theorem dX9_isKept_3 : decode cX9_isKept 3 = .ok (.getstatic 119, 3) := by decide +kernel
theorem dX9_isKept_6 : decode cX9_isKept 6 = .ok (.arraylength, 1) := by decide +kernel
theorem dX9_isKept_7 : decode cX9_isKept 7 = .ok (.if_icmp .ge 31, 3) := by decide +kernel
theorem dX9_isKept_10 : decode cX9_isKept 10 = .ok (.getstatic 119, 3) := by decide +kernel
theorem dX9_isKept_13 : decode cX9_isKept 13 = .ok (.iload_n 2, 1) := by decide +kernel
theorem dX9_isKept_14 : decode cX9_isKept 14 = .ok (.aaload, 1) := by decide +kernel
theorem dX9_isKept_15 : decode cX9_isKept 15 = .ok (.getfield 111, 3) := by decide +kernel
theorem dX9_isKept_18 : decode cX9_isKept 18 = .ok (.lload_n 0, 1) := by decide +kernel
theorem dX9_isKept_19 : decode cX9_isKept 19 = .ok (.lcmp, 1) := by decide +kernel
theorem dX9_isKept_20 : decode cX9_isKept 20 = .ok (.ifCond .ne 12, 3) := by decide +kernel
theorem dX9_isKept_23 : decode cX9_isKept 23 = .ok (.getstatic 119, 3) := by decide +kernel
theorem dX9_isKept_26 : decode cX9_isKept 26 = .ok (.iload_n 2, 1) := by decide +kernel
theorem dX9_isKept_27 : decode cX9_isKept 27 = .ok (.aaload, 1) := by decide +kernel
theorem dX9_isKept_28 : decode cX9_isKept 28 = .ok (.getfield 115, 3) := by decide +kernel
theorem dX9_isKept_31 : decode cX9_isKept 31 = .ok (.ireturn, 1) := by decide +kernel
theorem dX9_isKept_32 : decode cX9_isKept 32 = .ok (.iinc 2 1, 3) := by decide +kernel
theorem dX9_isKept_35 : decode cX9_isKept 35 = .ok (.goto (-33), 3) := by decide +kernel
theorem dX9_isKept_38 : decode cX9_isKept 38 = .ok (.iconst 0, 1) := by decide +kernel
theorem dX9_isKept_39 : decode cX9_isKept 39 = .ok (.ireturn, 1) := by decide +kernel
theorem dX7_advance_0 : decode cX7_advance 0 = .ok (.aload_n 0, 1) := by decide +kernel
theorem dX7_advance_1 : decode cX7_advance 1 = .ok (.getfield 22, 3) := by decide +kernel
theorem dX7_advance_4 : decode cX7_advance 4 = .ok (.aload_n 0, 1) := by decide +kernel
theorem dX7_advance_5 : decode cX7_advance 5 = .ok (.getfield 19, 3) := by decide +kernel
theorem dX7_advance_8 : decode cX7_advance 8 = .ok (.if_icmp .ge 30, 3) := by decide +kernel
theorem dX7_advance_11 : decode cX7_advance 11 = .ok (.aload_n 0, 1) := by decide +kernel
theorem dX7_advance_12 : decode cX7_advance 12 = .ok (.getfield 9, 3) := by decide +kernel
theorem dX7_advance_15 : decode cX7_advance 15 = .ok (.aload_n 0, 1) := by decide +kernel
theorem dX7_advance_16 : decode cX7_advance 16 = .ok (.getfield 22, 3) := by decide +kernel
theorem dX7_advance_19 : decode cX7_advance 19 = .ok (.baload, 1) := by decide +kernel
theorem dX7_advance_20 : decode cX7_advance 20 = .ok (.bipush 32, 2) := by decide +kernel
theorem dX7_advance_22 : decode cX7_advance 22 = .ok (.if_icmp .ne 16, 3) := by decide +kernel
theorem dX7_advance_25 : decode cX7_advance 25 = .ok (.aload_n 0, 1) := by decide +kernel
theorem dX7_advance_26 : decode cX7_advance 26 = .ok (.dup, 1) := by decide +kernel
theorem dX7_advance_27 : decode cX7_advance 27 = .ok (.getfield 22, 3) := by decide +kernel
theorem dX7_advance_30 : decode cX7_advance 30 = .ok (.iconst 1, 1) := by decide +kernel
theorem dX7_advance_31 : decode cX7_advance 31 = .ok (.iadd, 1) := by decide +kernel
theorem dX7_advance_32 : decode cX7_advance 32 = .ok (.putfield 22, 3) := by decide +kernel
theorem dX7_advance_35 : decode cX7_advance 35 = .ok (.goto (-35), 3) := by decide +kernel
theorem dX7_advance_38 : decode cX7_advance 38 = .ok (.aload_n 0, 1) := by decide +kernel
theorem dX7_advance_39 : decode cX7_advance 39 = .ok (.aload_n 0, 1) := by decide +kernel
theorem dX7_advance_40 : decode cX7_advance 40 = .ok (.getfield 22, 3) := by decide +kernel
theorem dX7_advance_43 : decode cX7_advance 43 = .ok (.putfield 28, 3) := by decide +kernel
theorem dX7_advance_46 : decode cX7_advance 46 = .ok (.aload_n 0, 1) := by decide +kernel
theorem dX7_advance_47 : decode cX7_advance 47 = .ok (.lconst 0, 1) := by decide +kernel
theorem dX7_advance_48 : decode cX7_advance 48 = .ok (.putfield 31, 3) := by decide +kernel
theorem dX7_advance_51 : decode cX7_advance 51 = .ok (.aload_n 0, 1) := by decide +kernel
theorem dX7_advance_52 : decode cX7_advance 52 = .ok (.getfield 22, 3) := by decide +kernel
theorem dX7_advance_55 : decode cX7_advance 55 = .ok (.aload_n 0, 1) := by decide +kernel
theorem dX7_advance_56 : decode cX7_advance 56 = .ok (.getfield 19, 3) := by decide +kernel
theorem dX7_advance_59 : decode cX7_advance 59 = .ok (.if_icmp .ge 51, 3) := by decide +kernel
theorem dX7_advance_62 : decode cX7_advance 62 = .ok (.aload_n 0, 1) := by decide +kernel
theorem dX7_advance_63 : decode cX7_advance 63 = .ok (.getfield 9, 3) := by decide +kernel
theorem dX7_advance_66 : decode cX7_advance 66 = .ok (.aload_n 0, 1) := by decide +kernel
theorem dX7_advance_67 : decode cX7_advance 67 = .ok (.getfield 22, 3) := by decide +kernel
theorem dX7_advance_70 : decode cX7_advance 70 = .ok (.baload, 1) := by decide +kernel
theorem dX7_advance_71 : decode cX7_advance 71 = .ok (.invokestatic 35, 3) := by decide +kernel
theorem dX7_advance_74 : decode cX7_advance 74 = .ok (.ifCond .eq 36, 3) := by decide +kernel
theorem dX7_advance_77 : decode cX7_advance 77 = .ok (.aload_n 0, 1) := by decide +kernel
theorem dX7_advance_78 : decode cX7_advance 78 = .ok (.aload_n 0, 1) := by decide +kernel
theorem dX7_advance_79 : decode cX7_advance 79 = .ok (.getfield 31, 3) := by decide +kernel
theorem dX7_advance_82 : decode cX7_advance 82 = .ok (.aload_n 0, 1) := by decide +kernel
theorem dX7_advance_83 : decode cX7_advance 83 = .ok (.getfield 9, 3) := by decide +kernel
theorem dX7_advance_86 : decode cX7_advance 86 = .ok (.aload_n 0, 1) := by decide +kernel
theorem dX7_advance_87 : decode cX7_advance 87 = .ok (.getfield 22, 3) := by decide +kernel
theorem dX7_advance_90 : decode cX7_advance 90 = .ok (.baload, 1) := by decide +kernel
theorem dX7_advance_91 : decode cX7_advance 91 = .ok (.invokestatic 39, 3) := by decide +kernel
theorem dX7_advance_94 : decode cX7_advance 94 = .ok (.putfield 31, 3) := by decide +kernel
theorem dX7_advance_97 : decode cX7_advance 97 = .ok (.aload_n 0, 1) := by decide +kernel
theorem dX7_advance_98 : decode cX7_advance 98 = .ok (.dup, 1) := by decide +kernel
theorem dX7_advance_99 : decode cX7_advance 99 = .ok (.getfield 22, 3) := by decide +kernel
theorem dX7_advance_102 : decode cX7_advance 102 = .ok (.iconst 1, 1) := by decide +kernel
theorem dX7_advance_103 : decode cX7_advance 103 = .ok (.iadd, 1) := by decide +kernel
theorem dX7_advance_104 : decode cX7_advance 104 = .ok (.putfield 22, 3) := by decide +kernel
theorem dX7_advance_107 : decode cX7_advance 107 = .ok (.goto (-56), 3) := by decide +kernel
theorem dX7_advance_110 : decode cX7_advance 110 = .ok (.aload_n 0, 1) := by decide +kernel
theorem dX7_advance_111 : decode cX7_advance 111 = .ok (.getfield 22, 3) := by decide +kernel
theorem dX7_advance_114 : decode cX7_advance 114 = .ok (.aload_n 0, 1) := by decide +kernel
theorem dX7_advance_115 : decode cX7_advance 115 = .ok (.getfield 28, 3) := by decide +kernel
theorem dX7_advance_118 : decode cX7_advance 118 = .ok (.isub, 1) := by decide +kernel
theorem dX7_advance_119 : decode cX7_advance 119 = .ok (.istore_n 1, 1) := by decide +kernel
theorem dX7_advance_120 : decode cX7_advance 120 = .ok (.aload_n 0, 1) := by decide +kernel
theorem dX7_advance_121 : decode cX7_advance 121 = .ok (.iconst 0, 1) := by decide +kernel
theorem dX7_advance_122 : decode cX7_advance 122 = .ok (.putfield 43, 3) := by decide +kernel
theorem dX7_advance_125 : decode cX7_advance 125 = .ok (.iload_n 1, 1) := by decide +kernel
theorem dX7_advance_126 : decode cX7_advance 126 = .ok (.ifCond .ne 66, 3) := by decide +kernel
theorem dX7_advance_129 : decode cX7_advance 129 = .ok (.aload_n 0, 1) := by decide +kernel
theorem dX7_advance_130 : decode cX7_advance 130 = .ok (.getfield 22, 3) := by decide +kernel
theorem dX7_advance_133 : decode cX7_advance 133 = .ok (.aload_n 0, 1) := by decide +kernel
theorem dX7_advance_134 : decode cX7_advance 134 = .ok (.getfield 19, 3) := by decide +kernel
theorem dX7_advance_137 : decode cX7_advance 137 = .ok (.if_icmp .ge 55, 3) := by decide +kernel
theorem dX7_advance_140 : decode cX7_advance 140 = .ok (.aload_n 0, 1) := by decide +kernel
theorem dX7_advance_141 : decode cX7_advance 141 = .ok (.getfield 9, 3) := by decide +kernel
theorem dX7_advance_144 : decode cX7_advance 144 = .ok (.aload_n 0, 1) := by decide +kernel
theorem dX7_advance_145 : decode cX7_advance 145 = .ok (.getfield 22, 3) := by decide +kernel
theorem dX7_advance_148 : decode cX7_advance 148 = .ok (.baload, 1) := by decide +kernel
theorem dX7_advance_149 : decode cX7_advance 149 = .ok (.invokestatic 46, 3) := by decide +kernel
theorem dX7_advance_152 : decode cX7_advance 152 = .ok (.ifCond .eq 40, 3) := by decide +kernel
theorem dX7_advance_155 : decode cX7_advance 155 = .ok (.aload_n 0, 1) := by decide +kernel
theorem dX7_advance_156 : decode cX7_advance 156 = .ok (.aload_n 0, 1) := by decide +kernel
theorem dX7_advance_157 : decode cX7_advance 157 = .ok (.getfield 43, 3) := by decide +kernel
theorem dX7_advance_160 : decode cX7_advance 160 = .ok (.bipush 10, 2) := by decide +kernel
theorem dX7_advance_162 : decode cX7_advance 162 = .ok (.imul, 1) := by decide +kernel
theorem dX7_advance_163 : decode cX7_advance 163 = .ok (.aload_n 0, 1) := by decide +kernel
theorem dX7_advance_164 : decode cX7_advance 164 = .ok (.getfield 9, 3) := by decide +kernel
theorem dX7_advance_167 : decode cX7_advance 167 = .ok (.aload_n 0, 1) := by decide +kernel
theorem dX7_advance_168 : decode cX7_advance 168 = .ok (.getfield 22, 3) := by decide +kernel
theorem dX7_advance_171 : decode cX7_advance 171 = .ok (.baload, 1) := by decide +kernel
theorem dX7_advance_172 : decode cX7_advance 172 = .ok (.iadd, 1) := by decide +kernel
theorem dX7_advance_173 : decode cX7_advance 173 = .ok (.bipush 48, 2) := by decide +kernel
theorem dX7_advance_175 : decode cX7_advance 175 = .ok (.isub, 1) := by decide +kernel
theorem dX7_advance_176 : decode cX7_advance 176 = .ok (.putfield 43, 3) := by decide +kernel
theorem dX7_advance_179 : decode cX7_advance 179 = .ok (.aload_n 0, 1) := by decide +kernel
theorem dX7_advance_180 : decode cX7_advance 180 = .ok (.dup, 1) := by decide +kernel
theorem dX7_advance_181 : decode cX7_advance 181 = .ok (.getfield 22, 3) := by decide +kernel
theorem dX7_advance_184 : decode cX7_advance 184 = .ok (.iconst 1, 1) := by decide +kernel
theorem dX7_advance_185 : decode cX7_advance 185 = .ok (.iadd, 1) := by decide +kernel
theorem dX7_advance_186 : decode cX7_advance 186 = .ok (.putfield 22, 3) := by decide +kernel
theorem dX7_advance_189 : decode cX7_advance 189 = .ok (.goto (-64), 3) := by decide +kernel
theorem dX7_advance_192 : decode cX7_advance 192 = .ok (.aload_n 0, 1) := by decide +kernel
theorem dX7_advance_193 : decode cX7_advance 193 = .ok (.getfield 22, 3) := by decide +kernel
theorem dX7_advance_196 : decode cX7_advance 196 = .ok (.aload_n 0, 1) := by decide +kernel
theorem dX7_advance_197 : decode cX7_advance 197 = .ok (.getfield 28, 3) := by decide +kernel
theorem dX7_advance_200 : decode cX7_advance 200 = .ok (.isub, 1) := by decide +kernel
theorem dX7_advance_201 : decode cX7_advance 201 = .ok (.iload_n 1, 1) := by decide +kernel
theorem dX7_advance_202 : decode cX7_advance 202 = .ok (.isub, 1) := by decide +kernel
theorem dX7_advance_203 : decode cX7_advance 203 = .ok (.istore_n 2, 1) := by decide +kernel
theorem dX7_advance_204 : decode cX7_advance 204 = .ok (.iload_n 1, 1) := by decide +kernel
theorem dX7_advance_205 : decode cX7_advance 205 = .ok (.ifCond .le 21, 3) := by decide +kernel
theorem dX7_advance_208 : decode cX7_advance 208 = .ok (.aload_n 0, 1) := by decide +kernel
theorem dX7_advance_209 : decode cX7_advance 209 = .ok (.iload_n 1, 1) := by decide +kernel
theorem dX7_advance_210 : decode cX7_advance 210 = .ok (.bipush 8, 2) := by decide +kernel
theorem dX7_advance_212 : decode cX7_advance 212 = .ok (.if_icmp .gt 7, 3) := by decide +kernel
theorem dX7_advance_215 : decode cX7_advance 215 = .ok (.iconst 1, 1) := by decide +kernel
theorem dX7_advance_216 : decode cX7_advance 216 = .ok (.goto 4, 3) := by decide +kernel
theorem dX7_advance_219 : decode cX7_advance 219 = .ok (.iconst 5, 1) := by decide +kernel
theorem dX7_advance_220 : decode cX7_advance 220 = .ok (.putfield 49, 3) := by decide +kernel
theorem dX7_advance_223 : decode cX7_advance 223 = .ok (.goto 32, 3) := by decide +kernel
theorem dX7_advance_226 : decode cX7_advance 226 = .ok (.iload_n 2, 1) := by decide +kernel
theorem dX7_advance_227 : decode cX7_advance 227 = .ok (.ifCond .le 20, 3) := by decide +kernel
theorem dX7_advance_230 : decode cX7_advance 230 = .ok (.aload_n 0, 1) := by decide +kernel
theorem dX7_advance_231 : decode cX7_advance 231 = .ok (.iload_n 2, 1) := by decide +kernel
theorem dX7_advance_232 : decode cX7_advance 232 = .ok (.iconst 3, 1) := by decide +kernel
theorem dX7_advance_233 : decode cX7_advance 233 = .ok (.if_icmp .gt 7, 3) := by decide +kernel
theorem dX7_advance_236 : decode cX7_advance 236 = .ok (.iconst 2, 1) := by decide +kernel
theorem dX7_advance_237 : decode cX7_advance 237 = .ok (.goto 4, 3) := by decide +kernel
theorem dX7_advance_240 : decode cX7_advance 240 = .ok (.iconst 5, 1) := by decide +kernel
theorem dX7_advance_241 : decode cX7_advance 241 = .ok (.putfield 49, 3) := by decide +kernel
theorem dX7_advance_244 : decode cX7_advance 244 = .ok (.goto 11, 3) := by decide +kernel
theorem dX7_advance_247 : decode cX7_advance 247 = .ok (.aload_n 0, 1) := by decide +kernel
theorem dX7_advance_248 : decode cX7_advance 248 = .ok (.aload_n 0, 1) := by decide +kernel
theorem dX7_advance_249 : decode cX7_advance 249 = .ok (.invokevirtual 52, 3) := by decide +kernel
theorem dX7_advance_252 : decode cX7_advance 252 = .ok (.putfield 49, 3) := by decide +kernel
theorem dX7_advance_255 : decode cX7_advance 255 = .ok (.aload_n 0, 1) := by decide +kernel
theorem dX7_advance_256 : decode cX7_advance 256 = .ok (.aload_n 0, 1) := by decide +kernel
theorem dX7_advance_257 : decode cX7_advance 257 = .ok (.getfield 49, 3) := by decide +kernel
theorem dX7_advance_260 : decode cX7_advance 260 = .ok (.iconst 1, 1) := by decide +kernel
theorem dX7_advance_261 : decode cX7_advance 261 = .ok (.if_icmp .ne 17, 3) := by decide +kernel
theorem dX7_advance_264 : decode cX7_advance 264 = .ok (.aload_n 0, 1) := by decide +kernel
theorem dX7_advance_265 : decode cX7_advance 265 = .ok (.getfield 31, 3) := by decide +kernel
theorem dX7_advance_268 : decode cX7_advance 268 = .ok (.invokestatic 56, 3) := by decide +kernel
theorem dX7_advance_271 : decode cX7_advance 271 = .ok (.ifCond .ne 7, 3) := by decide +kernel
theorem dX7_advance_274 : decode cX7_advance 274 = .ok (.iconst 1, 1) := by decide +kernel
theorem dX7_advance_275 : decode cX7_advance 275 = .ok (.goto 4, 3) := by decide +kernel
theorem dX7_advance_278 : decode cX7_advance 278 = .ok (.iconst 0, 1) := by decide +kernel
theorem dX7_advance_279 : decode cX7_advance 279 = .ok (.putfield 62, 3) := by decide +kernel
theorem dX7_advance_282 : decode cX7_advance 282 = .ok (.return_, 1) := by decide +kernel
theorem dX7_rewind_0 : decode cX7_rewind 0 = .ok (.aload_n 0, 1) := by decide +kernel
theorem dX7_rewind_1 : decode cX7_rewind 1 = .ok (.iload_n 1, 1) := by decide +kernel
theorem dX7_rewind_2 : decode cX7_rewind 2 = .ok (.putfield 19, 3) := by decide +kernel
theorem dX7_rewind_5 : decode cX7_rewind 5 = .ok (.aload_n 0, 1) := by decide +kernel
theorem dX7_rewind_6 : decode cX7_rewind 6 = .ok (.iconst 0, 1) := by decide +kernel
theorem dX7_rewind_7 : decode cX7_rewind 7 = .ok (.putfield 22, 3) := by decide +kernel
theorem dX7_rewind_10 : decode cX7_rewind 10 = .ok (.aload_n 0, 1) := by decide +kernel
theorem dX7_rewind_11 : decode cX7_rewind 11 = .ok (.invokevirtual 25, 3) := by decide +kernel
theorem dX7_rewind_14 : decode cX7_rewind 14 = .ok (.return_, 1) := by decide +kernel
theorem dX7_isAt_0 : decode cX7_isAt 0 = .ok (.aload_n 0, 1) := by decide +kernel
theorem dX7_isAt_1 : decode cX7_isAt 1 = .ok (.getfield 49, 3) := by decide +kernel
theorem dX7_isAt_4 : decode cX7_isAt 4 = .ok (.iconst 1, 1) := by decide +kernel
theorem dX7_isAt_5 : decode cX7_isAt 5 = .ok (.if_icmp .ne 19, 3) := by decide +kernel
theorem dX7_isAt_8 : decode cX7_isAt 8 = .ok (.aload_n 0, 1) := by decide +kernel
theorem dX7_isAt_9 : decode cX7_isAt 9 = .ok (.getfield 31, 3) := by decide +kernel
theorem dX7_isAt_12 : decode cX7_isAt 12 = .ok (.aload_n 1, 1) := by decide +kernel
theorem dX7_isAt_13 : decode cX7_isAt 13 = .ok (.getfield 66, 3) := by decide +kernel
theorem dX7_isAt_16 : decode cX7_isAt 16 = .ok (.lcmp, 1) := by decide +kernel
theorem dX7_isAt_17 : decode cX7_isAt 17 = .ok (.ifCond .ne 7, 3) := by decide +kernel
theorem dX7_isAt_20 : decode cX7_isAt 20 = .ok (.iconst 1, 1) := by decide +kernel
theorem dX7_isAt_21 : decode cX7_isAt 21 = .ok (.goto 4, 3) := by decide +kernel
theorem dX7_isAt_24 : decode cX7_isAt 24 = .ok (.iconst 0, 1) := by decide +kernel
theorem dX7_isAt_25 : decode cX7_isAt 25 = .ok (.ireturn, 1) := by decide +kernel
theorem dX6_fail_0 : decode cX6_fail 0 = .ok (.aload_n 0, 1) := by decide +kernel
theorem dX6_fail_1 : decode cX6_fail 1 = .ok (.iload_n 1, 1) := by decide +kernel
theorem dX6_fail_2 : decode cX6_fail 2 = .ok (.putfield 43, 3) := by decide +kernel
theorem dX6_fail_5 : decode cX6_fail 5 = .ok (.iconst 0, 1) := by decide +kernel
theorem dX6_fail_6 : decode cX6_fail 6 = .ok (.ireturn, 1) := by decide +kernel
theorem dX6_pass_0 : decode cX6_pass 0 = .ok (.aload_n 0, 1) := by decide +kernel
theorem dX6_pass_1 : decode cX6_pass 1 = .ok (.getfield 12, 3) := by decide +kernel
theorem dX6_pass_4 : decode cX6_pass 4 = .ok (.aload_n 1, 1) := by decide +kernel
theorem dX6_pass_5 : decode cX6_pass 5 = .ok (.invokevirtual 95, 3) := by decide +kernel
theorem dX6_pass_8 : decode cX6_pass 8 = .ok (.ifCond .ne 9, 3) := by decide +kernel
theorem dX6_pass_11 : decode cX6_pass 11 = .ok (.aload_n 0, 1) := by decide +kernel
theorem dX6_pass_12 : decode cX6_pass 12 = .ok (.iconst 1, 1) := by decide +kernel
theorem dX6_pass_13 : decode cX6_pass 13 = .ok (.invokevirtual 60, 3) := by decide +kernel
theorem dX6_pass_16 : decode cX6_pass 16 = .ok (.ireturn, 1) := by decide +kernel
theorem dX6_pass_17 : decode cX6_pass 17 = .ok (.aload_n 0, 1) := by decide +kernel
theorem dX6_pass_18 : decode cX6_pass 18 = .ok (.getfield 12, 3) := by decide +kernel
theorem dX6_pass_21 : decode cX6_pass 21 = .ok (.invokevirtual 57, 3) := by decide +kernel
theorem dX6_pass_24 : decode cX6_pass 24 = .ok (.iconst 1, 1) := by decide +kernel
theorem dX6_pass_25 : decode cX6_pass 25 = .ok (.ireturn, 1) := by decide +kernel
theorem dX6_lookAtWhole_0 : decode cX6_lookAtWhole 0 = .ok (.aload_n 0, 1) := by decide +kernel
theorem dX6_lookAtWhole_1 : decode cX6_lookAtWhole 1 = .ok (.getfield 12, 3) := by decide +kernel
theorem dX6_lookAtWhole_4 : decode cX6_lookAtWhole 4 = .ok (.getfield 54, 3) := by decide +kernel
theorem dX6_lookAtWhole_7 : decode cX6_lookAtWhole 7 = .ok (.iconst 2, 1) := by decide +kernel
theorem dX6_lookAtWhole_8 : decode cX6_lookAtWhole 8 = .ok (.if_icmp .eq 9, 3) := by decide +kernel
theorem dX6_lookAtWhole_11 : decode cX6_lookAtWhole 11 = .ok (.aload_n 0, 1) := by decide +kernel
theorem dX6_lookAtWhole_12 : decode cX6_lookAtWhole 12 = .ok (.iconst 1, 1) := by decide +kernel
theorem dX6_lookAtWhole_13 : decode cX6_lookAtWhole 13 = .ok (.invokevirtual 60, 3) := by decide +kernel
theorem dX6_lookAtWhole_16 : decode cX6_lookAtWhole 16 = .ok (.ireturn, 1) := by decide +kernel
theorem dX6_lookAtWhole_17 : decode cX6_lookAtWhole 17 = .ok (.aload_n 0, 1) := by decide +kernel
theorem dX6_lookAtWhole_18 : decode cX6_lookAtWhole 18 = .ok (.aload_n 0, 1) := by decide +kernel
theorem dX6_lookAtWhole_19 : decode cX6_lookAtWhole 19 = .ok (.getfield 12, 3) := by decide +kernel
theorem dX6_lookAtWhole_22 : decode cX6_lookAtWhole 22 = .ok (.getfield 288, 3) := by decide +kernel
theorem dX6_lookAtWhole_25 : decode cX6_lookAtWhole 25 = .ok (.putfield 148, 3) := by decide +kernel
theorem dX6_lookAtWhole_28 : decode cX6_lookAtWhole 28 = .ok (.aload_n 0, 1) := by decide +kernel
theorem dX6_lookAtWhole_29 : decode cX6_lookAtWhole 29 = .ok (.getfield 148, 3) := by decide +kernel
theorem dX6_lookAtWhole_32 : decode cX6_lookAtWhole 32 = .ok (.iload_n 1, 1) := by decide +kernel
theorem dX6_lookAtWhole_33 : decode cX6_lookAtWhole 33 = .ok (.if_icmp .lt 11, 3) := by decide +kernel
theorem dX6_lookAtWhole_36 : decode cX6_lookAtWhole 36 = .ok (.aload_n 0, 1) := by decide +kernel
theorem dX6_lookAtWhole_37 : decode cX6_lookAtWhole 37 = .ok (.getfield 148, 3) := by decide +kernel
theorem dX6_lookAtWhole_40 : decode cX6_lookAtWhole 40 = .ok (.iload_n 2, 1) := by decide +kernel
theorem dX6_lookAtWhole_41 : decode cX6_lookAtWhole 41 = .ok (.if_icmp .le 11, 3) := by decide +kernel
theorem dX6_lookAtWhole_44 : decode cX6_lookAtWhole 44 = .ok (.aload_n 0, 1) := by decide +kernel
theorem dX6_lookAtWhole_45 : decode cX6_lookAtWhole 45 = .ok (.iconst 4, 1) := by decide +kernel
theorem dX6_lookAtWhole_46 : decode cX6_lookAtWhole 46 = .ok (.invokevirtual 60, 3) := by decide +kernel
theorem dX6_lookAtWhole_49 : decode cX6_lookAtWhole 49 = .ok (.ifCond .eq 7, 3) := by decide +kernel
theorem dX6_lookAtWhole_52 : decode cX6_lookAtWhole 52 = .ok (.iconst 1, 1) := by decide +kernel
theorem dX6_lookAtWhole_53 : decode cX6_lookAtWhole 53 = .ok (.goto 4, 3) := by decide +kernel
theorem dX6_lookAtWhole_56 : decode cX6_lookAtWhole 56 = .ok (.iconst 0, 1) := by decide +kernel
theorem dX6_lookAtWhole_57 : decode cX6_lookAtWhole 57 = .ok (.ireturn, 1) := by decide +kernel
theorem dX6_passWhole_0 : decode cX6_passWhole 0 = .ok (.aload_n 0, 1) := by decide +kernel
theorem dX6_passWhole_1 : decode cX6_passWhole 1 = .ok (.iload_n 1, 1) := by decide +kernel
theorem dX6_passWhole_2 : decode cX6_passWhole 2 = .ok (.iload_n 2, 1) := by decide +kernel
theorem dX6_passWhole_3 : decode cX6_passWhole 3 = .ok (.invokevirtual 265, 3) := by decide +kernel
theorem dX6_passWhole_6 : decode cX6_passWhole 6 = .ok (.ifCond .ne 5, 3) := by decide +kernel
theorem dX6_passWhole_9 : decode cX6_passWhole 9 = .ok (.iconst 0, 1) := by decide +kernel
theorem dX6_passWhole_10 : decode cX6_passWhole 10 = .ok (.ireturn, 1) := by decide +kernel
theorem dX6_passWhole_11 : decode cX6_passWhole 11 = .ok (.aload_n 0, 1) := by decide +kernel
theorem dX6_passWhole_12 : decode cX6_passWhole 12 = .ok (.getfield 12, 3) := by decide +kernel
theorem dX6_passWhole_15 : decode cX6_passWhole 15 = .ok (.invokevirtual 57, 3) := by decide +kernel
theorem dX6_passWhole_18 : decode cX6_passWhole 18 = .ok (.iconst 1, 1) := by decide +kernel
theorem dX6_passWhole_19 : decode cX6_passWhole 19 = .ok (.ireturn, 1) := by decide +kernel
theorem dX6_readInn_0 : decode cX6_readInn 0 = .ok (.aload_n 0, 1) := by decide +kernel
theorem dX6_readInn_1 : decode cX6_readInn 1 = .ok (.getfield 32, 3) := by decide +kernel
theorem dX6_readInn_4 : decode cX6_readInn 4 = .ok (.getfield 64, 3) := by decide +kernel
theorem dX6_readInn_7 : decode cX6_readInn 7 = .ok (.ifCond .le 9, 3) := by decide +kernel
theorem dX6_readInn_10 : decode cX6_readInn 10 = .ok (.aload_n 0, 1) := by decide +kernel
theorem dX6_readInn_11 : decode cX6_readInn 11 = .ok (.iconst 3, 1) := by decide +kernel
theorem dX6_readInn_12 : decode cX6_readInn 12 = .ok (.invokevirtual 60, 3) := by decide +kernel
theorem dX6_readInn_15 : decode cX6_readInn 15 = .ok (.ireturn, 1) := by decide +kernel
theorem dX6_readInn_16 : decode cX6_readInn 16 = .ok (.aload_n 0, 1) := by decide +kernel
theorem dX6_readInn_17 : decode cX6_readInn 17 = .ok (.getfield 12, 3) := by decide +kernel
theorem dX6_readInn_20 : decode cX6_readInn 20 = .ok (.invokevirtual 57, 3) := by decide +kernel
theorem dX6_readInn_23 : decode cX6_readInn 23 = .ok (.aload_n 0, 1) := by decide +kernel
theorem dX6_readInn_24 : decode cX6_readInn 24 = .ok (.getstatic 138, 3) := by decide +kernel
theorem dX6_readInn_27 : decode cX6_readInn 27 = .ok (.invokevirtual 141, 3) := by decide +kernel
theorem dX6_readInn_30 : decode cX6_readInn 30 = .ok (.ifCond .eq 13, 3) := by decide +kernel
theorem dX6_readInn_33 : decode cX6_readInn 33 = .ok (.aload_n 0, 1) := by decide +kernel
theorem dX6_readInn_34 : decode cX6_readInn 34 = .ok (.iconst 1, 1) := by decide +kernel
theorem dX6_readInn_35 : decode cX6_readInn 35 = .ok (.bipush 40, 2) := by decide +kernel
theorem dX6_readInn_37 : decode cX6_readInn 37 = .ok (.invokevirtual 144, 3) := by decide +kernel
theorem dX6_readInn_40 : decode cX6_readInn 40 = .ok (.ifCond .ne 5, 3) := by decide +kernel
theorem dX6_readInn_43 : decode cX6_readInn 43 = .ok (.iconst 0, 1) := by decide +kernel
theorem dX6_readInn_44 : decode cX6_readInn 44 = .ok (.ireturn, 1) := by decide +kernel
theorem dX6_readInn_45 : decode cX6_readInn 45 = .ok (.aload_n 0, 1) := by decide +kernel
theorem dX6_readInn_46 : decode cX6_readInn 46 = .ok (.getfield 32, 3) := by decide +kernel
theorem dX6_readInn_49 : decode cX6_readInn 49 = .ok (.aload_n 0, 1) := by decide +kernel
theorem dX6_readInn_50 : decode cX6_readInn 50 = .ok (.getfield 148, 3) := by decide +kernel
theorem dX6_readInn_53 : decode cX6_readInn 53 = .ok (.putfield 64, 3) := by decide +kernel
theorem dX6_readInn_56 : decode cX6_readInn 56 = .ok (.iconst 1, 1) := by decide +kernel
theorem dX6_readInn_57 : decode cX6_readInn 57 = .ok (.ireturn, 1) := by decide +kernel
theorem dX6_placeOfName_0 : decode cX6_placeOfName 0 = .ok (.iconst 0, 1) := by decide +kernel
theorem dX6_placeOfName_1 : decode cX6_placeOfName 1 = .ok (.istore_n 1, 1) := by decide +kernel
theorem dX6_placeOfName_2 : decode cX6_placeOfName 2 = .ok (.iload_n 1, 1) := by decide +kernel
theorem dX6_placeOfName_3 : decode cX6_placeOfName 3 = .ok (.aload_n 0, 1) := by decide +kernel
theorem dX6_placeOfName_4 : decode cX6_placeOfName 4 = .ok (.getfield 39, 3) := by decide +kernel
theorem dX6_placeOfName_7 : decode cX6_placeOfName 7 = .ok (.if_icmp .ge 28, 3) := by decide +kernel
theorem dX6_placeOfName_10 : decode cX6_placeOfName 10 = .ok (.aload_n 0, 1) := by decide +kernel
theorem dX6_placeOfName_11 : decode cX6_placeOfName 11 = .ok (.getfield 18, 3) := by decide +kernel
theorem dX6_placeOfName_14 : decode cX6_placeOfName 14 = .ok (.iload_n 1, 1) := by decide +kernel
theorem dX6_placeOfName_15 : decode cX6_placeOfName 15 = .ok (.laload, 1) := by decide +kernel
theorem dX6_placeOfName_16 : decode cX6_placeOfName 16 = .ok (.aload_n 0, 1) := by decide +kernel
theorem dX6_placeOfName_17 : decode cX6_placeOfName 17 = .ok (.getfield 12, 3) := by decide +kernel
theorem dX6_placeOfName_20 : decode cX6_placeOfName 20 = .ok (.getfield 291, 3) := by decide +kernel
theorem dX6_placeOfName_23 : decode cX6_placeOfName 23 = .ok (.lcmp, 1) := by decide +kernel
theorem dX6_placeOfName_24 : decode cX6_placeOfName 24 = .ok (.ifCond .ne 5, 3) := by decide +kernel
theorem dX6_placeOfName_27 : decode cX6_placeOfName 27 = .ok (.iload_n 1, 1) := by decide +kernel
theorem dX6_placeOfName_28 : decode cX6_placeOfName 28 = .ok (.ireturn, 1) := by decide +kernel
theorem dX6_placeOfName_29 : decode cX6_placeOfName 29 = .ok (.iinc 1 1, 3) := by decide +kernel
theorem dX6_placeOfName_32 : decode cX6_placeOfName 32 = .ok (.goto (-30), 3) := by decide +kernel
theorem dX6_placeOfName_35 : decode cX6_placeOfName 35 = .ok (.iconst (-1), 1) := by decide +kernel
theorem dX6_placeOfName_36 : decode cX6_placeOfName 36 = .ok (.ireturn, 1) := by decide +kernel
theorem dX6_tellName_0 : decode cX6_tellName 0 = .ok (.aload_n 0, 1) := by decide +kernel
theorem dX6_tellName_1 : decode cX6_tellName 1 = .ok (.getfield 39, 3) := by decide +kernel
theorem dX6_tellName_4 : decode cX6_tellName 4 = .ok (.bipush 19, 2) := by decide +kernel
theorem dX6_tellName_6 : decode cX6_tellName 6 = .ok (.if_icmp .ge 49, 3) := by decide +kernel
theorem dX6_tellName_9 : decode cX6_tellName 9 = .ok (.aload_n 0, 1) := by decide +kernel
theorem dX6_tellName_10 : decode cX6_tellName 10 = .ok (.getfield 18, 3) := by decide +kernel
theorem dX6_tellName_13 : decode cX6_tellName 13 = .ok (.aload_n 0, 1) := by decide +kernel
theorem dX6_tellName_14 : decode cX6_tellName 14 = .ok (.getfield 39, 3) := by decide +kernel
theorem dX6_tellName_17 : decode cX6_tellName 17 = .ok (.aload_n 0, 1) := by decide +kernel
theorem dX6_tellName_18 : decode cX6_tellName 18 = .ok (.getfield 12, 3) := by decide +kernel
theorem dX6_tellName_21 : decode cX6_tellName 21 = .ok (.getfield 291, 3) := by decide +kernel
theorem dX6_tellName_24 : decode cX6_tellName 24 = .ok (.lastore, 1) := by decide +kernel
theorem dX6_tellName_25 : decode cX6_tellName 25 = .ok (.aload_n 0, 1) := by decide +kernel
theorem dX6_tellName_26 : decode cX6_tellName 26 = .ok (.getfield 22, 3) := by decide +kernel
theorem dX6_tellName_29 : decode cX6_tellName 29 = .ok (.aload_n 0, 1) := by decide +kernel
theorem dX6_tellName_30 : decode cX6_tellName 30 = .ok (.getfield 39, 3) := by decide +kernel
theorem dX6_tellName_33 : decode cX6_tellName 33 = .ok (.iload_n 1, 1) := by decide +kernel
theorem dX6_tellName_34 : decode cX6_tellName 34 = .ok (.iastore, 1) := by decide +kernel
theorem dX6_tellName_35 : decode cX6_tellName 35 = .ok (.aload_n 0, 1) := by decide +kernel
theorem dX6_tellName_36 : decode cX6_tellName 36 = .ok (.getfield 26, 3) := by decide +kernel
theorem dX6_tellName_39 : decode cX6_tellName 39 = .ok (.aload_n 0, 1) := by decide +kernel
theorem dX6_tellName_40 : decode cX6_tellName 40 = .ok (.getfield 39, 3) := by decide +kernel
theorem dX6_tellName_43 : decode cX6_tellName 43 = .ok (.iload_n 2, 1) := by decide +kernel
theorem dX6_tellName_44 : decode cX6_tellName 44 = .ok (.iastore, 1) := by decide +kernel
theorem dX6_tellName_45 : decode cX6_tellName 45 = .ok (.aload_n 0, 1) := by decide +kernel
theorem dX6_tellName_46 : decode cX6_tellName 46 = .ok (.dup, 1) := by decide +kernel
theorem dX6_tellName_47 : decode cX6_tellName 47 = .ok (.getfield 39, 3) := by decide +kernel
theorem dX6_tellName_50 : decode cX6_tellName 50 = .ok (.iconst 1, 1) := by decide +kernel
theorem dX6_tellName_51 : decode cX6_tellName 51 = .ok (.iadd, 1) := by decide +kernel
theorem dX6_tellName_52 : decode cX6_tellName 52 = .ok (.putfield 39, 3) := by decide +kernel
theorem dX6_tellName_55 : decode cX6_tellName 55 = .ok (.return_, 1) := by decide +kernel
theorem dX6_passNew_0 : decode cX6_passNew 0 = .ok (.aload_n 0, 1) := by decide +kernel
theorem dX6_passNew_1 : decode cX6_passNew 1 = .ok (.getfield 12, 3) := by decide +kernel
theorem dX6_passNew_4 : decode cX6_passNew 4 = .ok (.getfield 271, 3) := by decide +kernel
theorem dX6_passNew_7 : decode cX6_passNew 7 = .ok (.ifCond .ne 9, 3) := by decide +kernel
theorem dX6_passNew_10 : decode cX6_passNew 10 = .ok (.aload_n 0, 1) := by decide +kernel
theorem dX6_passNew_11 : decode cX6_passNew 11 = .ok (.iconst 1, 1) := by decide +kernel
theorem dX6_passNew_12 : decode cX6_passNew 12 = .ok (.invokevirtual 60, 3) := by decide +kernel
theorem dX6_passNew_15 : decode cX6_passNew 15 = .ok (.ireturn, 1) := by decide +kernel
theorem dX6_passNew_16 : decode cX6_passNew 16 = .ok (.aload_n 0, 1) := by decide +kernel
theorem dX6_passNew_17 : decode cX6_passNew 17 = .ok (.invokevirtual 275, 3) := by decide +kernel
theorem dX6_passNew_20 : decode cX6_passNew 20 = .ok (.iconst (-1), 1) := by decide +kernel
theorem dX6_passNew_21 : decode cX6_passNew 21 = .ok (.if_icmp .eq 9, 3) := by decide +kernel
theorem dX6_passNew_24 : decode cX6_passNew 24 = .ok (.aload_n 0, 1) := by decide +kernel
theorem dX6_passNew_25 : decode cX6_passNew 25 = .ok (.iconst 3, 1) := by decide +kernel
theorem dX6_passNew_26 : decode cX6_passNew 26 = .ok (.invokevirtual 60, 3) := by decide +kernel
theorem dX6_passNew_29 : decode cX6_passNew 29 = .ok (.ireturn, 1) := by decide +kernel
theorem dX6_passNew_30 : decode cX6_passNew 30 = .ok (.aload_n 0, 1) := by decide +kernel
theorem dX6_passNew_31 : decode cX6_passNew 31 = .ok (.iload_n 1, 1) := by decide +kernel
theorem dX6_passNew_32 : decode cX6_passNew 32 = .ok (.iload_n 2, 1) := by decide +kernel
theorem dX6_passNew_33 : decode cX6_passNew 33 = .ok (.invokevirtual 278, 3) := by decide +kernel
theorem dX6_passNew_36 : decode cX6_passNew 36 = .ok (.aload_n 0, 1) := by decide +kernel
theorem dX6_passNew_37 : decode cX6_passNew 37 = .ok (.getfield 12, 3) := by decide +kernel
theorem dX6_passNew_40 : decode cX6_passNew 40 = .ok (.invokevirtual 57, 3) := by decide +kernel
theorem dX6_passNew_43 : decode cX6_passNew 43 = .ok (.iconst 1, 1) := by decide +kernel
theorem dX6_passNew_44 : decode cX6_passNew 44 = .ok (.ireturn, 1) := by decide +kernel
theorem dX6_passIf_0 : decode cX6_passIf 0 = .ok (.aload_n 0, 1) := by decide +kernel
theorem dX6_passIf_1 : decode cX6_passIf 1 = .ok (.getfield 12, 3) := by decide +kernel
theorem dX6_passIf_4 : decode cX6_passIf 4 = .ok (.aload_n 1, 1) := by decide +kernel
theorem dX6_passIf_5 : decode cX6_passIf 5 = .ok (.invokevirtual 95, 3) := by decide +kernel
theorem dX6_passIf_8 : decode cX6_passIf 8 = .ok (.istore_n 2, 1) := by decide +kernel
theorem dX6_passIf_9 : decode cX6_passIf 9 = .ok (.iload_n 2, 1) := by decide +kernel
theorem dX6_passIf_10 : decode cX6_passIf 10 = .ok (.ifCond .eq 10, 3) := by decide +kernel
theorem dX6_passIf_13 : decode cX6_passIf 13 = .ok (.aload_n 0, 1) := by decide +kernel
theorem dX6_passIf_14 : decode cX6_passIf 14 = .ok (.getfield 12, 3) := by decide +kernel
theorem dX6_passIf_17 : decode cX6_passIf 17 = .ok (.invokevirtual 57, 3) := by decide +kernel
theorem dX6_passIf_20 : decode cX6_passIf 20 = .ok (.iload_n 2, 1) := by decide +kernel
theorem dX6_passIf_21 : decode cX6_passIf 21 = .ok (.ireturn, 1) := by decide +kernel
theorem dX1_addRoom_0 : decode cX1_addRoom 0 = .ok (.aload_n 0, 1) := by decide +kernel
theorem dX1_addRoom_1 : decode cX1_addRoom 1 = .ok (.getfield 9, 3) := by decide +kernel
theorem dX1_addRoom_4 : decode cX1_addRoom 4 = .ok (.aload_n 0, 1) := by decide +kernel
theorem dX1_addRoom_5 : decode cX1_addRoom 5 = .ok (.getfield 38, 3) := by decide +kernel
theorem dX1_addRoom_8 : decode cX1_addRoom 8 = .ok (.iload_n 1, 1) := by decide +kernel
theorem dX1_addRoom_9 : decode cX1_addRoom 9 = .ok (.iastore, 1) := by decide +kernel
theorem dX1_addRoom_10 : decode cX1_addRoom 10 = .ok (.aload_n 0, 1) := by decide +kernel
theorem dX1_addRoom_11 : decode cX1_addRoom 11 = .ok (.getfield 15, 3) := by decide +kernel
theorem dX1_addRoom_14 : decode cX1_addRoom 14 = .ok (.aload_n 0, 1) := by decide +kernel
theorem dX1_addRoom_15 : decode cX1_addRoom 15 = .ok (.getfield 38, 3) := by decide +kernel
theorem dX1_addRoom_18 : decode cX1_addRoom 18 = .ok (.iload_n 2, 1) := by decide +kernel
theorem dX1_addRoom_19 : decode cX1_addRoom 19 = .ok (.bastore, 1) := by decide +kernel
theorem dX1_addRoom_20 : decode cX1_addRoom 20 = .ok (.aload_n 0, 1) := by decide +kernel
theorem dX1_addRoom_21 : decode cX1_addRoom 21 = .ok (.dup, 1) := by decide +kernel
theorem dX1_addRoom_22 : decode cX1_addRoom 22 = .ok (.getfield 38, 3) := by decide +kernel
theorem dX1_addRoom_25 : decode cX1_addRoom 25 = .ok (.iconst 1, 1) := by decide +kernel
theorem dX1_addRoom_26 : decode cX1_addRoom 26 = .ok (.iadd, 1) := by decide +kernel
theorem dX1_addRoom_27 : decode cX1_addRoom 27 = .ok (.putfield 38, 3) := by decide +kernel
theorem dX1_addRoom_30 : decode cX1_addRoom 30 = .ok (.return_, 1) := by decide +kernel
theorem dX6_readRoom_0 : decode cX6_readRoom 0 = .ok (.aload_n 0, 1) := by decide +kernel
theorem dX6_readRoom_1 : decode cX6_readRoom 1 = .ok (.getfield 32, 3) := by decide +kernel
theorem dX6_readRoom_4 : decode cX6_readRoom 4 = .ok (.getfield 67, 3) := by decide +kernel
theorem dX6_readRoom_7 : decode cX6_readRoom 7 = .ok (.getfield 71, 3) := by decide +kernel
theorem dX6_readRoom_10 : decode cX6_readRoom 10 = .ok (.bipush 8, 2) := by decide +kernel
theorem dX6_readRoom_12 : decode cX6_readRoom 12 = .ok (.if_icmp .lt 9, 3) := by decide +kernel
theorem dX6_readRoom_15 : decode cX6_readRoom 15 = .ok (.aload_n 0, 1) := by decide +kernel
theorem dX6_readRoom_16 : decode cX6_readRoom 16 = .ok (.iconst 5, 1) := by decide +kernel
theorem dX6_readRoom_17 : decode cX6_readRoom 17 = .ok (.invokevirtual 60, 3) := by decide +kernel
theorem dX6_readRoom_20 : decode cX6_readRoom 20 = .ok (.ireturn, 1) := by decide +kernel
theorem dX6_readRoom_21 : decode cX6_readRoom 21 = .ok (.aload_n 0, 1) := by decide +kernel
theorem dX6_readRoom_22 : decode cX6_readRoom 22 = .ok (.getfield 12, 3) := by decide +kernel
theorem dX6_readRoom_25 : decode cX6_readRoom 25 = .ok (.invokevirtual 57, 3) := by decide +kernel
theorem dX6_readRoom_28 : decode cX6_readRoom 28 = .ok (.aload_n 0, 1) := by decide +kernel
theorem dX6_readRoom_29 : decode cX6_readRoom 29 = .ok (.iconst 0, 1) := by decide +kernel
theorem dX6_readRoom_30 : decode cX6_readRoom 30 = .ok (.aload_n 0, 1) := by decide +kernel
theorem dX6_readRoom_31 : decode cX6_readRoom 31 = .ok (.getfield 32, 3) := by decide +kernel
theorem dX6_readRoom_34 : decode cX6_readRoom 34 = .ok (.getfield 67, 3) := by decide +kernel
theorem dX6_readRoom_37 : decode cX6_readRoom 37 = .ok (.getfield 71, 3) := by decide +kernel
theorem dX6_readRoom_40 : decode cX6_readRoom 40 = .ok (.invokevirtual 151, 3) := by decide +kernel
theorem dX6_readRoom_43 : decode cX6_readRoom 43 = .ok (.ifCond .eq 23, 3) := by decide +kernel
theorem dX6_readRoom_46 : decode cX6_readRoom 46 = .ok (.aload_n 0, 1) := by decide +kernel
theorem dX6_readRoom_47 : decode cX6_readRoom 47 = .ok (.getstatic 154, 3) := by decide +kernel
theorem dX6_readRoom_50 : decode cX6_readRoom 50 = .ok (.invokevirtual 141, 3) := by decide +kernel
theorem dX6_readRoom_53 : decode cX6_readRoom 53 = .ok (.ifCond .eq 13, 3) := by decide +kernel
theorem dX6_readRoom_56 : decode cX6_readRoom 56 = .ok (.aload_n 0, 1) := by decide +kernel
theorem dX6_readRoom_57 : decode cX6_readRoom 57 = .ok (.iconst 0, 1) := by decide +kernel
theorem dX6_readRoom_58 : decode cX6_readRoom 58 = .ok (.bipush 9, 2) := by decide +kernel
theorem dX6_readRoom_60 : decode cX6_readRoom 60 = .ok (.invokevirtual 144, 3) := by decide +kernel
theorem dX6_readRoom_63 : decode cX6_readRoom 63 = .ok (.ifCond .ne 5, 3) := by decide +kernel
theorem dX6_readRoom_66 : decode cX6_readRoom 66 = .ok (.iconst 0, 1) := by decide +kernel
theorem dX6_readRoom_67 : decode cX6_readRoom 67 = .ok (.ireturn, 1) := by decide +kernel
theorem dX6_readRoom_68 : decode cX6_readRoom 68 = .ok (.aload_n 0, 1) := by decide +kernel
theorem dX6_readRoom_69 : decode cX6_readRoom 69 = .ok (.getfield 32, 3) := by decide +kernel
theorem dX6_readRoom_72 : decode cX6_readRoom 72 = .ok (.getfield 67, 3) := by decide +kernel
theorem dX6_readRoom_75 : decode cX6_readRoom 75 = .ok (.aload_n 0, 1) := by decide +kernel
theorem dX6_readRoom_76 : decode cX6_readRoom 76 = .ok (.getfield 148, 3) := by decide +kernel
theorem dX6_readRoom_79 : decode cX6_readRoom 79 = .ok (.aload_n 0, 1) := by decide +kernel
theorem dX6_readRoom_80 : decode cX6_readRoom 80 = .ok (.getstatic 157, 3) := by decide +kernel
theorem dX6_readRoom_83 : decode cX6_readRoom 83 = .ok (.invokevirtual 160, 3) := by decide +kernel
theorem dX6_readRoom_86 : decode cX6_readRoom 86 = .ok (.invokevirtual 163, 3) := by decide +kernel
theorem dX6_readRoom_89 : decode cX6_readRoom 89 = .ok (.iconst 1, 1) := by decide +kernel
theorem dX6_readRoom_90 : decode cX6_readRoom 90 = .ok (.ireturn, 1) := by decide +kernel
theorem dX6_lookUp_0 : decode cX6_lookUp 0 = .ok (.aload_n 0, 1) := by decide +kernel
theorem dX6_lookUp_1 : decode cX6_lookUp 1 = .ok (.getfield 12, 3) := by decide +kernel
theorem dX6_lookUp_4 : decode cX6_lookUp 4 = .ok (.getfield 271, 3) := by decide +kernel
theorem dX6_lookUp_7 : decode cX6_lookUp 7 = .ok (.ifCond .ne 9, 3) := by decide +kernel
theorem dX6_lookUp_10 : decode cX6_lookUp 10 = .ok (.aload_n 0, 1) := by decide +kernel
theorem dX6_lookUp_11 : decode cX6_lookUp 11 = .ok (.iconst 1, 1) := by decide +kernel
theorem dX6_lookUp_12 : decode cX6_lookUp 12 = .ok (.invokevirtual 60, 3) := by decide +kernel
theorem dX6_lookUp_15 : decode cX6_lookUp 15 = .ok (.ireturn, 1) := by decide +kernel
theorem dX6_lookUp_16 : decode cX6_lookUp 16 = .ok (.aload_n 0, 1) := by decide +kernel
theorem dX6_lookUp_17 : decode cX6_lookUp 17 = .ok (.invokevirtual 275, 3) := by decide +kernel
theorem dX6_lookUp_20 : decode cX6_lookUp 20 = .ok (.istore_n 2, 1) := by decide +kernel
theorem dX6_lookUp_21 : decode cX6_lookUp 21 = .ok (.iload_n 2, 1) := by decide +kernel
theorem dX6_lookUp_22 : decode cX6_lookUp 22 = .ok (.iconst (-1), 1) := by decide +kernel
theorem dX6_lookUp_23 : decode cX6_lookUp 23 = .ok (.if_icmp .eq 13, 3) := by decide +kernel
theorem dX6_lookUp_26 : decode cX6_lookUp 26 = .ok (.aload_n 0, 1) := by decide +kernel
theorem dX6_lookUp_27 : decode cX6_lookUp 27 = .ok (.getfield 22, 3) := by decide +kernel
theorem dX6_lookUp_30 : decode cX6_lookUp 30 = .ok (.iload_n 2, 1) := by decide +kernel
theorem dX6_lookUp_31 : decode cX6_lookUp 31 = .ok (.iaload, 1) := by decide +kernel
theorem dX6_lookUp_32 : decode cX6_lookUp 32 = .ok (.iload_n 1, 1) := by decide +kernel
theorem dX6_lookUp_33 : decode cX6_lookUp 33 = .ok (.if_icmp .eq 9, 3) := by decide +kernel
theorem dX6_lookUp_36 : decode cX6_lookUp 36 = .ok (.aload_n 0, 1) := by decide +kernel
theorem dX6_lookUp_37 : decode cX6_lookUp 37 = .ok (.iconst 2, 1) := by decide +kernel
theorem dX6_lookUp_38 : decode cX6_lookUp 38 = .ok (.invokevirtual 60, 3) := by decide +kernel
theorem dX6_lookUp_41 : decode cX6_lookUp 41 = .ok (.ireturn, 1) := by decide +kernel
theorem dX6_lookUp_42 : decode cX6_lookUp 42 = .ok (.aload_n 0, 1) := by decide +kernel
theorem dX6_lookUp_43 : decode cX6_lookUp 43 = .ok (.aload_n 0, 1) := by decide +kernel
theorem dX6_lookUp_44 : decode cX6_lookUp 44 = .ok (.getfield 26, 3) := by decide +kernel
theorem dX6_lookUp_47 : decode cX6_lookUp 47 = .ok (.iload_n 2, 1) := by decide +kernel
theorem dX6_lookUp_48 : decode cX6_lookUp 48 = .ok (.iaload, 1) := by decide +kernel
theorem dX6_lookUp_49 : decode cX6_lookUp 49 = .ok (.putfield 148, 3) := by decide +kernel
theorem dX6_lookUp_52 : decode cX6_lookUp 52 = .ok (.iconst 1, 1) := by decide +kernel
theorem dX6_lookUp_53 : decode cX6_lookUp 53 = .ok (.ireturn, 1) := by decide +kernel
theorem dX6_passName_0 : decode cX6_passName 0 = .ok (.aload_n 0, 1) := by decide +kernel
theorem dX6_passName_1 : decode cX6_passName 1 = .ok (.iload_n 1, 1) := by decide +kernel
theorem dX6_passName_2 : decode cX6_passName 2 = .ok (.invokevirtual 241, 3) := by decide +kernel
theorem dX6_passName_5 : decode cX6_passName 5 = .ok (.ifCond .ne 5, 3) := by decide +kernel
theorem dX6_passName_8 : decode cX6_passName 8 = .ok (.iconst 0, 1) := by decide +kernel
theorem dX6_passName_9 : decode cX6_passName 9 = .ok (.ireturn, 1) := by decide +kernel
theorem dX6_passName_10 : decode cX6_passName 10 = .ok (.aload_n 0, 1) := by decide +kernel
theorem dX6_passName_11 : decode cX6_passName 11 = .ok (.getfield 12, 3) := by decide +kernel
theorem dX6_passName_14 : decode cX6_passName 14 = .ok (.invokevirtual 57, 3) := by decide +kernel
theorem dX6_passName_17 : decode cX6_passName 17 = .ok (.iconst 1, 1) := by decide +kernel
theorem dX6_passName_18 : decode cX6_passName 18 = .ok (.ireturn, 1) := by decide +kernel
theorem dX6_passComma_0 : decode cX6_passComma 0 = .ok (.aload_n 0, 1) := by decide +kernel
theorem dX6_passComma_1 : decode cX6_passComma 1 = .ok (.getfield 12, 3) := by decide +kernel
theorem dX6_passComma_4 : decode cX6_passComma 4 = .ok (.getfield 54, 3) := by decide +kernel
theorem dX6_passComma_7 : decode cX6_passComma 7 = .ok (.iconst 4, 1) := by decide +kernel
theorem dX6_passComma_8 : decode cX6_passComma 8 = .ok (.if_icmp .eq 9, 3) := by decide +kernel
theorem dX6_passComma_11 : decode cX6_passComma 11 = .ok (.aload_n 0, 1) := by decide +kernel
theorem dX6_passComma_12 : decode cX6_passComma 12 = .ok (.iconst 1, 1) := by decide +kernel
theorem dX6_passComma_13 : decode cX6_passComma 13 = .ok (.invokevirtual 60, 3) := by decide +kernel
theorem dX6_passComma_16 : decode cX6_passComma 16 = .ok (.ireturn, 1) := by decide +kernel
theorem dX6_passComma_17 : decode cX6_passComma 17 = .ok (.aload_n 0, 1) := by decide +kernel
theorem dX6_passComma_18 : decode cX6_passComma 18 = .ok (.getfield 12, 3) := by decide +kernel
theorem dX6_passComma_21 : decode cX6_passComma 21 = .ok (.invokevirtual 57, 3) := by decide +kernel
theorem dX6_passComma_24 : decode cX6_passComma 24 = .ok (.iconst 1, 1) := by decide +kernel
theorem dX6_passComma_25 : decode cX6_passComma 25 = .ok (.ireturn, 1) := by decide +kernel
theorem dX1_doorBetween_0 : decode cX1_doorBetween 0 = .ok (.iconst 0, 1) := by decide +kernel
theorem dX1_doorBetween_1 : decode cX1_doorBetween 1 = .ok (.istore_n 3, 1) := by decide +kernel
theorem dX1_doorBetween_2 : decode cX1_doorBetween 2 = .ok (.iload_n 3, 1) := by decide +kernel
theorem dX1_doorBetween_3 : decode cX1_doorBetween 3 = .ok (.aload_n 0, 1) := by decide +kernel
theorem dX1_doorBetween_4 : decode cX1_doorBetween 4 = .ok (.getfield 42, 3) := by decide +kernel
theorem dX1_doorBetween_7 : decode cX1_doorBetween 7 = .ok (.if_icmp .ge 51, 3) := by decide +kernel
theorem dX1_doorBetween_10 : decode cX1_doorBetween 10 = .ok (.aload_n 0, 1) := by decide +kernel
theorem dX1_doorBetween_11 : decode cX1_doorBetween 11 = .ok (.getfield 19, 3) := by decide +kernel
theorem dX1_doorBetween_14 : decode cX1_doorBetween 14 = .ok (.iload_n 3, 1) := by decide +kernel
theorem dX1_doorBetween_15 : decode cX1_doorBetween 15 = .ok (.iaload, 1) := by decide +kernel
theorem dX1_doorBetween_16 : decode cX1_doorBetween 16 = .ok (.iload_n 1, 1) := by decide +kernel
theorem dX1_doorBetween_17 : decode cX1_doorBetween 17 = .ok (.if_icmp .ne 13, 3) := by decide +kernel
theorem dX1_doorBetween_20 : decode cX1_doorBetween 20 = .ok (.aload_n 0, 1) := by decide +kernel
theorem dX1_doorBetween_21 : decode cX1_doorBetween 21 = .ok (.getfield 22, 3) := by decide +kernel
theorem dX1_doorBetween_24 : decode cX1_doorBetween 24 = .ok (.iload_n 3, 1) := by decide +kernel
theorem dX1_doorBetween_25 : decode cX1_doorBetween 25 = .ok (.iaload, 1) := by decide +kernel
theorem dX1_doorBetween_26 : decode cX1_doorBetween 26 = .ok (.iload_n 2, 1) := by decide +kernel
theorem dX1_doorBetween_27 : decode cX1_doorBetween 27 = .ok (.if_icmp .eq 23, 3) := by decide +kernel
theorem dX1_doorBetween_30 : decode cX1_doorBetween 30 = .ok (.aload_n 0, 1) := by decide +kernel
theorem dX1_doorBetween_31 : decode cX1_doorBetween 31 = .ok (.getfield 19, 3) := by decide +kernel
theorem dX1_doorBetween_34 : decode cX1_doorBetween 34 = .ok (.iload_n 3, 1) := by decide +kernel
theorem dX1_doorBetween_35 : decode cX1_doorBetween 35 = .ok (.iaload, 1) := by decide +kernel
theorem dX1_doorBetween_36 : decode cX1_doorBetween 36 = .ok (.iload_n 2, 1) := by decide +kernel
theorem dX1_doorBetween_37 : decode cX1_doorBetween 37 = .ok (.if_icmp .ne 15, 3) := by decide +kernel
theorem dX1_doorBetween_40 : decode cX1_doorBetween 40 = .ok (.aload_n 0, 1) := by decide +kernel
theorem dX1_doorBetween_41 : decode cX1_doorBetween 41 = .ok (.getfield 22, 3) := by decide +kernel
theorem dX1_doorBetween_44 : decode cX1_doorBetween 44 = .ok (.iload_n 3, 1) := by decide +kernel
theorem dX1_doorBetween_45 : decode cX1_doorBetween 45 = .ok (.iaload, 1) := by decide +kernel
theorem dX1_doorBetween_46 : decode cX1_doorBetween 46 = .ok (.iload_n 1, 1) := by decide +kernel
theorem dX1_doorBetween_47 : decode cX1_doorBetween 47 = .ok (.if_icmp .ne 5, 3) := by decide +kernel
theorem dX1_doorBetween_50 : decode cX1_doorBetween 50 = .ok (.iload_n 3, 1) := by decide +kernel
theorem dX1_doorBetween_51 : decode cX1_doorBetween 51 = .ok (.ireturn, 1) := by decide +kernel
theorem dX1_doorBetween_52 : decode cX1_doorBetween 52 = .ok (.iinc 3 1, 3) := by decide +kernel
theorem dX1_doorBetween_55 : decode cX1_doorBetween 55 = .ok (.goto (-53), 3) := by decide +kernel
theorem dX1_doorBetween_58 : decode cX1_doorBetween 58 = .ok (.bipush (-2), 2) := by decide +kernel
theorem dX1_doorBetween_60 : decode cX1_doorBetween 60 = .ok (.ireturn, 1) := by decide +kernel
theorem dX6_passOtherRoom_0 : decode cX6_passOtherRoom 0 = .ok (.aload_n 0, 1) := by decide +kernel
theorem dX6_passOtherRoom_1 : decode cX6_passOtherRoom 1 = .ok (.iconst 0, 1) := by decide +kernel
theorem dX6_passOtherRoom_2 : decode cX6_passOtherRoom 2 = .ok (.invokevirtual 241, 3) := by decide +kernel
theorem dX6_passOtherRoom_5 : decode cX6_passOtherRoom 5 = .ok (.ifCond .ne 5, 3) := by decide +kernel
theorem dX6_passOtherRoom_8 : decode cX6_passOtherRoom 8 = .ok (.iconst 0, 1) := by decide +kernel
theorem dX6_passOtherRoom_9 : decode cX6_passOtherRoom 9 = .ok (.ireturn, 1) := by decide +kernel
theorem dX6_passOtherRoom_10 : decode cX6_passOtherRoom 10 = .ok (.aload_n 0, 1) := by decide +kernel
theorem dX6_passOtherRoom_11 : decode cX6_passOtherRoom 11 = .ok (.getfield 148, 3) := by decide +kernel
theorem dX6_passOtherRoom_14 : decode cX6_passOtherRoom 14 = .ok (.iload_n 1, 1) := by decide +kernel
theorem dX6_passOtherRoom_15 : decode cX6_passOtherRoom 15 = .ok (.if_icmp .eq 23, 3) := by decide +kernel
theorem dX6_passOtherRoom_18 : decode cX6_passOtherRoom 18 = .ok (.aload_n 0, 1) := by decide +kernel
theorem dX6_passOtherRoom_19 : decode cX6_passOtherRoom 19 = .ok (.getfield 32, 3) := by decide +kernel
theorem dX6_passOtherRoom_22 : decode cX6_passOtherRoom 22 = .ok (.getfield 67, 3) := by decide +kernel
theorem dX6_passOtherRoom_25 : decode cX6_passOtherRoom 25 = .ok (.iload_n 1, 1) := by decide +kernel
theorem dX6_passOtherRoom_26 : decode cX6_passOtherRoom 26 = .ok (.aload_n 0, 1) := by decide +kernel
theorem dX6_passOtherRoom_27 : decode cX6_passOtherRoom 27 = .ok (.getfield 148, 3) := by decide +kernel
theorem dX6_passOtherRoom_30 : decode cX6_passOtherRoom 30 = .ok (.invokevirtual 281, 3) := by decide +kernel
theorem dX6_passOtherRoom_33 : decode cX6_passOtherRoom 33 = .ok (.bipush (-2), 2) := by decide +kernel
theorem dX6_passOtherRoom_35 : decode cX6_passOtherRoom 35 = .ok (.if_icmp .eq 9, 3) := by decide +kernel
theorem dX6_passOtherRoom_38 : decode cX6_passOtherRoom 38 = .ok (.aload_n 0, 1) := by decide +kernel
theorem dX6_passOtherRoom_39 : decode cX6_passOtherRoom 39 = .ok (.iconst 3, 1) := by decide +kernel
theorem dX6_passOtherRoom_40 : decode cX6_passOtherRoom 40 = .ok (.invokevirtual 60, 3) := by decide +kernel
theorem dX6_passOtherRoom_43 : decode cX6_passOtherRoom 43 = .ok (.ireturn, 1) := by decide +kernel
theorem dX6_passOtherRoom_44 : decode cX6_passOtherRoom 44 = .ok (.aload_n 0, 1) := by decide +kernel
theorem dX6_passOtherRoom_45 : decode cX6_passOtherRoom 45 = .ok (.getfield 12, 3) := by decide +kernel
theorem dX6_passOtherRoom_48 : decode cX6_passOtherRoom 48 = .ok (.invokevirtual 57, 3) := by decide +kernel
theorem dX6_passOtherRoom_51 : decode cX6_passOtherRoom 51 = .ok (.iconst 1, 1) := by decide +kernel
theorem dX6_passOtherRoom_52 : decode cX6_passOtherRoom 52 = .ok (.ireturn, 1) := by decide +kernel
theorem dX1_addDoor_0 : decode cX1_addDoor 0 = .ok (.aload_n 0, 1) := by decide +kernel
theorem dX1_addDoor_1 : decode cX1_addDoor 1 = .ok (.getfield 19, 3) := by decide +kernel
theorem dX1_addDoor_4 : decode cX1_addDoor 4 = .ok (.aload_n 0, 1) := by decide +kernel
theorem dX1_addDoor_5 : decode cX1_addDoor 5 = .ok (.getfield 42, 3) := by decide +kernel
theorem dX1_addDoor_8 : decode cX1_addDoor 8 = .ok (.iload_n 1, 1) := by decide +kernel
theorem dX1_addDoor_9 : decode cX1_addDoor 9 = .ok (.iastore, 1) := by decide +kernel
theorem dX1_addDoor_10 : decode cX1_addDoor 10 = .ok (.aload_n 0, 1) := by decide +kernel
theorem dX1_addDoor_11 : decode cX1_addDoor 11 = .ok (.getfield 22, 3) := by decide +kernel
theorem dX1_addDoor_14 : decode cX1_addDoor 14 = .ok (.aload_n 0, 1) := by decide +kernel
theorem dX1_addDoor_15 : decode cX1_addDoor 15 = .ok (.getfield 42, 3) := by decide +kernel
theorem dX1_addDoor_18 : decode cX1_addDoor 18 = .ok (.iload_n 2, 1) := by decide +kernel
theorem dX1_addDoor_19 : decode cX1_addDoor 19 = .ok (.iastore, 1) := by decide +kernel
theorem dX1_addDoor_20 : decode cX1_addDoor 20 = .ok (.aload_n 0, 1) := by decide +kernel
theorem dX1_addDoor_21 : decode cX1_addDoor 21 = .ok (.getfield 25, 3) := by decide +kernel
theorem dX1_addDoor_24 : decode cX1_addDoor 24 = .ok (.aload_n 0, 1) := by decide +kernel
theorem dX1_addDoor_25 : decode cX1_addDoor 25 = .ok (.getfield 42, 3) := by decide +kernel
theorem dX1_addDoor_28 : decode cX1_addDoor 28 = .ok (.iload_n 3, 1) := by decide +kernel
theorem dX1_addDoor_29 : decode cX1_addDoor 29 = .ok (.iastore, 1) := by decide +kernel
theorem dX1_addDoor_30 : decode cX1_addDoor 30 = .ok (.aload_n 0, 1) := by decide +kernel
theorem dX1_addDoor_31 : decode cX1_addDoor 31 = .ok (.getfield 28, 3) := by decide +kernel
theorem dX1_addDoor_34 : decode cX1_addDoor 34 = .ok (.aload_n 0, 1) := by decide +kernel
theorem dX1_addDoor_35 : decode cX1_addDoor 35 = .ok (.getfield 42, 3) := by decide +kernel
theorem dX1_addDoor_38 : decode cX1_addDoor 38 = .ok (.iload 4, 2) := by decide +kernel
theorem dX1_addDoor_40 : decode cX1_addDoor 40 = .ok (.bastore, 1) := by decide +kernel
theorem dX1_addDoor_41 : decode cX1_addDoor 41 = .ok (.aload_n 0, 1) := by decide +kernel
theorem dX1_addDoor_42 : decode cX1_addDoor 42 = .ok (.dup, 1) := by decide +kernel
theorem dX1_addDoor_43 : decode cX1_addDoor 43 = .ok (.getfield 42, 3) := by decide +kernel
theorem dX1_addDoor_46 : decode cX1_addDoor 46 = .ok (.iconst 1, 1) := by decide +kernel
theorem dX1_addDoor_47 : decode cX1_addDoor 47 = .ok (.iadd, 1) := by decide +kernel
theorem dX1_addDoor_48 : decode cX1_addDoor 48 = .ok (.putfield 42, 3) := by decide +kernel
theorem dX1_addDoor_51 : decode cX1_addDoor 51 = .ok (.return_, 1) := by decide +kernel
theorem dX6_readDoor_0 : decode cX6_readDoor 0 = .ok (.aload_n 0, 1) := by decide +kernel
theorem dX6_readDoor_1 : decode cX6_readDoor 1 = .ok (.getfield 32, 3) := by decide +kernel
theorem dX6_readDoor_4 : decode cX6_readDoor 4 = .ok (.getfield 67, 3) := by decide +kernel
theorem dX6_readDoor_7 : decode cX6_readDoor 7 = .ok (.getfield 167, 3) := by decide +kernel
theorem dX6_readDoor_10 : decode cX6_readDoor 10 = .ok (.bipush 10, 2) := by decide +kernel
theorem dX6_readDoor_12 : decode cX6_readDoor 12 = .ok (.if_icmp .lt 9, 3) := by decide +kernel
theorem dX6_readDoor_15 : decode cX6_readDoor 15 = .ok (.aload_n 0, 1) := by decide +kernel
theorem dX6_readDoor_16 : decode cX6_readDoor 16 = .ok (.iconst 5, 1) := by decide +kernel
theorem dX6_readDoor_17 : decode cX6_readDoor 17 = .ok (.invokevirtual 60, 3) := by decide +kernel
theorem dX6_readDoor_20 : decode cX6_readDoor 20 = .ok (.ireturn, 1) := by decide +kernel
theorem dX6_readDoor_21 : decode cX6_readDoor 21 = .ok (.aload_n 0, 1) := by decide +kernel
theorem dX6_readDoor_22 : decode cX6_readDoor 22 = .ok (.getfield 12, 3) := by decide +kernel
theorem dX6_readDoor_25 : decode cX6_readDoor 25 = .ok (.invokevirtual 57, 3) := by decide +kernel
theorem dX6_readDoor_28 : decode cX6_readDoor 28 = .ok (.aload_n 0, 1) := by decide +kernel
theorem dX6_readDoor_29 : decode cX6_readDoor 29 = .ok (.iconst 0, 1) := by decide +kernel
theorem dX6_readDoor_30 : decode cX6_readDoor 30 = .ok (.invokevirtual 170, 3) := by decide +kernel
theorem dX6_readDoor_33 : decode cX6_readDoor 33 = .ok (.ifCond .ne 5, 3) := by decide +kernel
theorem dX6_readDoor_36 : decode cX6_readDoor 36 = .ok (.iconst 0, 1) := by decide +kernel
theorem dX6_readDoor_37 : decode cX6_readDoor 37 = .ok (.ireturn, 1) := by decide +kernel
theorem dX6_readDoor_38 : decode cX6_readDoor 38 = .ok (.aload_n 0, 1) := by decide +kernel
theorem dX6_readDoor_39 : decode cX6_readDoor 39 = .ok (.getfield 148, 3) := by decide +kernel
theorem dX6_readDoor_42 : decode cX6_readDoor 42 = .ok (.istore_n 1, 1) := by decide +kernel
theorem dX6_readDoor_43 : decode cX6_readDoor 43 = .ok (.aload_n 0, 1) := by decide +kernel
theorem dX6_readDoor_44 : decode cX6_readDoor 44 = .ok (.invokevirtual 173, 3) := by decide +kernel
theorem dX6_readDoor_47 : decode cX6_readDoor 47 = .ok (.ifCond .eq 11, 3) := by decide +kernel
theorem dX6_readDoor_50 : decode cX6_readDoor 50 = .ok (.aload_n 0, 1) := by decide +kernel
theorem dX6_readDoor_51 : decode cX6_readDoor 51 = .ok (.iload_n 1, 1) := by decide +kernel
theorem dX6_readDoor_52 : decode cX6_readDoor 52 = .ok (.invokevirtual 176, 3) := by decide +kernel
theorem dX6_readDoor_55 : decode cX6_readDoor 55 = .ok (.ifCond .ne 5, 3) := by decide +kernel
theorem dX6_readDoor_58 : decode cX6_readDoor 58 = .ok (.iconst 0, 1) := by decide +kernel
theorem dX6_readDoor_59 : decode cX6_readDoor 59 = .ok (.ireturn, 1) := by decide +kernel
theorem dX6_readDoor_60 : decode cX6_readDoor 60 = .ok (.aload_n 0, 1) := by decide +kernel
theorem dX6_readDoor_61 : decode cX6_readDoor 61 = .ok (.getfield 148, 3) := by decide +kernel
theorem dX6_readDoor_64 : decode cX6_readDoor 64 = .ok (.istore_n 2, 1) := by decide +kernel
theorem dX6_readDoor_65 : decode cX6_readDoor 65 = .ok (.aload_n 0, 1) := by decide +kernel
theorem dX6_readDoor_66 : decode cX6_readDoor 66 = .ok (.getstatic 179, 3) := by decide +kernel
theorem dX6_readDoor_69 : decode cX6_readDoor 69 = .ok (.invokevirtual 160, 3) := by decide +kernel
theorem dX6_readDoor_72 : decode cX6_readDoor 72 = .ok (.ifCond .eq 7, 3) := by decide +kernel
theorem dX6_readDoor_75 : decode cX6_readDoor 75 = .ok (.iconst 1, 1) := by decide +kernel
theorem dX6_readDoor_76 : decode cX6_readDoor 76 = .ok (.goto 18, 3) := by decide +kernel
theorem dX6_readDoor_79 : decode cX6_readDoor 79 = .ok (.aload_n 0, 1) := by decide +kernel
theorem dX6_readDoor_80 : decode cX6_readDoor 80 = .ok (.getstatic 182, 3) := by decide +kernel
theorem dX6_readDoor_83 : decode cX6_readDoor 83 = .ok (.invokevirtual 160, 3) := by decide +kernel
theorem dX6_readDoor_86 : decode cX6_readDoor 86 = .ok (.ifCond .eq 7, 3) := by decide +kernel
theorem dX6_readDoor_89 : decode cX6_readDoor 89 = .ok (.iconst 2, 1) := by decide +kernel
theorem dX6_readDoor_90 : decode cX6_readDoor 90 = .ok (.goto 4, 3) := by decide +kernel
theorem dX6_readDoor_93 : decode cX6_readDoor 93 = .ok (.iconst 0, 1) := by decide +kernel
theorem dX6_readDoor_94 : decode cX6_readDoor 94 = .ok (.istore_n 3, 1) := by decide +kernel
theorem dX6_readDoor_95 : decode cX6_readDoor 95 = .ok (.aload_n 0, 1) := by decide +kernel
theorem dX6_readDoor_96 : decode cX6_readDoor 96 = .ok (.getfield 32, 3) := by decide +kernel
theorem dX6_readDoor_99 : decode cX6_readDoor 99 = .ok (.getfield 67, 3) := by decide +kernel
theorem dX6_readDoor_102 : decode cX6_readDoor 102 = .ok (.iload_n 1, 1) := by decide +kernel
theorem dX6_readDoor_103 : decode cX6_readDoor 103 = .ok (.iload_n 2, 1) := by decide +kernel
theorem dX6_readDoor_104 : decode cX6_readDoor 104 = .ok (.iload_n 3, 1) := by decide +kernel
theorem dX6_readDoor_105 : decode cX6_readDoor 105 = .ok (.aload_n 0, 1) := by decide +kernel
theorem dX6_readDoor_106 : decode cX6_readDoor 106 = .ok (.getstatic 185, 3) := by decide +kernel
theorem dX6_readDoor_109 : decode cX6_readDoor 109 = .ok (.invokevirtual 160, 3) := by decide +kernel
theorem dX6_readDoor_112 : decode cX6_readDoor 112 = .ok (.invokevirtual 188, 3) := by decide +kernel
theorem dX6_readDoor_115 : decode cX6_readDoor 115 = .ok (.iconst 1, 1) := by decide +kernel
theorem dX6_readDoor_116 : decode cX6_readDoor 116 = .ok (.ireturn, 1) := by decide +kernel
theorem dX2_addThing_0 : decode cX2_addThing 0 = .ok (.aload_n 0, 1) := by decide +kernel
theorem dX2_addThing_1 : decode cX2_addThing 1 = .ok (.getfield 18, 3) := by decide +kernel
theorem dX2_addThing_4 : decode cX2_addThing 4 = .ok (.aload_n 0, 1) := by decide +kernel
theorem dX2_addThing_5 : decode cX2_addThing 5 = .ok (.getfield 48, 3) := by decide +kernel
theorem dX2_addThing_8 : decode cX2_addThing 8 = .ok (.iload_n 1, 1) := by decide +kernel
theorem dX2_addThing_9 : decode cX2_addThing 9 = .ok (.iastore, 1) := by decide +kernel
theorem dX2_addThing_10 : decode cX2_addThing 10 = .ok (.aload_n 0, 1) := by decide +kernel
theorem dX2_addThing_11 : decode cX2_addThing 11 = .ok (.getfield 22, 3) := by decide +kernel
theorem dX2_addThing_14 : decode cX2_addThing 14 = .ok (.aload_n 0, 1) := by decide +kernel
theorem dX2_addThing_15 : decode cX2_addThing 15 = .ok (.getfield 48, 3) := by decide +kernel
theorem dX2_addThing_18 : decode cX2_addThing 18 = .ok (.iload_n 2, 1) := by decide +kernel
theorem dX2_addThing_19 : decode cX2_addThing 19 = .ok (.bastore, 1) := by decide +kernel
theorem dX2_addThing_20 : decode cX2_addThing 20 = .ok (.aload_n 0, 1) := by decide +kernel
theorem dX2_addThing_21 : decode cX2_addThing 21 = .ok (.dup, 1) := by decide +kernel
theorem dX2_addThing_22 : decode cX2_addThing 22 = .ok (.getfield 48, 3) := by decide +kernel
theorem dX2_addThing_25 : decode cX2_addThing 25 = .ok (.iconst 1, 1) := by decide +kernel
theorem dX2_addThing_26 : decode cX2_addThing 26 = .ok (.iadd, 1) := by decide +kernel
theorem dX2_addThing_27 : decode cX2_addThing 27 = .ok (.putfield 48, 3) := by decide +kernel
theorem dX2_addThing_30 : decode cX2_addThing 30 = .ok (.return_, 1) := by decide +kernel
theorem dX6_readThing_0 : decode cX6_readThing 0 = .ok (.aload_n 0, 1) := by decide +kernel
theorem dX6_readThing_1 : decode cX6_readThing 1 = .ok (.getfield 32, 3) := by decide +kernel
theorem dX6_readThing_4 : decode cX6_readThing 4 = .ok (.getfield 192, 3) := by decide +kernel
theorem dX6_readThing_7 : decode cX6_readThing 7 = .ok (.iconst 4, 1) := by decide +kernel
theorem dX6_readThing_8 : decode cX6_readThing 8 = .ok (.if_icmp .lt 9, 3) := by decide +kernel
theorem dX6_readThing_11 : decode cX6_readThing 11 = .ok (.aload_n 0, 1) := by decide +kernel
theorem dX6_readThing_12 : decode cX6_readThing 12 = .ok (.iconst 5, 1) := by decide +kernel
theorem dX6_readThing_13 : decode cX6_readThing 13 = .ok (.invokevirtual 60, 3) := by decide +kernel
theorem dX6_readThing_16 : decode cX6_readThing 16 = .ok (.ireturn, 1) := by decide +kernel
theorem dX6_readThing_17 : decode cX6_readThing 17 = .ok (.aload_n 0, 1) := by decide +kernel
theorem dX6_readThing_18 : decode cX6_readThing 18 = .ok (.getfield 12, 3) := by decide +kernel
theorem dX6_readThing_21 : decode cX6_readThing 21 = .ok (.invokevirtual 57, 3) := by decide +kernel
theorem dX6_readThing_24 : decode cX6_readThing 24 = .ok (.aload_n 0, 1) := by decide +kernel
theorem dX6_readThing_25 : decode cX6_readThing 25 = .ok (.iconst 1, 1) := by decide +kernel
theorem dX6_readThing_26 : decode cX6_readThing 26 = .ok (.aload_n 0, 1) := by decide +kernel
theorem dX6_readThing_27 : decode cX6_readThing 27 = .ok (.getfield 32, 3) := by decide +kernel
theorem dX6_readThing_30 : decode cX6_readThing 30 = .ok (.getfield 192, 3) := by decide +kernel
theorem dX6_readThing_33 : decode cX6_readThing 33 = .ok (.invokevirtual 151, 3) := by decide +kernel
theorem dX6_readThing_36 : decode cX6_readThing 36 = .ok (.ifCond .eq 21, 3) := by decide +kernel
theorem dX6_readThing_39 : decode cX6_readThing 39 = .ok (.aload_n 0, 1) := by decide +kernel
theorem dX6_readThing_40 : decode cX6_readThing 40 = .ok (.getstatic 195, 3) := by decide +kernel
theorem dX6_readThing_43 : decode cX6_readThing 43 = .ok (.invokevirtual 141, 3) := by decide +kernel
theorem dX6_readThing_46 : decode cX6_readThing 46 = .ok (.ifCond .eq 11, 3) := by decide +kernel
theorem dX6_readThing_49 : decode cX6_readThing 49 = .ok (.aload_n 0, 1) := by decide +kernel
theorem dX6_readThing_50 : decode cX6_readThing 50 = .ok (.iconst 0, 1) := by decide +kernel
theorem dX6_readThing_51 : decode cX6_readThing 51 = .ok (.invokevirtual 170, 3) := by decide +kernel
theorem dX6_readThing_54 : decode cX6_readThing 54 = .ok (.ifCond .ne 5, 3) := by decide +kernel
theorem dX6_readThing_57 : decode cX6_readThing 57 = .ok (.iconst 0, 1) := by decide +kernel
theorem dX6_readThing_58 : decode cX6_readThing 58 = .ok (.ireturn, 1) := by decide +kernel
theorem dX6_readThing_59 : decode cX6_readThing 59 = .ok (.aload_n 0, 1) := by decide +kernel
theorem dX6_readThing_60 : decode cX6_readThing 60 = .ok (.getfield 32, 3) := by decide +kernel
theorem dX6_readThing_63 : decode cX6_readThing 63 = .ok (.aload_n 0, 1) := by decide +kernel
theorem dX6_readThing_64 : decode cX6_readThing 64 = .ok (.getfield 148, 3) := by decide +kernel
theorem dX6_readThing_67 : decode cX6_readThing 67 = .ok (.aload_n 0, 1) := by decide +kernel
theorem dX6_readThing_68 : decode cX6_readThing 68 = .ok (.getstatic 198, 3) := by decide +kernel
theorem dX6_readThing_71 : decode cX6_readThing 71 = .ok (.invokevirtual 160, 3) := by decide +kernel
theorem dX6_readThing_74 : decode cX6_readThing 74 = .ok (.invokevirtual 201, 3) := by decide +kernel
theorem dX6_readThing_77 : decode cX6_readThing 77 = .ok (.iconst 1, 1) := by decide +kernel
theorem dX6_readThing_78 : decode cX6_readThing 78 = .ok (.ireturn, 1) := by decide +kernel
theorem dX6_passDream_0 : decode cX6_passDream 0 = .ok (.aload_n 0, 1) := by decide +kernel
theorem dX6_passDream_1 : decode cX6_passDream 1 = .ok (.getfield 12, 3) := by decide +kernel
theorem dX6_passDream_4 : decode cX6_passDream 4 = .ok (.getfield 271, 3) := by decide +kernel
theorem dX6_passDream_7 : decode cX6_passDream 7 = .ok (.ifCond .ne 9, 3) := by decide +kernel
theorem dX6_passDream_10 : decode cX6_passDream 10 = .ok (.aload_n 0, 1) := by decide +kernel
theorem dX6_passDream_11 : decode cX6_passDream 11 = .ok (.iconst 1, 1) := by decide +kernel
theorem dX6_passDream_12 : decode cX6_passDream 12 = .ok (.invokevirtual 60, 3) := by decide +kernel
theorem dX6_passDream_15 : decode cX6_passDream 15 = .ok (.ireturn, 1) := by decide +kernel
theorem dX6_passDream_16 : decode cX6_passDream 16 = .ok (.aload_n 0, 1) := by decide +kernel
theorem dX6_passDream_17 : decode cX6_passDream 17 = .ok (.invokevirtual 275, 3) := by decide +kernel
theorem dX6_passDream_20 : decode cX6_passDream 20 = .ok (.istore_n 1, 1) := by decide +kernel
theorem dX6_passDream_21 : decode cX6_passDream 21 = .ok (.iload_n 1, 1) := by decide +kernel
theorem dX6_passDream_22 : decode cX6_passDream 22 = .ok (.iconst (-1), 1) := by decide +kernel
theorem dX6_passDream_23 : decode cX6_passDream 23 = .ok (.if_icmp .eq 32, 3) := by decide +kernel
theorem dX6_passDream_26 : decode cX6_passDream 26 = .ok (.aload_n 0, 1) := by decide +kernel
theorem dX6_passDream_27 : decode cX6_passDream 27 = .ok (.getfield 22, 3) := by decide +kernel
theorem dX6_passDream_30 : decode cX6_passDream 30 = .ok (.iload_n 1, 1) := by decide +kernel
theorem dX6_passDream_31 : decode cX6_passDream 31 = .ok (.iaload, 1) := by decide +kernel
theorem dX6_passDream_32 : decode cX6_passDream 32 = .ok (.iconst 2, 1) := by decide +kernel
theorem dX6_passDream_33 : decode cX6_passDream 33 = .ok (.if_icmp .eq 9, 3) := by decide +kernel
theorem dX6_passDream_36 : decode cX6_passDream 36 = .ok (.aload_n 0, 1) := by decide +kernel
theorem dX6_passDream_37 : decode cX6_passDream 37 = .ok (.iconst 3, 1) := by decide +kernel
theorem dX6_passDream_38 : decode cX6_passDream 38 = .ok (.invokevirtual 60, 3) := by decide +kernel
theorem dX6_passDream_41 : decode cX6_passDream 41 = .ok (.ireturn, 1) := by decide +kernel
theorem dX6_passDream_42 : decode cX6_passDream 42 = .ok (.aload_n 0, 1) := by decide +kernel
theorem dX6_passDream_43 : decode cX6_passDream 43 = .ok (.aload_n 0, 1) := by decide +kernel
theorem dX6_passDream_44 : decode cX6_passDream 44 = .ok (.getfield 26, 3) := by decide +kernel
theorem dX6_passDream_47 : decode cX6_passDream 47 = .ok (.iload_n 1, 1) := by decide +kernel
theorem dX6_passDream_48 : decode cX6_passDream 48 = .ok (.iaload, 1) := by decide +kernel
theorem dX6_passDream_49 : decode cX6_passDream 49 = .ok (.putfield 148, 3) := by decide +kernel
theorem dX6_passDream_52 : decode cX6_passDream 52 = .ok (.goto 53, 3) := by decide +kernel
theorem dX6_passDream_55 : decode cX6_passDream 55 = .ok (.aload_n 0, 1) := by decide +kernel
theorem dX6_passDream_56 : decode cX6_passDream 56 = .ok (.getfield 32, 3) := by decide +kernel
theorem dX6_passDream_59 : decode cX6_passDream 59 = .ok (.getfield 285, 3) := by decide +kernel
theorem dX6_passDream_62 : decode cX6_passDream 62 = .ok (.iconst 4, 1) := by decide +kernel
theorem dX6_passDream_63 : decode cX6_passDream 63 = .ok (.if_icmp .lt 9, 3) := by decide +kernel
theorem dX6_passDream_66 : decode cX6_passDream 66 = .ok (.aload_n 0, 1) := by decide +kernel
theorem dX6_passDream_67 : decode cX6_passDream 67 = .ok (.iconst 5, 1) := by decide +kernel
theorem dX6_passDream_68 : decode cX6_passDream 68 = .ok (.invokevirtual 60, 3) := by decide +kernel
theorem dX6_passDream_71 : decode cX6_passDream 71 = .ok (.ireturn, 1) := by decide +kernel
theorem dX6_passDream_72 : decode cX6_passDream 72 = .ok (.aload_n 0, 1) := by decide +kernel
theorem dX6_passDream_73 : decode cX6_passDream 73 = .ok (.aload_n 0, 1) := by decide +kernel
theorem dX6_passDream_74 : decode cX6_passDream 74 = .ok (.getfield 32, 3) := by decide +kernel
theorem dX6_passDream_77 : decode cX6_passDream 77 = .ok (.getfield 285, 3) := by decide +kernel
theorem dX6_passDream_80 : decode cX6_passDream 80 = .ok (.putfield 148, 3) := by decide +kernel
theorem dX6_passDream_83 : decode cX6_passDream 83 = .ok (.aload_n 0, 1) := by decide +kernel
theorem dX6_passDream_84 : decode cX6_passDream 84 = .ok (.iconst 2, 1) := by decide +kernel
theorem dX6_passDream_85 : decode cX6_passDream 85 = .ok (.aload_n 0, 1) := by decide +kernel
theorem dX6_passDream_86 : decode cX6_passDream 86 = .ok (.getfield 148, 3) := by decide +kernel
theorem dX6_passDream_89 : decode cX6_passDream 89 = .ok (.invokevirtual 278, 3) := by decide +kernel
theorem dX6_passDream_92 : decode cX6_passDream 92 = .ok (.aload_n 0, 1) := by decide +kernel
theorem dX6_passDream_93 : decode cX6_passDream 93 = .ok (.getfield 32, 3) := by decide +kernel
theorem dX6_passDream_96 : decode cX6_passDream 96 = .ok (.dup, 1) := by decide +kernel
theorem dX6_passDream_97 : decode cX6_passDream 97 = .ok (.getfield 285, 3) := by decide +kernel
theorem dX6_passDream_100 : decode cX6_passDream 100 = .ok (.iconst 1, 1) := by decide +kernel
theorem dX6_passDream_101 : decode cX6_passDream 101 = .ok (.iadd, 1) := by decide +kernel
theorem dX6_passDream_102 : decode cX6_passDream 102 = .ok (.putfield 285, 3) := by decide +kernel
theorem dX6_passDream_105 : decode cX6_passDream 105 = .ok (.aload_n 0, 1) := by decide +kernel
theorem dX6_passDream_106 : decode cX6_passDream 106 = .ok (.getfield 12, 3) := by decide +kernel
theorem dX6_passDream_109 : decode cX6_passDream 109 = .ok (.invokevirtual 57, 3) := by decide +kernel
theorem dX6_passDream_112 : decode cX6_passDream 112 = .ok (.iconst 1, 1) := by decide +kernel
theorem dX6_passDream_113 : decode cX6_passDream 113 = .ok (.ireturn, 1) := by decide +kernel
def wX7_append (E : EN) (h h_bytes : Nat) (v_length : Int32) (v_end : Int32) (v_at : Int32) (v_start : Int32) (v_kind : Int32) (v_code : Int64) (v_mayName : Int32) (v_value : Int32) (v_bytes : Nat → Int32) : va_W := [(h, .inr (7, [.ref h_bytes, .int v_length, .int v_end, .int v_at, .int v_start, .int v_kind, .long v_code, .int v_mayName, .int v_value])), (h_bytes, aB E 900 v_bytes)]
def BX7_append_3 (p0 : Int32) (rec3 : (Int32 × Int32 × (Nat → Int32)) → Option (Int32 × (Nat → Int32))) : (Int32 × Int32 × (Nat → Int32)) → Option (Int32 × (Nat → Int32)) := un3 fun (x3_2 : Int32) (x3_length : Int32) (x3_bytes : Nat → Int32) => if x3_2 < 0 then (some (x3_length, x3_bytes)) else (if 900 ≤ x3_length then (some (x3_length, x3_bytes)) else (gd x3_length 900 (rec3 (x3_2 + (-8), x3_length + 1, upd x3_bytes x3_length.toNatClampNeg (vp_nar .byte (((p0.toUInt32 >>> (x3_2.toUInt32 &&& Int32.toUInt32 31)).toInt32).toInt8.toInt32))))))
def fX7_append (N : Nat) (p0 : Int32) (v_length : Int32) (v_bytes : Nat → Int32) : Option (Int32 × (Nat → Int32)) := lp (BX7_append_3 p0) N (24, v_length, v_bytes)
set_option maxHeartbeats 4000000 in
set_option maxRecDepth 100000 in
theorem ctX7_append (l : Launch) (E : EN) (h h_bytes : Nat) (v_length : Int32) (v_end : Int32) (v_at : Int32) (v_start : Int32) (v_kind : Int32) (v_code : Int64) (v_mayName : Int32) (v_value : Int32) (v_bytes : Nat → Int32) (N : Nat) (p0 : Int32) (z : Int32 × (Nat → Int32)) (hf : fX7_append N p0 v_length v_bytes = some z) : CTv l E yX7_append cX7_append 3 0 0 [.ref h, .int p0] (wX7_append E h h_bytes v_length v_end v_at v_start v_kind v_code v_mayName v_value v_bytes) (wX7_append E h h_bytes z.1 v_end v_at v_start v_kind v_code v_mayName v_value z.2) := by
  intro sz
  refine ct_body (by decide) (Nat.le_of_ble_eq_true rfl) ?_
  intro p e s m args below meth c A ls hAe C hr hin hP hD hS hl
  have C : CX p s m args meth c cX7_append RX7 3 E A := C
  have hl : lv_has ls 3 [(0, .ref h), (1, .int p0)] := hl
  have hx := C.1
  have hb := C.2.1
  rw [hAe]
  clear hAe
  obtain ⟨Q, hQ⟩ : ∃ Q, Q = MQ below (Qv E A (wX7_append E h h_bytes z.1 v_end v_at v_start v_kind v_code v_mayName v_value z.2)) args s 0 0 A := ⟨_, rfl⟩
  rw [← hQ]
  unfold fX7_append at hf
  refine lv_bipush (pc := 0) (v := 24) hx hb dX7_append_0 (by decide) ?_
  refine lv_istore_n (pc := 2) (lv' := [(2, .int 24), (0, .ref h), (1, .int p0)]) hx hb dX7_append_2 rfl hl (by decide) rfl (fun ls hl => ?_)
  have key3 : ∀ (n : Nat) (x3_2 : Int32) (x3_length : Int32) (x3_bytes : Nat → Int32) , lp (BX7_append_3 p0) n (x3_2, x3_length, x3_bytes) = some z → AT p l e (rmOf 0 0) s m args below meth c E A Q 0 0 3 [(0, .ref h), (1, .int p0), (2, .int x3_2)] (wX7_append E h h_bytes x3_length v_end v_at v_start v_kind v_code v_mayName v_value x3_bytes) 3 [] := by
    intro n
    induction n with
    | zero => intro x3_2 x3_length x3_bytes hf; exact (lp_0 hf).elim
    | succ n ih3 =>
      intro x3_2 x3_length x3_bytes hf H locs ls hl hP hD hS
      replace hf := lp_s hf
      generalize lp (BX7_append_3 p0) n = rec3 at ih3 hf
      unfold BX7_append_3 at hf
      replace hf := un3_s hf
      refine lv_iload_n (pc := 3) hx hb dX7_append_3 rfl (lv_at hl 2 rfl) ?_
      refine lv_if_lt (pc := 4) (tgt := 46) hx hb dX7_append_4 (by decide) (fun c_4 => ?_) (fun c_4 => ?_)
      · replace hf := it_t c_4 hf
        cases hf
        rw [hQ]
        exact r_vret C hr hP hD hS dX7_append_46
      · replace hf := it_f c_4 hf
        refine lv_aload_n (pc := 7) hx hb dX7_append_7 rfl (lv_at hl 0 rfl) ?_
        refine r_get (pc := 8) C hP 0 rfl fl_X7_15 rfl dX7_append_8 ?_
        refine lv_sipush (pc := 11) (v := 900) hx hb dX7_append_11 (by decide) ?_
        refine lv_icmp_ge (pc := 14) (tgt := 46) hx hb dX7_append_14 (by decide) (fun c_14 => ?_) (fun c_14 => ?_)
        · replace hf := it_t c_14 hf
          cases hf
          rw [hQ]
          exact r_vret C hr hP hD hS dX7_append_46
        · replace hf := it_f c_14 hf
          refine lv_aload_n (pc := 17) hx hb dX7_append_17 rfl (lv_at hl 0 rfl) ?_
          refine r_get (pc := 18) C hP 0 rfl fl_X7_9 rfl dX7_append_18 ?_
          refine lv_aload_n (pc := 21) hx hb dX7_append_21 rfl (lv_at hl 0 rfl) ?_
          refine r_get (pc := 22) C hP 0 rfl fl_X7_15 rfl dX7_append_22 ?_
          refine lv_iload_n (pc := 25) hx hb dX7_append_25 rfl (lv_at hl 1 rfl) ?_
          refine lv_iload_n (pc := 26) hx hb dX7_append_26 rfl (lv_at hl 2 rfl) ?_
          refine lv_iushr (pc := 27) (v := (p0.toUInt32 >>> (x3_2.toUInt32 &&& Int32.toUInt32 31)).toInt32) hx hb dX7_append_27 rfl ?_
          refine lv_i2b (pc := 28) (v := ((p0.toUInt32 >>> (x3_2.toUInt32 &&& Int32.toUInt32 31)).toInt32).toInt8.toInt32) hx hb dX7_append_28 rfl ?_
          obtain ⟨hi_29, hf⟩ := gd_s hf
          refine r_bast (pc := 29) (ws' := (wX7_append E h h_bytes x3_length v_end v_at v_start v_kind v_code v_mayName v_value (upd x3_bytes x3_length.toNatClampNeg (vp_nar .byte (((p0.toUInt32 >>> (x3_2.toUInt32 &&& Int32.toUInt32 31)).toInt32).toInt8.toInt32))))) C hP hD hS 1 rfl hi_29 rfl dX7_append_29 ?_
          clear hP hD hS; intro H locs hP hD hS
          refine lv_aload_n (pc := 30) hx hb dX7_append_30 rfl (lv_at hl 0 rfl) ?_
          refine lv_dup (pc := 31) hx hb dX7_append_31 rfl ?_
          refine r_get (pc := 32) C hP 0 rfl fl_X7_15 rfl dX7_append_32 ?_
          refine lv_iconst (pc := 35) (v := 1) hx hb dX7_append_35 (by decide) ?_
          refine lv_iadd (pc := 36) hx hb dX7_append_36 ?_
          refine r_put (pc := 37) (ws' := (wX7_append E h h_bytes (x3_length + 1) v_end v_at v_start v_kind v_code v_mayName v_value (upd x3_bytes x3_length.toNatClampNeg (vp_nar .byte (((p0.toUInt32 >>> (x3_2.toUInt32 &&& Int32.toUInt32 31)).toInt32).toInt8.toInt32))))) C hP hD hS 0 rfl fl_X7_15 rfl rfl (Nat.le_of_ble_eq_true rfl) rfl dX7_append_37 ?_
          clear hP hD hS; intro H locs hP hD hS
          refine lv_iinc (pc := 40) (v := x3_2 + (-8)) (lv' := [(2, .int (x3_2 + (-8))), (0, .ref h), (1, .int p0)]) hx hb dX7_append_40 hl (k := 2) rfl (congrArg (fun z => x3_2 + z) (by decide)) (by decide) rfl (fun ls hl => ?_)
          refine lv_goto (pc := 43) (tgt := 3) hx hb dX7_append_43 (by decide) ?_
          exact ih3 (x3_2 + (-8)) (x3_length + 1) (upd x3_bytes x3_length.toNatClampNeg (vp_nar .byte (((p0.toUInt32 >>> (x3_2.toUInt32 &&& Int32.toUInt32 31)).toInt32).toInt8.toInt32))) hf _ _ _ (lv_sub hl [1, 2, 0] rfl) hP hD hS
  exact key3 _ 24 v_length v_bytes hf _ _ _ (lv_sub hl [1, 2, 0] rfl) hP hD hS
def wX10_feed (E : EN) (h h_reader h_inn h_chosen h_night h_marks h_notes h_casts h_reader_tape h_reader_names h_reader_sorts h_reader_numbers h_reader_inn h_reader_tape_bytes : Nat) (v_marked : Int32) (v_refusal : Int32) (v_latestFault : Int32) (v_faultPlace : Int32) (v_reader_named : Int32) (v_reader_fault : Int32) (v_reader_number : Int32) (v_reader_tape_length : Int32) (v_reader_tape_end : Int32) (v_reader_tape_at : Int32) (v_reader_tape_start : Int32) (v_reader_tape_kind : Int32) (v_reader_tape_code : Int64) (v_reader_tape_mayName : Int32) (v_reader_tape_value : Int32) (v_reader_tape_bytes : Nat → Int32) : va_W := [(h, .inr (9, [.ref h_reader, .ref h_inn, .ref h_chosen, .ref h_night, .ref h_marks, .int v_marked, .ref h_notes, .ref h_casts, .int v_refusal, .int v_latestFault, .int v_faultPlace])), (h_reader, .inr (6, [.ref h_reader_tape, .ref h_reader_names, .ref h_reader_sorts, .ref h_reader_numbers, .int v_reader_named, .ref h_reader_inn, .int v_reader_fault, .int v_reader_number])), (h_reader_tape, .inr (7, [.ref h_reader_tape_bytes, .int v_reader_tape_length, .int v_reader_tape_end, .int v_reader_tape_at, .int v_reader_tape_start, .int v_reader_tape_kind, .long v_reader_tape_code, .int v_reader_tape_mayName, .int v_reader_tape_value])), (h_reader_tape_bytes, aB E 900 v_reader_tape_bytes)]
def fX10_feed (N : Nat) (p0 : Int32) (p1 : Int32) (p2 : Int32) (p3 : Int32) (p4 : Int32) (v_reader_tape_length : Int32) (v_reader_tape_bytes : Nat → Int32) : Option (Int32 × Int32 × (Nat → Int32)) := if (v_reader_tape_length + 20) ≤ 900 then ((fX7_append N p0 v_reader_tape_length v_reader_tape_bytes).bind (un2 fun (v_reader_tape_length_28 : Int32) (v_reader_tape_bytes_28 : Nat → Int32) => (fX7_append N p1 v_reader_tape_length_28 v_reader_tape_bytes_28).bind (un2 fun (v_reader_tape_length_34 : Int32) (v_reader_tape_bytes_34 : Nat → Int32) => (fX7_append N p2 v_reader_tape_length_34 v_reader_tape_bytes_34).bind (un2 fun (v_reader_tape_length_40 : Int32) (v_reader_tape_bytes_40 : Nat → Int32) => (fX7_append N p3 v_reader_tape_length_40 v_reader_tape_bytes_40).bind (un2 fun (v_reader_tape_length_47 : Int32) (v_reader_tape_bytes_47 : Nat → Int32) => (fX7_append N p4 v_reader_tape_length_47 v_reader_tape_bytes_47).bind (un2 fun (v_reader_tape_length_54 : Int32) (v_reader_tape_bytes_54 : Nat → Int32) => some (v_reader_tape_length_54, v_reader_tape_length_54, v_reader_tape_bytes_54))))))) else (some ((-1), v_reader_tape_length, v_reader_tape_bytes))
set_option maxHeartbeats 4000000 in
set_option maxRecDepth 100000 in
theorem ctX10_feed (l : Launch) (E : EN) (h h_reader h_inn h_chosen h_night h_marks h_notes h_casts h_reader_tape h_reader_names h_reader_sorts h_reader_numbers h_reader_inn h_reader_tape_bytes : Nat) (v_marked : Int32) (v_refusal : Int32) (v_latestFault : Int32) (v_faultPlace : Int32) (v_reader_named : Int32) (v_reader_fault : Int32) (v_reader_number : Int32) (v_reader_tape_length : Int32) (v_reader_tape_end : Int32) (v_reader_tape_at : Int32) (v_reader_tape_start : Int32) (v_reader_tape_kind : Int32) (v_reader_tape_code : Int64) (v_reader_tape_mayName : Int32) (v_reader_tape_value : Int32) (v_reader_tape_bytes : Nat → Int32) (N : Nat) (p0 : Int32) (p1 : Int32) (p2 : Int32) (p3 : Int32) (p4 : Int32) (z : Int32 × Int32 × (Nat → Int32)) (hf : fX10_feed N p0 p1 p2 p3 p4 v_reader_tape_length v_reader_tape_bytes = some z) : CTi l E yX10_feed cX10_feed 7 .int 1 22 [.ref h, .int p0, .int p1, .int p2, .int p3, .int p4] (wX10_feed E h h_reader h_inn h_chosen h_night h_marks h_notes h_casts h_reader_tape h_reader_names h_reader_sorts h_reader_numbers h_reader_inn h_reader_tape_bytes v_marked v_refusal v_latestFault v_faultPlace v_reader_named v_reader_fault v_reader_number v_reader_tape_length v_reader_tape_end v_reader_tape_at v_reader_tape_start v_reader_tape_kind v_reader_tape_code v_reader_tape_mayName v_reader_tape_value v_reader_tape_bytes) (z.1) (wX10_feed E h h_reader h_inn h_chosen h_night h_marks h_notes h_casts h_reader_tape h_reader_names h_reader_sorts h_reader_numbers h_reader_inn h_reader_tape_bytes v_marked v_refusal v_latestFault v_faultPlace v_reader_named v_reader_fault v_reader_number z.2.1 v_reader_tape_end v_reader_tape_at v_reader_tape_start v_reader_tape_kind v_reader_tape_code v_reader_tape_mayName v_reader_tape_value z.2.2) := by
  intro sz
  refine ct_body (by decide) (Nat.le_of_ble_eq_true rfl) ?_
  intro p e s m args below meth c A ls hAe C hr hin hP hD hS hl
  have C : CX p s m args meth c cX10_feed RX10 7 E A := C
  have hl : lv_has ls 7 [(0, .ref h), (1, .int p0), (2, .int p1), (3, .int p2), (4, .int p3), (5, .int p4)] := hl
  have hx := C.1
  have hb := C.2.1
  rw [hAe]
  clear hAe
  obtain ⟨Q, hQ⟩ : ∃ Q, Q = MQ below (Qi E A (z.1) (wX10_feed E h h_reader h_inn h_chosen h_night h_marks h_notes h_casts h_reader_tape h_reader_names h_reader_sorts h_reader_numbers h_reader_inn h_reader_tape_bytes v_marked v_refusal v_latestFault v_faultPlace v_reader_named v_reader_fault v_reader_number z.2.1 v_reader_tape_end v_reader_tape_at v_reader_tape_start v_reader_tape_kind v_reader_tape_code v_reader_tape_mayName v_reader_tape_value z.2.2)) args s 0 0 A := ⟨_, rfl⟩
  rw [← hQ]
  unfold fX10_feed at hf
  refine lv_aload_n (pc := 0) hx hb dX10_feed_0 rfl (lv_at hl 0 rfl) ?_
  refine r_get (pc := 1) C hP 0 rfl fl_X10_12 rfl dX10_feed_1 ?_
  refine r_get (pc := 4) C hP 1 rfl fl_X10_54 rfl dX10_feed_4 ?_
  refine lv_astore (pc := 7) (lv' := [(6, .ref h_reader_tape), (0, .ref h), (1, .int p0), (2, .int p1), (3, .int p2), (4, .int p3), (5, .int p4)]) hx hb dX10_feed_7 hl (by decide) rfl (fun ls hl => ?_)
  refine lv_aload (pc := 9) hx hb dX10_feed_9 (lv_at hl 0 rfl) ?_
  refine r_get (pc := 11) C hP 2 rfl fl_X10_58 rfl dX10_feed_11 ?_
  refine lv_bipush (pc := 14) (v := 20) hx hb dX10_feed_14 (by decide) ?_
  refine lv_iadd (pc := 16) hx hb dX10_feed_16 ?_
  refine lv_sipush (pc := 17) (v := 900) hx hb dX10_feed_17 (by decide) ?_
  refine lv_icmp_le (pc := 20) (tgt := 25) hx hb dX10_feed_20 (by decide) (fun c_20 => ?_) (fun c_20 => ?_)
  · replace hf := it_t c_20 hf
    refine lv_aload (pc := 25) hx hb dX10_feed_25 (lv_at hl 0 rfl) ?_
    refine lv_iload_n (pc := 27) hx hb dX10_feed_27 rfl (lv_at hl 2 rfl) ?_
    obtain ⟨v_reader_tape_length_28, v_reader_tape_bytes_28, hc_28, hf⟩ := bd2 hf
    refine r_dalVv (pc := 28) (ws' := (wX10_feed E h h_reader h_inn h_chosen h_night h_marks h_notes h_casts h_reader_tape h_reader_names h_reader_sorts h_reader_numbers h_reader_inn h_reader_tape_bytes v_marked v_refusal v_latestFault v_faultPlace v_reader_named v_reader_fault v_reader_number v_reader_tape_length_28 v_reader_tape_end v_reader_tape_at v_reader_tape_start v_reader_tape_kind v_reader_tape_code v_reader_tape_mayName v_reader_tape_value v_reader_tape_bytes_28)) (As := [.int p0]) (rest := []) C (ctX7_append l E h_reader_tape h_reader_tape_bytes v_reader_tape_length v_reader_tape_end v_reader_tape_at v_reader_tape_start v_reader_tape_kind v_reader_tape_code v_reader_tape_mayName v_reader_tape_value v_reader_tape_bytes N p0 (v_reader_tape_length_28, v_reader_tape_bytes_28) hc_28) ml_X10_64 ⟨Nat.le_of_ble_eq_true rfl, Nat.le_of_ble_eq_true rfl⟩ hP hD hS 2 rfl rfl rfl [2, 3] [0, 1, 4, 5] 4 rfl rfl rfl rfl rfl rfl rfl hl.1 rfl (Nat.le_of_ble_eq_true rfl) ⟨Nat.zero_le _, Nat.zero_le _⟩ dX10_feed_28 ?_
    clear hP hD hS; intro H locs hP hD hS
    refine lv_aload (pc := 31) hx hb dX10_feed_31 (lv_at hl 0 rfl) ?_
    refine lv_iload_n (pc := 33) hx hb dX10_feed_33 rfl (lv_at hl 3 rfl) ?_
    obtain ⟨v_reader_tape_length_34, v_reader_tape_bytes_34, hc_34, hf⟩ := bd2 hf
    refine r_dalVv (pc := 34) (ws' := (wX10_feed E h h_reader h_inn h_chosen h_night h_marks h_notes h_casts h_reader_tape h_reader_names h_reader_sorts h_reader_numbers h_reader_inn h_reader_tape_bytes v_marked v_refusal v_latestFault v_faultPlace v_reader_named v_reader_fault v_reader_number v_reader_tape_length_34 v_reader_tape_end v_reader_tape_at v_reader_tape_start v_reader_tape_kind v_reader_tape_code v_reader_tape_mayName v_reader_tape_value v_reader_tape_bytes_34)) (As := [.int p1]) (rest := []) C (ctX7_append l E h_reader_tape h_reader_tape_bytes v_reader_tape_length_28 v_reader_tape_end v_reader_tape_at v_reader_tape_start v_reader_tape_kind v_reader_tape_code v_reader_tape_mayName v_reader_tape_value v_reader_tape_bytes_28 N p1 (v_reader_tape_length_34, v_reader_tape_bytes_34) hc_34) ml_X10_64 ⟨Nat.le_of_ble_eq_true rfl, Nat.le_of_ble_eq_true rfl⟩ hP hD hS 2 rfl rfl rfl [2, 3] [0, 1, 4, 5] 4 rfl rfl rfl rfl rfl rfl rfl hl.1 rfl (Nat.le_of_ble_eq_true rfl) ⟨Nat.zero_le _, Nat.zero_le _⟩ dX10_feed_34 ?_
    clear hP hD hS; intro H locs hP hD hS
    refine lv_aload (pc := 37) hx hb dX10_feed_37 (lv_at hl 0 rfl) ?_
    refine lv_iload_n (pc := 39) hx hb dX10_feed_39 rfl (lv_at hl 4 rfl) ?_
    obtain ⟨v_reader_tape_length_40, v_reader_tape_bytes_40, hc_40, hf⟩ := bd2 hf
    refine r_dalVv (pc := 40) (ws' := (wX10_feed E h h_reader h_inn h_chosen h_night h_marks h_notes h_casts h_reader_tape h_reader_names h_reader_sorts h_reader_numbers h_reader_inn h_reader_tape_bytes v_marked v_refusal v_latestFault v_faultPlace v_reader_named v_reader_fault v_reader_number v_reader_tape_length_40 v_reader_tape_end v_reader_tape_at v_reader_tape_start v_reader_tape_kind v_reader_tape_code v_reader_tape_mayName v_reader_tape_value v_reader_tape_bytes_40)) (As := [.int p2]) (rest := []) C (ctX7_append l E h_reader_tape h_reader_tape_bytes v_reader_tape_length_34 v_reader_tape_end v_reader_tape_at v_reader_tape_start v_reader_tape_kind v_reader_tape_code v_reader_tape_mayName v_reader_tape_value v_reader_tape_bytes_34 N p2 (v_reader_tape_length_40, v_reader_tape_bytes_40) hc_40) ml_X10_64 ⟨Nat.le_of_ble_eq_true rfl, Nat.le_of_ble_eq_true rfl⟩ hP hD hS 2 rfl rfl rfl [2, 3] [0, 1, 4, 5] 4 rfl rfl rfl rfl rfl rfl rfl hl.1 rfl (Nat.le_of_ble_eq_true rfl) ⟨Nat.zero_le _, Nat.zero_le _⟩ dX10_feed_40 ?_
    clear hP hD hS; intro H locs hP hD hS
    refine lv_aload (pc := 43) hx hb dX10_feed_43 (lv_at hl 0 rfl) ?_
    refine lv_iload (pc := 45) hx hb dX10_feed_45 (lv_at hl 5 rfl) ?_
    obtain ⟨v_reader_tape_length_47, v_reader_tape_bytes_47, hc_47, hf⟩ := bd2 hf
    refine r_dalVv (pc := 47) (ws' := (wX10_feed E h h_reader h_inn h_chosen h_night h_marks h_notes h_casts h_reader_tape h_reader_names h_reader_sorts h_reader_numbers h_reader_inn h_reader_tape_bytes v_marked v_refusal v_latestFault v_faultPlace v_reader_named v_reader_fault v_reader_number v_reader_tape_length_47 v_reader_tape_end v_reader_tape_at v_reader_tape_start v_reader_tape_kind v_reader_tape_code v_reader_tape_mayName v_reader_tape_value v_reader_tape_bytes_47)) (As := [.int p3]) (rest := []) C (ctX7_append l E h_reader_tape h_reader_tape_bytes v_reader_tape_length_40 v_reader_tape_end v_reader_tape_at v_reader_tape_start v_reader_tape_kind v_reader_tape_code v_reader_tape_mayName v_reader_tape_value v_reader_tape_bytes_40 N p3 (v_reader_tape_length_47, v_reader_tape_bytes_47) hc_47) ml_X10_64 ⟨Nat.le_of_ble_eq_true rfl, Nat.le_of_ble_eq_true rfl⟩ hP hD hS 2 rfl rfl rfl [2, 3] [0, 1, 4, 5] 4 rfl rfl rfl rfl rfl rfl rfl hl.1 rfl (Nat.le_of_ble_eq_true rfl) ⟨Nat.zero_le _, Nat.zero_le _⟩ dX10_feed_47 ?_
    clear hP hD hS; intro H locs hP hD hS
    refine lv_aload (pc := 50) hx hb dX10_feed_50 (lv_at hl 0 rfl) ?_
    refine lv_iload (pc := 52) hx hb dX10_feed_52 (lv_at hl 6 rfl) ?_
    obtain ⟨v_reader_tape_length_54, v_reader_tape_bytes_54, hc_54, hf⟩ := bd2 hf
    refine r_dalVv (pc := 54) (ws' := (wX10_feed E h h_reader h_inn h_chosen h_night h_marks h_notes h_casts h_reader_tape h_reader_names h_reader_sorts h_reader_numbers h_reader_inn h_reader_tape_bytes v_marked v_refusal v_latestFault v_faultPlace v_reader_named v_reader_fault v_reader_number v_reader_tape_length_54 v_reader_tape_end v_reader_tape_at v_reader_tape_start v_reader_tape_kind v_reader_tape_code v_reader_tape_mayName v_reader_tape_value v_reader_tape_bytes_54)) (As := [.int p4]) (rest := []) C (ctX7_append l E h_reader_tape h_reader_tape_bytes v_reader_tape_length_47 v_reader_tape_end v_reader_tape_at v_reader_tape_start v_reader_tape_kind v_reader_tape_code v_reader_tape_mayName v_reader_tape_value v_reader_tape_bytes_47 N p4 (v_reader_tape_length_54, v_reader_tape_bytes_54) hc_54) ml_X10_64 ⟨Nat.le_of_ble_eq_true rfl, Nat.le_of_ble_eq_true rfl⟩ hP hD hS 2 rfl rfl rfl [2, 3] [0, 1, 4, 5] 4 rfl rfl rfl rfl rfl rfl rfl hl.1 rfl (Nat.le_of_ble_eq_true rfl) ⟨Nat.zero_le _, Nat.zero_le _⟩ dX10_feed_54 ?_
    clear hP hD hS; intro H locs hP hD hS
    refine lv_aload (pc := 57) hx hb dX10_feed_57 (lv_at hl 0 rfl) ?_
    refine r_get (pc := 59) C hP 2 rfl fl_X10_58 rfl dX10_feed_59 ?_
    cases hf
    rw [hQ]
    exact r_iret C hr hP hD hS rfl dX10_feed_62
  · replace hf := it_f c_20 hf
    refine lv_iconst (pc := 23) (v := (-1)) hx hb dX10_feed_23 (by decide) ?_
    cases hf
    rw [hQ]
    exact r_iret C hr hP hD hS rfl dX10_feed_24
def wX10_refuse (E : EN) (h h_reader h_inn h_chosen h_night h_marks h_notes h_casts : Nat) (v_marked : Int32) (v_refusal : Int32) (v_latestFault : Int32) (v_faultPlace : Int32) : va_W := [(h, .inr (9, [.ref h_reader, .ref h_inn, .ref h_chosen, .ref h_night, .ref h_marks, .int v_marked, .ref h_notes, .ref h_casts, .int v_refusal, .int v_latestFault, .int v_faultPlace]))]
def fX10_refuse (N : Nat) (p0 : Int32) : Option (Int32 × Int32) := some ((-1), p0)
set_option maxHeartbeats 4000000 in
set_option maxRecDepth 100000 in
theorem ctX10_refuse (l : Launch) (E : EN) (h h_reader h_inn h_chosen h_night h_marks h_notes h_casts : Nat) (v_marked : Int32) (v_refusal : Int32) (v_latestFault : Int32) (v_faultPlace : Int32) (N : Nat) (p0 : Int32) (z : Int32 × Int32) (hf : fX10_refuse N p0 = some z) : CTi l E yX10_refuse cX10_refuse 2 .int 0 0 [.ref h, .int p0] (wX10_refuse E h h_reader h_inn h_chosen h_night h_marks h_notes h_casts v_marked v_refusal v_latestFault v_faultPlace) (z.1) (wX10_refuse E h h_reader h_inn h_chosen h_night h_marks h_notes h_casts v_marked z.2 v_latestFault v_faultPlace) := by
  intro sz
  refine ct_body (by decide) (Nat.le_of_ble_eq_true rfl) ?_
  intro p e s m args below meth c A ls hAe C hr hin hP hD hS hl
  have C : CX p s m args meth c cX10_refuse RX10 2 E A := C
  have hl : lv_has ls 2 [(0, .ref h), (1, .int p0)] := hl
  have hx := C.1
  have hb := C.2.1
  rw [hAe]
  clear hAe
  obtain ⟨Q, hQ⟩ : ∃ Q, Q = MQ below (Qi E A (z.1) (wX10_refuse E h h_reader h_inn h_chosen h_night h_marks h_notes h_casts v_marked z.2 v_latestFault v_faultPlace)) args s 0 0 A := ⟨_, rfl⟩
  rw [← hQ]
  unfold fX10_refuse at hf
  refine lv_aload_n (pc := 0) hx hb dX10_refuse_0 rfl (lv_at hl 0 rfl) ?_
  refine lv_iload_n (pc := 1) hx hb dX10_refuse_1 rfl (lv_at hl 1 rfl) ?_
  refine r_put (pc := 2) (ws' := (wX10_refuse E h h_reader h_inn h_chosen h_night h_marks h_notes h_casts v_marked p0 v_latestFault v_faultPlace)) C hP hD hS 0 rfl fl_X10_98 rfl rfl (Nat.le_of_ble_eq_true rfl) rfl dX10_refuse_2 ?_
  clear hP hD hS; intro H locs hP hD hS
  refine lv_iconst (pc := 5) (v := (-1)) hx hb dX10_refuse_5 (by decide) ?_
  cases hf
  rw [hQ]
  exact r_iret C hr hP hD hS rfl dX10_refuse_6
def wJ7_fill_53178 (E : EN) (a0 : Nat) (v_a0 : Nat → Int32) : va_W := [(a0, aI E 64 v_a0)]
def BJ7_fill_53178_5 (p1 : Int32) (rec5 : (Int32 × (Nat → Int32)) → Option (Nat → Int32)) : (Int32 × (Nat → Int32)) → Option (Nat → Int32) := un2 fun (x5_2 : Int32) (x5_a0 : Nat → Int32) => if 64 ≤ x5_2 then (some x5_a0) else (gd x5_2 64 (rec5 (x5_2 + 1, upd x5_a0 x5_2.toNatClampNeg p1)))
def fJ7_fill_53178 (N : Nat) (p1 : Int32) (v_a0 : Nat → Int32) : Option (Nat → Int32) := lp (BJ7_fill_53178_5 p1) N (0, v_a0)
set_option maxHeartbeats 4000000 in
set_option maxRecDepth 100000 in
theorem ctJ7_fill_53178 (l : Launch) (E : EN) (a0 : Nat) (v_a0 : Nat → Int32) (N : Nat) (p1 : Int32) (z : Nat → Int32) (hf : fJ7_fill_53178 N p1 v_a0 = some z) : CTv l E yJ7_fill_53178 cJ7_fill_53178 4 0 0 [.ref a0, .int p1] (wJ7_fill_53178 E a0 v_a0) (wJ7_fill_53178 E a0 z) := by
  intro sz
  refine ct_body (by decide) (Nat.le_of_ble_eq_true rfl) ?_
  intro p e s m args below meth c A ls hAe C hr hin hP hD hS hl
  have C : CX p s m args meth c cJ7_fill_53178 RJ7 4 E A := C
  have hl : lv_has ls 4 [(0, .ref a0), (1, .int p1)] := hl
  have hx := C.1
  have hb := C.2.1
  rw [hAe]
  clear hAe
  obtain ⟨Q, hQ⟩ : ∃ Q, Q = MQ below (Qv E A (wJ7_fill_53178 E a0 z)) args s 0 0 A := ⟨_, rfl⟩
  rw [← hQ]
  unfold fJ7_fill_53178 at hf
  refine lv_iconst (pc := 0) (v := 0) hx hb dJ7_fill_53178_0 (by decide) ?_
  refine lv_istore_n (pc := 1) (lv' := [(2, .int 0), (0, .ref a0), (1, .int p1)]) hx hb dJ7_fill_53178_1 rfl hl (by decide) rfl (fun ls hl => ?_)
  refine lv_aload_n (pc := 2) hx hb dJ7_fill_53178_2 rfl (lv_at hl 1 rfl) ?_
  refine r_alen (pc := 3) (v := 64) C hP 0 rfl (by decide) dJ7_fill_53178_3 ?_
  refine lv_istore_n (pc := 4) (lv' := [(3, .int 64), (2, .int 0), (0, .ref a0), (1, .int p1)]) hx hb dJ7_fill_53178_4 rfl hl (by decide) rfl (fun ls hl => ?_)
  have key5 : ∀ (n : Nat) (x5_2 : Int32) (x5_a0 : Nat → Int32) , lp (BJ7_fill_53178_5 p1) n (x5_2, x5_a0) = some z → AT p l e (rmOf 0 0) s m args below meth c E A Q 0 0 4 [(0, .ref a0), (1, .int p1), (2, .int x5_2), (3, .int 64)] (wJ7_fill_53178 E a0 x5_a0) 5 [] := by
    intro n
    induction n with
    | zero => intro x5_2 x5_a0 hf; exact (lp_0 hf).elim
    | succ n ih5 =>
      intro x5_2 x5_a0 hf H locs ls hl hP hD hS
      replace hf := lp_s hf
      generalize lp (BJ7_fill_53178_5 p1) n = rec5 at ih5 hf
      unfold BJ7_fill_53178_5 at hf
      replace hf := un2_s hf
      refine lv_iload_n (pc := 5) hx hb dJ7_fill_53178_5 rfl (lv_at hl 2 rfl) ?_
      refine lv_iload_n (pc := 6) hx hb dJ7_fill_53178_6 rfl (lv_at hl 3 rfl) ?_
      refine lv_icmp_ge (pc := 7) (tgt := 20) hx hb dJ7_fill_53178_7 (by decide) (fun c_7 => ?_) (fun c_7 => ?_)
      · replace hf := it_t c_7 hf
        cases hf
        rw [hQ]
        exact r_vret C hr hP hD hS dJ7_fill_53178_20
      · replace hf := it_f c_7 hf
        refine lv_aload_n (pc := 10) hx hb dJ7_fill_53178_10 rfl (lv_at hl 0 rfl) ?_
        refine lv_iload_n (pc := 11) hx hb dJ7_fill_53178_11 rfl (lv_at hl 2 rfl) ?_
        refine lv_iload_n (pc := 12) hx hb dJ7_fill_53178_12 rfl (lv_at hl 1 rfl) ?_
        obtain ⟨hi_13, hf⟩ := gd_s hf
        refine r_iast (pc := 13) (ws' := (wJ7_fill_53178 E a0 (upd x5_a0 x5_2.toNatClampNeg p1))) C hP hD hS 0 rfl hi_13 rfl dJ7_fill_53178_13 ?_
        clear hP hD hS; intro H locs hP hD hS
        refine lv_iinc (pc := 14) (v := x5_2 + 1) (lv' := [(2, .int (x5_2 + 1)), (0, .ref a0), (1, .int p1), (3, .int 64)]) hx hb dJ7_fill_53178_14 hl (k := 2) rfl rfl (by decide) rfl (fun ls hl => ?_)
        refine lv_goto (pc := 17) (tgt := 5) hx hb dJ7_fill_53178_17 (by decide) ?_
        exact ih5 (x5_2 + 1) (upd x5_a0 x5_2.toNatClampNeg p1) hf _ _ _ (lv_sub hl [1, 2, 0, 3] rfl) hP hD hS
  exact key5 _ 0 v_a0 hf _ _ _ (lv_sub hl [2, 3, 1, 0] rfl) hP hD hS
def wX2_clear (E : EN) (h h_house h_thingIn h_full h_states h_bed h_dreamOf h_listensIn h_house_creak h_house_cold h_house_one h_house_other h_house_how h_house_falls h_house_ways : Nat) (v_minutes : Int32) (v_things : Int32) (v_dreams : Int32) (v_sleepers : Int32) (v_listeners : Int32) (v_house_rooms : Int32) (v_house_doors : Int32) (v_states : Nat → Int32) : va_W := [(h, .inr (2, [.ref h_house, .int v_minutes, .int v_things, .ref h_thingIn, .ref h_full, .int v_dreams, .ref h_states, .int v_sleepers, .ref h_bed, .ref h_dreamOf, .int v_listeners, .ref h_listensIn])), (h_house, .inr (1, [.int v_house_rooms, .ref h_house_creak, .ref h_house_cold, .int v_house_doors, .ref h_house_one, .ref h_house_other, .ref h_house_how, .ref h_house_falls, .ref h_house_ways])), (h_states, aI E 64 v_states)]
def fX2_clear (N : Nat) (v_states : Nat → Int32) : Option (Int32 × Int32 × Int32 × Int32 × Int32 × Int32 × Int32 × (Nat → Int32)) := (fJ7_fill_53178 N (-1) v_states).bind (un1 fun (v_states_36 : Nat → Int32) => some (0, 0, 0, 0, 0, 0, 0, v_states_36))
set_option maxHeartbeats 4000000 in
set_option maxRecDepth 100000 in
theorem ctX2_clear (l : Launch) (E : EN) (h h_house h_thingIn h_full h_states h_bed h_dreamOf h_listensIn h_house_creak h_house_cold h_house_one h_house_other h_house_how h_house_falls h_house_ways : Nat) (v_minutes : Int32) (v_things : Int32) (v_dreams : Int32) (v_sleepers : Int32) (v_listeners : Int32) (v_house_rooms : Int32) (v_house_doors : Int32) (v_states : Nat → Int32) (N : Nat) (z : Int32 × Int32 × Int32 × Int32 × Int32 × Int32 × Int32 × (Nat → Int32)) (hf : fX2_clear N v_states = some z) : CTv l E yX2_clear cX2_clear 1 1 23 [.ref h] (wX2_clear E h h_house h_thingIn h_full h_states h_bed h_dreamOf h_listensIn h_house_creak h_house_cold h_house_one h_house_other h_house_how h_house_falls h_house_ways v_minutes v_things v_dreams v_sleepers v_listeners v_house_rooms v_house_doors v_states) (wX2_clear E h h_house h_thingIn h_full h_states h_bed h_dreamOf h_listensIn h_house_creak h_house_cold h_house_one h_house_other h_house_how h_house_falls h_house_ways z.1 z.2.1 z.2.2.1 z.2.2.2.1 z.2.2.2.2.1 z.2.2.2.2.2.1 z.2.2.2.2.2.2.1 z.2.2.2.2.2.2.2) := by
  intro sz
  refine ct_body (by decide) (Nat.le_of_ble_eq_true rfl) ?_
  intro p e s m args below meth c A ls hAe C hr hin hP hD hS hl
  have C : CX p s m args meth c cX2_clear RX2 1 E A := C
  have hl : lv_has ls 1 [(0, .ref h)] := hl
  have hx := C.1
  have hb := C.2.1
  rw [hAe]
  clear hAe
  obtain ⟨Q, hQ⟩ : ∃ Q, Q = MQ below (Qv E A (wX2_clear E h h_house h_thingIn h_full h_states h_bed h_dreamOf h_listensIn h_house_creak h_house_cold h_house_one h_house_other h_house_how h_house_falls h_house_ways z.1 z.2.1 z.2.2.1 z.2.2.2.1 z.2.2.2.2.1 z.2.2.2.2.2.1 z.2.2.2.2.2.2.1 z.2.2.2.2.2.2.2)) args s 0 0 A := ⟨_, rfl⟩
  rw [← hQ]
  unfold fX2_clear at hf
  refine lv_aload_n (pc := 0) hx hb dX2_clear_0 rfl (lv_at hl 0 rfl) ?_
  refine r_get (pc := 1) C hP 0 rfl fl_X2_12 rfl dX2_clear_1 ?_
  refine lv_iconst (pc := 4) (v := 0) hx hb dX2_clear_4 (by decide) ?_
  refine r_put (pc := 5) (ws' := (wX2_clear E h h_house h_thingIn h_full h_states h_bed h_dreamOf h_listensIn h_house_creak h_house_cold h_house_one h_house_other h_house_how h_house_falls h_house_ways v_minutes v_things v_dreams v_sleepers v_listeners 0 v_house_doors v_states)) C hP hD hS 1 rfl fl_X2_38 rfl rfl (Nat.le_of_ble_eq_true rfl) rfl dX2_clear_5 ?_
  clear hP hD hS; intro H locs hP hD hS
  refine lv_aload_n (pc := 8) hx hb dX2_clear_8 rfl (lv_at hl 0 rfl) ?_
  refine r_get (pc := 9) C hP 0 rfl fl_X2_12 rfl dX2_clear_9 ?_
  refine lv_iconst (pc := 12) (v := 0) hx hb dX2_clear_12 (by decide) ?_
  refine r_put (pc := 13) (ws' := (wX2_clear E h h_house h_thingIn h_full h_states h_bed h_dreamOf h_listensIn h_house_creak h_house_cold h_house_one h_house_other h_house_how h_house_falls h_house_ways v_minutes v_things v_dreams v_sleepers v_listeners 0 0 v_states)) C hP hD hS 1 rfl fl_X2_42 rfl rfl (Nat.le_of_ble_eq_true rfl) rfl dX2_clear_13 ?_
  clear hP hD hS; intro H locs hP hD hS
  refine lv_aload_n (pc := 16) hx hb dX2_clear_16 rfl (lv_at hl 0 rfl) ?_
  refine lv_iconst (pc := 17) (v := 0) hx hb dX2_clear_17 (by decide) ?_
  refine r_put (pc := 18) (ws' := (wX2_clear E h h_house h_thingIn h_full h_states h_bed h_dreamOf h_listensIn h_house_creak h_house_cold h_house_one h_house_other h_house_how h_house_falls h_house_ways 0 v_things v_dreams v_sleepers v_listeners 0 0 v_states)) C hP hD hS 0 rfl fl_X2_45 rfl rfl (Nat.le_of_ble_eq_true rfl) rfl dX2_clear_18 ?_
  clear hP hD hS; intro H locs hP hD hS
  refine lv_aload_n (pc := 21) hx hb dX2_clear_21 rfl (lv_at hl 0 rfl) ?_
  refine lv_iconst (pc := 22) (v := 0) hx hb dX2_clear_22 (by decide) ?_
  refine r_put (pc := 23) (ws' := (wX2_clear E h h_house h_thingIn h_full h_states h_bed h_dreamOf h_listensIn h_house_creak h_house_cold h_house_one h_house_other h_house_how h_house_falls h_house_ways 0 0 v_dreams v_sleepers v_listeners 0 0 v_states)) C hP hD hS 0 rfl fl_X2_48 rfl rfl (Nat.le_of_ble_eq_true rfl) rfl dX2_clear_23 ?_
  clear hP hD hS; intro H locs hP hD hS
  refine lv_aload_n (pc := 26) hx hb dX2_clear_26 rfl (lv_at hl 0 rfl) ?_
  refine lv_iconst (pc := 27) (v := 0) hx hb dX2_clear_27 (by decide) ?_
  refine r_put (pc := 28) (ws' := (wX2_clear E h h_house h_thingIn h_full h_states h_bed h_dreamOf h_listensIn h_house_creak h_house_cold h_house_one h_house_other h_house_how h_house_falls h_house_ways 0 0 0 v_sleepers v_listeners 0 0 v_states)) C hP hD hS 0 rfl fl_X2_51 rfl rfl (Nat.le_of_ble_eq_true rfl) rfl dX2_clear_28 ?_
  clear hP hD hS; intro H locs hP hD hS
  refine lv_aload_n (pc := 31) hx hb dX2_clear_31 rfl (lv_at hl 0 rfl) ?_
  refine r_get (pc := 32) C hP 0 rfl fl_X2_26 rfl dX2_clear_32 ?_
  refine lv_iconst (pc := 35) (v := (-1)) hx hb dX2_clear_35 (by decide) ?_
  obtain ⟨v_states_36, hc_36, hf⟩ := bd1 hf
  refine r_dalSv (pc := 36) (Cn := "") (h := 0) (ws' := (wX2_clear E h h_house h_thingIn h_full h_states h_bed h_dreamOf h_listensIn h_house_creak h_house_cold h_house_one h_house_other h_house_how h_house_falls h_house_ways 0 0 0 v_sleepers v_listeners 0 0 v_states_36)) (As := [.ref h_states, .int (-1)]) (rest := []) C (ctJ7_fill_53178 l E h_states v_states N (-1) v_states_36 hc_36) ml_X2_54 ⟨Nat.le_of_ble_eq_true rfl, Nat.le_of_ble_eq_true rfl⟩ hP hD hS [2] [0, 1, 3] 3 rfl rfl rfl rfl rfl rfl rfl hl.1 rfl (Nat.le_of_ble_eq_true rfl) ⟨Nat.zero_le _, Nat.zero_le _⟩ dX2_clear_36 ?_
  clear hP hD hS; intro H locs hP hD hS
  refine lv_aload_n (pc := 39) hx hb dX2_clear_39 rfl (lv_at hl 0 rfl) ?_
  refine lv_iconst (pc := 40) (v := 0) hx hb dX2_clear_40 (by decide) ?_
  refine r_put (pc := 41) (ws' := (wX2_clear E h h_house h_thingIn h_full h_states h_bed h_dreamOf h_listensIn h_house_creak h_house_cold h_house_one h_house_other h_house_how h_house_falls h_house_ways 0 0 0 0 v_listeners 0 0 v_states_36)) C hP hD hS 0 rfl fl_X2_60 rfl rfl (Nat.le_of_ble_eq_true rfl) rfl dX2_clear_41 ?_
  clear hP hD hS; intro H locs hP hD hS
  refine lv_aload_n (pc := 44) hx hb dX2_clear_44 rfl (lv_at hl 0 rfl) ?_
  refine lv_iconst (pc := 45) (v := 0) hx hb dX2_clear_45 (by decide) ?_
  refine r_put (pc := 46) (ws' := (wX2_clear E h h_house h_thingIn h_full h_states h_bed h_dreamOf h_listensIn h_house_creak h_house_cold h_house_one h_house_other h_house_how h_house_falls h_house_ways 0 0 0 0 0 0 0 v_states_36)) C hP hD hS 0 rfl fl_X2_63 rfl rfl (Nat.le_of_ble_eq_true rfl) rfl dX2_clear_46 ?_
  clear hP hD hS; intro H locs hP hD hS
  cases hf
  rw [hQ]
  exact r_vret C hr hP hD hS dX2_clear_49
def wX7_isLetter (E : EN) : va_W := []
def fX7_isLetter (N : Nat) (p0 : Int32) : Option Int32 := jn (un0 (some 0)) (fun j16 => if p0 < 97 then (j16 ()) else (if 122 < p0 then (j16 ()) else (some 1)))
set_option maxHeartbeats 4000000 in
set_option maxRecDepth 100000 in
theorem ctX7_isLetter (l : Launch) (E : EN) (N : Nat) (p0 : Int32) (z : Int32) (hf : fX7_isLetter N p0 = some z) : CTi l E yX7_isLetter cX7_isLetter 1 .boolean 0 0 [.int p0] (wX7_isLetter E) (z) (wX7_isLetter E) := by
  intro sz
  refine ct_body (by decide) (Nat.le_of_ble_eq_true rfl) ?_
  intro p e s m args below meth c A ls hAe C hr hin hP hD hS hl
  have C : CX p s m args meth c cX7_isLetter RX7 1 E A := C
  have hl : lv_has ls 1 [(0, .int p0)] := hl
  have hx := C.1
  have hb := C.2.1
  rw [hAe]
  clear hAe
  obtain ⟨Q, hQ⟩ : ∃ Q, Q = MQ below (Qi E A (z) (wX7_isLetter E)) args s 0 0 A := ⟨_, rfl⟩
  rw [← hQ]
  unfold fX7_isLetter at hf
  refine lv_iload_n (pc := 0) hx hb dX7_isLetter_0 rfl (lv_at hl 0 rfl) ?_
  refine lv_bipush (pc := 1) (v := 97) hx hb dX7_isLetter_1 (by decide) ?_
  refine jnK hf (fun j16 ej16 hf => ?_)
  have hj16 : j16 () = some z → AT p l e (rmOf 0 0) s m args below meth c E A Q 0 0 1 [] (wX7_isLetter E) 16 [] := by
    intro  hf H locs ls hl hP hD hS
    rw [ej16] at hf
    replace hf := un0_s hf
    refine lv_iconst (pc := 16) (v := 0) hx hb dX7_isLetter_16 (by decide) ?_
    cases hf
    rw [hQ]
    exact r_zret C hr hP hD hS (Or.inl rfl) rfl dX7_isLetter_17
  clear ej16
  refine lv_icmp_lt (pc := 3) (tgt := 16) hx hb dX7_isLetter_3 (by decide) (fun c_3 => ?_) (fun c_3 => ?_)
  · replace hf := it_t c_3 hf
    exact hj16  hf _ _ _ (lv_sub hl [] rfl) hP hD hS
  · replace hf := it_f c_3 hf
    refine lv_iload_n (pc := 6) hx hb dX7_isLetter_6 rfl (lv_at hl 0 rfl) ?_
    refine lv_bipush (pc := 7) (v := 122) hx hb dX7_isLetter_7 (by decide) ?_
    refine lv_icmp_gt (pc := 9) (tgt := 16) hx hb dX7_isLetter_9 (by decide) (fun c_9 => ?_) (fun c_9 => ?_)
    · replace hf := it_t c_9 hf
      exact hj16  hf _ _ _ (lv_sub hl [] rfl) hP hD hS
    · replace hf := it_f c_9 hf
      refine lv_iconst (pc := 12) (v := 1) hx hb dX7_isLetter_12 (by decide) ?_
      refine lv_goto (pc := 13) (tgt := 17) hx hb dX7_isLetter_13 (by decide) ?_
      cases hf
      rw [hQ]
      exact r_zret C hr hP hD hS (Or.inr rfl) rfl dX7_isLetter_17
def wX7_joined (E : EN) : va_W := []
def fX7_joined (N : Nat) (p0 : Int64) (p1 : Int32) : Option Int64 := some ((p0 <<< ((5 : Int32).toInt64 &&& 63)) ||| (((p1 - 97) + 1).toInt64))
set_option maxHeartbeats 4000000 in
set_option maxRecDepth 100000 in
theorem ctX7_joined (l : Launch) (E : EN) (N : Nat) (p0 : Int64) (p1 : Int32) (z : Int64) (hf : fX7_joined N p0 p1 = some z) : CTl l E yX7_joined cX7_joined 3 0 0 [.long p0, .int p1] (wX7_joined E) (z) (wX7_joined E) := by
  intro sz
  refine ct_body (by decide) (Nat.le_of_ble_eq_true rfl) ?_
  intro p e s m args below meth c A ls hAe C hr hin hP hD hS hl
  have C : CX p s m args meth c cX7_joined RX7 3 E A := C
  have hl : lv_has ls 3 [(0, .long p0), (2, .int p1)] := hl
  have hx := C.1
  have hb := C.2.1
  rw [hAe]
  clear hAe
  obtain ⟨Q, hQ⟩ : ∃ Q, Q = MQ below (Ql E A (z) (wX7_joined E)) args s 0 0 A := ⟨_, rfl⟩
  rw [← hQ]
  unfold fX7_joined at hf
  refine lv_lload_n (pc := 0) hx hb dX7_joined_0 rfl (lv_at hl 0 rfl) ?_
  refine lv_iconst (pc := 1) (v := 5) hx hb dX7_joined_1 (by decide) ?_
  refine lv_lshl (pc := 2) (v := p0 <<< ((5 : Int32).toInt64 &&& 63)) hx hb dX7_joined_2 rfl ?_
  refine lv_iload_n (pc := 3) hx hb dX7_joined_3 rfl (lv_at hl 1 rfl) ?_
  refine lv_bipush (pc := 4) (v := 97) hx hb dX7_joined_4 (by decide) ?_
  refine lv_isub (pc := 6) hx hb dX7_joined_6 ?_
  refine lv_iconst (pc := 7) (v := 1) hx hb dX7_joined_7 (by decide) ?_
  refine lv_iadd (pc := 8) hx hb dX7_joined_8 ?_
  refine lv_i2l (pc := 9) (v := ((p1 - 97) + 1).toInt64) hx hb dX7_joined_9 rfl ?_
  refine lv_lor (pc := 10) hx hb dX7_joined_10 ?_
  cases hf
  rw [hQ]
  exact r_lret C hr hP hD hS rfl dX7_joined_11
def wX7_isDigit (E : EN) : va_W := []
def fX7_isDigit (N : Nat) (p0 : Int32) : Option Int32 := jn (un0 (some 0)) (fun j16 => if p0 < 48 then (j16 ()) else (if 57 < p0 then (j16 ()) else (some 1)))
set_option maxHeartbeats 4000000 in
set_option maxRecDepth 100000 in
theorem ctX7_isDigit (l : Launch) (E : EN) (N : Nat) (p0 : Int32) (z : Int32) (hf : fX7_isDigit N p0 = some z) : CTi l E yX7_isDigit cX7_isDigit 1 .boolean 0 0 [.int p0] (wX7_isDigit E) (z) (wX7_isDigit E) := by
  intro sz
  refine ct_body (by decide) (Nat.le_of_ble_eq_true rfl) ?_
  intro p e s m args below meth c A ls hAe C hr hin hP hD hS hl
  have C : CX p s m args meth c cX7_isDigit RX7 1 E A := C
  have hl : lv_has ls 1 [(0, .int p0)] := hl
  have hx := C.1
  have hb := C.2.1
  rw [hAe]
  clear hAe
  obtain ⟨Q, hQ⟩ : ∃ Q, Q = MQ below (Qi E A (z) (wX7_isDigit E)) args s 0 0 A := ⟨_, rfl⟩
  rw [← hQ]
  unfold fX7_isDigit at hf
  refine lv_iload_n (pc := 0) hx hb dX7_isDigit_0 rfl (lv_at hl 0 rfl) ?_
  refine lv_bipush (pc := 1) (v := 48) hx hb dX7_isDigit_1 (by decide) ?_
  refine jnK hf (fun j16 ej16 hf => ?_)
  have hj16 : j16 () = some z → AT p l e (rmOf 0 0) s m args below meth c E A Q 0 0 1 [] (wX7_isDigit E) 16 [] := by
    intro  hf H locs ls hl hP hD hS
    rw [ej16] at hf
    replace hf := un0_s hf
    refine lv_iconst (pc := 16) (v := 0) hx hb dX7_isDigit_16 (by decide) ?_
    cases hf
    rw [hQ]
    exact r_zret C hr hP hD hS (Or.inl rfl) rfl dX7_isDigit_17
  clear ej16
  refine lv_icmp_lt (pc := 3) (tgt := 16) hx hb dX7_isDigit_3 (by decide) (fun c_3 => ?_) (fun c_3 => ?_)
  · replace hf := it_t c_3 hf
    exact hj16  hf _ _ _ (lv_sub hl [] rfl) hP hD hS
  · replace hf := it_f c_3 hf
    refine lv_iload_n (pc := 6) hx hb dX7_isDigit_6 rfl (lv_at hl 0 rfl) ?_
    refine lv_bipush (pc := 7) (v := 57) hx hb dX7_isDigit_7 (by decide) ?_
    refine lv_icmp_gt (pc := 9) (tgt := 16) hx hb dX7_isDigit_9 (by decide) (fun c_9 => ?_) (fun c_9 => ?_)
    · replace hf := it_t c_9 hf
      exact hj16  hf _ _ _ (lv_sub hl [] rfl) hP hD hS
    · replace hf := it_f c_9 hf
      refine lv_iconst (pc := 12) (v := 1) hx hb dX7_isDigit_12 (by decide) ?_
      refine lv_goto (pc := 13) (tgt := 17) hx hb dX7_isDigit_13 (by decide) ?_
      cases hf
      rw [hQ]
      exact r_zret C hr hP hD hS (Or.inr rfl) rfl dX7_isDigit_17
def wX7_passSign (E : EN) (h h_bytes : Nat) (v_length : Int32) (v_end : Int32) (v_at : Int32) (v_start : Int32) (v_kind : Int32) (v_code : Int64) (v_mayName : Int32) (v_value : Int32) (v_bytes : Nat → Int32) : va_W := [(h, .inr (7, [.ref h_bytes, .int v_length, .int v_end, .int v_at, .int v_start, .int v_kind, .long v_code, .int v_mayName, .int v_value])), (h_bytes, aB E 900 v_bytes)]
def fX7_passSign (N : Nat) (v_end : Int32) (v_at : Int32) (v_bytes : Nat → Int32) : Option (Int32 × Int32) := if v_at < v_end then (gd v_at 900 (if (v_bytes v_at.toNatClampNeg) = 59 then (some (3, v_at + 1)) else (if (v_bytes v_at.toNatClampNeg) = 44 then (some (4, v_at + 1)) else (some (5, v_at + 1))))) else (some (0, v_at))
set_option maxHeartbeats 4000000 in
set_option maxRecDepth 100000 in
theorem ctX7_passSign (l : Launch) (E : EN) (h h_bytes : Nat) (v_length : Int32) (v_end : Int32) (v_at : Int32) (v_start : Int32) (v_kind : Int32) (v_code : Int64) (v_mayName : Int32) (v_value : Int32) (v_bytes : Nat → Int32) (N : Nat) (z : Int32 × Int32) (hf : fX7_passSign N v_end v_at v_bytes = some z) : CTi l E yX7_passSign cX7_passSign 2 .int 0 0 [.ref h] (wX7_passSign E h h_bytes v_length v_end v_at v_start v_kind v_code v_mayName v_value v_bytes) (z.1) (wX7_passSign E h h_bytes v_length v_end z.2 v_start v_kind v_code v_mayName v_value v_bytes) := by
  intro sz
  refine ct_body (by decide) (Nat.le_of_ble_eq_true rfl) ?_
  intro p e s m args below meth c A ls hAe C hr hin hP hD hS hl
  have C : CX p s m args meth c cX7_passSign RX7 2 E A := C
  have hl : lv_has ls 2 [(0, .ref h)] := hl
  have hx := C.1
  have hb := C.2.1
  rw [hAe]
  clear hAe
  obtain ⟨Q, hQ⟩ : ∃ Q, Q = MQ below (Qi E A (z.1) (wX7_passSign E h h_bytes v_length v_end z.2 v_start v_kind v_code v_mayName v_value v_bytes)) args s 0 0 A := ⟨_, rfl⟩
  rw [← hQ]
  unfold fX7_passSign at hf
  refine lv_aload_n (pc := 0) hx hb dX7_passSign_0 rfl (lv_at hl 0 rfl) ?_
  refine r_get (pc := 1) C hP 0 rfl fl_X7_22 rfl dX7_passSign_1 ?_
  refine lv_aload_n (pc := 4) hx hb dX7_passSign_4 rfl (lv_at hl 0 rfl) ?_
  refine r_get (pc := 5) C hP 0 rfl fl_X7_19 rfl dX7_passSign_5 ?_
  refine lv_icmp_lt (pc := 8) (tgt := 13) hx hb dX7_passSign_8 (by decide) (fun c_8 => ?_) (fun c_8 => ?_)
  · replace hf := it_t c_8 hf
    refine lv_aload_n (pc := 13) hx hb dX7_passSign_13 rfl (lv_at hl 0 rfl) ?_
    refine r_get (pc := 14) C hP 0 rfl fl_X7_9 rfl dX7_passSign_14 ?_
    refine lv_aload_n (pc := 17) hx hb dX7_passSign_17 rfl (lv_at hl 0 rfl) ?_
    refine r_get (pc := 18) C hP 0 rfl fl_X7_22 rfl dX7_passSign_18 ?_
    obtain ⟨hi_21, hf⟩ := gd_s hf
    refine r_bald (pc := 21) C hP 1 rfl hi_21 dX7_passSign_21 ?_
    refine lv_istore_n (pc := 22) (lv' := [(1, .int (v_bytes v_at.toNatClampNeg)), (0, .ref h)]) hx hb dX7_passSign_22 rfl hl (by decide) rfl (fun ls hl => ?_)
    refine lv_aload_n (pc := 23) hx hb dX7_passSign_23 rfl (lv_at hl 1 rfl) ?_
    refine lv_dup (pc := 24) hx hb dX7_passSign_24 rfl ?_
    refine r_get (pc := 25) C hP 0 rfl fl_X7_22 rfl dX7_passSign_25 ?_
    refine lv_iconst (pc := 28) (v := 1) hx hb dX7_passSign_28 (by decide) ?_
    refine lv_iadd (pc := 29) hx hb dX7_passSign_29 ?_
    refine r_put (pc := 30) (ws' := (wX7_passSign E h h_bytes v_length v_end (v_at + 1) v_start v_kind v_code v_mayName v_value v_bytes)) C hP hD hS 0 rfl fl_X7_22 rfl rfl (Nat.le_of_ble_eq_true rfl) rfl dX7_passSign_30 ?_
    clear hP hD hS; intro H locs hP hD hS
    refine lv_iload_n (pc := 33) hx hb dX7_passSign_33 rfl (lv_at hl 0 rfl) ?_
    refine lv_bipush (pc := 34) (v := 59) hx hb dX7_passSign_34 (by decide) ?_
    refine lv_icmp_ne (pc := 36) (tgt := 41) hx hb dX7_passSign_36 (by decide) (fun c_36 => ?_) (fun c_36 => ?_)
    · replace hf := it_f c_36 hf
      refine lv_iload_n (pc := 41) hx hb dX7_passSign_41 rfl (lv_at hl 0 rfl) ?_
      refine lv_bipush (pc := 42) (v := 44) hx hb dX7_passSign_42 (by decide) ?_
      refine lv_icmp_ne (pc := 44) (tgt := 51) hx hb dX7_passSign_44 (by decide) (fun c_44 => ?_) (fun c_44 => ?_)
      · replace hf := it_f c_44 hf
        refine lv_iconst (pc := 51) (v := 5) hx hb dX7_passSign_51 (by decide) ?_
        cases hf
        rw [hQ]
        exact r_iret C hr hP hD hS rfl dX7_passSign_52
      · replace hf := it_t c_44 hf
        refine lv_iconst (pc := 47) (v := 4) hx hb dX7_passSign_47 (by decide) ?_
        refine lv_goto (pc := 48) (tgt := 52) hx hb dX7_passSign_48 (by decide) ?_
        cases hf
        rw [hQ]
        exact r_iret C hr hP hD hS rfl dX7_passSign_52
    · replace hf := it_t c_36 hf
      refine lv_iconst (pc := 39) (v := 3) hx hb dX7_passSign_39 (by decide) ?_
      cases hf
      rw [hQ]
      exact r_iret C hr hP hD hS rfl dX7_passSign_40
  · replace hf := it_f c_8 hf
    refine lv_iconst (pc := 11) (v := 0) hx hb dX7_passSign_11 (by decide) ?_
    cases hf
    rw [hQ]
    exact r_iret C hr hP hD hS rfl dX7_passSign_12
def wX9_isKept (E : EN) : va_W := []
def BX9_isKept_2 (p0 : Int64) (rec2 : (Int32) → Option Int32) : (Int32) → Option Int32 := un1 fun (x2_2 : Int32) => if 24 ≤ x2_2 then (some 0) else (gd x2_2 24 (if (lg_cmp (wdc x2_2.toNatClampNeg) p0) = 0 then (gd x2_2 24 (zg (wdk x2_2.toNatClampNeg) (some (wdk x2_2.toNatClampNeg)))) else (rec2 (x2_2 + 1))))
def fX9_isKept (N : Nat) (p0 : Int64) : Option Int32 := lp (BX9_isKept_2 p0) N 0
set_option maxHeartbeats 4000000 in
set_option maxRecDepth 100000 in
theorem ctX9_isKept (l : Launch) (E : EN) (N : Nat) (p0 : Int64) (z : Int32) (hf : fX9_isKept N p0 = some z) : CTi l E yX9_isKept cX9_isKept 3 .boolean 0 0 [.long p0] (wX9_isKept E) (z) (wX9_isKept E) := by
  intro sz
  refine ct_body (by decide) (Nat.le_of_ble_eq_true rfl) ?_
  intro p e s m args below meth c A ls hAe C hr hin hP hD hS hl
  have C : CX p s m args meth c cX9_isKept RX9 3 E A := C
  have hl : lv_has ls 3 [(0, .long p0)] := hl
  have hx := C.1
  have hb := C.2.1
  rw [hAe]
  clear hAe
  obtain ⟨Q, hQ⟩ : ∃ Q, Q = MQ below (Qi E A (z) (wX9_isKept E)) args s 0 0 A := ⟨_, rfl⟩
  rw [← hQ]
  unfold fX9_isKept at hf
  refine lv_iconst (pc := 0) (v := 0) hx hb dX9_isKept_0 (by decide) ?_
  refine lv_istore_n (pc := 1) (lv' := [(2, .int 0), (0, .long p0)]) hx hb dX9_isKept_1 rfl hl (by decide) rfl (fun ls hl => ?_)
  have key2 : ∀ (n : Nat) (x2_2 : Int32) , lp (BX9_isKept_2 p0) n x2_2 = some z → AT p l e (rmOf 0 0) s m args below meth c E A Q 0 0 3 [(0, .long p0), (2, .int x2_2)] (wX9_isKept E) 2 [] := by
    intro n
    induction n with
    | zero => intro x2_2 hf; exact (lp_0 hf).elim
    | succ n ih2 =>
      intro x2_2 hf H locs ls hl hP hD hS
      replace hf := lp_s hf
      generalize lp (BX9_isKept_2 p0) n = rec2 at ih2 hf
      unfold BX9_isKept_2 at hf
      replace hf := un1_s hf
      refine lv_iload_n (pc := 2) hx hb dX9_isKept_2 rfl (lv_at hl 1 rfl) ?_
      refine r_gets (pc := 3) C C.kx.2.1 hS gs_X9_119 dX9_isKept_3 ?_
      refine va_tlen (pc := 6) (v := 24) hx hb C.kx.2.2.1 hS (by decide) dX9_isKept_6 ?_
      refine lv_icmp_ge (pc := 7) (tgt := 38) hx hb dX9_isKept_7 (by decide) (fun c_7 => ?_) (fun c_7 => ?_)
      · replace hf := it_t c_7 hf
        refine lv_iconst (pc := 38) (v := 0) hx hb dX9_isKept_38 (by decide) ?_
        cases hf
        rw [hQ]
        exact r_zret C hr hP hD hS (Or.inl rfl) rfl dX9_isKept_39
      · replace hf := it_f c_7 hf
        refine r_gets (pc := 10) C C.kx.2.1 hS gs_X9_119 dX9_isKept_10 ?_
        refine lv_iload_n (pc := 13) hx hb dX9_isKept_13 rfl (lv_at hl 1 rfl) ?_
        obtain ⟨hi_14, hf⟩ := gd_s hf
        refine vb_tq (pc := 14) hx hb C.kx.2.2.1 hS hi_14 rfl dX9_isKept_14 ?_
        refine r_getc (pc := 15) C (C.kx.1 x2_2.toNatClampNeg (vin_lt hi_14)).2.1 hS sl_X9_111 dX9_isKept_15 ?_
        refine lv_lload_n (pc := 18) hx hb dX9_isKept_18 rfl (lv_at hl 0 rfl) ?_
        refine W.lcmp (pc := 19) hx hb dX9_isKept_19 ?_
        refine lv_if_ne (pc := 20) (tgt := 32) hx hb dX9_isKept_20 (by decide) (fun c_20 => ?_) (fun c_20 => ?_)
        · replace hf := it_f c_20 hf
          refine lv_iinc (pc := 32) (v := x2_2 + 1) (lv' := [(2, .int (x2_2 + 1)), (0, .long p0)]) hx hb dX9_isKept_32 hl (k := 1) rfl rfl (by decide) rfl (fun ls hl => ?_)
          refine lv_goto (pc := 35) (tgt := 2) hx hb dX9_isKept_35 (by decide) ?_
          exact ih2 (x2_2 + 1) hf _ _ _ (lv_sub hl [1, 0] rfl) hP hD hS
        · replace hf := it_t c_20 hf
          refine r_gets (pc := 23) C C.kx.2.1 hS gs_X9_119 dX9_isKept_23 ?_
          refine lv_iload_n (pc := 26) hx hb dX9_isKept_26 rfl (lv_at hl 1 rfl) ?_
          obtain ⟨hi_27, hf⟩ := gd_s hf
          refine vb_tq (pc := 27) hx hb C.kx.2.2.1 hS hi_27 rfl dX9_isKept_27 ?_
          refine r_getc (pc := 28) C (C.kx.1 x2_2.toNatClampNeg (vin_lt hi_27)).2.2 hS sl_X9_115 dX9_isKept_28 ?_
          obtain ⟨hz_31, hf⟩ := zg_s hf
          cases hf
          rw [hQ]
          exact r_zret C hr hP hD hS hz_31 rfl dX9_isKept_31
  exact key2 _ 0 hf _ _ _ (lv_sub hl [1, 0] rfl) hP hD hS
def wX7_advance (E : EN) (h h_bytes : Nat) (v_length : Int32) (v_end : Int32) (v_at : Int32) (v_start : Int32) (v_kind : Int32) (v_code : Int64) (v_mayName : Int32) (v_value : Int32) (v_bytes : Nat → Int32) : va_W := [(h, .inr (7, [.ref h_bytes, .int v_length, .int v_end, .int v_at, .int v_start, .int v_kind, .long v_code, .int v_mayName, .int v_value])), (h_bytes, aB E 900 v_bytes)]
def BX7_advance_125 (x110_at : Int32) (x38_at : Int32) (v_end : Int32) (N : Nat) (v_bytes : Nat → Int32) (K192 : (Int32 × Int32) → Option (Int32 × Int32 × Int32 × Int64 × Int32 × Int32)) (rec125 : (Int32 × Int32) → Option (Int32 × Int32 × Int32 × Int64 × Int32 × Int32)) : (Int32 × Int32) → Option (Int32 × Int32 × Int32 × Int64 × Int32 × Int32) := un2 fun (x125_at : Int32) (x125_value : Int32) => if (x110_at - x38_at) = 0 then (if v_end ≤ x125_at then (K192 (x125_at, x125_value)) else (gd x125_at 900 ((fX7_isDigit N (v_bytes x125_at.toNatClampNeg)).bind (un1 fun (r_149 : Int32) => if r_149 = 0 then (K192 (x125_at, x125_value)) else (gd x125_at 900 (rec125 (x125_at + 1, ((x125_value * 10) + (v_bytes x125_at.toNatClampNeg)) - 48))))))) else (K192 (x125_at, x125_value))
def BX7_advance_51 (v_end : Int32) (N : Nat) (v_bytes : Nat → Int32) (K110 : (Int32 × Int64) → Option (Int32 × Int32 × Int32 × Int64 × Int32 × Int32)) (rec51 : (Int32 × Int64) → Option (Int32 × Int32 × Int32 × Int64 × Int32 × Int32)) : (Int32 × Int64) → Option (Int32 × Int32 × Int32 × Int64 × Int32 × Int32) := un2 fun (x51_at : Int32) (x51_code : Int64) => if v_end ≤ x51_at then (K110 (x51_at, x51_code)) else (gd x51_at 900 ((fX7_isLetter N (v_bytes x51_at.toNatClampNeg)).bind (un1 fun (r_71 : Int32) => if r_71 = 0 then (K110 (x51_at, x51_code)) else (gd x51_at 900 ((fX7_joined N x51_code (v_bytes x51_at.toNatClampNeg)).bind (un1 fun (r_91 : Int64) => rec51 (x51_at + 1, r_91)))))))
def BX7_advance_0 (v_end : Int32) (v_bytes : Nat → Int32) (K38 : (Int32) → Option (Int32 × Int32 × Int32 × Int64 × Int32 × Int32)) (rec0 : (Int32) → Option (Int32 × Int32 × Int32 × Int64 × Int32 × Int32)) : (Int32) → Option (Int32 × Int32 × Int32 × Int64 × Int32 × Int32) := un1 fun (x0_at : Int32) => if v_end ≤ x0_at then (K38 x0_at) else (gd x0_at 900 (if (v_bytes x0_at.toNatClampNeg) = 32 then (rec0 (x0_at + 1)) else (K38 x0_at)))
def fX7_advance (N : Nat) (v_end : Int32) (v_at : Int32) (v_bytes : Nat → Int32) : Option (Int32 × Int32 × Int32 × Int64 × Int32 × Int32) := lp (BX7_advance_0 v_end v_bytes (un1 fun (x38_at : Int32) => lp (BX7_advance_51 v_end N v_bytes (un2 fun (x110_at : Int32) (x110_code : Int64) => lp (BX7_advance_125 x110_at x38_at v_end N v_bytes (un2 fun (x192_at : Int32) (x192_value : Int32) => jn (un2 fun (x255_at : Int32) (x255_kind : Int32) => jn (un0 (some (x255_at, x38_at, x255_kind, x110_code, 0, x192_value))) (fun j278 => if x255_kind = 1 then ((fX9_isKept N x110_code).bind (un1 fun (r_268 : Int32) => if r_268 = 0 then (some (x255_at, x38_at, x255_kind, x110_code, 1, x192_value)) else (j278 ()))) else (j278 ()))) (fun j255 => if (x110_at - x38_at) ≤ 0 then (if ((x192_at - x38_at) - (x110_at - x38_at)) ≤ 0 then ((fX7_passSign N v_end x192_at v_bytes).bind (un2 fun (r_249 : Int32) (v_at_249 : Int32) => j255 (v_at_249, r_249))) else (jn (un1 fun (x241_s1 : Int32) => j255 (x192_at, x241_s1)) (fun j241 => if 3 < ((x192_at - x38_at) - (x110_at - x38_at)) then (j241 5) else (j241 2)))) else (jn (un1 fun (x220_s1 : Int32) => j255 (x192_at, x220_s1)) (fun j220 => if 8 < (x110_at - x38_at) then (j220 5) else (j220 1)))))) N (x110_at, 0))) N (x38_at, 0))) N v_at
set_option maxHeartbeats 4000000 in
set_option maxRecDepth 100000 in
theorem ctX7_advance (l : Launch) (E : EN) (h h_bytes : Nat) (v_length : Int32) (v_end : Int32) (v_at : Int32) (v_start : Int32) (v_kind : Int32) (v_code : Int64) (v_mayName : Int32) (v_value : Int32) (v_bytes : Nat → Int32) (N : Nat) (z : Int32 × Int32 × Int32 × Int64 × Int32 × Int32) (hf : fX7_advance N v_end v_at v_bytes = some z) : CTv l E yX7_advance cX7_advance 3 1 22 [.ref h] (wX7_advance E h h_bytes v_length v_end v_at v_start v_kind v_code v_mayName v_value v_bytes) (wX7_advance E h h_bytes v_length v_end z.1 z.2.1 z.2.2.1 z.2.2.2.1 z.2.2.2.2.1 z.2.2.2.2.2 v_bytes) := by
  intro sz
  refine ct_body (by decide) (Nat.le_of_ble_eq_true rfl) ?_
  intro p e s m args below meth c A ls hAe C hr hin hP hD hS hl
  have C : CX p s m args meth c cX7_advance RX7 3 E A := C
  have hl : lv_has ls 3 [(0, .ref h)] := hl
  have hx := C.1
  have hb := C.2.1
  rw [hAe]
  clear hAe
  obtain ⟨Q, hQ⟩ : ∃ Q, Q = MQ below (Qv E A (wX7_advance E h h_bytes v_length v_end z.1 z.2.1 z.2.2.1 z.2.2.2.1 z.2.2.2.2.1 z.2.2.2.2.2 v_bytes)) args s 0 0 A := ⟨_, rfl⟩
  rw [← hQ]
  unfold fX7_advance at hf
  refine lpK hf (fun K38 eK38 hf => ?_)
  have hK38 : ∀ (x38_at : Int32) , K38 x38_at = some z → AT p l e (rmOf 1 22) s m args below meth c E A Q 0 0 3 [(0, .ref h)] (wX7_advance E h h_bytes v_length v_end x38_at v_start v_kind v_code v_mayName v_value v_bytes) 38 [] := by
    intro x38_at hf H locs ls hl hP hD hS
    rw [eK38] at hf
    replace hf := un1_s hf
    refine lv_aload_n (pc := 38) hx hb dX7_advance_38 rfl (lv_at hl 0 rfl) ?_
    refine lv_aload_n (pc := 39) hx hb dX7_advance_39 rfl (lv_at hl 0 rfl) ?_
    refine r_get (pc := 40) C hP 0 rfl fl_X7_22 rfl dX7_advance_40 ?_
    refine r_put (pc := 43) (ws' := (wX7_advance E h h_bytes v_length v_end x38_at x38_at v_kind v_code v_mayName v_value v_bytes)) C hP hD hS 0 rfl fl_X7_28 rfl rfl (Nat.le_of_ble_eq_true rfl) rfl dX7_advance_43 ?_
    clear hP hD hS; intro H locs hP hD hS
    refine lv_aload_n (pc := 46) hx hb dX7_advance_46 rfl (lv_at hl 0 rfl) ?_
    refine lv_lconst (pc := 47) (v := 0) hx hb dX7_advance_47 (by decide) ?_
    refine r_put (pc := 48) (ws' := (wX7_advance E h h_bytes v_length v_end x38_at x38_at v_kind 0 v_mayName v_value v_bytes)) C hP hD hS 0 rfl fl_X7_31 rfl rfl (Nat.le_of_ble_eq_true rfl) rfl dX7_advance_48 ?_
    clear hP hD hS; intro H locs hP hD hS
    refine lpK hf (fun K110 eK110 hf => ?_)
    have hK110 : ∀ (x110_at : Int32) (x110_code : Int64) , K110 (x110_at, x110_code) = some z → AT p l e (rmOf 1 22) s m args below meth c E A Q 0 0 3 [(0, .ref h)] (wX7_advance E h h_bytes v_length v_end x110_at x38_at v_kind x110_code v_mayName v_value v_bytes) 110 [] := by
      intro x110_at x110_code hf H locs ls hl hP hD hS
      rw [eK110] at hf
      replace hf := un2_s hf
      refine lv_aload_n (pc := 110) hx hb dX7_advance_110 rfl (lv_at hl 0 rfl) ?_
      refine r_get (pc := 111) C hP 0 rfl fl_X7_22 rfl dX7_advance_111 ?_
      refine lv_aload_n (pc := 114) hx hb dX7_advance_114 rfl (lv_at hl 0 rfl) ?_
      refine r_get (pc := 115) C hP 0 rfl fl_X7_28 rfl dX7_advance_115 ?_
      refine lv_isub (pc := 118) hx hb dX7_advance_118 ?_
      refine lv_istore_n (pc := 119) (lv' := [(1, .int (x110_at - x38_at)), (0, .ref h)]) hx hb dX7_advance_119 rfl hl (by decide) rfl (fun ls hl => ?_)
      refine lv_aload_n (pc := 120) hx hb dX7_advance_120 rfl (lv_at hl 1 rfl) ?_
      refine lv_iconst (pc := 121) (v := 0) hx hb dX7_advance_121 (by decide) ?_
      refine r_put (pc := 122) (ws' := (wX7_advance E h h_bytes v_length v_end x110_at x38_at v_kind x110_code v_mayName 0 v_bytes)) C hP hD hS 0 rfl fl_X7_43 rfl rfl (Nat.le_of_ble_eq_true rfl) rfl dX7_advance_122 ?_
      clear hP hD hS; intro H locs hP hD hS
      refine lpK hf (fun K192 eK192 hf => ?_)
      have hK192 : ∀ (x192_at : Int32) (x192_value : Int32) , K192 (x192_at, x192_value) = some z → AT p l e (rmOf 1 22) s m args below meth c E A Q 0 0 3 [(0, .ref h), (1, .int (x110_at - x38_at))] (wX7_advance E h h_bytes v_length v_end x192_at x38_at v_kind x110_code v_mayName x192_value v_bytes) 192 [] := by
        intro x192_at x192_value hf H locs ls hl hP hD hS
        rw [eK192] at hf
        replace hf := un2_s hf
        refine lv_aload_n (pc := 192) hx hb dX7_advance_192 rfl (lv_at hl 0 rfl) ?_
        refine r_get (pc := 193) C hP 0 rfl fl_X7_22 rfl dX7_advance_193 ?_
        refine lv_aload_n (pc := 196) hx hb dX7_advance_196 rfl (lv_at hl 0 rfl) ?_
        refine r_get (pc := 197) C hP 0 rfl fl_X7_28 rfl dX7_advance_197 ?_
        refine lv_isub (pc := 200) hx hb dX7_advance_200 ?_
        refine lv_iload_n (pc := 201) hx hb dX7_advance_201 rfl (lv_at hl 1 rfl) ?_
        refine lv_isub (pc := 202) hx hb dX7_advance_202 ?_
        refine lv_istore_n (pc := 203) (lv' := [(2, .int ((x192_at - x38_at) - (x110_at - x38_at))), (0, .ref h), (1, .int (x110_at - x38_at))]) hx hb dX7_advance_203 rfl hl (by decide) rfl (fun ls hl => ?_)
        refine lv_iload_n (pc := 204) hx hb dX7_advance_204 rfl (lv_at hl 2 rfl) ?_
        refine jnK hf (fun j255 ej255 hf => ?_)
        have hj255 : ∀ (x255_at : Int32) (x255_kind : Int32) , j255 (x255_at, x255_kind) = some z → AT p l e (rmOf 1 22) s m args below meth c E A Q 0 0 3 [(0, .ref h)] (wX7_advance E h h_bytes v_length v_end x255_at x38_at x255_kind x110_code v_mayName x192_value v_bytes) 255 [] := by
          intro x255_at x255_kind hf H locs ls hl hP hD hS
          rw [ej255] at hf
          replace hf := un2_s hf
          refine lv_aload_n (pc := 255) hx hb dX7_advance_255 rfl (lv_at hl 0 rfl) ?_
          refine lv_aload_n (pc := 256) hx hb dX7_advance_256 rfl (lv_at hl 0 rfl) ?_
          refine r_get (pc := 257) C hP 0 rfl fl_X7_49 rfl dX7_advance_257 ?_
          refine lv_iconst (pc := 260) (v := 1) hx hb dX7_advance_260 (by decide) ?_
          refine jnK hf (fun j278 ej278 hf => ?_)
          have hj278 : j278 () = some z → AT p l e (rmOf 1 22) s m args below meth c E A Q 0 0 3 [] (wX7_advance E h h_bytes v_length v_end x255_at x38_at x255_kind x110_code v_mayName x192_value v_bytes) 278 [.ref h] := by
            intro  hf H locs ls hl hP hD hS
            rw [ej278] at hf
            replace hf := un0_s hf
            refine lv_iconst (pc := 278) (v := 0) hx hb dX7_advance_278 (by decide) ?_
            refine r_put (pc := 279) (ws' := (wX7_advance E h h_bytes v_length v_end x255_at x38_at x255_kind x110_code 0 x192_value v_bytes)) C hP hD hS 0 rfl fl_X7_62 rfl rfl (Nat.le_of_ble_eq_true rfl) rfl dX7_advance_279 ?_
            clear hP hD hS; intro H locs hP hD hS
            cases hf
            rw [hQ]
            exact r_vret C hr hP hD hS dX7_advance_282
          clear ej278
          refine lv_icmp_ne (pc := 261) (tgt := 278) hx hb dX7_advance_261 (by decide) (fun c_261 => ?_) (fun c_261 => ?_)
          · replace hf := it_f c_261 hf
            exact hj278  hf _ _ _ (lv_sub hl [] rfl) hP hD hS
          · replace hf := it_t c_261 hf
            refine lv_aload_n (pc := 264) hx hb dX7_advance_264 rfl (lv_at hl 0 rfl) ?_
            refine r_get (pc := 265) C hP 0 rfl fl_X7_31 rfl dX7_advance_265 ?_
            obtain ⟨r_268, hc_268, hf⟩ := bd1 hf
            refine r_dalSi (pc := 268) (Cn := "") (h := 0) (ws' := (wX7_advance E h h_bytes v_length v_end x255_at x38_at x255_kind x110_code v_mayName x192_value v_bytes)) (As := [.long x110_code]) (rest := [.ref h]) C (ctX9_isKept l E N x110_code r_268 hc_268) ml_X7_56 ⟨Nat.le_of_ble_eq_true rfl, Nat.le_of_ble_eq_true rfl⟩ hP hD hS [] [0, 1] 2 rfl rfl rfl rfl rfl rfl rfl hl.1 rfl (Nat.le_of_ble_eq_true rfl) ⟨Nat.zero_le _, Nat.zero_le _⟩ dX7_advance_268 ?_
            clear hP hD hS; intro H locs hP hD hS
            refine lv_if_ne (pc := 271) (tgt := 278) hx hb dX7_advance_271 (by decide) (fun c_271 => ?_) (fun c_271 => ?_)
            · replace hf := it_f c_271 hf
              exact hj278  hf _ _ _ (lv_sub hl [] rfl) hP hD hS
            · replace hf := it_t c_271 hf
              refine lv_iconst (pc := 274) (v := 1) hx hb dX7_advance_274 (by decide) ?_
              refine lv_goto (pc := 275) (tgt := 279) hx hb dX7_advance_275 (by decide) ?_
              refine r_put (pc := 279) (ws' := (wX7_advance E h h_bytes v_length v_end x255_at x38_at x255_kind x110_code 1 x192_value v_bytes)) C hP hD hS 0 rfl fl_X7_62 rfl rfl (Nat.le_of_ble_eq_true rfl) rfl dX7_advance_279 ?_
              clear hP hD hS; intro H locs hP hD hS
              cases hf
              rw [hQ]
              exact r_vret C hr hP hD hS dX7_advance_282
        clear ej255
        refine lv_if_le (pc := 205) (tgt := 226) hx hb dX7_advance_205 (by decide) (fun c_205 => ?_) (fun c_205 => ?_)
        · replace hf := it_t c_205 hf
          refine lv_iload_n (pc := 226) hx hb dX7_advance_226 rfl (lv_at hl 0 rfl) ?_
          refine lv_if_le (pc := 227) (tgt := 247) hx hb dX7_advance_227 (by decide) (fun c_227 => ?_) (fun c_227 => ?_)
          · replace hf := it_t c_227 hf
            refine lv_aload_n (pc := 247) hx hb dX7_advance_247 rfl (lv_at hl 1 rfl) ?_
            refine lv_aload_n (pc := 248) hx hb dX7_advance_248 rfl (lv_at hl 1 rfl) ?_
            obtain ⟨r_249, v_at_249, hc_249, hf⟩ := bd2 hf
            refine r_dalVi (pc := 249) (ws' := (wX7_advance E h h_bytes v_length v_end v_at_249 x38_at v_kind x110_code v_mayName x192_value v_bytes)) (As := []) (rest := [.ref h]) C (ctX7_passSign l E h h_bytes v_length v_end x192_at x38_at v_kind x110_code v_mayName x192_value v_bytes N (r_249, v_at_249) hc_249) ml_X7_52 ⟨Nat.le_of_ble_eq_true rfl, Nat.le_of_ble_eq_true rfl⟩ hP hD hS 0 rfl rfl rfl [0, 1] [2, 3] 2 rfl rfl rfl rfl rfl rfl rfl hl.1 rfl (Nat.le_of_ble_eq_true rfl) ⟨Nat.zero_le _, Nat.zero_le _⟩ dX7_advance_249 ?_
            clear hP hD hS; intro H locs hP hD hS
            refine r_put (pc := 252) (ws' := (wX7_advance E h h_bytes v_length v_end v_at_249 x38_at r_249 x110_code v_mayName x192_value v_bytes)) C hP hD hS 0 rfl fl_X7_49 rfl rfl (Nat.le_of_ble_eq_true rfl) rfl dX7_advance_252 ?_
            clear hP hD hS; intro H locs hP hD hS
            exact hj255 v_at_249 r_249 hf _ _ _ (lv_sub hl [1] rfl) hP hD hS
          · replace hf := it_f c_227 hf
            refine lv_aload_n (pc := 230) hx hb dX7_advance_230 rfl (lv_at hl 1 rfl) ?_
            refine lv_iload_n (pc := 231) hx hb dX7_advance_231 rfl (lv_at hl 0 rfl) ?_
            refine lv_iconst (pc := 232) (v := 3) hx hb dX7_advance_232 (by decide) ?_
            refine jnK hf (fun j241 ej241 hf => ?_)
            have hj241 : ∀ (x241_s1 : Int32) , j241 x241_s1 = some z → AT p l e (rmOf 1 22) s m args below meth c E A Q 0 0 3 [(0, .ref h)] (wX7_advance E h h_bytes v_length v_end x192_at x38_at v_kind x110_code v_mayName x192_value v_bytes) 241 [.int x241_s1, .ref h] := by
              intro x241_s1 hf H locs ls hl hP hD hS
              rw [ej241] at hf
              replace hf := un1_s hf
              refine r_put (pc := 241) (ws' := (wX7_advance E h h_bytes v_length v_end x192_at x38_at x241_s1 x110_code v_mayName x192_value v_bytes)) C hP hD hS 0 rfl fl_X7_49 rfl rfl (Nat.le_of_ble_eq_true rfl) rfl dX7_advance_241 ?_
              clear hP hD hS; intro H locs hP hD hS
              refine lv_goto (pc := 244) (tgt := 255) hx hb dX7_advance_244 (by decide) ?_
              exact hj255 x192_at x241_s1 hf _ _ _ (lv_sub hl [0] rfl) hP hD hS
            clear ej241
            refine lv_icmp_gt (pc := 233) (tgt := 240) hx hb dX7_advance_233 (by decide) (fun c_233 => ?_) (fun c_233 => ?_)
            · replace hf := it_t c_233 hf
              refine lv_iconst (pc := 240) (v := 5) hx hb dX7_advance_240 (by decide) ?_
              exact hj241 5 hf _ _ _ (lv_sub hl [1] rfl) hP hD hS
            · replace hf := it_f c_233 hf
              refine lv_iconst (pc := 236) (v := 2) hx hb dX7_advance_236 (by decide) ?_
              refine lv_goto (pc := 237) (tgt := 241) hx hb dX7_advance_237 (by decide) ?_
              exact hj241 2 hf _ _ _ (lv_sub hl [1] rfl) hP hD hS
        · replace hf := it_f c_205 hf
          refine lv_aload_n (pc := 208) hx hb dX7_advance_208 rfl (lv_at hl 1 rfl) ?_
          refine lv_iload_n (pc := 209) hx hb dX7_advance_209 rfl (lv_at hl 2 rfl) ?_
          refine lv_bipush (pc := 210) (v := 8) hx hb dX7_advance_210 (by decide) ?_
          refine jnK hf (fun j220 ej220 hf => ?_)
          have hj220 : ∀ (x220_s1 : Int32) , j220 x220_s1 = some z → AT p l e (rmOf 1 22) s m args below meth c E A Q 0 0 3 [(0, .ref h)] (wX7_advance E h h_bytes v_length v_end x192_at x38_at v_kind x110_code v_mayName x192_value v_bytes) 220 [.int x220_s1, .ref h] := by
            intro x220_s1 hf H locs ls hl hP hD hS
            rw [ej220] at hf
            replace hf := un1_s hf
            refine r_put (pc := 220) (ws' := (wX7_advance E h h_bytes v_length v_end x192_at x38_at x220_s1 x110_code v_mayName x192_value v_bytes)) C hP hD hS 0 rfl fl_X7_49 rfl rfl (Nat.le_of_ble_eq_true rfl) rfl dX7_advance_220 ?_
            clear hP hD hS; intro H locs hP hD hS
            refine lv_goto (pc := 223) (tgt := 255) hx hb dX7_advance_223 (by decide) ?_
            exact hj255 x192_at x220_s1 hf _ _ _ (lv_sub hl [0] rfl) hP hD hS
          clear ej220
          refine lv_icmp_gt (pc := 212) (tgt := 219) hx hb dX7_advance_212 (by decide) (fun c_212 => ?_) (fun c_212 => ?_)
          · replace hf := it_t c_212 hf
            refine lv_iconst (pc := 219) (v := 5) hx hb dX7_advance_219 (by decide) ?_
            exact hj220 5 hf _ _ _ (lv_sub hl [1] rfl) hP hD hS
          · replace hf := it_f c_212 hf
            refine lv_iconst (pc := 215) (v := 1) hx hb dX7_advance_215 (by decide) ?_
            refine lv_goto (pc := 216) (tgt := 220) hx hb dX7_advance_216 (by decide) ?_
            exact hj220 1 hf _ _ _ (lv_sub hl [1] rfl) hP hD hS
      clear eK192
      have key125 : ∀ (n : Nat) (x125_at : Int32) (x125_value : Int32) , lp (BX7_advance_125 x110_at x38_at v_end N v_bytes K192) n (x125_at, x125_value) = some z → AT p l e (rmOf 1 22) s m args below meth c E A Q 0 0 3 [(0, .ref h), (1, .int (x110_at - x38_at))] (wX7_advance E h h_bytes v_length v_end x125_at x38_at v_kind x110_code v_mayName x125_value v_bytes) 125 [] := by
        intro n
        induction n with
        | zero => intro x125_at x125_value hf; exact (lp_0 hf).elim
        | succ n ih125 =>
          intro x125_at x125_value hf H locs ls hl hP hD hS
          replace hf := lp_s hf
          generalize lp (BX7_advance_125 x110_at x38_at v_end N v_bytes K192) n = rec125 at ih125 hf
          unfold BX7_advance_125 at hf
          replace hf := un2_s hf
          refine lv_iload_n (pc := 125) hx hb dX7_advance_125 rfl (lv_at hl 1 rfl) ?_
          refine lv_if_ne (pc := 126) (tgt := 192) hx hb dX7_advance_126 (by decide) (fun c_126 => ?_) (fun c_126 => ?_)
          · replace hf := it_f c_126 hf
            exact hK192 x125_at x125_value hf _ _ _ (lv_sub hl [0, 1] rfl) hP hD hS
          · replace hf := it_t c_126 hf
            refine lv_aload_n (pc := 129) hx hb dX7_advance_129 rfl (lv_at hl 0 rfl) ?_
            refine r_get (pc := 130) C hP 0 rfl fl_X7_22 rfl dX7_advance_130 ?_
            refine lv_aload_n (pc := 133) hx hb dX7_advance_133 rfl (lv_at hl 0 rfl) ?_
            refine r_get (pc := 134) C hP 0 rfl fl_X7_19 rfl dX7_advance_134 ?_
            refine lv_icmp_ge (pc := 137) (tgt := 192) hx hb dX7_advance_137 (by decide) (fun c_137 => ?_) (fun c_137 => ?_)
            · replace hf := it_t c_137 hf
              exact hK192 x125_at x125_value hf _ _ _ (lv_sub hl [0, 1] rfl) hP hD hS
            · replace hf := it_f c_137 hf
              refine lv_aload_n (pc := 140) hx hb dX7_advance_140 rfl (lv_at hl 0 rfl) ?_
              refine r_get (pc := 141) C hP 0 rfl fl_X7_9 rfl dX7_advance_141 ?_
              refine lv_aload_n (pc := 144) hx hb dX7_advance_144 rfl (lv_at hl 0 rfl) ?_
              refine r_get (pc := 145) C hP 0 rfl fl_X7_22 rfl dX7_advance_145 ?_
              obtain ⟨hi_148, hf⟩ := gd_s hf
              refine r_bald (pc := 148) C hP 1 rfl hi_148 dX7_advance_148 ?_
              obtain ⟨r_149, hc_149, hf⟩ := bd1 hf
              refine r_dalSi (pc := 149) (Cn := "") (h := 0) (ws' := (wX7_advance E h h_bytes v_length v_end x125_at x38_at v_kind x110_code v_mayName x125_value v_bytes)) (As := [.int (v_bytes x125_at.toNatClampNeg)]) (rest := []) C (ctX7_isDigit l E N (v_bytes x125_at.toNatClampNeg) r_149 hc_149) ml_X7_46 ⟨Nat.le_of_ble_eq_true rfl, Nat.le_of_ble_eq_true rfl⟩ hP hD hS [] [0, 1] 2 rfl rfl rfl rfl rfl rfl rfl hl.1 rfl (Nat.le_of_ble_eq_true rfl) ⟨Nat.zero_le _, Nat.zero_le _⟩ dX7_advance_149 ?_
              clear hP hD hS; intro H locs hP hD hS
              refine lv_if_eq (pc := 152) (tgt := 192) hx hb dX7_advance_152 (by decide) (fun c_152 => ?_) (fun c_152 => ?_)
              · replace hf := it_t c_152 hf
                exact hK192 x125_at x125_value hf _ _ _ (lv_sub hl [0, 1] rfl) hP hD hS
              · replace hf := it_f c_152 hf
                refine lv_aload_n (pc := 155) hx hb dX7_advance_155 rfl (lv_at hl 0 rfl) ?_
                refine lv_aload_n (pc := 156) hx hb dX7_advance_156 rfl (lv_at hl 0 rfl) ?_
                refine r_get (pc := 157) C hP 0 rfl fl_X7_43 rfl dX7_advance_157 ?_
                refine lv_bipush (pc := 160) (v := 10) hx hb dX7_advance_160 (by decide) ?_
                refine lv_imul (pc := 162) hx hb dX7_advance_162 ?_
                refine lv_aload_n (pc := 163) hx hb dX7_advance_163 rfl (lv_at hl 0 rfl) ?_
                refine r_get (pc := 164) C hP 0 rfl fl_X7_9 rfl dX7_advance_164 ?_
                refine lv_aload_n (pc := 167) hx hb dX7_advance_167 rfl (lv_at hl 0 rfl) ?_
                refine r_get (pc := 168) C hP 0 rfl fl_X7_22 rfl dX7_advance_168 ?_
                obtain ⟨hi_171, hf⟩ := gd_s hf
                refine r_bald (pc := 171) C hP 1 rfl hi_171 dX7_advance_171 ?_
                refine lv_iadd (pc := 172) hx hb dX7_advance_172 ?_
                refine lv_bipush (pc := 173) (v := 48) hx hb dX7_advance_173 (by decide) ?_
                refine lv_isub (pc := 175) hx hb dX7_advance_175 ?_
                refine r_put (pc := 176) (ws' := (wX7_advance E h h_bytes v_length v_end x125_at x38_at v_kind x110_code v_mayName (((x125_value * 10) + (v_bytes x125_at.toNatClampNeg)) - 48) v_bytes)) C hP hD hS 0 rfl fl_X7_43 rfl rfl (Nat.le_of_ble_eq_true rfl) rfl dX7_advance_176 ?_
                clear hP hD hS; intro H locs hP hD hS
                refine lv_aload_n (pc := 179) hx hb dX7_advance_179 rfl (lv_at hl 0 rfl) ?_
                refine lv_dup (pc := 180) hx hb dX7_advance_180 rfl ?_
                refine r_get (pc := 181) C hP 0 rfl fl_X7_22 rfl dX7_advance_181 ?_
                refine lv_iconst (pc := 184) (v := 1) hx hb dX7_advance_184 (by decide) ?_
                refine lv_iadd (pc := 185) hx hb dX7_advance_185 ?_
                refine r_put (pc := 186) (ws' := (wX7_advance E h h_bytes v_length v_end (x125_at + 1) x38_at v_kind x110_code v_mayName (((x125_value * 10) + (v_bytes x125_at.toNatClampNeg)) - 48) v_bytes)) C hP hD hS 0 rfl fl_X7_22 rfl rfl (Nat.le_of_ble_eq_true rfl) rfl dX7_advance_186 ?_
                clear hP hD hS; intro H locs hP hD hS
                refine lv_goto (pc := 189) (tgt := 125) hx hb dX7_advance_189 (by decide) ?_
                exact ih125 (x125_at + 1) (((x125_value * 10) + (v_bytes x125_at.toNatClampNeg)) - 48) hf _ _ _ (lv_sub hl [0, 1] rfl) hP hD hS
      exact key125 _ x110_at 0 hf _ _ _ (lv_sub hl [1, 0] rfl) hP hD hS
    clear eK110
    have key51 : ∀ (n : Nat) (x51_at : Int32) (x51_code : Int64) , lp (BX7_advance_51 v_end N v_bytes K110) n (x51_at, x51_code) = some z → AT p l e (rmOf 1 22) s m args below meth c E A Q 0 0 3 [(0, .ref h)] (wX7_advance E h h_bytes v_length v_end x51_at x38_at v_kind x51_code v_mayName v_value v_bytes) 51 [] := by
      intro n
      induction n with
      | zero => intro x51_at x51_code hf; exact (lp_0 hf).elim
      | succ n ih51 =>
        intro x51_at x51_code hf H locs ls hl hP hD hS
        replace hf := lp_s hf
        generalize lp (BX7_advance_51 v_end N v_bytes K110) n = rec51 at ih51 hf
        unfold BX7_advance_51 at hf
        replace hf := un2_s hf
        refine lv_aload_n (pc := 51) hx hb dX7_advance_51 rfl (lv_at hl 0 rfl) ?_
        refine r_get (pc := 52) C hP 0 rfl fl_X7_22 rfl dX7_advance_52 ?_
        refine lv_aload_n (pc := 55) hx hb dX7_advance_55 rfl (lv_at hl 0 rfl) ?_
        refine r_get (pc := 56) C hP 0 rfl fl_X7_19 rfl dX7_advance_56 ?_
        refine lv_icmp_ge (pc := 59) (tgt := 110) hx hb dX7_advance_59 (by decide) (fun c_59 => ?_) (fun c_59 => ?_)
        · replace hf := it_t c_59 hf
          exact hK110 x51_at x51_code hf _ _ _ (lv_sub hl [0] rfl) hP hD hS
        · replace hf := it_f c_59 hf
          refine lv_aload_n (pc := 62) hx hb dX7_advance_62 rfl (lv_at hl 0 rfl) ?_
          refine r_get (pc := 63) C hP 0 rfl fl_X7_9 rfl dX7_advance_63 ?_
          refine lv_aload_n (pc := 66) hx hb dX7_advance_66 rfl (lv_at hl 0 rfl) ?_
          refine r_get (pc := 67) C hP 0 rfl fl_X7_22 rfl dX7_advance_67 ?_
          obtain ⟨hi_70, hf⟩ := gd_s hf
          refine r_bald (pc := 70) C hP 1 rfl hi_70 dX7_advance_70 ?_
          obtain ⟨r_71, hc_71, hf⟩ := bd1 hf
          refine r_dalSi (pc := 71) (Cn := "") (h := 0) (ws' := (wX7_advance E h h_bytes v_length v_end x51_at x38_at v_kind x51_code v_mayName v_value v_bytes)) (As := [.int (v_bytes x51_at.toNatClampNeg)]) (rest := []) C (ctX7_isLetter l E N (v_bytes x51_at.toNatClampNeg) r_71 hc_71) ml_X7_35 ⟨Nat.le_of_ble_eq_true rfl, Nat.le_of_ble_eq_true rfl⟩ hP hD hS [] [0, 1] 2 rfl rfl rfl rfl rfl rfl rfl hl.1 rfl (Nat.le_of_ble_eq_true rfl) ⟨Nat.zero_le _, Nat.zero_le _⟩ dX7_advance_71 ?_
          clear hP hD hS; intro H locs hP hD hS
          refine lv_if_eq (pc := 74) (tgt := 110) hx hb dX7_advance_74 (by decide) (fun c_74 => ?_) (fun c_74 => ?_)
          · replace hf := it_t c_74 hf
            exact hK110 x51_at x51_code hf _ _ _ (lv_sub hl [0] rfl) hP hD hS
          · replace hf := it_f c_74 hf
            refine lv_aload_n (pc := 77) hx hb dX7_advance_77 rfl (lv_at hl 0 rfl) ?_
            refine lv_aload_n (pc := 78) hx hb dX7_advance_78 rfl (lv_at hl 0 rfl) ?_
            refine r_get (pc := 79) C hP 0 rfl fl_X7_31 rfl dX7_advance_79 ?_
            refine lv_aload_n (pc := 82) hx hb dX7_advance_82 rfl (lv_at hl 0 rfl) ?_
            refine r_get (pc := 83) C hP 0 rfl fl_X7_9 rfl dX7_advance_83 ?_
            refine lv_aload_n (pc := 86) hx hb dX7_advance_86 rfl (lv_at hl 0 rfl) ?_
            refine r_get (pc := 87) C hP 0 rfl fl_X7_22 rfl dX7_advance_87 ?_
            obtain ⟨hi_90, hf⟩ := gd_s hf
            refine r_bald (pc := 90) C hP 1 rfl hi_90 dX7_advance_90 ?_
            obtain ⟨r_91, hc_91, hf⟩ := bd1 hf
            refine r_dalSl (pc := 91) (Cn := "") (h := 0) (ws' := (wX7_advance E h h_bytes v_length v_end x51_at x38_at v_kind x51_code v_mayName v_value v_bytes)) (As := [.long x51_code, .int (v_bytes x51_at.toNatClampNeg)]) (rest := [.ref h]) C (ctX7_joined l E N x51_code (v_bytes x51_at.toNatClampNeg) r_91 hc_91) ml_X7_39 ⟨Nat.le_of_ble_eq_true rfl, Nat.le_of_ble_eq_true rfl⟩ hP hD hS [] [0, 1] 2 rfl rfl rfl rfl rfl rfl rfl hl.1 rfl (Nat.le_of_ble_eq_true rfl) ⟨Nat.zero_le _, Nat.zero_le _⟩ dX7_advance_91 ?_
            clear hP hD hS; intro H locs hP hD hS
            refine r_put (pc := 94) (ws' := (wX7_advance E h h_bytes v_length v_end x51_at x38_at v_kind r_91 v_mayName v_value v_bytes)) C hP hD hS 0 rfl fl_X7_31 rfl rfl (Nat.le_of_ble_eq_true rfl) rfl dX7_advance_94 ?_
            clear hP hD hS; intro H locs hP hD hS
            refine lv_aload_n (pc := 97) hx hb dX7_advance_97 rfl (lv_at hl 0 rfl) ?_
            refine lv_dup (pc := 98) hx hb dX7_advance_98 rfl ?_
            refine r_get (pc := 99) C hP 0 rfl fl_X7_22 rfl dX7_advance_99 ?_
            refine lv_iconst (pc := 102) (v := 1) hx hb dX7_advance_102 (by decide) ?_
            refine lv_iadd (pc := 103) hx hb dX7_advance_103 ?_
            refine r_put (pc := 104) (ws' := (wX7_advance E h h_bytes v_length v_end (x51_at + 1) x38_at v_kind r_91 v_mayName v_value v_bytes)) C hP hD hS 0 rfl fl_X7_22 rfl rfl (Nat.le_of_ble_eq_true rfl) rfl dX7_advance_104 ?_
            clear hP hD hS; intro H locs hP hD hS
            refine lv_goto (pc := 107) (tgt := 51) hx hb dX7_advance_107 (by decide) ?_
            exact ih51 (x51_at + 1) r_91 hf _ _ _ (lv_sub hl [0] rfl) hP hD hS
    exact key51 _ x38_at 0 hf _ _ _ (lv_sub hl [0] rfl) hP hD hS
  clear eK38
  have key0 : ∀ (n : Nat) (x0_at : Int32) , lp (BX7_advance_0 v_end v_bytes K38) n x0_at = some z → AT p l e (rmOf 1 22) s m args below meth c E A Q 0 0 3 [(0, .ref h)] (wX7_advance E h h_bytes v_length v_end x0_at v_start v_kind v_code v_mayName v_value v_bytes) 0 [] := by
    intro n
    induction n with
    | zero => intro x0_at hf; exact (lp_0 hf).elim
    | succ n ih0 =>
      intro x0_at hf H locs ls hl hP hD hS
      replace hf := lp_s hf
      generalize lp (BX7_advance_0 v_end v_bytes K38) n = rec0 at ih0 hf
      unfold BX7_advance_0 at hf
      replace hf := un1_s hf
      refine lv_aload_n (pc := 0) hx hb dX7_advance_0 rfl (lv_at hl 0 rfl) ?_
      refine r_get (pc := 1) C hP 0 rfl fl_X7_22 rfl dX7_advance_1 ?_
      refine lv_aload_n (pc := 4) hx hb dX7_advance_4 rfl (lv_at hl 0 rfl) ?_
      refine r_get (pc := 5) C hP 0 rfl fl_X7_19 rfl dX7_advance_5 ?_
      refine lv_icmp_ge (pc := 8) (tgt := 38) hx hb dX7_advance_8 (by decide) (fun c_8 => ?_) (fun c_8 => ?_)
      · replace hf := it_t c_8 hf
        exact hK38 x0_at hf _ _ _ (lv_sub hl [0] rfl) hP hD hS
      · replace hf := it_f c_8 hf
        refine lv_aload_n (pc := 11) hx hb dX7_advance_11 rfl (lv_at hl 0 rfl) ?_
        refine r_get (pc := 12) C hP 0 rfl fl_X7_9 rfl dX7_advance_12 ?_
        refine lv_aload_n (pc := 15) hx hb dX7_advance_15 rfl (lv_at hl 0 rfl) ?_
        refine r_get (pc := 16) C hP 0 rfl fl_X7_22 rfl dX7_advance_16 ?_
        obtain ⟨hi_19, hf⟩ := gd_s hf
        refine r_bald (pc := 19) C hP 1 rfl hi_19 dX7_advance_19 ?_
        refine lv_bipush (pc := 20) (v := 32) hx hb dX7_advance_20 (by decide) ?_
        refine lv_icmp_ne (pc := 22) (tgt := 38) hx hb dX7_advance_22 (by decide) (fun c_22 => ?_) (fun c_22 => ?_)
        · replace hf := it_f c_22 hf
          exact hK38 x0_at hf _ _ _ (lv_sub hl [0] rfl) hP hD hS
        · replace hf := it_t c_22 hf
          refine lv_aload_n (pc := 25) hx hb dX7_advance_25 rfl (lv_at hl 0 rfl) ?_
          refine lv_dup (pc := 26) hx hb dX7_advance_26 rfl ?_
          refine r_get (pc := 27) C hP 0 rfl fl_X7_22 rfl dX7_advance_27 ?_
          refine lv_iconst (pc := 30) (v := 1) hx hb dX7_advance_30 (by decide) ?_
          refine lv_iadd (pc := 31) hx hb dX7_advance_31 ?_
          refine r_put (pc := 32) (ws' := (wX7_advance E h h_bytes v_length v_end (x0_at + 1) v_start v_kind v_code v_mayName v_value v_bytes)) C hP hD hS 0 rfl fl_X7_22 rfl rfl (Nat.le_of_ble_eq_true rfl) rfl dX7_advance_32 ?_
          clear hP hD hS; intro H locs hP hD hS
          refine lv_goto (pc := 35) (tgt := 0) hx hb dX7_advance_35 (by decide) ?_
          exact ih0 (x0_at + 1) hf _ _ _ (lv_sub hl [0] rfl) hP hD hS
  exact key0 _ v_at hf _ _ _ (lv_sub hl [0] rfl) hP hD hS
def wX7_rewind (E : EN) (h h_bytes : Nat) (v_length : Int32) (v_end : Int32) (v_at : Int32) (v_start : Int32) (v_kind : Int32) (v_code : Int64) (v_mayName : Int32) (v_value : Int32) (v_bytes : Nat → Int32) : va_W := [(h, .inr (7, [.ref h_bytes, .int v_length, .int v_end, .int v_at, .int v_start, .int v_kind, .long v_code, .int v_mayName, .int v_value])), (h_bytes, aB E 900 v_bytes)]
def fX7_rewind (N : Nat) (p0 : Int32) (v_bytes : Nat → Int32) : Option (Int32 × Int32 × Int32 × Int32 × Int64 × Int32 × Int32) := (fX7_advance N p0 0 v_bytes).bind (un6 fun (v_at_11 : Int32) (v_start_11 : Int32) (v_kind_11 : Int32) (v_code_11 : Int64) (v_mayName_11 : Int32) (v_value_11 : Int32) => some (p0, v_at_11, v_start_11, v_kind_11, v_code_11, v_mayName_11, v_value_11))
set_option maxHeartbeats 4000000 in
set_option maxRecDepth 100000 in
theorem ctX7_rewind (l : Launch) (E : EN) (h h_bytes : Nat) (v_length : Int32) (v_end : Int32) (v_at : Int32) (v_start : Int32) (v_kind : Int32) (v_code : Int64) (v_mayName : Int32) (v_value : Int32) (v_bytes : Nat → Int32) (N : Nat) (p0 : Int32) (z : Int32 × Int32 × Int32 × Int32 × Int64 × Int32 × Int32) (hf : fX7_rewind N p0 v_bytes = some z) : CTv l E yX7_rewind cX7_rewind 2 2 44 [.ref h, .int p0] (wX7_rewind E h h_bytes v_length v_end v_at v_start v_kind v_code v_mayName v_value v_bytes) (wX7_rewind E h h_bytes v_length z.1 z.2.1 z.2.2.1 z.2.2.2.1 z.2.2.2.2.1 z.2.2.2.2.2.1 z.2.2.2.2.2.2 v_bytes) := by
  intro sz
  refine ct_body (by decide) (Nat.le_of_ble_eq_true rfl) ?_
  intro p e s m args below meth c A ls hAe C hr hin hP hD hS hl
  have C : CX p s m args meth c cX7_rewind RX7 2 E A := C
  have hl : lv_has ls 2 [(0, .ref h), (1, .int p0)] := hl
  have hx := C.1
  have hb := C.2.1
  rw [hAe]
  clear hAe
  obtain ⟨Q, hQ⟩ : ∃ Q, Q = MQ below (Qv E A (wX7_rewind E h h_bytes v_length z.1 z.2.1 z.2.2.1 z.2.2.2.1 z.2.2.2.2.1 z.2.2.2.2.2.1 z.2.2.2.2.2.2 v_bytes)) args s 0 0 A := ⟨_, rfl⟩
  rw [← hQ]
  unfold fX7_rewind at hf
  refine lv_aload_n (pc := 0) hx hb dX7_rewind_0 rfl (lv_at hl 0 rfl) ?_
  refine lv_iload_n (pc := 1) hx hb dX7_rewind_1 rfl (lv_at hl 1 rfl) ?_
  refine r_put (pc := 2) (ws' := (wX7_rewind E h h_bytes v_length p0 v_at v_start v_kind v_code v_mayName v_value v_bytes)) C hP hD hS 0 rfl fl_X7_19 rfl rfl (Nat.le_of_ble_eq_true rfl) rfl dX7_rewind_2 ?_
  clear hP hD hS; intro H locs hP hD hS
  refine lv_aload_n (pc := 5) hx hb dX7_rewind_5 rfl (lv_at hl 0 rfl) ?_
  refine lv_iconst (pc := 6) (v := 0) hx hb dX7_rewind_6 (by decide) ?_
  refine r_put (pc := 7) (ws' := (wX7_rewind E h h_bytes v_length p0 0 v_start v_kind v_code v_mayName v_value v_bytes)) C hP hD hS 0 rfl fl_X7_22 rfl rfl (Nat.le_of_ble_eq_true rfl) rfl dX7_rewind_7 ?_
  clear hP hD hS; intro H locs hP hD hS
  refine lv_aload_n (pc := 10) hx hb dX7_rewind_10 rfl (lv_at hl 0 rfl) ?_
  obtain ⟨v_at_11, v_start_11, v_kind_11, v_code_11, v_mayName_11, v_value_11, hc_11, hf⟩ := bd6 hf
  refine r_dalVv (pc := 11) (ws' := (wX7_rewind E h h_bytes v_length p0 v_at_11 v_start_11 v_kind_11 v_code_11 v_mayName_11 v_value_11 v_bytes)) (As := []) (rest := []) C (ctX7_advance l E h h_bytes v_length p0 0 v_start v_kind v_code v_mayName v_value v_bytes N (v_at_11, v_start_11, v_kind_11, v_code_11, v_mayName_11, v_value_11) hc_11) ml_X7_25 ⟨Nat.le_of_ble_eq_true rfl, Nat.le_of_ble_eq_true rfl⟩ hP hD hS 0 rfl rfl rfl [0, 1] [2, 3] 2 rfl rfl rfl rfl rfl rfl rfl hl.1 rfl (Nat.le_of_ble_eq_true rfl) ⟨Nat.zero_le _, Nat.zero_le _⟩ dX7_rewind_11 ?_
  clear hP hD hS; intro H locs hP hD hS
  cases hf
  rw [hQ]
  exact r_vret C hr hP hD hS dX7_rewind_14
def wX7_isAt (E : EN) (h h_bytes : Nat) (v_length : Int32) (v_end : Int32) (v_at : Int32) (v_start : Int32) (v_kind : Int32) (v_code : Int64) (v_mayName : Int32) (v_value : Int32) : va_W := [(h, .inr (7, [.ref h_bytes, .int v_length, .int v_end, .int v_at, .int v_start, .int v_kind, .long v_code, .int v_mayName, .int v_value]))]
def fX7_isAt (N : Nat) (k0 : Nat) (v_kind : Int32) (v_code : Int64) : Option Int32 := jn (un0 (some 0)) (fun j24 => if v_kind = 1 then (if (lg_cmp v_code (wdc k0)) = 0 then (some 1) else (j24 ())) else (j24 ()))
set_option maxHeartbeats 4000000 in
set_option maxRecDepth 100000 in
theorem ctX7_isAt (l : Launch) (E : EN) (h h_bytes : Nat) (v_length : Int32) (v_end : Int32) (v_at : Int32) (v_start : Int32) (v_kind : Int32) (v_code : Int64) (v_mayName : Int32) (v_value : Int32) (k0 : Nat) (hk0 : k0 < 24) (N : Nat) (z : Int32) (hf : fX7_isAt N k0 v_kind v_code = some z) : CTi l E yX7_isAt cX7_isAt 2 .boolean 0 0 [.ref h, .ref (E.2.2.1 k0)] (wX7_isAt E h h_bytes v_length v_end v_at v_start v_kind v_code v_mayName v_value) (z) (wX7_isAt E h h_bytes v_length v_end v_at v_start v_kind v_code v_mayName v_value) := by
  intro sz
  refine ct_body (by decide) (Nat.le_of_ble_eq_true rfl) ?_
  intro p e s m args below meth c A ls hAe C hr hin hP hD hS hl
  have C : CX p s m args meth c cX7_isAt RX7 2 E A := C
  have hl : lv_has ls 2 [(0, .ref h), (1, .ref (E.2.2.1 k0))] := hl
  have hx := C.1
  have hb := C.2.1
  rw [hAe]
  clear hAe
  obtain ⟨Q, hQ⟩ : ∃ Q, Q = MQ below (Qi E A (z) (wX7_isAt E h h_bytes v_length v_end v_at v_start v_kind v_code v_mayName v_value)) args s 0 0 A := ⟨_, rfl⟩
  rw [← hQ]
  unfold fX7_isAt at hf
  refine lv_aload_n (pc := 0) hx hb dX7_isAt_0 rfl (lv_at hl 0 rfl) ?_
  refine r_get (pc := 1) C hP 0 rfl fl_X7_49 rfl dX7_isAt_1 ?_
  refine lv_iconst (pc := 4) (v := 1) hx hb dX7_isAt_4 (by decide) ?_
  refine jnK hf (fun j24 ej24 hf => ?_)
  have hj24 : j24 () = some z → AT p l e (rmOf 0 0) s m args below meth c E A Q 0 0 2 [] (wX7_isAt E h h_bytes v_length v_end v_at v_start v_kind v_code v_mayName v_value) 24 [] := by
    intro  hf H locs ls hl hP hD hS
    rw [ej24] at hf
    replace hf := un0_s hf
    refine lv_iconst (pc := 24) (v := 0) hx hb dX7_isAt_24 (by decide) ?_
    cases hf
    rw [hQ]
    exact r_zret C hr hP hD hS (Or.inl rfl) rfl dX7_isAt_25
  clear ej24
  refine lv_icmp_ne (pc := 5) (tgt := 24) hx hb dX7_isAt_5 (by decide) (fun c_5 => ?_) (fun c_5 => ?_)
  · replace hf := it_f c_5 hf
    exact hj24  hf _ _ _ (lv_sub hl [] rfl) hP hD hS
  · replace hf := it_t c_5 hf
    refine lv_aload_n (pc := 8) hx hb dX7_isAt_8 rfl (lv_at hl 0 rfl) ?_
    refine r_get (pc := 9) C hP 0 rfl fl_X7_31 rfl dX7_isAt_9 ?_
    refine lv_aload_n (pc := 12) hx hb dX7_isAt_12 rfl (lv_at hl 1 rfl) ?_
    refine r_getc (pc := 13) C (C.kx.1 k0 hk0).2.1 hS sl_X7_66 dX7_isAt_13 ?_
    refine W.lcmp (pc := 16) hx hb dX7_isAt_16 ?_
    refine lv_if_ne (pc := 17) (tgt := 24) hx hb dX7_isAt_17 (by decide) (fun c_17 => ?_) (fun c_17 => ?_)
    · replace hf := it_f c_17 hf
      exact hj24  hf _ _ _ (lv_sub hl [] rfl) hP hD hS
    · replace hf := it_t c_17 hf
      refine lv_iconst (pc := 20) (v := 1) hx hb dX7_isAt_20 (by decide) ?_
      refine lv_goto (pc := 21) (tgt := 25) hx hb dX7_isAt_21 (by decide) ?_
      cases hf
      rw [hQ]
      exact r_zret C hr hP hD hS (Or.inr rfl) rfl dX7_isAt_25
def wX6_fail (E : EN) (h h_tape h_names h_sorts h_numbers h_inn : Nat) (v_named : Int32) (v_fault : Int32) (v_number : Int32) : va_W := [(h, .inr (6, [.ref h_tape, .ref h_names, .ref h_sorts, .ref h_numbers, .int v_named, .ref h_inn, .int v_fault, .int v_number]))]
def fX6_fail (N : Nat) (p0 : Int32) : Option (Int32 × Int32) := some (0, p0)
set_option maxHeartbeats 4000000 in
set_option maxRecDepth 100000 in
theorem ctX6_fail (l : Launch) (E : EN) (h h_tape h_names h_sorts h_numbers h_inn : Nat) (v_named : Int32) (v_fault : Int32) (v_number : Int32) (N : Nat) (p0 : Int32) (z : Int32 × Int32) (hf : fX6_fail N p0 = some z) : CTi l E yX6_fail cX6_fail 2 .boolean 0 0 [.ref h, .int p0] (wX6_fail E h h_tape h_names h_sorts h_numbers h_inn v_named v_fault v_number) (z.1) (wX6_fail E h h_tape h_names h_sorts h_numbers h_inn v_named z.2 v_number) := by
  intro sz
  refine ct_body (by decide) (Nat.le_of_ble_eq_true rfl) ?_
  intro p e s m args below meth c A ls hAe C hr hin hP hD hS hl
  have C : CX p s m args meth c cX6_fail RX6 2 E A := C
  have hl : lv_has ls 2 [(0, .ref h), (1, .int p0)] := hl
  have hx := C.1
  have hb := C.2.1
  rw [hAe]
  clear hAe
  obtain ⟨Q, hQ⟩ : ∃ Q, Q = MQ below (Qi E A (z.1) (wX6_fail E h h_tape h_names h_sorts h_numbers h_inn v_named z.2 v_number)) args s 0 0 A := ⟨_, rfl⟩
  rw [← hQ]
  unfold fX6_fail at hf
  refine lv_aload_n (pc := 0) hx hb dX6_fail_0 rfl (lv_at hl 0 rfl) ?_
  refine lv_iload_n (pc := 1) hx hb dX6_fail_1 rfl (lv_at hl 1 rfl) ?_
  refine r_put (pc := 2) (ws' := (wX6_fail E h h_tape h_names h_sorts h_numbers h_inn v_named p0 v_number)) C hP hD hS 0 rfl fl_X6_43 rfl rfl (Nat.le_of_ble_eq_true rfl) rfl dX6_fail_2 ?_
  clear hP hD hS; intro H locs hP hD hS
  refine lv_iconst (pc := 5) (v := 0) hx hb dX6_fail_5 (by decide) ?_
  cases hf
  rw [hQ]
  exact r_zret C hr hP hD hS (Or.inl rfl) rfl dX6_fail_6
def wX6_pass (E : EN) (h h_tape h_names h_sorts h_numbers h_inn h_tape_bytes : Nat) (v_named : Int32) (v_fault : Int32) (v_number : Int32) (v_tape_length : Int32) (v_tape_end : Int32) (v_tape_at : Int32) (v_tape_start : Int32) (v_tape_kind : Int32) (v_tape_code : Int64) (v_tape_mayName : Int32) (v_tape_value : Int32) (v_tape_bytes : Nat → Int32) : va_W := [(h, .inr (6, [.ref h_tape, .ref h_names, .ref h_sorts, .ref h_numbers, .int v_named, .ref h_inn, .int v_fault, .int v_number])), (h_tape, .inr (7, [.ref h_tape_bytes, .int v_tape_length, .int v_tape_end, .int v_tape_at, .int v_tape_start, .int v_tape_kind, .long v_tape_code, .int v_tape_mayName, .int v_tape_value])), (h_tape_bytes, aB E 900 v_tape_bytes)]
def fX6_pass (N : Nat) (k0 : Nat) (v_fault : Int32) (v_tape_end : Int32) (v_tape_at : Int32) (v_tape_start : Int32) (v_tape_kind : Int32) (v_tape_code : Int64) (v_tape_mayName : Int32) (v_tape_value : Int32) (v_tape_bytes : Nat → Int32) : Option (Int32 × Int32 × Int32 × Int32 × Int32 × Int64 × Int32 × Int32) := (fX7_isAt N k0 v_tape_kind v_tape_code).bind (un1 fun (r_5 : Int32) => if r_5 = 0 then ((fX6_fail N 1).bind (un2 fun (r_13 : Int32) (v_fault_13 : Int32) => zg r_13 (some (r_13, v_fault_13, v_tape_at, v_tape_start, v_tape_kind, v_tape_code, v_tape_mayName, v_tape_value)))) else ((fX7_advance N v_tape_end v_tape_at v_tape_bytes).bind (un6 fun (v_tape_at_21 : Int32) (v_tape_start_21 : Int32) (v_tape_kind_21 : Int32) (v_tape_code_21 : Int64) (v_tape_mayName_21 : Int32) (v_tape_value_21 : Int32) => some (1, v_fault, v_tape_at_21, v_tape_start_21, v_tape_kind_21, v_tape_code_21, v_tape_mayName_21, v_tape_value_21))))
set_option maxHeartbeats 4000000 in
set_option maxRecDepth 100000 in
theorem ctX6_pass (l : Launch) (E : EN) (h h_tape h_names h_sorts h_numbers h_inn h_tape_bytes : Nat) (v_named : Int32) (v_fault : Int32) (v_number : Int32) (v_tape_length : Int32) (v_tape_end : Int32) (v_tape_at : Int32) (v_tape_start : Int32) (v_tape_kind : Int32) (v_tape_code : Int64) (v_tape_mayName : Int32) (v_tape_value : Int32) (v_tape_bytes : Nat → Int32) (k0 : Nat) (hk0 : k0 < 24) (N : Nat) (z : Int32 × Int32 × Int32 × Int32 × Int32 × Int64 × Int32 × Int32) (hf : fX6_pass N k0 v_fault v_tape_end v_tape_at v_tape_start v_tape_kind v_tape_code v_tape_mayName v_tape_value v_tape_bytes = some z) : CTi l E yX6_pass cX6_pass 2 .boolean 2 44 [.ref h, .ref (E.2.2.1 k0)] (wX6_pass E h h_tape h_names h_sorts h_numbers h_inn h_tape_bytes v_named v_fault v_number v_tape_length v_tape_end v_tape_at v_tape_start v_tape_kind v_tape_code v_tape_mayName v_tape_value v_tape_bytes) (z.1) (wX6_pass E h h_tape h_names h_sorts h_numbers h_inn h_tape_bytes v_named z.2.1 v_number v_tape_length v_tape_end z.2.2.1 z.2.2.2.1 z.2.2.2.2.1 z.2.2.2.2.2.1 z.2.2.2.2.2.2.1 z.2.2.2.2.2.2.2 v_tape_bytes) := by
  intro sz
  refine ct_body (by decide) (Nat.le_of_ble_eq_true rfl) ?_
  intro p e s m args below meth c A ls hAe C hr hin hP hD hS hl
  have C : CX p s m args meth c cX6_pass RX6 2 E A := C
  have hl : lv_has ls 2 [(0, .ref h), (1, .ref (E.2.2.1 k0))] := hl
  have hx := C.1
  have hb := C.2.1
  rw [hAe]
  clear hAe
  obtain ⟨Q, hQ⟩ : ∃ Q, Q = MQ below (Qi E A (z.1) (wX6_pass E h h_tape h_names h_sorts h_numbers h_inn h_tape_bytes v_named z.2.1 v_number v_tape_length v_tape_end z.2.2.1 z.2.2.2.1 z.2.2.2.2.1 z.2.2.2.2.2.1 z.2.2.2.2.2.2.1 z.2.2.2.2.2.2.2 v_tape_bytes)) args s 0 0 A := ⟨_, rfl⟩
  rw [← hQ]
  unfold fX6_pass at hf
  refine lv_aload_n (pc := 0) hx hb dX6_pass_0 rfl (lv_at hl 0 rfl) ?_
  refine r_get (pc := 1) C hP 0 rfl fl_X6_12 rfl dX6_pass_1 ?_
  refine lv_aload_n (pc := 4) hx hb dX6_pass_4 rfl (lv_at hl 1 rfl) ?_
  obtain ⟨r_5, hc_5, hf⟩ := bd1 hf
  refine r_dalVi (pc := 5) (ws' := (wX6_pass E h h_tape h_names h_sorts h_numbers h_inn h_tape_bytes v_named v_fault v_number v_tape_length v_tape_end v_tape_at v_tape_start v_tape_kind v_tape_code v_tape_mayName v_tape_value v_tape_bytes)) (As := [.ref (E.2.2.1 k0)]) (rest := []) C (ctX7_isAt l E h_tape h_tape_bytes v_tape_length v_tape_end v_tape_at v_tape_start v_tape_kind v_tape_code v_tape_mayName v_tape_value k0 hk0 N r_5 hc_5) ml_X6_95 ⟨Nat.le_of_ble_eq_true rfl, Nat.le_of_ble_eq_true rfl⟩ hP hD hS 1 rfl rfl rfl [1] [0, 3, 2] 3 rfl rfl rfl rfl rfl rfl rfl hl.1 rfl (Nat.le_of_ble_eq_true rfl) ⟨Nat.zero_le _, Nat.zero_le _⟩ dX6_pass_5 ?_
  clear hP hD hS; intro H locs hP hD hS
  refine lv_if_ne (pc := 8) (tgt := 17) hx hb dX6_pass_8 (by decide) (fun c_8 => ?_) (fun c_8 => ?_)
  · replace hf := it_f c_8 hf
    refine lv_aload_n (pc := 17) hx hb dX6_pass_17 rfl (lv_at hl 0 rfl) ?_
    refine r_get (pc := 18) C hP 0 rfl fl_X6_12 rfl dX6_pass_18 ?_
    obtain ⟨v_tape_at_21, v_tape_start_21, v_tape_kind_21, v_tape_code_21, v_tape_mayName_21, v_tape_value_21, hc_21, hf⟩ := bd6 hf
    refine r_dalVv (pc := 21) (ws' := (wX6_pass E h h_tape h_names h_sorts h_numbers h_inn h_tape_bytes v_named v_fault v_number v_tape_length v_tape_end v_tape_at_21 v_tape_start_21 v_tape_kind_21 v_tape_code_21 v_tape_mayName_21 v_tape_value_21 v_tape_bytes)) (As := []) (rest := []) C (ctX7_advance l E h_tape h_tape_bytes v_tape_length v_tape_end v_tape_at v_tape_start v_tape_kind v_tape_code v_tape_mayName v_tape_value v_tape_bytes N (v_tape_at_21, v_tape_start_21, v_tape_kind_21, v_tape_code_21, v_tape_mayName_21, v_tape_value_21) hc_21) ml_X6_57 ⟨Nat.le_of_ble_eq_true rfl, Nat.le_of_ble_eq_true rfl⟩ hP hD hS 1 rfl rfl rfl [1, 2] [0, 3, 4] 3 rfl rfl rfl rfl rfl rfl rfl hl.1 rfl (Nat.le_of_ble_eq_true rfl) ⟨Nat.zero_le _, Nat.zero_le _⟩ dX6_pass_21 ?_
    clear hP hD hS; intro H locs hP hD hS
    refine lv_iconst (pc := 24) (v := 1) hx hb dX6_pass_24 (by decide) ?_
    cases hf
    rw [hQ]
    exact r_zret C hr hP hD hS (Or.inr rfl) rfl dX6_pass_25
  · replace hf := it_t c_8 hf
    refine lv_aload_n (pc := 11) hx hb dX6_pass_11 rfl (lv_at hl 0 rfl) ?_
    refine lv_iconst (pc := 12) (v := 1) hx hb dX6_pass_12 (by decide) ?_
    obtain ⟨r_13, v_fault_13, hc_13, hf⟩ := bd2 hf
    refine r_dalVi (pc := 13) (ws' := (wX6_pass E h h_tape h_names h_sorts h_numbers h_inn h_tape_bytes v_named v_fault_13 v_number v_tape_length v_tape_end v_tape_at v_tape_start v_tape_kind v_tape_code v_tape_mayName v_tape_value v_tape_bytes)) (As := [.int 1]) (rest := []) C (ctX6_fail l E h h_tape h_names h_sorts h_numbers h_inn v_named v_fault v_number N 1 (r_13, v_fault_13) hc_13) ml_X6_60 ⟨Nat.le_of_ble_eq_true rfl, Nat.le_of_ble_eq_true rfl⟩ hP hD hS 0 rfl rfl rfl [0] [3, 1, 2] 3 rfl rfl rfl rfl rfl rfl rfl hl.1 rfl (Nat.le_of_ble_eq_true rfl) ⟨Nat.zero_le _, Nat.zero_le _⟩ dX6_pass_13 ?_
    clear hP hD hS; intro H locs hP hD hS
    obtain ⟨hz_16, hf⟩ := zg_s hf
    cases hf
    rw [hQ]
    exact r_zret C hr hP hD hS hz_16 rfl dX6_pass_16
def wX6_lookAtWhole (E : EN) (h h_tape h_names h_sorts h_numbers h_inn h_tape_bytes : Nat) (v_named : Int32) (v_fault : Int32) (v_number : Int32) (v_tape_length : Int32) (v_tape_end : Int32) (v_tape_at : Int32) (v_tape_start : Int32) (v_tape_kind : Int32) (v_tape_code : Int64) (v_tape_mayName : Int32) (v_tape_value : Int32) : va_W := [(h, .inr (6, [.ref h_tape, .ref h_names, .ref h_sorts, .ref h_numbers, .int v_named, .ref h_inn, .int v_fault, .int v_number])), (h_tape, .inr (7, [.ref h_tape_bytes, .int v_tape_length, .int v_tape_end, .int v_tape_at, .int v_tape_start, .int v_tape_kind, .long v_tape_code, .int v_tape_mayName, .int v_tape_value]))]
def fX6_lookAtWhole (N : Nat) (p0 : Int32) (p1 : Int32) (v_fault : Int32) (v_number : Int32) (v_tape_kind : Int32) (v_tape_value : Int32) : Option (Int32 × Int32 × Int32) := if v_tape_kind = 2 then (jn (un1 fun (x52_fault : Int32) => some (1, x52_fault, v_tape_value)) (fun j52 => jn (un0 ((fX6_fail N 4).bind (un2 fun (r_46 : Int32) (v_fault_46 : Int32) => if r_46 = 0 then (some (0, v_fault_46, v_tape_value)) else (j52 v_fault_46)))) (fun j44 => if v_tape_value < p0 then (j44 ()) else (if v_tape_value ≤ p1 then (j52 v_fault) else (j44 ()))))) else ((fX6_fail N 1).bind (un2 fun (r_13 : Int32) (v_fault_13 : Int32) => zg r_13 (some (r_13, v_fault_13, v_number))))
set_option maxHeartbeats 4000000 in
set_option maxRecDepth 100000 in
theorem ctX6_lookAtWhole (l : Launch) (E : EN) (h h_tape h_names h_sorts h_numbers h_inn h_tape_bytes : Nat) (v_named : Int32) (v_fault : Int32) (v_number : Int32) (v_tape_length : Int32) (v_tape_end : Int32) (v_tape_at : Int32) (v_tape_start : Int32) (v_tape_kind : Int32) (v_tape_code : Int64) (v_tape_mayName : Int32) (v_tape_value : Int32) (N : Nat) (p0 : Int32) (p1 : Int32) (z : Int32 × Int32 × Int32) (hf : fX6_lookAtWhole N p0 p1 v_fault v_number v_tape_kind v_tape_value = some z) : CTi l E yX6_lookAtWhole cX6_lookAtWhole 3 .boolean 1 21 [.ref h, .int p0, .int p1] (wX6_lookAtWhole E h h_tape h_names h_sorts h_numbers h_inn h_tape_bytes v_named v_fault v_number v_tape_length v_tape_end v_tape_at v_tape_start v_tape_kind v_tape_code v_tape_mayName v_tape_value) (z.1) (wX6_lookAtWhole E h h_tape h_names h_sorts h_numbers h_inn h_tape_bytes v_named z.2.1 z.2.2 v_tape_length v_tape_end v_tape_at v_tape_start v_tape_kind v_tape_code v_tape_mayName v_tape_value) := by
  intro sz
  refine ct_body (by decide) (Nat.le_of_ble_eq_true rfl) ?_
  intro p e s m args below meth c A ls hAe C hr hin hP hD hS hl
  have C : CX p s m args meth c cX6_lookAtWhole RX6 3 E A := C
  have hl : lv_has ls 3 [(0, .ref h), (1, .int p0), (2, .int p1)] := hl
  have hx := C.1
  have hb := C.2.1
  rw [hAe]
  clear hAe
  obtain ⟨Q, hQ⟩ : ∃ Q, Q = MQ below (Qi E A (z.1) (wX6_lookAtWhole E h h_tape h_names h_sorts h_numbers h_inn h_tape_bytes v_named z.2.1 z.2.2 v_tape_length v_tape_end v_tape_at v_tape_start v_tape_kind v_tape_code v_tape_mayName v_tape_value)) args s 0 0 A := ⟨_, rfl⟩
  rw [← hQ]
  unfold fX6_lookAtWhole at hf
  refine lv_aload_n (pc := 0) hx hb dX6_lookAtWhole_0 rfl (lv_at hl 0 rfl) ?_
  refine r_get (pc := 1) C hP 0 rfl fl_X6_12 rfl dX6_lookAtWhole_1 ?_
  refine r_get (pc := 4) C hP 1 rfl fl_X6_54 rfl dX6_lookAtWhole_4 ?_
  refine lv_iconst (pc := 7) (v := 2) hx hb dX6_lookAtWhole_7 (by decide) ?_
  refine lv_icmp_eq (pc := 8) (tgt := 17) hx hb dX6_lookAtWhole_8 (by decide) (fun c_8 => ?_) (fun c_8 => ?_)
  · replace hf := it_t c_8 hf
    refine lv_aload_n (pc := 17) hx hb dX6_lookAtWhole_17 rfl (lv_at hl 0 rfl) ?_
    refine lv_aload_n (pc := 18) hx hb dX6_lookAtWhole_18 rfl (lv_at hl 0 rfl) ?_
    refine r_get (pc := 19) C hP 0 rfl fl_X6_12 rfl dX6_lookAtWhole_19 ?_
    refine r_get (pc := 22) C hP 1 rfl fl_X6_288 rfl dX6_lookAtWhole_22 ?_
    refine r_put (pc := 25) (ws' := (wX6_lookAtWhole E h h_tape h_names h_sorts h_numbers h_inn h_tape_bytes v_named v_fault v_tape_value v_tape_length v_tape_end v_tape_at v_tape_start v_tape_kind v_tape_code v_tape_mayName v_tape_value)) C hP hD hS 0 rfl fl_X6_148 rfl rfl (Nat.le_of_ble_eq_true rfl) rfl dX6_lookAtWhole_25 ?_
    clear hP hD hS; intro H locs hP hD hS
    refine lv_aload_n (pc := 28) hx hb dX6_lookAtWhole_28 rfl (lv_at hl 0 rfl) ?_
    refine r_get (pc := 29) C hP 0 rfl fl_X6_148 rfl dX6_lookAtWhole_29 ?_
    refine lv_iload_n (pc := 32) hx hb dX6_lookAtWhole_32 rfl (lv_at hl 1 rfl) ?_
    refine jnK hf (fun j52 ej52 hf => ?_)
    have hj52 : ∀ (x52_fault : Int32) , j52 x52_fault = some z → AT p l e (rmOf 1 21) s m args below meth c E A Q 0 0 3 [] (wX6_lookAtWhole E h h_tape h_names h_sorts h_numbers h_inn h_tape_bytes v_named x52_fault v_tape_value v_tape_length v_tape_end v_tape_at v_tape_start v_tape_kind v_tape_code v_tape_mayName v_tape_value) 52 [] := by
      intro x52_fault hf H locs ls hl hP hD hS
      rw [ej52] at hf
      replace hf := un1_s hf
      refine lv_iconst (pc := 52) (v := 1) hx hb dX6_lookAtWhole_52 (by decide) ?_
      refine lv_goto (pc := 53) (tgt := 57) hx hb dX6_lookAtWhole_53 (by decide) ?_
      cases hf
      rw [hQ]
      exact r_zret C hr hP hD hS (Or.inr rfl) rfl dX6_lookAtWhole_57
    clear ej52
    refine jnK hf (fun j44 ej44 hf => ?_)
    have hj44 : j44 () = some z → AT p l e (rmOf 1 21) s m args below meth c E A Q 0 0 3 [(0, .ref h)] (wX6_lookAtWhole E h h_tape h_names h_sorts h_numbers h_inn h_tape_bytes v_named v_fault v_tape_value v_tape_length v_tape_end v_tape_at v_tape_start v_tape_kind v_tape_code v_tape_mayName v_tape_value) 44 [] := by
      intro  hf H locs ls hl hP hD hS
      rw [ej44] at hf
      replace hf := un0_s hf
      refine lv_aload_n (pc := 44) hx hb dX6_lookAtWhole_44 rfl (lv_at hl 0 rfl) ?_
      refine lv_iconst (pc := 45) (v := 4) hx hb dX6_lookAtWhole_45 (by decide) ?_
      obtain ⟨r_46, v_fault_46, hc_46, hf⟩ := bd2 hf
      refine r_dalVi (pc := 46) (ws' := (wX6_lookAtWhole E h h_tape h_names h_sorts h_numbers h_inn h_tape_bytes v_named v_fault_46 v_tape_value v_tape_length v_tape_end v_tape_at v_tape_start v_tape_kind v_tape_code v_tape_mayName v_tape_value)) (As := [.int 4]) (rest := []) C (ctX6_fail l E h h_tape h_names h_sorts h_numbers h_inn v_named v_fault v_tape_value N 4 (r_46, v_fault_46) hc_46) ml_X6_60 ⟨Nat.le_of_ble_eq_true rfl, Nat.le_of_ble_eq_true rfl⟩ hP hD hS 0 rfl rfl rfl [0] [2, 1] 2 rfl rfl rfl rfl rfl rfl rfl hl.1 rfl (Nat.le_of_ble_eq_true rfl) ⟨Nat.zero_le _, Nat.zero_le _⟩ dX6_lookAtWhole_46 ?_
      clear hP hD hS; intro H locs hP hD hS
      refine lv_if_eq (pc := 49) (tgt := 56) hx hb dX6_lookAtWhole_49 (by decide) (fun c_49 => ?_) (fun c_49 => ?_)
      · replace hf := it_t c_49 hf
        refine lv_iconst (pc := 56) (v := 0) hx hb dX6_lookAtWhole_56 (by decide) ?_
        cases hf
        rw [hQ]
        exact r_zret C hr hP hD hS (Or.inl rfl) rfl dX6_lookAtWhole_57
      · replace hf := it_f c_49 hf
        exact hj52 v_fault_46 hf _ _ _ (lv_sub hl [] rfl) hP hD hS
    clear ej44
    refine lv_icmp_lt (pc := 33) (tgt := 44) hx hb dX6_lookAtWhole_33 (by decide) (fun c_33 => ?_) (fun c_33 => ?_)
    · replace hf := it_t c_33 hf
      exact hj44  hf _ _ _ (lv_sub hl [0] rfl) hP hD hS
    · replace hf := it_f c_33 hf
      refine lv_aload_n (pc := 36) hx hb dX6_lookAtWhole_36 rfl (lv_at hl 0 rfl) ?_
      refine r_get (pc := 37) C hP 0 rfl fl_X6_148 rfl dX6_lookAtWhole_37 ?_
      refine lv_iload_n (pc := 40) hx hb dX6_lookAtWhole_40 rfl (lv_at hl 2 rfl) ?_
      refine lv_icmp_le (pc := 41) (tgt := 52) hx hb dX6_lookAtWhole_41 (by decide) (fun c_41 => ?_) (fun c_41 => ?_)
      · replace hf := it_t c_41 hf
        exact hj52 v_fault hf _ _ _ (lv_sub hl [] rfl) hP hD hS
      · replace hf := it_f c_41 hf
        exact hj44  hf _ _ _ (lv_sub hl [0] rfl) hP hD hS
  · replace hf := it_f c_8 hf
    refine lv_aload_n (pc := 11) hx hb dX6_lookAtWhole_11 rfl (lv_at hl 0 rfl) ?_
    refine lv_iconst (pc := 12) (v := 1) hx hb dX6_lookAtWhole_12 (by decide) ?_
    obtain ⟨r_13, v_fault_13, hc_13, hf⟩ := bd2 hf
    refine r_dalVi (pc := 13) (ws' := (wX6_lookAtWhole E h h_tape h_names h_sorts h_numbers h_inn h_tape_bytes v_named v_fault_13 v_number v_tape_length v_tape_end v_tape_at v_tape_start v_tape_kind v_tape_code v_tape_mayName v_tape_value)) (As := [.int 1]) (rest := []) C (ctX6_fail l E h h_tape h_names h_sorts h_numbers h_inn v_named v_fault v_number N 1 (r_13, v_fault_13) hc_13) ml_X6_60 ⟨Nat.le_of_ble_eq_true rfl, Nat.le_of_ble_eq_true rfl⟩ hP hD hS 0 rfl rfl rfl [0] [2, 1] 2 rfl rfl rfl rfl rfl rfl rfl hl.1 rfl (Nat.le_of_ble_eq_true rfl) ⟨Nat.zero_le _, Nat.zero_le _⟩ dX6_lookAtWhole_13 ?_
    clear hP hD hS; intro H locs hP hD hS
    obtain ⟨hz_16, hf⟩ := zg_s hf
    cases hf
    rw [hQ]
    exact r_zret C hr hP hD hS hz_16 rfl dX6_lookAtWhole_16
def wX6_passWhole (E : EN) (h h_tape h_names h_sorts h_numbers h_inn h_tape_bytes : Nat) (v_named : Int32) (v_fault : Int32) (v_number : Int32) (v_tape_length : Int32) (v_tape_end : Int32) (v_tape_at : Int32) (v_tape_start : Int32) (v_tape_kind : Int32) (v_tape_code : Int64) (v_tape_mayName : Int32) (v_tape_value : Int32) (v_tape_bytes : Nat → Int32) : va_W := [(h, .inr (6, [.ref h_tape, .ref h_names, .ref h_sorts, .ref h_numbers, .int v_named, .ref h_inn, .int v_fault, .int v_number])), (h_tape, .inr (7, [.ref h_tape_bytes, .int v_tape_length, .int v_tape_end, .int v_tape_at, .int v_tape_start, .int v_tape_kind, .long v_tape_code, .int v_tape_mayName, .int v_tape_value])), (h_tape_bytes, aB E 900 v_tape_bytes)]
def fX6_passWhole (N : Nat) (p0 : Int32) (p1 : Int32) (v_fault : Int32) (v_number : Int32) (v_tape_end : Int32) (v_tape_at : Int32) (v_tape_start : Int32) (v_tape_kind : Int32) (v_tape_code : Int64) (v_tape_mayName : Int32) (v_tape_value : Int32) (v_tape_bytes : Nat → Int32) : Option (Int32 × Int32 × Int32 × Int32 × Int32 × Int32 × Int64 × Int32 × Int32) := (fX6_lookAtWhole N p0 p1 v_fault v_number v_tape_kind v_tape_value).bind (un3 fun (r_3 : Int32) (v_fault_3 : Int32) (v_number_3 : Int32) => if r_3 = 0 then (some (0, v_fault_3, v_number_3, v_tape_at, v_tape_start, v_tape_kind, v_tape_code, v_tape_mayName, v_tape_value)) else ((fX7_advance N v_tape_end v_tape_at v_tape_bytes).bind (un6 fun (v_tape_at_15 : Int32) (v_tape_start_15 : Int32) (v_tape_kind_15 : Int32) (v_tape_code_15 : Int64) (v_tape_mayName_15 : Int32) (v_tape_value_15 : Int32) => some (1, v_fault_3, v_number_3, v_tape_at_15, v_tape_start_15, v_tape_kind_15, v_tape_code_15, v_tape_mayName_15, v_tape_value_15))))
set_option maxHeartbeats 4000000 in
set_option maxRecDepth 100000 in
theorem ctX6_passWhole (l : Launch) (E : EN) (h h_tape h_names h_sorts h_numbers h_inn h_tape_bytes : Nat) (v_named : Int32) (v_fault : Int32) (v_number : Int32) (v_tape_length : Int32) (v_tape_end : Int32) (v_tape_at : Int32) (v_tape_start : Int32) (v_tape_kind : Int32) (v_tape_code : Int64) (v_tape_mayName : Int32) (v_tape_value : Int32) (v_tape_bytes : Nat → Int32) (N : Nat) (p0 : Int32) (p1 : Int32) (z : Int32 × Int32 × Int32 × Int32 × Int32 × Int32 × Int64 × Int32 × Int32) (hf : fX6_passWhole N p0 p1 v_fault v_number v_tape_end v_tape_at v_tape_start v_tape_kind v_tape_code v_tape_mayName v_tape_value v_tape_bytes = some z) : CTi l E yX6_passWhole cX6_passWhole 3 .boolean 2 44 [.ref h, .int p0, .int p1] (wX6_passWhole E h h_tape h_names h_sorts h_numbers h_inn h_tape_bytes v_named v_fault v_number v_tape_length v_tape_end v_tape_at v_tape_start v_tape_kind v_tape_code v_tape_mayName v_tape_value v_tape_bytes) (z.1) (wX6_passWhole E h h_tape h_names h_sorts h_numbers h_inn h_tape_bytes v_named z.2.1 z.2.2.1 v_tape_length v_tape_end z.2.2.2.1 z.2.2.2.2.1 z.2.2.2.2.2.1 z.2.2.2.2.2.2.1 z.2.2.2.2.2.2.2.1 z.2.2.2.2.2.2.2.2 v_tape_bytes) := by
  intro sz
  refine ct_body (by decide) (Nat.le_of_ble_eq_true rfl) ?_
  intro p e s m args below meth c A ls hAe C hr hin hP hD hS hl
  have C : CX p s m args meth c cX6_passWhole RX6 3 E A := C
  have hl : lv_has ls 3 [(0, .ref h), (1, .int p0), (2, .int p1)] := hl
  have hx := C.1
  have hb := C.2.1
  rw [hAe]
  clear hAe
  obtain ⟨Q, hQ⟩ : ∃ Q, Q = MQ below (Qi E A (z.1) (wX6_passWhole E h h_tape h_names h_sorts h_numbers h_inn h_tape_bytes v_named z.2.1 z.2.2.1 v_tape_length v_tape_end z.2.2.2.1 z.2.2.2.2.1 z.2.2.2.2.2.1 z.2.2.2.2.2.2.1 z.2.2.2.2.2.2.2.1 z.2.2.2.2.2.2.2.2 v_tape_bytes)) args s 0 0 A := ⟨_, rfl⟩
  rw [← hQ]
  unfold fX6_passWhole at hf
  refine lv_aload_n (pc := 0) hx hb dX6_passWhole_0 rfl (lv_at hl 0 rfl) ?_
  refine lv_iload_n (pc := 1) hx hb dX6_passWhole_1 rfl (lv_at hl 1 rfl) ?_
  refine lv_iload_n (pc := 2) hx hb dX6_passWhole_2 rfl (lv_at hl 2 rfl) ?_
  obtain ⟨r_3, v_fault_3, v_number_3, hc_3, hf⟩ := bd3 hf
  refine r_dalVi (pc := 3) (ws' := (wX6_passWhole E h h_tape h_names h_sorts h_numbers h_inn h_tape_bytes v_named v_fault_3 v_number_3 v_tape_length v_tape_end v_tape_at v_tape_start v_tape_kind v_tape_code v_tape_mayName v_tape_value v_tape_bytes)) (As := [.int p0, .int p1]) (rest := []) C (ctX6_lookAtWhole l E h h_tape h_names h_sorts h_numbers h_inn h_tape_bytes v_named v_fault v_number v_tape_length v_tape_end v_tape_at v_tape_start v_tape_kind v_tape_code v_tape_mayName v_tape_value N p0 p1 (r_3, v_fault_3, v_number_3) hc_3) ml_X6_265 ⟨Nat.le_of_ble_eq_true rfl, Nat.le_of_ble_eq_true rfl⟩ hP hD hS 0 rfl rfl rfl [0, 1] [3, 4, 2] 3 rfl rfl rfl rfl rfl rfl rfl hl.1 rfl (Nat.le_of_ble_eq_true rfl) ⟨Nat.zero_le _, Nat.zero_le _⟩ dX6_passWhole_3 ?_
  clear hP hD hS; intro H locs hP hD hS
  refine lv_if_ne (pc := 6) (tgt := 11) hx hb dX6_passWhole_6 (by decide) (fun c_6 => ?_) (fun c_6 => ?_)
  · replace hf := it_f c_6 hf
    refine lv_aload_n (pc := 11) hx hb dX6_passWhole_11 rfl (lv_at hl 0 rfl) ?_
    refine r_get (pc := 12) C hP 0 rfl fl_X6_12 rfl dX6_passWhole_12 ?_
    obtain ⟨v_tape_at_15, v_tape_start_15, v_tape_kind_15, v_tape_code_15, v_tape_mayName_15, v_tape_value_15, hc_15, hf⟩ := bd6 hf
    refine r_dalVv (pc := 15) (ws' := (wX6_passWhole E h h_tape h_names h_sorts h_numbers h_inn h_tape_bytes v_named v_fault_3 v_number_3 v_tape_length v_tape_end v_tape_at_15 v_tape_start_15 v_tape_kind_15 v_tape_code_15 v_tape_mayName_15 v_tape_value_15 v_tape_bytes)) (As := []) (rest := []) C (ctX7_advance l E h_tape h_tape_bytes v_tape_length v_tape_end v_tape_at v_tape_start v_tape_kind v_tape_code v_tape_mayName v_tape_value v_tape_bytes N (v_tape_at_15, v_tape_start_15, v_tape_kind_15, v_tape_code_15, v_tape_mayName_15, v_tape_value_15) hc_15) ml_X6_57 ⟨Nat.le_of_ble_eq_true rfl, Nat.le_of_ble_eq_true rfl⟩ hP hD hS 1 rfl rfl rfl [1, 2] [0, 3, 4] 3 rfl rfl rfl rfl rfl rfl rfl hl.1 rfl (Nat.le_of_ble_eq_true rfl) ⟨Nat.zero_le _, Nat.zero_le _⟩ dX6_passWhole_15 ?_
    clear hP hD hS; intro H locs hP hD hS
    refine lv_iconst (pc := 18) (v := 1) hx hb dX6_passWhole_18 (by decide) ?_
    cases hf
    rw [hQ]
    exact r_zret C hr hP hD hS (Or.inr rfl) rfl dX6_passWhole_19
  · replace hf := it_t c_6 hf
    refine lv_iconst (pc := 9) (v := 0) hx hb dX6_passWhole_9 (by decide) ?_
    cases hf
    rw [hQ]
    exact r_zret C hr hP hD hS (Or.inl rfl) rfl dX6_passWhole_10
def wX6_readInn (E : EN) (h h_tape h_names h_sorts h_numbers h_inn h_inn_house h_inn_thingIn h_inn_full h_inn_states h_inn_bed h_inn_dreamOf h_inn_listensIn h_tape_bytes : Nat) (v_named : Int32) (v_fault : Int32) (v_number : Int32) (v_inn_minutes : Int32) (v_inn_things : Int32) (v_inn_dreams : Int32) (v_inn_sleepers : Int32) (v_inn_listeners : Int32) (v_tape_length : Int32) (v_tape_end : Int32) (v_tape_at : Int32) (v_tape_start : Int32) (v_tape_kind : Int32) (v_tape_code : Int64) (v_tape_mayName : Int32) (v_tape_value : Int32) (v_tape_bytes : Nat → Int32) : va_W := [(h, .inr (6, [.ref h_tape, .ref h_names, .ref h_sorts, .ref h_numbers, .int v_named, .ref h_inn, .int v_fault, .int v_number])), (h_inn, .inr (2, [.ref h_inn_house, .int v_inn_minutes, .int v_inn_things, .ref h_inn_thingIn, .ref h_inn_full, .int v_inn_dreams, .ref h_inn_states, .int v_inn_sleepers, .ref h_inn_bed, .ref h_inn_dreamOf, .int v_inn_listeners, .ref h_inn_listensIn])), (h_tape, .inr (7, [.ref h_tape_bytes, .int v_tape_length, .int v_tape_end, .int v_tape_at, .int v_tape_start, .int v_tape_kind, .long v_tape_code, .int v_tape_mayName, .int v_tape_value])), (h_tape_bytes, aB E 900 v_tape_bytes)]
def fX6_readInn (N : Nat) (v_fault : Int32) (v_number : Int32) (v_inn_minutes : Int32) (v_tape_end : Int32) (v_tape_at : Int32) (v_tape_start : Int32) (v_tape_kind : Int32) (v_tape_code : Int64) (v_tape_mayName : Int32) (v_tape_value : Int32) (v_tape_bytes : Nat → Int32) : Option (Int32 × Int32 × Int32 × Int32 × Int32 × Int32 × Int32 × Int64 × Int32 × Int32) := if v_inn_minutes ≤ 0 then ((fX7_advance N v_tape_end v_tape_at v_tape_bytes).bind (un6 fun (v_tape_at_20 : Int32) (v_tape_start_20 : Int32) (v_tape_kind_20 : Int32) (v_tape_code_20 : Int64) (v_tape_mayName_20 : Int32) (v_tape_value_20 : Int32) => (fX6_pass N 19 v_fault v_tape_end v_tape_at_20 v_tape_start_20 v_tape_kind_20 v_tape_code_20 v_tape_mayName_20 v_tape_value_20 v_tape_bytes).bind (un8 fun (r_27 : Int32) (v_fault_27 : Int32) (v_tape_at_27 : Int32) (v_tape_start_27 : Int32) (v_tape_kind_27 : Int32) (v_tape_code_27 : Int64) (v_tape_mayName_27 : Int32) (v_tape_value_27 : Int32) => if r_27 = 0 then (some (0, v_fault_27, v_number, v_inn_minutes, v_tape_at_27, v_tape_start_27, v_tape_kind_27, v_tape_code_27, v_tape_mayName_27, v_tape_value_27)) else ((fX6_passWhole N 1 40 v_fault_27 v_number v_tape_end v_tape_at_27 v_tape_start_27 v_tape_kind_27 v_tape_code_27 v_tape_mayName_27 v_tape_value_27 v_tape_bytes).bind (un9 fun (r_37 : Int32) (v_fault_37 : Int32) (v_number_37 : Int32) (v_tape_at_37 : Int32) (v_tape_start_37 : Int32) (v_tape_kind_37 : Int32) (v_tape_code_37 : Int64) (v_tape_mayName_37 : Int32) (v_tape_value_37 : Int32) => if r_37 = 0 then (some (0, v_fault_37, v_number_37, v_inn_minutes, v_tape_at_37, v_tape_start_37, v_tape_kind_37, v_tape_code_37, v_tape_mayName_37, v_tape_value_37)) else (some (1, v_fault_37, v_number_37, v_number_37, v_tape_at_37, v_tape_start_37, v_tape_kind_37, v_tape_code_37, v_tape_mayName_37, v_tape_value_37))))))) else ((fX6_fail N 3).bind (un2 fun (r_12 : Int32) (v_fault_12 : Int32) => zg r_12 (some (r_12, v_fault_12, v_number, v_inn_minutes, v_tape_at, v_tape_start, v_tape_kind, v_tape_code, v_tape_mayName, v_tape_value))))
set_option maxHeartbeats 4000000 in
set_option maxRecDepth 100000 in
theorem ctX6_readInn (l : Launch) (E : EN) (h h_tape h_names h_sorts h_numbers h_inn h_inn_house h_inn_thingIn h_inn_full h_inn_states h_inn_bed h_inn_dreamOf h_inn_listensIn h_tape_bytes : Nat) (v_named : Int32) (v_fault : Int32) (v_number : Int32) (v_inn_minutes : Int32) (v_inn_things : Int32) (v_inn_dreams : Int32) (v_inn_sleepers : Int32) (v_inn_listeners : Int32) (v_tape_length : Int32) (v_tape_end : Int32) (v_tape_at : Int32) (v_tape_start : Int32) (v_tape_kind : Int32) (v_tape_code : Int64) (v_tape_mayName : Int32) (v_tape_value : Int32) (v_tape_bytes : Nat → Int32) (N : Nat) (z : Int32 × Int32 × Int32 × Int32 × Int32 × Int32 × Int32 × Int64 × Int32 × Int32) (hf : fX6_readInn N v_fault v_number v_inn_minutes v_tape_end v_tape_at v_tape_start v_tape_kind v_tape_code v_tape_mayName v_tape_value v_tape_bytes = some z) : CTi l E yX6_readInn cX6_readInn 1 .boolean 3 66 [.ref h] (wX6_readInn E h h_tape h_names h_sorts h_numbers h_inn h_inn_house h_inn_thingIn h_inn_full h_inn_states h_inn_bed h_inn_dreamOf h_inn_listensIn h_tape_bytes v_named v_fault v_number v_inn_minutes v_inn_things v_inn_dreams v_inn_sleepers v_inn_listeners v_tape_length v_tape_end v_tape_at v_tape_start v_tape_kind v_tape_code v_tape_mayName v_tape_value v_tape_bytes) (z.1) (wX6_readInn E h h_tape h_names h_sorts h_numbers h_inn h_inn_house h_inn_thingIn h_inn_full h_inn_states h_inn_bed h_inn_dreamOf h_inn_listensIn h_tape_bytes v_named z.2.1 z.2.2.1 z.2.2.2.1 v_inn_things v_inn_dreams v_inn_sleepers v_inn_listeners v_tape_length v_tape_end z.2.2.2.2.1 z.2.2.2.2.2.1 z.2.2.2.2.2.2.1 z.2.2.2.2.2.2.2.1 z.2.2.2.2.2.2.2.2.1 z.2.2.2.2.2.2.2.2.2 v_tape_bytes) := by
  intro sz
  refine ct_body (by decide) (Nat.le_of_ble_eq_true rfl) ?_
  intro p e s m args below meth c A ls hAe C hr hin hP hD hS hl
  have C : CX p s m args meth c cX6_readInn RX6 1 E A := C
  have hl : lv_has ls 1 [(0, .ref h)] := hl
  have hx := C.1
  have hb := C.2.1
  rw [hAe]
  clear hAe
  obtain ⟨Q, hQ⟩ : ∃ Q, Q = MQ below (Qi E A (z.1) (wX6_readInn E h h_tape h_names h_sorts h_numbers h_inn h_inn_house h_inn_thingIn h_inn_full h_inn_states h_inn_bed h_inn_dreamOf h_inn_listensIn h_tape_bytes v_named z.2.1 z.2.2.1 z.2.2.2.1 v_inn_things v_inn_dreams v_inn_sleepers v_inn_listeners v_tape_length v_tape_end z.2.2.2.2.1 z.2.2.2.2.2.1 z.2.2.2.2.2.2.1 z.2.2.2.2.2.2.2.1 z.2.2.2.2.2.2.2.2.1 z.2.2.2.2.2.2.2.2.2 v_tape_bytes)) args s 0 0 A := ⟨_, rfl⟩
  rw [← hQ]
  unfold fX6_readInn at hf
  refine lv_aload_n (pc := 0) hx hb dX6_readInn_0 rfl (lv_at hl 0 rfl) ?_
  refine r_get (pc := 1) C hP 0 rfl fl_X6_32 rfl dX6_readInn_1 ?_
  refine r_get (pc := 4) C hP 1 rfl fl_X6_64 rfl dX6_readInn_4 ?_
  refine lv_if_le (pc := 7) (tgt := 16) hx hb dX6_readInn_7 (by decide) (fun c_7 => ?_) (fun c_7 => ?_)
  · replace hf := it_t c_7 hf
    refine lv_aload_n (pc := 16) hx hb dX6_readInn_16 rfl (lv_at hl 0 rfl) ?_
    refine r_get (pc := 17) C hP 0 rfl fl_X6_12 rfl dX6_readInn_17 ?_
    obtain ⟨v_tape_at_20, v_tape_start_20, v_tape_kind_20, v_tape_code_20, v_tape_mayName_20, v_tape_value_20, hc_20, hf⟩ := bd6 hf
    refine r_dalVv (pc := 20) (ws' := (wX6_readInn E h h_tape h_names h_sorts h_numbers h_inn h_inn_house h_inn_thingIn h_inn_full h_inn_states h_inn_bed h_inn_dreamOf h_inn_listensIn h_tape_bytes v_named v_fault v_number v_inn_minutes v_inn_things v_inn_dreams v_inn_sleepers v_inn_listeners v_tape_length v_tape_end v_tape_at_20 v_tape_start_20 v_tape_kind_20 v_tape_code_20 v_tape_mayName_20 v_tape_value_20 v_tape_bytes)) (As := []) (rest := []) C (ctX7_advance l E h_tape h_tape_bytes v_tape_length v_tape_end v_tape_at v_tape_start v_tape_kind v_tape_code v_tape_mayName v_tape_value v_tape_bytes N (v_tape_at_20, v_tape_start_20, v_tape_kind_20, v_tape_code_20, v_tape_mayName_20, v_tape_value_20) hc_20) ml_X6_57 ⟨Nat.le_of_ble_eq_true rfl, Nat.le_of_ble_eq_true rfl⟩ hP hD hS 2 rfl rfl rfl [2, 3] [0, 1, 4, 5] 4 rfl rfl rfl rfl rfl rfl rfl hl.1 rfl (Nat.le_of_ble_eq_true rfl) ⟨Nat.zero_le _, Nat.zero_le _⟩ dX6_readInn_20 ?_
    clear hP hD hS; intro H locs hP hD hS
    refine lv_aload_n (pc := 23) hx hb dX6_readInn_23 rfl (lv_at hl 0 rfl) ?_
    refine r_gets (pc := 24) C (C.kx.1 19 (by decide)).1 hS gs_X6_138 dX6_readInn_24 ?_
    obtain ⟨r_27, v_fault_27, v_tape_at_27, v_tape_start_27, v_tape_kind_27, v_tape_code_27, v_tape_mayName_27, v_tape_value_27, hc_27, hf⟩ := bd8 hf
    refine r_dalVi (pc := 27) (ws' := (wX6_readInn E h h_tape h_names h_sorts h_numbers h_inn h_inn_house h_inn_thingIn h_inn_full h_inn_states h_inn_bed h_inn_dreamOf h_inn_listensIn h_tape_bytes v_named v_fault_27 v_number v_inn_minutes v_inn_things v_inn_dreams v_inn_sleepers v_inn_listeners v_tape_length v_tape_end v_tape_at_27 v_tape_start_27 v_tape_kind_27 v_tape_code_27 v_tape_mayName_27 v_tape_value_27 v_tape_bytes)) (As := [.ref (E.2.2.1 19)]) (rest := []) C (ctX6_pass l E h h_tape h_names h_sorts h_numbers h_inn h_tape_bytes v_named v_fault v_number v_tape_length v_tape_end v_tape_at_20 v_tape_start_20 v_tape_kind_20 v_tape_code_20 v_tape_mayName_20 v_tape_value_20 v_tape_bytes 19 (by decide) N (r_27, v_fault_27, v_tape_at_27, v_tape_start_27, v_tape_kind_27, v_tape_code_27, v_tape_mayName_27, v_tape_value_27) hc_27) ml_X6_141 ⟨Nat.le_of_ble_eq_true rfl, Nat.le_of_ble_eq_true rfl⟩ hP hD hS 0 rfl rfl rfl [0, 2, 3] [4, 1, 5, 6] 4 rfl rfl rfl rfl rfl rfl rfl hl.1 rfl (Nat.le_of_ble_eq_true rfl) ⟨Nat.zero_le _, Nat.zero_le _⟩ dX6_readInn_27 ?_
    clear hP hD hS; intro H locs hP hD hS
    refine lv_if_eq (pc := 30) (tgt := 43) hx hb dX6_readInn_30 (by decide) (fun c_30 => ?_) (fun c_30 => ?_)
    · replace hf := it_t c_30 hf
      refine lv_iconst (pc := 43) (v := 0) hx hb dX6_readInn_43 (by decide) ?_
      cases hf
      rw [hQ]
      exact r_zret C hr hP hD hS (Or.inl rfl) rfl dX6_readInn_44
    · replace hf := it_f c_30 hf
      refine lv_aload_n (pc := 33) hx hb dX6_readInn_33 rfl (lv_at hl 0 rfl) ?_
      refine lv_iconst (pc := 34) (v := 1) hx hb dX6_readInn_34 (by decide) ?_
      refine lv_bipush (pc := 35) (v := 40) hx hb dX6_readInn_35 (by decide) ?_
      obtain ⟨r_37, v_fault_37, v_number_37, v_tape_at_37, v_tape_start_37, v_tape_kind_37, v_tape_code_37, v_tape_mayName_37, v_tape_value_37, hc_37, hf⟩ := bd9 hf
      refine r_dalVi (pc := 37) (ws' := (wX6_readInn E h h_tape h_names h_sorts h_numbers h_inn h_inn_house h_inn_thingIn h_inn_full h_inn_states h_inn_bed h_inn_dreamOf h_inn_listensIn h_tape_bytes v_named v_fault_37 v_number_37 v_inn_minutes v_inn_things v_inn_dreams v_inn_sleepers v_inn_listeners v_tape_length v_tape_end v_tape_at_37 v_tape_start_37 v_tape_kind_37 v_tape_code_37 v_tape_mayName_37 v_tape_value_37 v_tape_bytes)) (As := [.int 1, .int 40]) (rest := []) C (ctX6_passWhole l E h h_tape h_names h_sorts h_numbers h_inn h_tape_bytes v_named v_fault_27 v_number v_tape_length v_tape_end v_tape_at_27 v_tape_start_27 v_tape_kind_27 v_tape_code_27 v_tape_mayName_27 v_tape_value_27 v_tape_bytes N 1 40 (r_37, v_fault_37, v_number_37, v_tape_at_37, v_tape_start_37, v_tape_kind_37, v_tape_code_37, v_tape_mayName_37, v_tape_value_37) hc_37) ml_X6_144 ⟨Nat.le_of_ble_eq_true rfl, Nat.le_of_ble_eq_true rfl⟩ hP hD hS 0 rfl rfl rfl [0, 2, 3] [4, 1, 5, 6] 4 rfl rfl rfl rfl rfl rfl rfl hl.1 rfl (Nat.le_of_ble_eq_true rfl) ⟨Nat.zero_le _, Nat.zero_le _⟩ dX6_readInn_37 ?_
      clear hP hD hS; intro H locs hP hD hS
      refine lv_if_ne (pc := 40) (tgt := 45) hx hb dX6_readInn_40 (by decide) (fun c_40 => ?_) (fun c_40 => ?_)
      · replace hf := it_f c_40 hf
        refine lv_aload_n (pc := 45) hx hb dX6_readInn_45 rfl (lv_at hl 0 rfl) ?_
        refine r_get (pc := 46) C hP 0 rfl fl_X6_32 rfl dX6_readInn_46 ?_
        refine lv_aload_n (pc := 49) hx hb dX6_readInn_49 rfl (lv_at hl 0 rfl) ?_
        refine r_get (pc := 50) C hP 0 rfl fl_X6_148 rfl dX6_readInn_50 ?_
        refine r_put (pc := 53) (ws' := (wX6_readInn E h h_tape h_names h_sorts h_numbers h_inn h_inn_house h_inn_thingIn h_inn_full h_inn_states h_inn_bed h_inn_dreamOf h_inn_listensIn h_tape_bytes v_named v_fault_37 v_number_37 v_number_37 v_inn_things v_inn_dreams v_inn_sleepers v_inn_listeners v_tape_length v_tape_end v_tape_at_37 v_tape_start_37 v_tape_kind_37 v_tape_code_37 v_tape_mayName_37 v_tape_value_37 v_tape_bytes)) C hP hD hS 1 rfl fl_X6_64 rfl rfl (Nat.le_of_ble_eq_true rfl) rfl dX6_readInn_53 ?_
        clear hP hD hS; intro H locs hP hD hS
        refine lv_iconst (pc := 56) (v := 1) hx hb dX6_readInn_56 (by decide) ?_
        cases hf
        rw [hQ]
        exact r_zret C hr hP hD hS (Or.inr rfl) rfl dX6_readInn_57
      · replace hf := it_t c_40 hf
        refine lv_iconst (pc := 43) (v := 0) hx hb dX6_readInn_43 (by decide) ?_
        cases hf
        rw [hQ]
        exact r_zret C hr hP hD hS (Or.inl rfl) rfl dX6_readInn_44
  · replace hf := it_f c_7 hf
    refine lv_aload_n (pc := 10) hx hb dX6_readInn_10 rfl (lv_at hl 0 rfl) ?_
    refine lv_iconst (pc := 11) (v := 3) hx hb dX6_readInn_11 (by decide) ?_
    obtain ⟨r_12, v_fault_12, hc_12, hf⟩ := bd2 hf
    refine r_dalVi (pc := 12) (ws' := (wX6_readInn E h h_tape h_names h_sorts h_numbers h_inn h_inn_house h_inn_thingIn h_inn_full h_inn_states h_inn_bed h_inn_dreamOf h_inn_listensIn h_tape_bytes v_named v_fault_12 v_number v_inn_minutes v_inn_things v_inn_dreams v_inn_sleepers v_inn_listeners v_tape_length v_tape_end v_tape_at v_tape_start v_tape_kind v_tape_code v_tape_mayName v_tape_value v_tape_bytes)) (As := [.int 3]) (rest := []) C (ctX6_fail l E h h_tape h_names h_sorts h_numbers h_inn v_named v_fault v_number N 3 (r_12, v_fault_12) hc_12) ml_X6_60 ⟨Nat.le_of_ble_eq_true rfl, Nat.le_of_ble_eq_true rfl⟩ hP hD hS 0 rfl rfl rfl [0] [4, 1, 2, 3] 4 rfl rfl rfl rfl rfl rfl rfl hl.1 rfl (Nat.le_of_ble_eq_true rfl) ⟨Nat.zero_le _, Nat.zero_le _⟩ dX6_readInn_12 ?_
    clear hP hD hS; intro H locs hP hD hS
    obtain ⟨hz_15, hf⟩ := zg_s hf
    cases hf
    rw [hQ]
    exact r_zret C hr hP hD hS hz_15 rfl dX6_readInn_15
def wX6_placeOfName (E : EN) (h h_tape h_names h_sorts h_numbers h_inn h_tape_bytes : Nat) (v_named : Int32) (v_fault : Int32) (v_number : Int32) (v_names : Nat → Int64) (v_tape_length : Int32) (v_tape_end : Int32) (v_tape_at : Int32) (v_tape_start : Int32) (v_tape_kind : Int32) (v_tape_code : Int64) (v_tape_mayName : Int32) (v_tape_value : Int32) : va_W := [(h, .inr (6, [.ref h_tape, .ref h_names, .ref h_sorts, .ref h_numbers, .int v_named, .ref h_inn, .int v_fault, .int v_number])), (h_names, aJ E 19 v_names), (h_tape, .inr (7, [.ref h_tape_bytes, .int v_tape_length, .int v_tape_end, .int v_tape_at, .int v_tape_start, .int v_tape_kind, .long v_tape_code, .int v_tape_mayName, .int v_tape_value]))]
def BX6_placeOfName_2 (v_named : Int32) (v_names : Nat → Int64) (v_tape_code : Int64) (rec2 : (Int32) → Option Int32) : (Int32) → Option Int32 := un1 fun (x2_1 : Int32) => if v_named ≤ x2_1 then (some (-1)) else (gd x2_1 19 (if (lg_cmp (v_names x2_1.toNatClampNeg) v_tape_code) = 0 then (some x2_1) else (rec2 (x2_1 + 1))))
def fX6_placeOfName (N : Nat) (v_named : Int32) (v_names : Nat → Int64) (v_tape_code : Int64) : Option Int32 := lp (BX6_placeOfName_2 v_named v_names v_tape_code) N 0
set_option maxHeartbeats 4000000 in
set_option maxRecDepth 100000 in
theorem ctX6_placeOfName (l : Launch) (E : EN) (h h_tape h_names h_sorts h_numbers h_inn h_tape_bytes : Nat) (v_named : Int32) (v_fault : Int32) (v_number : Int32) (v_names : Nat → Int64) (v_tape_length : Int32) (v_tape_end : Int32) (v_tape_at : Int32) (v_tape_start : Int32) (v_tape_kind : Int32) (v_tape_code : Int64) (v_tape_mayName : Int32) (v_tape_value : Int32) (N : Nat) (z : Int32) (hf : fX6_placeOfName N v_named v_names v_tape_code = some z) : CTi l E yX6_placeOfName cX6_placeOfName 2 .int 0 0 [.ref h] (wX6_placeOfName E h h_tape h_names h_sorts h_numbers h_inn h_tape_bytes v_named v_fault v_number v_names v_tape_length v_tape_end v_tape_at v_tape_start v_tape_kind v_tape_code v_tape_mayName v_tape_value) (z) (wX6_placeOfName E h h_tape h_names h_sorts h_numbers h_inn h_tape_bytes v_named v_fault v_number v_names v_tape_length v_tape_end v_tape_at v_tape_start v_tape_kind v_tape_code v_tape_mayName v_tape_value) := by
  intro sz
  refine ct_body (by decide) (Nat.le_of_ble_eq_true rfl) ?_
  intro p e s m args below meth c A ls hAe C hr hin hP hD hS hl
  have C : CX p s m args meth c cX6_placeOfName RX6 2 E A := C
  have hl : lv_has ls 2 [(0, .ref h)] := hl
  have hx := C.1
  have hb := C.2.1
  rw [hAe]
  clear hAe
  obtain ⟨Q, hQ⟩ : ∃ Q, Q = MQ below (Qi E A (z) (wX6_placeOfName E h h_tape h_names h_sorts h_numbers h_inn h_tape_bytes v_named v_fault v_number v_names v_tape_length v_tape_end v_tape_at v_tape_start v_tape_kind v_tape_code v_tape_mayName v_tape_value)) args s 0 0 A := ⟨_, rfl⟩
  rw [← hQ]
  unfold fX6_placeOfName at hf
  refine lv_iconst (pc := 0) (v := 0) hx hb dX6_placeOfName_0 (by decide) ?_
  refine lv_istore_n (pc := 1) (lv' := [(1, .int 0), (0, .ref h)]) hx hb dX6_placeOfName_1 rfl hl (by decide) rfl (fun ls hl => ?_)
  have key2 : ∀ (n : Nat) (x2_1 : Int32) , lp (BX6_placeOfName_2 v_named v_names v_tape_code) n x2_1 = some z → AT p l e (rmOf 0 0) s m args below meth c E A Q 0 0 2 [(0, .ref h), (1, .int x2_1)] (wX6_placeOfName E h h_tape h_names h_sorts h_numbers h_inn h_tape_bytes v_named v_fault v_number v_names v_tape_length v_tape_end v_tape_at v_tape_start v_tape_kind v_tape_code v_tape_mayName v_tape_value) 2 [] := by
    intro n
    induction n with
    | zero => intro x2_1 hf; exact (lp_0 hf).elim
    | succ n ih2 =>
      intro x2_1 hf H locs ls hl hP hD hS
      replace hf := lp_s hf
      generalize lp (BX6_placeOfName_2 v_named v_names v_tape_code) n = rec2 at ih2 hf
      unfold BX6_placeOfName_2 at hf
      replace hf := un1_s hf
      refine lv_iload_n (pc := 2) hx hb dX6_placeOfName_2 rfl (lv_at hl 1 rfl) ?_
      refine lv_aload_n (pc := 3) hx hb dX6_placeOfName_3 rfl (lv_at hl 0 rfl) ?_
      refine r_get (pc := 4) C hP 0 rfl fl_X6_39 rfl dX6_placeOfName_4 ?_
      refine lv_icmp_ge (pc := 7) (tgt := 35) hx hb dX6_placeOfName_7 (by decide) (fun c_7 => ?_) (fun c_7 => ?_)
      · replace hf := it_t c_7 hf
        refine lv_iconst (pc := 35) (v := (-1)) hx hb dX6_placeOfName_35 (by decide) ?_
        cases hf
        rw [hQ]
        exact r_iret C hr hP hD hS rfl dX6_placeOfName_36
      · replace hf := it_f c_7 hf
        refine lv_aload_n (pc := 10) hx hb dX6_placeOfName_10 rfl (lv_at hl 0 rfl) ?_
        refine r_get (pc := 11) C hP 0 rfl fl_X6_18 rfl dX6_placeOfName_11 ?_
        refine lv_iload_n (pc := 14) hx hb dX6_placeOfName_14 rfl (lv_at hl 1 rfl) ?_
        obtain ⟨hi_15, hf⟩ := gd_s hf
        refine r_lald (pc := 15) C hP 1 rfl hi_15 dX6_placeOfName_15 ?_
        refine lv_aload_n (pc := 16) hx hb dX6_placeOfName_16 rfl (lv_at hl 0 rfl) ?_
        refine r_get (pc := 17) C hP 0 rfl fl_X6_12 rfl dX6_placeOfName_17 ?_
        refine r_get (pc := 20) C hP 2 rfl fl_X6_291 rfl dX6_placeOfName_20 ?_
        refine W.lcmp (pc := 23) hx hb dX6_placeOfName_23 ?_
        refine lv_if_ne (pc := 24) (tgt := 29) hx hb dX6_placeOfName_24 (by decide) (fun c_24 => ?_) (fun c_24 => ?_)
        · replace hf := it_f c_24 hf
          refine lv_iinc (pc := 29) (v := x2_1 + 1) (lv' := [(1, .int (x2_1 + 1)), (0, .ref h)]) hx hb dX6_placeOfName_29 hl (k := 1) rfl rfl (by decide) rfl (fun ls hl => ?_)
          refine lv_goto (pc := 32) (tgt := 2) hx hb dX6_placeOfName_32 (by decide) ?_
          exact ih2 (x2_1 + 1) hf _ _ _ (lv_sub hl [1, 0] rfl) hP hD hS
        · replace hf := it_t c_24 hf
          refine lv_iload_n (pc := 27) hx hb dX6_placeOfName_27 rfl (lv_at hl 1 rfl) ?_
          cases hf
          rw [hQ]
          exact r_iret C hr hP hD hS rfl dX6_placeOfName_28
  exact key2 _ 0 hf _ _ _ (lv_sub hl [1, 0] rfl) hP hD hS
def wX6_tellName (E : EN) (h h_tape h_names h_sorts h_numbers h_inn h_tape_bytes : Nat) (v_named : Int32) (v_fault : Int32) (v_number : Int32) (v_tape_length : Int32) (v_tape_end : Int32) (v_tape_at : Int32) (v_tape_start : Int32) (v_tape_kind : Int32) (v_tape_code : Int64) (v_tape_mayName : Int32) (v_tape_value : Int32) (v_names : Nat → Int64) (v_sorts : Nat → Int32) (v_numbers : Nat → Int32) : va_W := [(h, .inr (6, [.ref h_tape, .ref h_names, .ref h_sorts, .ref h_numbers, .int v_named, .ref h_inn, .int v_fault, .int v_number])), (h_tape, .inr (7, [.ref h_tape_bytes, .int v_tape_length, .int v_tape_end, .int v_tape_at, .int v_tape_start, .int v_tape_kind, .long v_tape_code, .int v_tape_mayName, .int v_tape_value])), (h_names, aJ E 19 v_names), (h_sorts, aI E 19 v_sorts), (h_numbers, aI E 19 v_numbers)]
def fX6_tellName (N : Nat) (p0 : Int32) (p1 : Int32) (v_named : Int32) (v_tape_code : Int64) (v_names : Nat → Int64) (v_sorts : Nat → Int32) (v_numbers : Nat → Int32) : Option (Int32 × (Nat → Int64) × (Nat → Int32) × (Nat → Int32)) := if 19 ≤ v_named then (some (v_named, v_names, v_sorts, v_numbers)) else (gd v_named 19 (gd v_named 19 (gd v_named 19 (some (v_named + 1, vp_updL v_names v_named.toNatClampNeg v_tape_code, upd v_sorts v_named.toNatClampNeg p0, upd v_numbers v_named.toNatClampNeg p1)))))
set_option maxHeartbeats 4000000 in
set_option maxRecDepth 100000 in
theorem ctX6_tellName (l : Launch) (E : EN) (h h_tape h_names h_sorts h_numbers h_inn h_tape_bytes : Nat) (v_named : Int32) (v_fault : Int32) (v_number : Int32) (v_tape_length : Int32) (v_tape_end : Int32) (v_tape_at : Int32) (v_tape_start : Int32) (v_tape_kind : Int32) (v_tape_code : Int64) (v_tape_mayName : Int32) (v_tape_value : Int32) (v_names : Nat → Int64) (v_sorts : Nat → Int32) (v_numbers : Nat → Int32) (N : Nat) (p0 : Int32) (p1 : Int32) (z : Int32 × (Nat → Int64) × (Nat → Int32) × (Nat → Int32)) (hf : fX6_tellName N p0 p1 v_named v_tape_code v_names v_sorts v_numbers = some z) : CTv l E yX6_tellName cX6_tellName 3 0 0 [.ref h, .int p0, .int p1] (wX6_tellName E h h_tape h_names h_sorts h_numbers h_inn h_tape_bytes v_named v_fault v_number v_tape_length v_tape_end v_tape_at v_tape_start v_tape_kind v_tape_code v_tape_mayName v_tape_value v_names v_sorts v_numbers) (wX6_tellName E h h_tape h_names h_sorts h_numbers h_inn h_tape_bytes z.1 v_fault v_number v_tape_length v_tape_end v_tape_at v_tape_start v_tape_kind v_tape_code v_tape_mayName v_tape_value z.2.1 z.2.2.1 z.2.2.2) := by
  intro sz
  refine ct_body (by decide) (Nat.le_of_ble_eq_true rfl) ?_
  intro p e s m args below meth c A ls hAe C hr hin hP hD hS hl
  have C : CX p s m args meth c cX6_tellName RX6 3 E A := C
  have hl : lv_has ls 3 [(0, .ref h), (1, .int p0), (2, .int p1)] := hl
  have hx := C.1
  have hb := C.2.1
  rw [hAe]
  clear hAe
  obtain ⟨Q, hQ⟩ : ∃ Q, Q = MQ below (Qv E A (wX6_tellName E h h_tape h_names h_sorts h_numbers h_inn h_tape_bytes z.1 v_fault v_number v_tape_length v_tape_end v_tape_at v_tape_start v_tape_kind v_tape_code v_tape_mayName v_tape_value z.2.1 z.2.2.1 z.2.2.2)) args s 0 0 A := ⟨_, rfl⟩
  rw [← hQ]
  unfold fX6_tellName at hf
  refine lv_aload_n (pc := 0) hx hb dX6_tellName_0 rfl (lv_at hl 0 rfl) ?_
  refine r_get (pc := 1) C hP 0 rfl fl_X6_39 rfl dX6_tellName_1 ?_
  refine lv_bipush (pc := 4) (v := 19) hx hb dX6_tellName_4 (by decide) ?_
  refine lv_icmp_ge (pc := 6) (tgt := 55) hx hb dX6_tellName_6 (by decide) (fun c_6 => ?_) (fun c_6 => ?_)
  · replace hf := it_t c_6 hf
    cases hf
    rw [hQ]
    exact r_vret C hr hP hD hS dX6_tellName_55
  · replace hf := it_f c_6 hf
    refine lv_aload_n (pc := 9) hx hb dX6_tellName_9 rfl (lv_at hl 0 rfl) ?_
    refine r_get (pc := 10) C hP 0 rfl fl_X6_18 rfl dX6_tellName_10 ?_
    refine lv_aload_n (pc := 13) hx hb dX6_tellName_13 rfl (lv_at hl 0 rfl) ?_
    refine r_get (pc := 14) C hP 0 rfl fl_X6_39 rfl dX6_tellName_14 ?_
    refine lv_aload_n (pc := 17) hx hb dX6_tellName_17 rfl (lv_at hl 0 rfl) ?_
    refine r_get (pc := 18) C hP 0 rfl fl_X6_12 rfl dX6_tellName_18 ?_
    refine r_get (pc := 21) C hP 1 rfl fl_X6_291 rfl dX6_tellName_21 ?_
    obtain ⟨hi_24, hf⟩ := gd_s hf
    refine r_last (pc := 24) (ws' := (wX6_tellName E h h_tape h_names h_sorts h_numbers h_inn h_tape_bytes v_named v_fault v_number v_tape_length v_tape_end v_tape_at v_tape_start v_tape_kind v_tape_code v_tape_mayName v_tape_value (vp_updL v_names v_named.toNatClampNeg v_tape_code) v_sorts v_numbers)) C hP hD hS 2 rfl hi_24 rfl dX6_tellName_24 ?_
    clear hP hD hS; intro H locs hP hD hS
    refine lv_aload_n (pc := 25) hx hb dX6_tellName_25 rfl (lv_at hl 0 rfl) ?_
    refine r_get (pc := 26) C hP 0 rfl fl_X6_22 rfl dX6_tellName_26 ?_
    refine lv_aload_n (pc := 29) hx hb dX6_tellName_29 rfl (lv_at hl 0 rfl) ?_
    refine r_get (pc := 30) C hP 0 rfl fl_X6_39 rfl dX6_tellName_30 ?_
    refine lv_iload_n (pc := 33) hx hb dX6_tellName_33 rfl (lv_at hl 1 rfl) ?_
    obtain ⟨hi_34, hf⟩ := gd_s hf
    refine r_iast (pc := 34) (ws' := (wX6_tellName E h h_tape h_names h_sorts h_numbers h_inn h_tape_bytes v_named v_fault v_number v_tape_length v_tape_end v_tape_at v_tape_start v_tape_kind v_tape_code v_tape_mayName v_tape_value (vp_updL v_names v_named.toNatClampNeg v_tape_code) (upd v_sorts v_named.toNatClampNeg p0) v_numbers)) C hP hD hS 3 rfl hi_34 rfl dX6_tellName_34 ?_
    clear hP hD hS; intro H locs hP hD hS
    refine lv_aload_n (pc := 35) hx hb dX6_tellName_35 rfl (lv_at hl 0 rfl) ?_
    refine r_get (pc := 36) C hP 0 rfl fl_X6_26 rfl dX6_tellName_36 ?_
    refine lv_aload_n (pc := 39) hx hb dX6_tellName_39 rfl (lv_at hl 0 rfl) ?_
    refine r_get (pc := 40) C hP 0 rfl fl_X6_39 rfl dX6_tellName_40 ?_
    refine lv_iload_n (pc := 43) hx hb dX6_tellName_43 rfl (lv_at hl 2 rfl) ?_
    obtain ⟨hi_44, hf⟩ := gd_s hf
    refine r_iast (pc := 44) (ws' := (wX6_tellName E h h_tape h_names h_sorts h_numbers h_inn h_tape_bytes v_named v_fault v_number v_tape_length v_tape_end v_tape_at v_tape_start v_tape_kind v_tape_code v_tape_mayName v_tape_value (vp_updL v_names v_named.toNatClampNeg v_tape_code) (upd v_sorts v_named.toNatClampNeg p0) (upd v_numbers v_named.toNatClampNeg p1))) C hP hD hS 4 rfl hi_44 rfl dX6_tellName_44 ?_
    clear hP hD hS; intro H locs hP hD hS
    refine lv_aload_n (pc := 45) hx hb dX6_tellName_45 rfl (lv_at hl 0 rfl) ?_
    refine lv_dup (pc := 46) hx hb dX6_tellName_46 rfl ?_
    refine r_get (pc := 47) C hP 0 rfl fl_X6_39 rfl dX6_tellName_47 ?_
    refine lv_iconst (pc := 50) (v := 1) hx hb dX6_tellName_50 (by decide) ?_
    refine lv_iadd (pc := 51) hx hb dX6_tellName_51 ?_
    refine r_put (pc := 52) (ws' := (wX6_tellName E h h_tape h_names h_sorts h_numbers h_inn h_tape_bytes (v_named + 1) v_fault v_number v_tape_length v_tape_end v_tape_at v_tape_start v_tape_kind v_tape_code v_tape_mayName v_tape_value (vp_updL v_names v_named.toNatClampNeg v_tape_code) (upd v_sorts v_named.toNatClampNeg p0) (upd v_numbers v_named.toNatClampNeg p1))) C hP hD hS 0 rfl fl_X6_39 rfl rfl (Nat.le_of_ble_eq_true rfl) rfl dX6_tellName_52 ?_
    clear hP hD hS; intro H locs hP hD hS
    cases hf
    rw [hQ]
    exact r_vret C hr hP hD hS dX6_tellName_55
def wX6_passNew (E : EN) (h h_tape h_names h_sorts h_numbers h_inn h_tape_bytes : Nat) (v_named : Int32) (v_fault : Int32) (v_number : Int32) (v_tape_length : Int32) (v_tape_end : Int32) (v_tape_at : Int32) (v_tape_start : Int32) (v_tape_kind : Int32) (v_tape_code : Int64) (v_tape_mayName : Int32) (v_tape_value : Int32) (v_names : Nat → Int64) (v_sorts : Nat → Int32) (v_numbers : Nat → Int32) (v_tape_bytes : Nat → Int32) : va_W := [(h, .inr (6, [.ref h_tape, .ref h_names, .ref h_sorts, .ref h_numbers, .int v_named, .ref h_inn, .int v_fault, .int v_number])), (h_tape, .inr (7, [.ref h_tape_bytes, .int v_tape_length, .int v_tape_end, .int v_tape_at, .int v_tape_start, .int v_tape_kind, .long v_tape_code, .int v_tape_mayName, .int v_tape_value])), (h_names, aJ E 19 v_names), (h_sorts, aI E 19 v_sorts), (h_numbers, aI E 19 v_numbers), (h_tape_bytes, aB E 900 v_tape_bytes)]
def fX6_passNew (N : Nat) (p0 : Int32) (p1 : Int32) (v_named : Int32) (v_fault : Int32) (v_tape_end : Int32) (v_tape_at : Int32) (v_tape_start : Int32) (v_tape_kind : Int32) (v_tape_code : Int64) (v_tape_mayName : Int32) (v_tape_value : Int32) (v_names : Nat → Int64) (v_sorts : Nat → Int32) (v_numbers : Nat → Int32) (v_tape_bytes : Nat → Int32) : Option (Int32 × Int32 × Int32 × Int32 × Int32 × Int32 × Int64 × Int32 × Int32 × (Nat → Int64) × (Nat → Int32) × (Nat → Int32)) := if v_tape_mayName = 0 then ((fX6_fail N 1).bind (un2 fun (r_12 : Int32) (v_fault_12 : Int32) => zg r_12 (some (r_12, v_named, v_fault_12, v_tape_at, v_tape_start, v_tape_kind, v_tape_code, v_tape_mayName, v_tape_value, v_names, v_sorts, v_numbers)))) else ((fX6_placeOfName N v_named v_names v_tape_code).bind (un1 fun (r_17 : Int32) => if r_17 = (-1) then ((fX6_tellName N p0 p1 v_named v_tape_code v_names v_sorts v_numbers).bind (un4 fun (v_named_33 : Int32) (v_names_33 : Nat → Int64) (v_sorts_33 : Nat → Int32) (v_numbers_33 : Nat → Int32) => (fX7_advance N v_tape_end v_tape_at v_tape_bytes).bind (un6 fun (v_tape_at_40 : Int32) (v_tape_start_40 : Int32) (v_tape_kind_40 : Int32) (v_tape_code_40 : Int64) (v_tape_mayName_40 : Int32) (v_tape_value_40 : Int32) => some (1, v_named_33, v_fault, v_tape_at_40, v_tape_start_40, v_tape_kind_40, v_tape_code_40, v_tape_mayName_40, v_tape_value_40, v_names_33, v_sorts_33, v_numbers_33)))) else ((fX6_fail N 3).bind (un2 fun (r_26 : Int32) (v_fault_26 : Int32) => zg r_26 (some (r_26, v_named, v_fault_26, v_tape_at, v_tape_start, v_tape_kind, v_tape_code, v_tape_mayName, v_tape_value, v_names, v_sorts, v_numbers))))))
set_option maxHeartbeats 4000000 in
set_option maxRecDepth 100000 in
theorem ctX6_passNew (l : Launch) (E : EN) (h h_tape h_names h_sorts h_numbers h_inn h_tape_bytes : Nat) (v_named : Int32) (v_fault : Int32) (v_number : Int32) (v_tape_length : Int32) (v_tape_end : Int32) (v_tape_at : Int32) (v_tape_start : Int32) (v_tape_kind : Int32) (v_tape_code : Int64) (v_tape_mayName : Int32) (v_tape_value : Int32) (v_names : Nat → Int64) (v_sorts : Nat → Int32) (v_numbers : Nat → Int32) (v_tape_bytes : Nat → Int32) (N : Nat) (p0 : Int32) (p1 : Int32) (z : Int32 × Int32 × Int32 × Int32 × Int32 × Int32 × Int64 × Int32 × Int32 × (Nat → Int64) × (Nat → Int32) × (Nat → Int32)) (hf : fX6_passNew N p0 p1 v_named v_fault v_tape_end v_tape_at v_tape_start v_tape_kind v_tape_code v_tape_mayName v_tape_value v_names v_sorts v_numbers v_tape_bytes = some z) : CTi l E yX6_passNew cX6_passNew 3 .boolean 2 44 [.ref h, .int p0, .int p1] (wX6_passNew E h h_tape h_names h_sorts h_numbers h_inn h_tape_bytes v_named v_fault v_number v_tape_length v_tape_end v_tape_at v_tape_start v_tape_kind v_tape_code v_tape_mayName v_tape_value v_names v_sorts v_numbers v_tape_bytes) (z.1) (wX6_passNew E h h_tape h_names h_sorts h_numbers h_inn h_tape_bytes z.2.1 z.2.2.1 v_number v_tape_length v_tape_end z.2.2.2.1 z.2.2.2.2.1 z.2.2.2.2.2.1 z.2.2.2.2.2.2.1 z.2.2.2.2.2.2.2.1 z.2.2.2.2.2.2.2.2.1 z.2.2.2.2.2.2.2.2.2.1 z.2.2.2.2.2.2.2.2.2.2.1 z.2.2.2.2.2.2.2.2.2.2.2 v_tape_bytes) := by
  intro sz
  refine ct_body (by decide) (Nat.le_of_ble_eq_true rfl) ?_
  intro p e s m args below meth c A ls hAe C hr hin hP hD hS hl
  have C : CX p s m args meth c cX6_passNew RX6 3 E A := C
  have hl : lv_has ls 3 [(0, .ref h), (1, .int p0), (2, .int p1)] := hl
  have hx := C.1
  have hb := C.2.1
  rw [hAe]
  clear hAe
  obtain ⟨Q, hQ⟩ : ∃ Q, Q = MQ below (Qi E A (z.1) (wX6_passNew E h h_tape h_names h_sorts h_numbers h_inn h_tape_bytes z.2.1 z.2.2.1 v_number v_tape_length v_tape_end z.2.2.2.1 z.2.2.2.2.1 z.2.2.2.2.2.1 z.2.2.2.2.2.2.1 z.2.2.2.2.2.2.2.1 z.2.2.2.2.2.2.2.2.1 z.2.2.2.2.2.2.2.2.2.1 z.2.2.2.2.2.2.2.2.2.2.1 z.2.2.2.2.2.2.2.2.2.2.2 v_tape_bytes)) args s 0 0 A := ⟨_, rfl⟩
  rw [← hQ]
  unfold fX6_passNew at hf
  refine lv_aload_n (pc := 0) hx hb dX6_passNew_0 rfl (lv_at hl 0 rfl) ?_
  refine r_get (pc := 1) C hP 0 rfl fl_X6_12 rfl dX6_passNew_1 ?_
  refine r_get (pc := 4) C hP 1 rfl fl_X6_271 rfl dX6_passNew_4 ?_
  refine lv_if_ne (pc := 7) (tgt := 16) hx hb dX6_passNew_7 (by decide) (fun c_7 => ?_) (fun c_7 => ?_)
  · replace hf := it_f c_7 hf
    refine lv_aload_n (pc := 16) hx hb dX6_passNew_16 rfl (lv_at hl 0 rfl) ?_
    obtain ⟨r_17, hc_17, hf⟩ := bd1 hf
    refine r_dalVi (pc := 17) (ws' := (wX6_passNew E h h_tape h_names h_sorts h_numbers h_inn h_tape_bytes v_named v_fault v_number v_tape_length v_tape_end v_tape_at v_tape_start v_tape_kind v_tape_code v_tape_mayName v_tape_value v_names v_sorts v_numbers v_tape_bytes)) (As := []) (rest := []) C (ctX6_placeOfName l E h h_tape h_names h_sorts h_numbers h_inn h_tape_bytes v_named v_fault v_number v_names v_tape_length v_tape_end v_tape_at v_tape_start v_tape_kind v_tape_code v_tape_mayName v_tape_value N r_17 hc_17) ml_X6_275 ⟨Nat.le_of_ble_eq_true rfl, Nat.le_of_ble_eq_true rfl⟩ hP hD hS 0 rfl rfl rfl [0, 2, 1] [6, 8, 7, 3, 4, 5] 6 rfl rfl rfl rfl rfl rfl rfl hl.1 rfl (Nat.le_of_ble_eq_true rfl) ⟨Nat.zero_le _, Nat.zero_le _⟩ dX6_passNew_17 ?_
    clear hP hD hS; intro H locs hP hD hS
    refine lv_iconst (pc := 20) (v := (-1)) hx hb dX6_passNew_20 (by decide) ?_
    refine lv_icmp_eq (pc := 21) (tgt := 30) hx hb dX6_passNew_21 (by decide) (fun c_21 => ?_) (fun c_21 => ?_)
    · replace hf := it_t c_21 hf
      refine lv_aload_n (pc := 30) hx hb dX6_passNew_30 rfl (lv_at hl 0 rfl) ?_
      refine lv_iload_n (pc := 31) hx hb dX6_passNew_31 rfl (lv_at hl 1 rfl) ?_
      refine lv_iload_n (pc := 32) hx hb dX6_passNew_32 rfl (lv_at hl 2 rfl) ?_
      obtain ⟨v_named_33, v_names_33, v_sorts_33, v_numbers_33, hc_33, hf⟩ := bd4 hf
      refine r_dalVv (pc := 33) (ws' := (wX6_passNew E h h_tape h_names h_sorts h_numbers h_inn h_tape_bytes v_named_33 v_fault v_number v_tape_length v_tape_end v_tape_at v_tape_start v_tape_kind v_tape_code v_tape_mayName v_tape_value v_names_33 v_sorts_33 v_numbers_33 v_tape_bytes)) (As := [.int p0, .int p1]) (rest := []) C (ctX6_tellName l E h h_tape h_names h_sorts h_numbers h_inn h_tape_bytes v_named v_fault v_number v_tape_length v_tape_end v_tape_at v_tape_start v_tape_kind v_tape_code v_tape_mayName v_tape_value v_names v_sorts v_numbers N p0 p1 (v_named_33, v_names_33, v_sorts_33, v_numbers_33) hc_33) ml_X6_278 ⟨Nat.le_of_ble_eq_true rfl, Nat.le_of_ble_eq_true rfl⟩ hP hD hS 0 rfl rfl rfl [0, 1, 2, 3, 4] [6, 7, 8, 9, 10, 5] 6 rfl rfl rfl rfl rfl rfl rfl hl.1 rfl (Nat.le_of_ble_eq_true rfl) ⟨Nat.zero_le _, Nat.zero_le _⟩ dX6_passNew_33 ?_
      clear hP hD hS; intro H locs hP hD hS
      refine lv_aload_n (pc := 36) hx hb dX6_passNew_36 rfl (lv_at hl 0 rfl) ?_
      refine r_get (pc := 37) C hP 0 rfl fl_X6_12 rfl dX6_passNew_37 ?_
      obtain ⟨v_tape_at_40, v_tape_start_40, v_tape_kind_40, v_tape_code_40, v_tape_mayName_40, v_tape_value_40, hc_40, hf⟩ := bd6 hf
      refine r_dalVv (pc := 40) (ws' := (wX6_passNew E h h_tape h_names h_sorts h_numbers h_inn h_tape_bytes v_named_33 v_fault v_number v_tape_length v_tape_end v_tape_at_40 v_tape_start_40 v_tape_kind_40 v_tape_code_40 v_tape_mayName_40 v_tape_value_40 v_names_33 v_sorts_33 v_numbers_33 v_tape_bytes)) (As := []) (rest := []) C (ctX7_advance l E h_tape h_tape_bytes v_tape_length v_tape_end v_tape_at v_tape_start v_tape_kind v_tape_code v_tape_mayName v_tape_value v_tape_bytes N (v_tape_at_40, v_tape_start_40, v_tape_kind_40, v_tape_code_40, v_tape_mayName_40, v_tape_value_40) hc_40) ml_X6_57 ⟨Nat.le_of_ble_eq_true rfl, Nat.le_of_ble_eq_true rfl⟩ hP hD hS 1 rfl rfl rfl [1, 5] [0, 6, 2, 3, 4, 7] 6 rfl rfl rfl rfl rfl rfl rfl hl.1 rfl (Nat.le_of_ble_eq_true rfl) ⟨Nat.zero_le _, Nat.zero_le _⟩ dX6_passNew_40 ?_
      clear hP hD hS; intro H locs hP hD hS
      refine lv_iconst (pc := 43) (v := 1) hx hb dX6_passNew_43 (by decide) ?_
      cases hf
      rw [hQ]
      exact r_zret C hr hP hD hS (Or.inr rfl) rfl dX6_passNew_44
    · replace hf := it_f c_21 hf
      refine lv_aload_n (pc := 24) hx hb dX6_passNew_24 rfl (lv_at hl 0 rfl) ?_
      refine lv_iconst (pc := 25) (v := 3) hx hb dX6_passNew_25 (by decide) ?_
      obtain ⟨r_26, v_fault_26, hc_26, hf⟩ := bd2 hf
      refine r_dalVi (pc := 26) (ws' := (wX6_passNew E h h_tape h_names h_sorts h_numbers h_inn h_tape_bytes v_named v_fault_26 v_number v_tape_length v_tape_end v_tape_at v_tape_start v_tape_kind v_tape_code v_tape_mayName v_tape_value v_names v_sorts v_numbers v_tape_bytes)) (As := [.int 3]) (rest := []) C (ctX6_fail l E h h_tape h_names h_sorts h_numbers h_inn v_named v_fault v_number N 3 (r_26, v_fault_26) hc_26) ml_X6_60 ⟨Nat.le_of_ble_eq_true rfl, Nat.le_of_ble_eq_true rfl⟩ hP hD hS 0 rfl rfl rfl [0] [6, 1, 2, 3, 4, 5] 6 rfl rfl rfl rfl rfl rfl rfl hl.1 rfl (Nat.le_of_ble_eq_true rfl) ⟨Nat.zero_le _, Nat.zero_le _⟩ dX6_passNew_26 ?_
      clear hP hD hS; intro H locs hP hD hS
      obtain ⟨hz_29, hf⟩ := zg_s hf
      cases hf
      rw [hQ]
      exact r_zret C hr hP hD hS hz_29 rfl dX6_passNew_29
  · replace hf := it_t c_7 hf
    refine lv_aload_n (pc := 10) hx hb dX6_passNew_10 rfl (lv_at hl 0 rfl) ?_
    refine lv_iconst (pc := 11) (v := 1) hx hb dX6_passNew_11 (by decide) ?_
    obtain ⟨r_12, v_fault_12, hc_12, hf⟩ := bd2 hf
    refine r_dalVi (pc := 12) (ws' := (wX6_passNew E h h_tape h_names h_sorts h_numbers h_inn h_tape_bytes v_named v_fault_12 v_number v_tape_length v_tape_end v_tape_at v_tape_start v_tape_kind v_tape_code v_tape_mayName v_tape_value v_names v_sorts v_numbers v_tape_bytes)) (As := [.int 1]) (rest := []) C (ctX6_fail l E h h_tape h_names h_sorts h_numbers h_inn v_named v_fault v_number N 1 (r_12, v_fault_12) hc_12) ml_X6_60 ⟨Nat.le_of_ble_eq_true rfl, Nat.le_of_ble_eq_true rfl⟩ hP hD hS 0 rfl rfl rfl [0] [6, 1, 2, 3, 4, 5] 6 rfl rfl rfl rfl rfl rfl rfl hl.1 rfl (Nat.le_of_ble_eq_true rfl) ⟨Nat.zero_le _, Nat.zero_le _⟩ dX6_passNew_12 ?_
    clear hP hD hS; intro H locs hP hD hS
    obtain ⟨hz_15, hf⟩ := zg_s hf
    cases hf
    rw [hQ]
    exact r_zret C hr hP hD hS hz_15 rfl dX6_passNew_15
def wX6_passIf (E : EN) (h h_tape h_names h_sorts h_numbers h_inn h_tape_bytes : Nat) (v_named : Int32) (v_fault : Int32) (v_number : Int32) (v_tape_length : Int32) (v_tape_end : Int32) (v_tape_at : Int32) (v_tape_start : Int32) (v_tape_kind : Int32) (v_tape_code : Int64) (v_tape_mayName : Int32) (v_tape_value : Int32) (v_tape_bytes : Nat → Int32) : va_W := [(h, .inr (6, [.ref h_tape, .ref h_names, .ref h_sorts, .ref h_numbers, .int v_named, .ref h_inn, .int v_fault, .int v_number])), (h_tape, .inr (7, [.ref h_tape_bytes, .int v_tape_length, .int v_tape_end, .int v_tape_at, .int v_tape_start, .int v_tape_kind, .long v_tape_code, .int v_tape_mayName, .int v_tape_value])), (h_tape_bytes, aB E 900 v_tape_bytes)]
def fX6_passIf (N : Nat) (k0 : Nat) (v_tape_end : Int32) (v_tape_at : Int32) (v_tape_start : Int32) (v_tape_kind : Int32) (v_tape_code : Int64) (v_tape_mayName : Int32) (v_tape_value : Int32) (v_tape_bytes : Nat → Int32) : Option (Int32 × Int32 × Int32 × Int32 × Int64 × Int32 × Int32) := (fX7_isAt N k0 v_tape_kind v_tape_code).bind (un1 fun (r_5 : Int32) => if r_5 = 0 then (zg r_5 (some (r_5, v_tape_at, v_tape_start, v_tape_kind, v_tape_code, v_tape_mayName, v_tape_value))) else ((fX7_advance N v_tape_end v_tape_at v_tape_bytes).bind (un6 fun (v_tape_at_17 : Int32) (v_tape_start_17 : Int32) (v_tape_kind_17 : Int32) (v_tape_code_17 : Int64) (v_tape_mayName_17 : Int32) (v_tape_value_17 : Int32) => zg r_5 (some (r_5, v_tape_at_17, v_tape_start_17, v_tape_kind_17, v_tape_code_17, v_tape_mayName_17, v_tape_value_17)))))
set_option maxHeartbeats 4000000 in
set_option maxRecDepth 100000 in
theorem ctX6_passIf (l : Launch) (E : EN) (h h_tape h_names h_sorts h_numbers h_inn h_tape_bytes : Nat) (v_named : Int32) (v_fault : Int32) (v_number : Int32) (v_tape_length : Int32) (v_tape_end : Int32) (v_tape_at : Int32) (v_tape_start : Int32) (v_tape_kind : Int32) (v_tape_code : Int64) (v_tape_mayName : Int32) (v_tape_value : Int32) (v_tape_bytes : Nat → Int32) (k0 : Nat) (hk0 : k0 < 24) (N : Nat) (z : Int32 × Int32 × Int32 × Int32 × Int64 × Int32 × Int32) (hf : fX6_passIf N k0 v_tape_end v_tape_at v_tape_start v_tape_kind v_tape_code v_tape_mayName v_tape_value v_tape_bytes = some z) : CTi l E yX6_passIf cX6_passIf 3 .boolean 2 44 [.ref h, .ref (E.2.2.1 k0)] (wX6_passIf E h h_tape h_names h_sorts h_numbers h_inn h_tape_bytes v_named v_fault v_number v_tape_length v_tape_end v_tape_at v_tape_start v_tape_kind v_tape_code v_tape_mayName v_tape_value v_tape_bytes) (z.1) (wX6_passIf E h h_tape h_names h_sorts h_numbers h_inn h_tape_bytes v_named v_fault v_number v_tape_length v_tape_end z.2.1 z.2.2.1 z.2.2.2.1 z.2.2.2.2.1 z.2.2.2.2.2.1 z.2.2.2.2.2.2 v_tape_bytes) := by
  intro sz
  refine ct_body (by decide) (Nat.le_of_ble_eq_true rfl) ?_
  intro p e s m args below meth c A ls hAe C hr hin hP hD hS hl
  have C : CX p s m args meth c cX6_passIf RX6 3 E A := C
  have hl : lv_has ls 3 [(0, .ref h), (1, .ref (E.2.2.1 k0))] := hl
  have hx := C.1
  have hb := C.2.1
  rw [hAe]
  clear hAe
  obtain ⟨Q, hQ⟩ : ∃ Q, Q = MQ below (Qi E A (z.1) (wX6_passIf E h h_tape h_names h_sorts h_numbers h_inn h_tape_bytes v_named v_fault v_number v_tape_length v_tape_end z.2.1 z.2.2.1 z.2.2.2.1 z.2.2.2.2.1 z.2.2.2.2.2.1 z.2.2.2.2.2.2 v_tape_bytes)) args s 0 0 A := ⟨_, rfl⟩
  rw [← hQ]
  unfold fX6_passIf at hf
  refine lv_aload_n (pc := 0) hx hb dX6_passIf_0 rfl (lv_at hl 0 rfl) ?_
  refine r_get (pc := 1) C hP 0 rfl fl_X6_12 rfl dX6_passIf_1 ?_
  refine lv_aload_n (pc := 4) hx hb dX6_passIf_4 rfl (lv_at hl 1 rfl) ?_
  obtain ⟨r_5, hc_5, hf⟩ := bd1 hf
  refine r_dalVi (pc := 5) (ws' := (wX6_passIf E h h_tape h_names h_sorts h_numbers h_inn h_tape_bytes v_named v_fault v_number v_tape_length v_tape_end v_tape_at v_tape_start v_tape_kind v_tape_code v_tape_mayName v_tape_value v_tape_bytes)) (As := [.ref (E.2.2.1 k0)]) (rest := []) C (ctX7_isAt l E h_tape h_tape_bytes v_tape_length v_tape_end v_tape_at v_tape_start v_tape_kind v_tape_code v_tape_mayName v_tape_value k0 hk0 N r_5 hc_5) ml_X6_95 ⟨Nat.le_of_ble_eq_true rfl, Nat.le_of_ble_eq_true rfl⟩ hP hD hS 1 rfl rfl rfl [1] [0, 3, 2] 3 rfl rfl rfl rfl rfl rfl rfl hl.1 rfl (Nat.le_of_ble_eq_true rfl) ⟨Nat.zero_le _, Nat.zero_le _⟩ dX6_passIf_5 ?_
  clear hP hD hS; intro H locs hP hD hS
  refine lv_istore_n (pc := 8) (lv' := [(2, .int r_5), (0, .ref h), (1, .ref (E.2.2.1 k0))]) hx hb dX6_passIf_8 rfl hl (by decide) rfl (fun ls hl => ?_)
  refine lv_iload_n (pc := 9) hx hb dX6_passIf_9 rfl (lv_at hl 0 rfl) ?_
  refine lv_if_eq (pc := 10) (tgt := 20) hx hb dX6_passIf_10 (by decide) (fun c_10 => ?_) (fun c_10 => ?_)
  · replace hf := it_t c_10 hf
    refine lv_iload_n (pc := 20) hx hb dX6_passIf_20 rfl (lv_at hl 0 rfl) ?_
    obtain ⟨hz_21, hf⟩ := zg_s hf
    cases hf
    rw [hQ]
    exact r_zret C hr hP hD hS hz_21 rfl dX6_passIf_21
  · replace hf := it_f c_10 hf
    refine lv_aload_n (pc := 13) hx hb dX6_passIf_13 rfl (lv_at hl 1 rfl) ?_
    refine r_get (pc := 14) C hP 0 rfl fl_X6_12 rfl dX6_passIf_14 ?_
    obtain ⟨v_tape_at_17, v_tape_start_17, v_tape_kind_17, v_tape_code_17, v_tape_mayName_17, v_tape_value_17, hc_17, hf⟩ := bd6 hf
    refine r_dalVv (pc := 17) (ws' := (wX6_passIf E h h_tape h_names h_sorts h_numbers h_inn h_tape_bytes v_named v_fault v_number v_tape_length v_tape_end v_tape_at_17 v_tape_start_17 v_tape_kind_17 v_tape_code_17 v_tape_mayName_17 v_tape_value_17 v_tape_bytes)) (As := []) (rest := []) C (ctX7_advance l E h_tape h_tape_bytes v_tape_length v_tape_end v_tape_at v_tape_start v_tape_kind v_tape_code v_tape_mayName v_tape_value v_tape_bytes N (v_tape_at_17, v_tape_start_17, v_tape_kind_17, v_tape_code_17, v_tape_mayName_17, v_tape_value_17) hc_17) ml_X6_57 ⟨Nat.le_of_ble_eq_true rfl, Nat.le_of_ble_eq_true rfl⟩ hP hD hS 1 rfl rfl rfl [1, 2] [0, 3, 4] 3 rfl rfl rfl rfl rfl rfl rfl hl.1 rfl (Nat.le_of_ble_eq_true rfl) ⟨Nat.zero_le _, Nat.zero_le _⟩ dX6_passIf_17 ?_
    clear hP hD hS; intro H locs hP hD hS
    refine lv_iload_n (pc := 20) hx hb dX6_passIf_20 rfl (lv_at hl 0 rfl) ?_
    obtain ⟨hz_21, hf⟩ := zg_s hf
    cases hf
    rw [hQ]
    exact r_zret C hr hP hD hS hz_21 rfl dX6_passIf_21
def wX1_addRoom (E : EN) (h h_creak h_cold h_one h_other h_how h_falls h_ways : Nat) (v_rooms : Int32) (v_doors : Int32) (v_creak : Nat → Int32) (v_cold : Nat → Int32) : va_W := [(h, .inr (1, [.int v_rooms, .ref h_creak, .ref h_cold, .int v_doors, .ref h_one, .ref h_other, .ref h_how, .ref h_falls, .ref h_ways])), (h_creak, aI E 8 v_creak), (h_cold, aZ E 8 v_cold)]
def fX1_addRoom (N : Nat) (p0 : Int32) (p1 : Int32) (v_rooms : Int32) (v_creak : Nat → Int32) (v_cold : Nat → Int32) : Option (Int32 × (Nat → Int32) × (Nat → Int32)) := gd v_rooms 8 (gd v_rooms 8 (zg p1 (some (v_rooms + 1, upd v_creak v_rooms.toNatClampNeg p0, upd v_cold v_rooms.toNatClampNeg p1))))
set_option maxHeartbeats 4000000 in
set_option maxRecDepth 100000 in
theorem ctX1_addRoom (l : Launch) (E : EN) (h h_creak h_cold h_one h_other h_how h_falls h_ways : Nat) (v_rooms : Int32) (v_doors : Int32) (v_creak : Nat → Int32) (v_cold : Nat → Int32) (N : Nat) (p0 : Int32) (p1 : Int32) (z : Int32 × (Nat → Int32) × (Nat → Int32)) (hf : fX1_addRoom N p0 p1 v_rooms v_creak v_cold = some z) : CTv l E yX1_addRoom cX1_addRoom 3 0 0 [.ref h, .int p0, .int p1] (wX1_addRoom E h h_creak h_cold h_one h_other h_how h_falls h_ways v_rooms v_doors v_creak v_cold) (wX1_addRoom E h h_creak h_cold h_one h_other h_how h_falls h_ways z.1 v_doors z.2.1 z.2.2) := by
  intro sz
  refine ct_body (by decide) (Nat.le_of_ble_eq_true rfl) ?_
  intro p e s m args below meth c A ls hAe C hr hin hP hD hS hl
  have C : CX p s m args meth c cX1_addRoom RX1 3 E A := C
  have hl : lv_has ls 3 [(0, .ref h), (1, .int p0), (2, .int p1)] := hl
  have hx := C.1
  have hb := C.2.1
  rw [hAe]
  clear hAe
  obtain ⟨Q, hQ⟩ : ∃ Q, Q = MQ below (Qv E A (wX1_addRoom E h h_creak h_cold h_one h_other h_how h_falls h_ways z.1 v_doors z.2.1 z.2.2)) args s 0 0 A := ⟨_, rfl⟩
  rw [← hQ]
  unfold fX1_addRoom at hf
  refine lv_aload_n (pc := 0) hx hb dX1_addRoom_0 rfl (lv_at hl 0 rfl) ?_
  refine r_get (pc := 1) C hP 0 rfl fl_X1_9 rfl dX1_addRoom_1 ?_
  refine lv_aload_n (pc := 4) hx hb dX1_addRoom_4 rfl (lv_at hl 0 rfl) ?_
  refine r_get (pc := 5) C hP 0 rfl fl_X1_38 rfl dX1_addRoom_5 ?_
  refine lv_iload_n (pc := 8) hx hb dX1_addRoom_8 rfl (lv_at hl 1 rfl) ?_
  obtain ⟨hi_9, hf⟩ := gd_s hf
  refine r_iast (pc := 9) (ws' := (wX1_addRoom E h h_creak h_cold h_one h_other h_how h_falls h_ways v_rooms v_doors (upd v_creak v_rooms.toNatClampNeg p0) v_cold)) C hP hD hS 1 rfl hi_9 rfl dX1_addRoom_9 ?_
  clear hP hD hS; intro H locs hP hD hS
  refine lv_aload_n (pc := 10) hx hb dX1_addRoom_10 rfl (lv_at hl 0 rfl) ?_
  refine r_get (pc := 11) C hP 0 rfl fl_X1_15 rfl dX1_addRoom_11 ?_
  refine lv_aload_n (pc := 14) hx hb dX1_addRoom_14 rfl (lv_at hl 0 rfl) ?_
  refine r_get (pc := 15) C hP 0 rfl fl_X1_38 rfl dX1_addRoom_15 ?_
  refine lv_iload_n (pc := 18) hx hb dX1_addRoom_18 rfl (lv_at hl 2 rfl) ?_
  obtain ⟨hi_19, hf⟩ := gd_s hf
  obtain ⟨hz_19, hf⟩ := zg_s hf
  refine r_zast (pc := 19) (ws' := (wX1_addRoom E h h_creak h_cold h_one h_other h_how h_falls h_ways v_rooms v_doors (upd v_creak v_rooms.toNatClampNeg p0) (upd v_cold v_rooms.toNatClampNeg p1))) C hP hD hS 2 rfl hi_19 hz_19 rfl dX1_addRoom_19 ?_
  clear hP hD hS; intro H locs hP hD hS
  refine lv_aload_n (pc := 20) hx hb dX1_addRoom_20 rfl (lv_at hl 0 rfl) ?_
  refine lv_dup (pc := 21) hx hb dX1_addRoom_21 rfl ?_
  refine r_get (pc := 22) C hP 0 rfl fl_X1_38 rfl dX1_addRoom_22 ?_
  refine lv_iconst (pc := 25) (v := 1) hx hb dX1_addRoom_25 (by decide) ?_
  refine lv_iadd (pc := 26) hx hb dX1_addRoom_26 ?_
  refine r_put (pc := 27) (ws' := (wX1_addRoom E h h_creak h_cold h_one h_other h_how h_falls h_ways (v_rooms + 1) v_doors (upd v_creak v_rooms.toNatClampNeg p0) (upd v_cold v_rooms.toNatClampNeg p1))) C hP hD hS 0 rfl fl_X1_38 rfl rfl (Nat.le_of_ble_eq_true rfl) rfl dX1_addRoom_27 ?_
  clear hP hD hS; intro H locs hP hD hS
  cases hf
  rw [hQ]
  exact r_vret C hr hP hD hS dX1_addRoom_30
def wX6_readRoom (E : EN) (h h_tape h_names h_sorts h_numbers h_inn h_inn_house h_inn_thingIn h_inn_full h_inn_states h_inn_bed h_inn_dreamOf h_inn_listensIn h_inn_house_creak h_inn_house_cold h_inn_house_one h_inn_house_other h_inn_house_how h_inn_house_falls h_inn_house_ways h_tape_bytes : Nat) (v_named : Int32) (v_fault : Int32) (v_number : Int32) (v_inn_minutes : Int32) (v_inn_things : Int32) (v_inn_dreams : Int32) (v_inn_sleepers : Int32) (v_inn_listeners : Int32) (v_inn_house_rooms : Int32) (v_inn_house_doors : Int32) (v_tape_length : Int32) (v_tape_end : Int32) (v_tape_at : Int32) (v_tape_start : Int32) (v_tape_kind : Int32) (v_tape_code : Int64) (v_tape_mayName : Int32) (v_tape_value : Int32) (v_tape_bytes : Nat → Int32) (v_names : Nat → Int64) (v_sorts : Nat → Int32) (v_numbers : Nat → Int32) (v_inn_house_creak : Nat → Int32) (v_inn_house_cold : Nat → Int32) : va_W := [(h, .inr (6, [.ref h_tape, .ref h_names, .ref h_sorts, .ref h_numbers, .int v_named, .ref h_inn, .int v_fault, .int v_number])), (h_inn, .inr (2, [.ref h_inn_house, .int v_inn_minutes, .int v_inn_things, .ref h_inn_thingIn, .ref h_inn_full, .int v_inn_dreams, .ref h_inn_states, .int v_inn_sleepers, .ref h_inn_bed, .ref h_inn_dreamOf, .int v_inn_listeners, .ref h_inn_listensIn])), (h_inn_house, .inr (1, [.int v_inn_house_rooms, .ref h_inn_house_creak, .ref h_inn_house_cold, .int v_inn_house_doors, .ref h_inn_house_one, .ref h_inn_house_other, .ref h_inn_house_how, .ref h_inn_house_falls, .ref h_inn_house_ways])), (h_tape, .inr (7, [.ref h_tape_bytes, .int v_tape_length, .int v_tape_end, .int v_tape_at, .int v_tape_start, .int v_tape_kind, .long v_tape_code, .int v_tape_mayName, .int v_tape_value])), (h_tape_bytes, aB E 900 v_tape_bytes), (h_names, aJ E 19 v_names), (h_sorts, aI E 19 v_sorts), (h_numbers, aI E 19 v_numbers), (h_inn_house_creak, aI E 8 v_inn_house_creak), (h_inn_house_cold, aZ E 8 v_inn_house_cold)]
def fX6_readRoom (N : Nat) (v_named : Int32) (v_fault : Int32) (v_number : Int32) (v_inn_house_rooms : Int32) (v_tape_end : Int32) (v_tape_at : Int32) (v_tape_start : Int32) (v_tape_kind : Int32) (v_tape_code : Int64) (v_tape_mayName : Int32) (v_tape_value : Int32) (v_tape_bytes : Nat → Int32) (v_names : Nat → Int64) (v_sorts : Nat → Int32) (v_numbers : Nat → Int32) (v_inn_house_creak : Nat → Int32) (v_inn_house_cold : Nat → Int32) : Option (Int32 × Int32 × Int32 × Int32 × Int32 × Int32 × Int32 × Int32 × Int64 × Int32 × Int32 × (Nat → Int64) × (Nat → Int32) × (Nat → Int32) × (Nat → Int32) × (Nat → Int32)) := if v_inn_house_rooms < 8 then ((fX7_advance N v_tape_end v_tape_at v_tape_bytes).bind (un6 fun (v_tape_at_25 : Int32) (v_tape_start_25 : Int32) (v_tape_kind_25 : Int32) (v_tape_code_25 : Int64) (v_tape_mayName_25 : Int32) (v_tape_value_25 : Int32) => (fX6_passNew N 0 v_inn_house_rooms v_named v_fault v_tape_end v_tape_at_25 v_tape_start_25 v_tape_kind_25 v_tape_code_25 v_tape_mayName_25 v_tape_value_25 v_names v_sorts v_numbers v_tape_bytes).bind (un12 fun (r_40 : Int32) (v_named_40 : Int32) (v_fault_40 : Int32) (v_tape_at_40 : Int32) (v_tape_start_40 : Int32) (v_tape_kind_40 : Int32) (v_tape_code_40 : Int64) (v_tape_mayName_40 : Int32) (v_tape_value_40 : Int32) (v_names_40 : Nat → Int64) (v_sorts_40 : Nat → Int32) (v_numbers_40 : Nat → Int32) => if r_40 = 0 then (some (0, v_named_40, v_fault_40, v_number, v_inn_house_rooms, v_tape_at_40, v_tape_start_40, v_tape_kind_40, v_tape_code_40, v_tape_mayName_40, v_tape_value_40, v_names_40, v_sorts_40, v_numbers_40, v_inn_house_creak, v_inn_house_cold)) else ((fX6_pass N 20 v_fault_40 v_tape_end v_tape_at_40 v_tape_start_40 v_tape_kind_40 v_tape_code_40 v_tape_mayName_40 v_tape_value_40 v_tape_bytes).bind (un8 fun (r_50 : Int32) (v_fault_50 : Int32) (v_tape_at_50 : Int32) (v_tape_start_50 : Int32) (v_tape_kind_50 : Int32) (v_tape_code_50 : Int64) (v_tape_mayName_50 : Int32) (v_tape_value_50 : Int32) => if r_50 = 0 then (some (0, v_named_40, v_fault_50, v_number, v_inn_house_rooms, v_tape_at_50, v_tape_start_50, v_tape_kind_50, v_tape_code_50, v_tape_mayName_50, v_tape_value_50, v_names_40, v_sorts_40, v_numbers_40, v_inn_house_creak, v_inn_house_cold)) else ((fX6_passWhole N 0 9 v_fault_50 v_number v_tape_end v_tape_at_50 v_tape_start_50 v_tape_kind_50 v_tape_code_50 v_tape_mayName_50 v_tape_value_50 v_tape_bytes).bind (un9 fun (r_60 : Int32) (v_fault_60 : Int32) (v_number_60 : Int32) (v_tape_at_60 : Int32) (v_tape_start_60 : Int32) (v_tape_kind_60 : Int32) (v_tape_code_60 : Int64) (v_tape_mayName_60 : Int32) (v_tape_value_60 : Int32) => if r_60 = 0 then (some (0, v_named_40, v_fault_60, v_number_60, v_inn_house_rooms, v_tape_at_60, v_tape_start_60, v_tape_kind_60, v_tape_code_60, v_tape_mayName_60, v_tape_value_60, v_names_40, v_sorts_40, v_numbers_40, v_inn_house_creak, v_inn_house_cold)) else ((fX6_passIf N 7 v_tape_end v_tape_at_60 v_tape_start_60 v_tape_kind_60 v_tape_code_60 v_tape_mayName_60 v_tape_value_60 v_tape_bytes).bind (un7 fun (r_83 : Int32) (v_tape_at_83 : Int32) (v_tape_start_83 : Int32) (v_tape_kind_83 : Int32) (v_tape_code_83 : Int64) (v_tape_mayName_83 : Int32) (v_tape_value_83 : Int32) => (fX1_addRoom N v_number_60 r_83 v_inn_house_rooms v_inn_house_creak v_inn_house_cold).bind (un3 fun (v_inn_house_rooms_86 : Int32) (v_inn_house_creak_86 : Nat → Int32) (v_inn_house_cold_86 : Nat → Int32) => some (1, v_named_40, v_fault_60, v_number_60, v_inn_house_rooms_86, v_tape_at_83, v_tape_start_83, v_tape_kind_83, v_tape_code_83, v_tape_mayName_83, v_tape_value_83, v_names_40, v_sorts_40, v_numbers_40, v_inn_house_creak_86, v_inn_house_cold_86))))))))))) else ((fX6_fail N 5).bind (un2 fun (r_17 : Int32) (v_fault_17 : Int32) => zg r_17 (some (r_17, v_named, v_fault_17, v_number, v_inn_house_rooms, v_tape_at, v_tape_start, v_tape_kind, v_tape_code, v_tape_mayName, v_tape_value, v_names, v_sorts, v_numbers, v_inn_house_creak, v_inn_house_cold))))
set_option maxHeartbeats 4000000 in
set_option maxRecDepth 100000 in
theorem ctX6_readRoom (l : Launch) (E : EN) (h h_tape h_names h_sorts h_numbers h_inn h_inn_house h_inn_thingIn h_inn_full h_inn_states h_inn_bed h_inn_dreamOf h_inn_listensIn h_inn_house_creak h_inn_house_cold h_inn_house_one h_inn_house_other h_inn_house_how h_inn_house_falls h_inn_house_ways h_tape_bytes : Nat) (v_named : Int32) (v_fault : Int32) (v_number : Int32) (v_inn_minutes : Int32) (v_inn_things : Int32) (v_inn_dreams : Int32) (v_inn_sleepers : Int32) (v_inn_listeners : Int32) (v_inn_house_rooms : Int32) (v_inn_house_doors : Int32) (v_tape_length : Int32) (v_tape_end : Int32) (v_tape_at : Int32) (v_tape_start : Int32) (v_tape_kind : Int32) (v_tape_code : Int64) (v_tape_mayName : Int32) (v_tape_value : Int32) (v_tape_bytes : Nat → Int32) (v_names : Nat → Int64) (v_sorts : Nat → Int32) (v_numbers : Nat → Int32) (v_inn_house_creak : Nat → Int32) (v_inn_house_cold : Nat → Int32) (N : Nat) (z : Int32 × Int32 × Int32 × Int32 × Int32 × Int32 × Int32 × Int32 × Int64 × Int32 × Int32 × (Nat → Int64) × (Nat → Int32) × (Nat → Int32) × (Nat → Int32) × (Nat → Int32)) (hf : fX6_readRoom N v_named v_fault v_number v_inn_house_rooms v_tape_end v_tape_at v_tape_start v_tape_kind v_tape_code v_tape_mayName v_tape_value v_tape_bytes v_names v_sorts v_numbers v_inn_house_creak v_inn_house_cold = some z) : CTi l E yX6_readRoom cX6_readRoom 1 .boolean 3 66 [.ref h] (wX6_readRoom E h h_tape h_names h_sorts h_numbers h_inn h_inn_house h_inn_thingIn h_inn_full h_inn_states h_inn_bed h_inn_dreamOf h_inn_listensIn h_inn_house_creak h_inn_house_cold h_inn_house_one h_inn_house_other h_inn_house_how h_inn_house_falls h_inn_house_ways h_tape_bytes v_named v_fault v_number v_inn_minutes v_inn_things v_inn_dreams v_inn_sleepers v_inn_listeners v_inn_house_rooms v_inn_house_doors v_tape_length v_tape_end v_tape_at v_tape_start v_tape_kind v_tape_code v_tape_mayName v_tape_value v_tape_bytes v_names v_sorts v_numbers v_inn_house_creak v_inn_house_cold) (z.1) (wX6_readRoom E h h_tape h_names h_sorts h_numbers h_inn h_inn_house h_inn_thingIn h_inn_full h_inn_states h_inn_bed h_inn_dreamOf h_inn_listensIn h_inn_house_creak h_inn_house_cold h_inn_house_one h_inn_house_other h_inn_house_how h_inn_house_falls h_inn_house_ways h_tape_bytes z.2.1 z.2.2.1 z.2.2.2.1 v_inn_minutes v_inn_things v_inn_dreams v_inn_sleepers v_inn_listeners z.2.2.2.2.1 v_inn_house_doors v_tape_length v_tape_end z.2.2.2.2.2.1 z.2.2.2.2.2.2.1 z.2.2.2.2.2.2.2.1 z.2.2.2.2.2.2.2.2.1 z.2.2.2.2.2.2.2.2.2.1 z.2.2.2.2.2.2.2.2.2.2.1 v_tape_bytes z.2.2.2.2.2.2.2.2.2.2.2.1 z.2.2.2.2.2.2.2.2.2.2.2.2.1 z.2.2.2.2.2.2.2.2.2.2.2.2.2.1 z.2.2.2.2.2.2.2.2.2.2.2.2.2.2.1 z.2.2.2.2.2.2.2.2.2.2.2.2.2.2.2) := by
  intro sz
  refine ct_body (by decide) (Nat.le_of_ble_eq_true rfl) ?_
  intro p e s m args below meth c A ls hAe C hr hin hP hD hS hl
  have C : CX p s m args meth c cX6_readRoom RX6 1 E A := C
  have hl : lv_has ls 1 [(0, .ref h)] := hl
  have hx := C.1
  have hb := C.2.1
  rw [hAe]
  clear hAe
  obtain ⟨Q, hQ⟩ : ∃ Q, Q = MQ below (Qi E A (z.1) (wX6_readRoom E h h_tape h_names h_sorts h_numbers h_inn h_inn_house h_inn_thingIn h_inn_full h_inn_states h_inn_bed h_inn_dreamOf h_inn_listensIn h_inn_house_creak h_inn_house_cold h_inn_house_one h_inn_house_other h_inn_house_how h_inn_house_falls h_inn_house_ways h_tape_bytes z.2.1 z.2.2.1 z.2.2.2.1 v_inn_minutes v_inn_things v_inn_dreams v_inn_sleepers v_inn_listeners z.2.2.2.2.1 v_inn_house_doors v_tape_length v_tape_end z.2.2.2.2.2.1 z.2.2.2.2.2.2.1 z.2.2.2.2.2.2.2.1 z.2.2.2.2.2.2.2.2.1 z.2.2.2.2.2.2.2.2.2.1 z.2.2.2.2.2.2.2.2.2.2.1 v_tape_bytes z.2.2.2.2.2.2.2.2.2.2.2.1 z.2.2.2.2.2.2.2.2.2.2.2.2.1 z.2.2.2.2.2.2.2.2.2.2.2.2.2.1 z.2.2.2.2.2.2.2.2.2.2.2.2.2.2.1 z.2.2.2.2.2.2.2.2.2.2.2.2.2.2.2)) args s 0 0 A := ⟨_, rfl⟩
  rw [← hQ]
  unfold fX6_readRoom at hf
  refine lv_aload_n (pc := 0) hx hb dX6_readRoom_0 rfl (lv_at hl 0 rfl) ?_
  refine r_get (pc := 1) C hP 0 rfl fl_X6_32 rfl dX6_readRoom_1 ?_
  refine r_get (pc := 4) C hP 1 rfl fl_X6_67 rfl dX6_readRoom_4 ?_
  refine r_get (pc := 7) C hP 2 rfl fl_X6_71 rfl dX6_readRoom_7 ?_
  refine lv_bipush (pc := 10) (v := 8) hx hb dX6_readRoom_10 (by decide) ?_
  refine lv_icmp_lt (pc := 12) (tgt := 21) hx hb dX6_readRoom_12 (by decide) (fun c_12 => ?_) (fun c_12 => ?_)
  · replace hf := it_t c_12 hf
    refine lv_aload_n (pc := 21) hx hb dX6_readRoom_21 rfl (lv_at hl 0 rfl) ?_
    refine r_get (pc := 22) C hP 0 rfl fl_X6_12 rfl dX6_readRoom_22 ?_
    obtain ⟨v_tape_at_25, v_tape_start_25, v_tape_kind_25, v_tape_code_25, v_tape_mayName_25, v_tape_value_25, hc_25, hf⟩ := bd6 hf
    refine r_dalVv (pc := 25) (ws' := (wX6_readRoom E h h_tape h_names h_sorts h_numbers h_inn h_inn_house h_inn_thingIn h_inn_full h_inn_states h_inn_bed h_inn_dreamOf h_inn_listensIn h_inn_house_creak h_inn_house_cold h_inn_house_one h_inn_house_other h_inn_house_how h_inn_house_falls h_inn_house_ways h_tape_bytes v_named v_fault v_number v_inn_minutes v_inn_things v_inn_dreams v_inn_sleepers v_inn_listeners v_inn_house_rooms v_inn_house_doors v_tape_length v_tape_end v_tape_at_25 v_tape_start_25 v_tape_kind_25 v_tape_code_25 v_tape_mayName_25 v_tape_value_25 v_tape_bytes v_names v_sorts v_numbers v_inn_house_creak v_inn_house_cold)) (As := []) (rest := []) C (ctX7_advance l E h_tape h_tape_bytes v_tape_length v_tape_end v_tape_at v_tape_start v_tape_kind v_tape_code v_tape_mayName v_tape_value v_tape_bytes N (v_tape_at_25, v_tape_start_25, v_tape_kind_25, v_tape_code_25, v_tape_mayName_25, v_tape_value_25) hc_25) ml_X6_57 ⟨Nat.le_of_ble_eq_true rfl, Nat.le_of_ble_eq_true rfl⟩ hP hD hS 3 rfl rfl rfl [3, 4] [0, 1, 2, 10, 11, 5, 6, 7, 8, 9] 10 rfl rfl rfl rfl rfl rfl rfl hl.1 rfl (Nat.le_of_ble_eq_true rfl) ⟨Nat.zero_le _, Nat.zero_le _⟩ dX6_readRoom_25 ?_
    clear hP hD hS; intro H locs hP hD hS
    refine lv_aload_n (pc := 28) hx hb dX6_readRoom_28 rfl (lv_at hl 0 rfl) ?_
    refine lv_iconst (pc := 29) (v := 0) hx hb dX6_readRoom_29 (by decide) ?_
    refine lv_aload_n (pc := 30) hx hb dX6_readRoom_30 rfl (lv_at hl 0 rfl) ?_
    refine r_get (pc := 31) C hP 0 rfl fl_X6_32 rfl dX6_readRoom_31 ?_
    refine r_get (pc := 34) C hP 1 rfl fl_X6_67 rfl dX6_readRoom_34 ?_
    refine r_get (pc := 37) C hP 2 rfl fl_X6_71 rfl dX6_readRoom_37 ?_
    obtain ⟨r_40, v_named_40, v_fault_40, v_tape_at_40, v_tape_start_40, v_tape_kind_40, v_tape_code_40, v_tape_mayName_40, v_tape_value_40, v_names_40, v_sorts_40, v_numbers_40, hc_40, hf⟩ := bd12 hf
    refine r_dalVi (pc := 40) (ws' := (wX6_readRoom E h h_tape h_names h_sorts h_numbers h_inn h_inn_house h_inn_thingIn h_inn_full h_inn_states h_inn_bed h_inn_dreamOf h_inn_listensIn h_inn_house_creak h_inn_house_cold h_inn_house_one h_inn_house_other h_inn_house_how h_inn_house_falls h_inn_house_ways h_tape_bytes v_named_40 v_fault_40 v_number v_inn_minutes v_inn_things v_inn_dreams v_inn_sleepers v_inn_listeners v_inn_house_rooms v_inn_house_doors v_tape_length v_tape_end v_tape_at_40 v_tape_start_40 v_tape_kind_40 v_tape_code_40 v_tape_mayName_40 v_tape_value_40 v_tape_bytes v_names_40 v_sorts_40 v_numbers_40 v_inn_house_creak v_inn_house_cold)) (As := [.int 0, .int v_inn_house_rooms]) (rest := []) C (ctX6_passNew l E h h_tape h_names h_sorts h_numbers h_inn h_tape_bytes v_named v_fault v_number v_tape_length v_tape_end v_tape_at_25 v_tape_start_25 v_tape_kind_25 v_tape_code_25 v_tape_mayName_25 v_tape_value_25 v_names v_sorts v_numbers v_tape_bytes N 0 v_inn_house_rooms (r_40, v_named_40, v_fault_40, v_tape_at_40, v_tape_start_40, v_tape_kind_40, v_tape_code_40, v_tape_mayName_40, v_tape_value_40, v_names_40, v_sorts_40, v_numbers_40) hc_40) ml_X6_151 ⟨Nat.le_of_ble_eq_true rfl, Nat.le_of_ble_eq_true rfl⟩ hP hD hS 0 rfl rfl rfl [0, 3, 5, 6, 7, 4] [10, 1, 2, 11, 15, 12, 13, 14, 8, 9] 10 rfl rfl rfl rfl rfl rfl rfl hl.1 rfl (Nat.le_of_ble_eq_true rfl) ⟨Nat.zero_le _, Nat.zero_le _⟩ dX6_readRoom_40 ?_
    clear hP hD hS; intro H locs hP hD hS
    refine lv_if_eq (pc := 43) (tgt := 66) hx hb dX6_readRoom_43 (by decide) (fun c_43 => ?_) (fun c_43 => ?_)
    · replace hf := it_t c_43 hf
      refine lv_iconst (pc := 66) (v := 0) hx hb dX6_readRoom_66 (by decide) ?_
      cases hf
      rw [hQ]
      exact r_zret C hr hP hD hS (Or.inl rfl) rfl dX6_readRoom_67
    · replace hf := it_f c_43 hf
      refine lv_aload_n (pc := 46) hx hb dX6_readRoom_46 rfl (lv_at hl 0 rfl) ?_
      refine r_gets (pc := 47) C (C.kx.1 20 (by decide)).1 hS gs_X6_154 dX6_readRoom_47 ?_
      obtain ⟨r_50, v_fault_50, v_tape_at_50, v_tape_start_50, v_tape_kind_50, v_tape_code_50, v_tape_mayName_50, v_tape_value_50, hc_50, hf⟩ := bd8 hf
      refine r_dalVi (pc := 50) (ws' := (wX6_readRoom E h h_tape h_names h_sorts h_numbers h_inn h_inn_house h_inn_thingIn h_inn_full h_inn_states h_inn_bed h_inn_dreamOf h_inn_listensIn h_inn_house_creak h_inn_house_cold h_inn_house_one h_inn_house_other h_inn_house_how h_inn_house_falls h_inn_house_ways h_tape_bytes v_named_40 v_fault_50 v_number v_inn_minutes v_inn_things v_inn_dreams v_inn_sleepers v_inn_listeners v_inn_house_rooms v_inn_house_doors v_tape_length v_tape_end v_tape_at_50 v_tape_start_50 v_tape_kind_50 v_tape_code_50 v_tape_mayName_50 v_tape_value_50 v_tape_bytes v_names_40 v_sorts_40 v_numbers_40 v_inn_house_creak v_inn_house_cold)) (As := [.ref (E.2.2.1 20)]) (rest := []) C (ctX6_pass l E h h_tape h_names h_sorts h_numbers h_inn h_tape_bytes v_named_40 v_fault_40 v_number v_tape_length v_tape_end v_tape_at_40 v_tape_start_40 v_tape_kind_40 v_tape_code_40 v_tape_mayName_40 v_tape_value_40 v_tape_bytes 20 (by decide) N (r_50, v_fault_50, v_tape_at_50, v_tape_start_50, v_tape_kind_50, v_tape_code_50, v_tape_mayName_50, v_tape_value_50) hc_50) ml_X6_141 ⟨Nat.le_of_ble_eq_true rfl, Nat.le_of_ble_eq_true rfl⟩ hP hD hS 0 rfl rfl rfl [0, 3, 4] [10, 1, 2, 11, 12, 5, 6, 7, 8, 9] 10 rfl rfl rfl rfl rfl rfl rfl hl.1 rfl (Nat.le_of_ble_eq_true rfl) ⟨Nat.zero_le _, Nat.zero_le _⟩ dX6_readRoom_50 ?_
      clear hP hD hS; intro H locs hP hD hS
      refine lv_if_eq (pc := 53) (tgt := 66) hx hb dX6_readRoom_53 (by decide) (fun c_53 => ?_) (fun c_53 => ?_)
      · replace hf := it_t c_53 hf
        refine lv_iconst (pc := 66) (v := 0) hx hb dX6_readRoom_66 (by decide) ?_
        cases hf
        rw [hQ]
        exact r_zret C hr hP hD hS (Or.inl rfl) rfl dX6_readRoom_67
      · replace hf := it_f c_53 hf
        refine lv_aload_n (pc := 56) hx hb dX6_readRoom_56 rfl (lv_at hl 0 rfl) ?_
        refine lv_iconst (pc := 57) (v := 0) hx hb dX6_readRoom_57 (by decide) ?_
        refine lv_bipush (pc := 58) (v := 9) hx hb dX6_readRoom_58 (by decide) ?_
        obtain ⟨r_60, v_fault_60, v_number_60, v_tape_at_60, v_tape_start_60, v_tape_kind_60, v_tape_code_60, v_tape_mayName_60, v_tape_value_60, hc_60, hf⟩ := bd9 hf
        refine r_dalVi (pc := 60) (ws' := (wX6_readRoom E h h_tape h_names h_sorts h_numbers h_inn h_inn_house h_inn_thingIn h_inn_full h_inn_states h_inn_bed h_inn_dreamOf h_inn_listensIn h_inn_house_creak h_inn_house_cold h_inn_house_one h_inn_house_other h_inn_house_how h_inn_house_falls h_inn_house_ways h_tape_bytes v_named_40 v_fault_60 v_number_60 v_inn_minutes v_inn_things v_inn_dreams v_inn_sleepers v_inn_listeners v_inn_house_rooms v_inn_house_doors v_tape_length v_tape_end v_tape_at_60 v_tape_start_60 v_tape_kind_60 v_tape_code_60 v_tape_mayName_60 v_tape_value_60 v_tape_bytes v_names_40 v_sorts_40 v_numbers_40 v_inn_house_creak v_inn_house_cold)) (As := [.int 0, .int 9]) (rest := []) C (ctX6_passWhole l E h h_tape h_names h_sorts h_numbers h_inn h_tape_bytes v_named_40 v_fault_50 v_number v_tape_length v_tape_end v_tape_at_50 v_tape_start_50 v_tape_kind_50 v_tape_code_50 v_tape_mayName_50 v_tape_value_50 v_tape_bytes N 0 9 (r_60, v_fault_60, v_number_60, v_tape_at_60, v_tape_start_60, v_tape_kind_60, v_tape_code_60, v_tape_mayName_60, v_tape_value_60) hc_60) ml_X6_144 ⟨Nat.le_of_ble_eq_true rfl, Nat.le_of_ble_eq_true rfl⟩ hP hD hS 0 rfl rfl rfl [0, 3, 4] [10, 1, 2, 11, 12, 5, 6, 7, 8, 9] 10 rfl rfl rfl rfl rfl rfl rfl hl.1 rfl (Nat.le_of_ble_eq_true rfl) ⟨Nat.zero_le _, Nat.zero_le _⟩ dX6_readRoom_60 ?_
        clear hP hD hS; intro H locs hP hD hS
        refine lv_if_ne (pc := 63) (tgt := 68) hx hb dX6_readRoom_63 (by decide) (fun c_63 => ?_) (fun c_63 => ?_)
        · replace hf := it_f c_63 hf
          refine lv_aload_n (pc := 68) hx hb dX6_readRoom_68 rfl (lv_at hl 0 rfl) ?_
          refine r_get (pc := 69) C hP 0 rfl fl_X6_32 rfl dX6_readRoom_69 ?_
          refine r_get (pc := 72) C hP 1 rfl fl_X6_67 rfl dX6_readRoom_72 ?_
          refine lv_aload_n (pc := 75) hx hb dX6_readRoom_75 rfl (lv_at hl 0 rfl) ?_
          refine r_get (pc := 76) C hP 0 rfl fl_X6_148 rfl dX6_readRoom_76 ?_
          refine lv_aload_n (pc := 79) hx hb dX6_readRoom_79 rfl (lv_at hl 0 rfl) ?_
          refine r_gets (pc := 80) C (C.kx.1 7 (by decide)).1 hS gs_X6_157 dX6_readRoom_80 ?_
          obtain ⟨r_83, v_tape_at_83, v_tape_start_83, v_tape_kind_83, v_tape_code_83, v_tape_mayName_83, v_tape_value_83, hc_83, hf⟩ := bd7 hf
          refine r_dalVi (pc := 83) (ws' := (wX6_readRoom E h h_tape h_names h_sorts h_numbers h_inn h_inn_house h_inn_thingIn h_inn_full h_inn_states h_inn_bed h_inn_dreamOf h_inn_listensIn h_inn_house_creak h_inn_house_cold h_inn_house_one h_inn_house_other h_inn_house_how h_inn_house_falls h_inn_house_ways h_tape_bytes v_named_40 v_fault_60 v_number_60 v_inn_minutes v_inn_things v_inn_dreams v_inn_sleepers v_inn_listeners v_inn_house_rooms v_inn_house_doors v_tape_length v_tape_end v_tape_at_83 v_tape_start_83 v_tape_kind_83 v_tape_code_83 v_tape_mayName_83 v_tape_value_83 v_tape_bytes v_names_40 v_sorts_40 v_numbers_40 v_inn_house_creak v_inn_house_cold)) (As := [.ref (E.2.2.1 7)]) (rest := [.int v_number_60, .ref h_inn_house]) C (ctX6_passIf l E h h_tape h_names h_sorts h_numbers h_inn h_tape_bytes v_named_40 v_fault_60 v_number_60 v_tape_length v_tape_end v_tape_at_60 v_tape_start_60 v_tape_kind_60 v_tape_code_60 v_tape_mayName_60 v_tape_value_60 v_tape_bytes 7 (by decide) N (r_83, v_tape_at_83, v_tape_start_83, v_tape_kind_83, v_tape_code_83, v_tape_mayName_83, v_tape_value_83) hc_83) ml_X6_160 ⟨Nat.le_of_ble_eq_true rfl, Nat.le_of_ble_eq_true rfl⟩ hP hD hS 0 rfl rfl rfl [0, 3, 4] [10, 1, 2, 11, 12, 5, 6, 7, 8, 9] 10 rfl rfl rfl rfl rfl rfl rfl hl.1 rfl (Nat.le_of_ble_eq_true rfl) ⟨Nat.zero_le _, Nat.zero_le _⟩ dX6_readRoom_83 ?_
          clear hP hD hS; intro H locs hP hD hS
          obtain ⟨v_inn_house_rooms_86, v_inn_house_creak_86, v_inn_house_cold_86, hc_86, hf⟩ := bd3 hf
          refine r_dalVv (pc := 86) (ws' := (wX6_readRoom E h h_tape h_names h_sorts h_numbers h_inn h_inn_house h_inn_thingIn h_inn_full h_inn_states h_inn_bed h_inn_dreamOf h_inn_listensIn h_inn_house_creak h_inn_house_cold h_inn_house_one h_inn_house_other h_inn_house_how h_inn_house_falls h_inn_house_ways h_tape_bytes v_named_40 v_fault_60 v_number_60 v_inn_minutes v_inn_things v_inn_dreams v_inn_sleepers v_inn_listeners v_inn_house_rooms_86 v_inn_house_doors v_tape_length v_tape_end v_tape_at_83 v_tape_start_83 v_tape_kind_83 v_tape_code_83 v_tape_mayName_83 v_tape_value_83 v_tape_bytes v_names_40 v_sorts_40 v_numbers_40 v_inn_house_creak_86 v_inn_house_cold_86)) (As := [.int v_number_60, .int r_83]) (rest := []) C (ctX1_addRoom l E h_inn_house h_inn_house_creak h_inn_house_cold h_inn_house_one h_inn_house_other h_inn_house_how h_inn_house_falls h_inn_house_ways v_inn_house_rooms v_inn_house_doors v_inn_house_creak v_inn_house_cold N v_number_60 r_83 (v_inn_house_rooms_86, v_inn_house_creak_86, v_inn_house_cold_86) hc_86) ml_X6_163 ⟨Nat.le_of_ble_eq_true rfl, Nat.le_of_ble_eq_true rfl⟩ hP hD hS 2 rfl rfl rfl [2, 8, 9] [0, 1, 10, 3, 4, 5, 6, 7, 11, 12] 10 rfl rfl rfl rfl rfl rfl rfl hl.1 rfl (Nat.le_of_ble_eq_true rfl) ⟨Nat.zero_le _, Nat.zero_le _⟩ dX6_readRoom_86 ?_
          clear hP hD hS; intro H locs hP hD hS
          refine lv_iconst (pc := 89) (v := 1) hx hb dX6_readRoom_89 (by decide) ?_
          cases hf
          rw [hQ]
          exact r_zret C hr hP hD hS (Or.inr rfl) rfl dX6_readRoom_90
        · replace hf := it_t c_63 hf
          refine lv_iconst (pc := 66) (v := 0) hx hb dX6_readRoom_66 (by decide) ?_
          cases hf
          rw [hQ]
          exact r_zret C hr hP hD hS (Or.inl rfl) rfl dX6_readRoom_67
  · replace hf := it_f c_12 hf
    refine lv_aload_n (pc := 15) hx hb dX6_readRoom_15 rfl (lv_at hl 0 rfl) ?_
    refine lv_iconst (pc := 16) (v := 5) hx hb dX6_readRoom_16 (by decide) ?_
    obtain ⟨r_17, v_fault_17, hc_17, hf⟩ := bd2 hf
    refine r_dalVi (pc := 17) (ws' := (wX6_readRoom E h h_tape h_names h_sorts h_numbers h_inn h_inn_house h_inn_thingIn h_inn_full h_inn_states h_inn_bed h_inn_dreamOf h_inn_listensIn h_inn_house_creak h_inn_house_cold h_inn_house_one h_inn_house_other h_inn_house_how h_inn_house_falls h_inn_house_ways h_tape_bytes v_named v_fault_17 v_number v_inn_minutes v_inn_things v_inn_dreams v_inn_sleepers v_inn_listeners v_inn_house_rooms v_inn_house_doors v_tape_length v_tape_end v_tape_at v_tape_start v_tape_kind v_tape_code v_tape_mayName v_tape_value v_tape_bytes v_names v_sorts v_numbers v_inn_house_creak v_inn_house_cold)) (As := [.int 5]) (rest := []) C (ctX6_fail l E h h_tape h_names h_sorts h_numbers h_inn v_named v_fault v_number N 5 (r_17, v_fault_17) hc_17) ml_X6_60 ⟨Nat.le_of_ble_eq_true rfl, Nat.le_of_ble_eq_true rfl⟩ hP hD hS 0 rfl rfl rfl [0] [10, 1, 2, 3, 4, 5, 6, 7, 8, 9] 10 rfl rfl rfl rfl rfl rfl rfl hl.1 rfl (Nat.le_of_ble_eq_true rfl) ⟨Nat.zero_le _, Nat.zero_le _⟩ dX6_readRoom_17 ?_
    clear hP hD hS; intro H locs hP hD hS
    obtain ⟨hz_20, hf⟩ := zg_s hf
    cases hf
    rw [hQ]
    exact r_zret C hr hP hD hS hz_20 rfl dX6_readRoom_20
def wX6_lookUp (E : EN) (h h_tape h_names h_sorts h_numbers h_inn h_tape_bytes : Nat) (v_named : Int32) (v_fault : Int32) (v_number : Int32) (v_tape_length : Int32) (v_tape_end : Int32) (v_tape_at : Int32) (v_tape_start : Int32) (v_tape_kind : Int32) (v_tape_code : Int64) (v_tape_mayName : Int32) (v_tape_value : Int32) (v_names : Nat → Int64) (v_sorts : Nat → Int32) (v_numbers : Nat → Int32) : va_W := [(h, .inr (6, [.ref h_tape, .ref h_names, .ref h_sorts, .ref h_numbers, .int v_named, .ref h_inn, .int v_fault, .int v_number])), (h_tape, .inr (7, [.ref h_tape_bytes, .int v_tape_length, .int v_tape_end, .int v_tape_at, .int v_tape_start, .int v_tape_kind, .long v_tape_code, .int v_tape_mayName, .int v_tape_value])), (h_names, aJ E 19 v_names), (h_sorts, aI E 19 v_sorts), (h_numbers, aI E 19 v_numbers)]
def fX6_lookUp (N : Nat) (p0 : Int32) (v_named : Int32) (v_fault : Int32) (v_number : Int32) (v_tape_code : Int64) (v_tape_mayName : Int32) (v_names : Nat → Int64) (v_sorts : Nat → Int32) (v_numbers : Nat → Int32) : Option (Int32 × Int32 × Int32) := if v_tape_mayName = 0 then ((fX6_fail N 1).bind (un2 fun (r_12 : Int32) (v_fault_12 : Int32) => zg r_12 (some (r_12, v_fault_12, v_number)))) else ((fX6_placeOfName N v_named v_names v_tape_code).bind (un1 fun (r_17 : Int32) => if r_17 = (-1) then ((fX6_fail N 2).bind (un2 fun (r_38 : Int32) (v_fault_38 : Int32) => zg r_38 (some (r_38, v_fault_38, v_number)))) else (gd r_17 19 (if (v_sorts r_17.toNatClampNeg) = p0 then (gd r_17 19 (some (1, v_fault, v_numbers r_17.toNatClampNeg))) else ((fX6_fail N 2).bind (un2 fun (r_38 : Int32) (v_fault_38 : Int32) => zg r_38 (some (r_38, v_fault_38, v_number))))))))
set_option maxHeartbeats 4000000 in
set_option maxRecDepth 100000 in
theorem ctX6_lookUp (l : Launch) (E : EN) (h h_tape h_names h_sorts h_numbers h_inn h_tape_bytes : Nat) (v_named : Int32) (v_fault : Int32) (v_number : Int32) (v_tape_length : Int32) (v_tape_end : Int32) (v_tape_at : Int32) (v_tape_start : Int32) (v_tape_kind : Int32) (v_tape_code : Int64) (v_tape_mayName : Int32) (v_tape_value : Int32) (v_names : Nat → Int64) (v_sorts : Nat → Int32) (v_numbers : Nat → Int32) (N : Nat) (p0 : Int32) (z : Int32 × Int32 × Int32) (hf : fX6_lookUp N p0 v_named v_fault v_number v_tape_code v_tape_mayName v_names v_sorts v_numbers = some z) : CTi l E yX6_lookUp cX6_lookUp 3 .boolean 1 21 [.ref h, .int p0] (wX6_lookUp E h h_tape h_names h_sorts h_numbers h_inn h_tape_bytes v_named v_fault v_number v_tape_length v_tape_end v_tape_at v_tape_start v_tape_kind v_tape_code v_tape_mayName v_tape_value v_names v_sorts v_numbers) (z.1) (wX6_lookUp E h h_tape h_names h_sorts h_numbers h_inn h_tape_bytes v_named z.2.1 z.2.2 v_tape_length v_tape_end v_tape_at v_tape_start v_tape_kind v_tape_code v_tape_mayName v_tape_value v_names v_sorts v_numbers) := by
  intro sz
  refine ct_body (by decide) (Nat.le_of_ble_eq_true rfl) ?_
  intro p e s m args below meth c A ls hAe C hr hin hP hD hS hl
  have C : CX p s m args meth c cX6_lookUp RX6 3 E A := C
  have hl : lv_has ls 3 [(0, .ref h), (1, .int p0)] := hl
  have hx := C.1
  have hb := C.2.1
  rw [hAe]
  clear hAe
  obtain ⟨Q, hQ⟩ : ∃ Q, Q = MQ below (Qi E A (z.1) (wX6_lookUp E h h_tape h_names h_sorts h_numbers h_inn h_tape_bytes v_named z.2.1 z.2.2 v_tape_length v_tape_end v_tape_at v_tape_start v_tape_kind v_tape_code v_tape_mayName v_tape_value v_names v_sorts v_numbers)) args s 0 0 A := ⟨_, rfl⟩
  rw [← hQ]
  unfold fX6_lookUp at hf
  refine lv_aload_n (pc := 0) hx hb dX6_lookUp_0 rfl (lv_at hl 0 rfl) ?_
  refine r_get (pc := 1) C hP 0 rfl fl_X6_12 rfl dX6_lookUp_1 ?_
  refine r_get (pc := 4) C hP 1 rfl fl_X6_271 rfl dX6_lookUp_4 ?_
  refine lv_if_ne (pc := 7) (tgt := 16) hx hb dX6_lookUp_7 (by decide) (fun c_7 => ?_) (fun c_7 => ?_)
  · replace hf := it_f c_7 hf
    refine lv_aload_n (pc := 16) hx hb dX6_lookUp_16 rfl (lv_at hl 0 rfl) ?_
    obtain ⟨r_17, hc_17, hf⟩ := bd1 hf
    refine r_dalVi (pc := 17) (ws' := (wX6_lookUp E h h_tape h_names h_sorts h_numbers h_inn h_tape_bytes v_named v_fault v_number v_tape_length v_tape_end v_tape_at v_tape_start v_tape_kind v_tape_code v_tape_mayName v_tape_value v_names v_sorts v_numbers)) (As := []) (rest := []) C (ctX6_placeOfName l E h h_tape h_names h_sorts h_numbers h_inn h_tape_bytes v_named v_fault v_number v_names v_tape_length v_tape_end v_tape_at v_tape_start v_tape_kind v_tape_code v_tape_mayName v_tape_value N r_17 hc_17) ml_X6_275 ⟨Nat.le_of_ble_eq_true rfl, Nat.le_of_ble_eq_true rfl⟩ hP hD hS 0 rfl rfl rfl [0, 2, 1] [5, 7, 6, 3, 4] 5 rfl rfl rfl rfl rfl rfl rfl hl.1 rfl (Nat.le_of_ble_eq_true rfl) ⟨Nat.zero_le _, Nat.zero_le _⟩ dX6_lookUp_17 ?_
    clear hP hD hS; intro H locs hP hD hS
    refine lv_istore_n (pc := 20) (lv' := [(2, .int r_17), (0, .ref h), (1, .int p0)]) hx hb dX6_lookUp_20 rfl hl (by decide) rfl (fun ls hl => ?_)
    refine lv_iload_n (pc := 21) hx hb dX6_lookUp_21 rfl (lv_at hl 0 rfl) ?_
    refine lv_iconst (pc := 22) (v := (-1)) hx hb dX6_lookUp_22 (by decide) ?_
    refine lv_icmp_eq (pc := 23) (tgt := 36) hx hb dX6_lookUp_23 (by decide) (fun c_23 => ?_) (fun c_23 => ?_)
    · replace hf := it_t c_23 hf
      refine lv_aload_n (pc := 36) hx hb dX6_lookUp_36 rfl (lv_at hl 1 rfl) ?_
      refine lv_iconst (pc := 37) (v := 2) hx hb dX6_lookUp_37 (by decide) ?_
      obtain ⟨r_38, v_fault_38, hc_38, hf⟩ := bd2 hf
      refine r_dalVi (pc := 38) (ws' := (wX6_lookUp E h h_tape h_names h_sorts h_numbers h_inn h_tape_bytes v_named v_fault_38 v_number v_tape_length v_tape_end v_tape_at v_tape_start v_tape_kind v_tape_code v_tape_mayName v_tape_value v_names v_sorts v_numbers)) (As := [.int 2]) (rest := []) C (ctX6_fail l E h h_tape h_names h_sorts h_numbers h_inn v_named v_fault v_number N 2 (r_38, v_fault_38) hc_38) ml_X6_60 ⟨Nat.le_of_ble_eq_true rfl, Nat.le_of_ble_eq_true rfl⟩ hP hD hS 0 rfl rfl rfl [0] [5, 1, 2, 3, 4] 5 rfl rfl rfl rfl rfl rfl rfl hl.1 rfl (Nat.le_of_ble_eq_true rfl) ⟨Nat.zero_le _, Nat.zero_le _⟩ dX6_lookUp_38 ?_
      clear hP hD hS; intro H locs hP hD hS
      obtain ⟨hz_41, hf⟩ := zg_s hf
      cases hf
      rw [hQ]
      exact r_zret C hr hP hD hS hz_41 rfl dX6_lookUp_41
    · replace hf := it_f c_23 hf
      refine lv_aload_n (pc := 26) hx hb dX6_lookUp_26 rfl (lv_at hl 1 rfl) ?_
      refine r_get (pc := 27) C hP 0 rfl fl_X6_22 rfl dX6_lookUp_27 ?_
      refine lv_iload_n (pc := 30) hx hb dX6_lookUp_30 rfl (lv_at hl 0 rfl) ?_
      obtain ⟨hi_31, hf⟩ := gd_s hf
      refine r_iald (pc := 31) C hP 3 rfl hi_31 dX6_lookUp_31 ?_
      refine lv_iload_n (pc := 32) hx hb dX6_lookUp_32 rfl (lv_at hl 2 rfl) ?_
      refine lv_icmp_eq (pc := 33) (tgt := 42) hx hb dX6_lookUp_33 (by decide) (fun c_33 => ?_) (fun c_33 => ?_)
      · replace hf := it_t c_33 hf
        refine lv_aload_n (pc := 42) hx hb dX6_lookUp_42 rfl (lv_at hl 1 rfl) ?_
        refine lv_aload_n (pc := 43) hx hb dX6_lookUp_43 rfl (lv_at hl 1 rfl) ?_
        refine r_get (pc := 44) C hP 0 rfl fl_X6_26 rfl dX6_lookUp_44 ?_
        refine lv_iload_n (pc := 47) hx hb dX6_lookUp_47 rfl (lv_at hl 0 rfl) ?_
        obtain ⟨hi_48, hf⟩ := gd_s hf
        refine r_iald (pc := 48) C hP 4 rfl hi_48 dX6_lookUp_48 ?_
        refine r_put (pc := 49) (ws' := (wX6_lookUp E h h_tape h_names h_sorts h_numbers h_inn h_tape_bytes v_named v_fault (v_numbers r_17.toNatClampNeg) v_tape_length v_tape_end v_tape_at v_tape_start v_tape_kind v_tape_code v_tape_mayName v_tape_value v_names v_sorts v_numbers)) C hP hD hS 0 rfl fl_X6_148 rfl rfl (Nat.le_of_ble_eq_true rfl) rfl dX6_lookUp_49 ?_
        clear hP hD hS; intro H locs hP hD hS
        refine lv_iconst (pc := 52) (v := 1) hx hb dX6_lookUp_52 (by decide) ?_
        cases hf
        rw [hQ]
        exact r_zret C hr hP hD hS (Or.inr rfl) rfl dX6_lookUp_53
      · replace hf := it_f c_33 hf
        refine lv_aload_n (pc := 36) hx hb dX6_lookUp_36 rfl (lv_at hl 1 rfl) ?_
        refine lv_iconst (pc := 37) (v := 2) hx hb dX6_lookUp_37 (by decide) ?_
        obtain ⟨r_38, v_fault_38, hc_38, hf⟩ := bd2 hf
        refine r_dalVi (pc := 38) (ws' := (wX6_lookUp E h h_tape h_names h_sorts h_numbers h_inn h_tape_bytes v_named v_fault_38 v_number v_tape_length v_tape_end v_tape_at v_tape_start v_tape_kind v_tape_code v_tape_mayName v_tape_value v_names v_sorts v_numbers)) (As := [.int 2]) (rest := []) C (ctX6_fail l E h h_tape h_names h_sorts h_numbers h_inn v_named v_fault v_number N 2 (r_38, v_fault_38) hc_38) ml_X6_60 ⟨Nat.le_of_ble_eq_true rfl, Nat.le_of_ble_eq_true rfl⟩ hP hD hS 0 rfl rfl rfl [0] [5, 1, 2, 3, 4] 5 rfl rfl rfl rfl rfl rfl rfl hl.1 rfl (Nat.le_of_ble_eq_true rfl) ⟨Nat.zero_le _, Nat.zero_le _⟩ dX6_lookUp_38 ?_
        clear hP hD hS; intro H locs hP hD hS
        obtain ⟨hz_41, hf⟩ := zg_s hf
        cases hf
        rw [hQ]
        exact r_zret C hr hP hD hS hz_41 rfl dX6_lookUp_41
  · replace hf := it_t c_7 hf
    refine lv_aload_n (pc := 10) hx hb dX6_lookUp_10 rfl (lv_at hl 0 rfl) ?_
    refine lv_iconst (pc := 11) (v := 1) hx hb dX6_lookUp_11 (by decide) ?_
    obtain ⟨r_12, v_fault_12, hc_12, hf⟩ := bd2 hf
    refine r_dalVi (pc := 12) (ws' := (wX6_lookUp E h h_tape h_names h_sorts h_numbers h_inn h_tape_bytes v_named v_fault_12 v_number v_tape_length v_tape_end v_tape_at v_tape_start v_tape_kind v_tape_code v_tape_mayName v_tape_value v_names v_sorts v_numbers)) (As := [.int 1]) (rest := []) C (ctX6_fail l E h h_tape h_names h_sorts h_numbers h_inn v_named v_fault v_number N 1 (r_12, v_fault_12) hc_12) ml_X6_60 ⟨Nat.le_of_ble_eq_true rfl, Nat.le_of_ble_eq_true rfl⟩ hP hD hS 0 rfl rfl rfl [0] [5, 1, 2, 3, 4] 5 rfl rfl rfl rfl rfl rfl rfl hl.1 rfl (Nat.le_of_ble_eq_true rfl) ⟨Nat.zero_le _, Nat.zero_le _⟩ dX6_lookUp_12 ?_
    clear hP hD hS; intro H locs hP hD hS
    obtain ⟨hz_15, hf⟩ := zg_s hf
    cases hf
    rw [hQ]
    exact r_zret C hr hP hD hS hz_15 rfl dX6_lookUp_15
def wX6_passName (E : EN) (h h_tape h_names h_sorts h_numbers h_inn h_tape_bytes : Nat) (v_named : Int32) (v_fault : Int32) (v_number : Int32) (v_tape_length : Int32) (v_tape_end : Int32) (v_tape_at : Int32) (v_tape_start : Int32) (v_tape_kind : Int32) (v_tape_code : Int64) (v_tape_mayName : Int32) (v_tape_value : Int32) (v_names : Nat → Int64) (v_sorts : Nat → Int32) (v_numbers : Nat → Int32) (v_tape_bytes : Nat → Int32) : va_W := [(h, .inr (6, [.ref h_tape, .ref h_names, .ref h_sorts, .ref h_numbers, .int v_named, .ref h_inn, .int v_fault, .int v_number])), (h_tape, .inr (7, [.ref h_tape_bytes, .int v_tape_length, .int v_tape_end, .int v_tape_at, .int v_tape_start, .int v_tape_kind, .long v_tape_code, .int v_tape_mayName, .int v_tape_value])), (h_names, aJ E 19 v_names), (h_sorts, aI E 19 v_sorts), (h_numbers, aI E 19 v_numbers), (h_tape_bytes, aB E 900 v_tape_bytes)]
def fX6_passName (N : Nat) (p0 : Int32) (v_named : Int32) (v_fault : Int32) (v_number : Int32) (v_tape_end : Int32) (v_tape_at : Int32) (v_tape_start : Int32) (v_tape_kind : Int32) (v_tape_code : Int64) (v_tape_mayName : Int32) (v_tape_value : Int32) (v_names : Nat → Int64) (v_sorts : Nat → Int32) (v_numbers : Nat → Int32) (v_tape_bytes : Nat → Int32) : Option (Int32 × Int32 × Int32 × Int32 × Int32 × Int32 × Int64 × Int32 × Int32) := (fX6_lookUp N p0 v_named v_fault v_number v_tape_code v_tape_mayName v_names v_sorts v_numbers).bind (un3 fun (r_2 : Int32) (v_fault_2 : Int32) (v_number_2 : Int32) => if r_2 = 0 then (some (0, v_fault_2, v_number_2, v_tape_at, v_tape_start, v_tape_kind, v_tape_code, v_tape_mayName, v_tape_value)) else ((fX7_advance N v_tape_end v_tape_at v_tape_bytes).bind (un6 fun (v_tape_at_14 : Int32) (v_tape_start_14 : Int32) (v_tape_kind_14 : Int32) (v_tape_code_14 : Int64) (v_tape_mayName_14 : Int32) (v_tape_value_14 : Int32) => some (1, v_fault_2, v_number_2, v_tape_at_14, v_tape_start_14, v_tape_kind_14, v_tape_code_14, v_tape_mayName_14, v_tape_value_14))))
set_option maxHeartbeats 4000000 in
set_option maxRecDepth 100000 in
theorem ctX6_passName (l : Launch) (E : EN) (h h_tape h_names h_sorts h_numbers h_inn h_tape_bytes : Nat) (v_named : Int32) (v_fault : Int32) (v_number : Int32) (v_tape_length : Int32) (v_tape_end : Int32) (v_tape_at : Int32) (v_tape_start : Int32) (v_tape_kind : Int32) (v_tape_code : Int64) (v_tape_mayName : Int32) (v_tape_value : Int32) (v_names : Nat → Int64) (v_sorts : Nat → Int32) (v_numbers : Nat → Int32) (v_tape_bytes : Nat → Int32) (N : Nat) (p0 : Int32) (z : Int32 × Int32 × Int32 × Int32 × Int32 × Int32 × Int64 × Int32 × Int32) (hf : fX6_passName N p0 v_named v_fault v_number v_tape_end v_tape_at v_tape_start v_tape_kind v_tape_code v_tape_mayName v_tape_value v_names v_sorts v_numbers v_tape_bytes = some z) : CTi l E yX6_passName cX6_passName 2 .boolean 2 44 [.ref h, .int p0] (wX6_passName E h h_tape h_names h_sorts h_numbers h_inn h_tape_bytes v_named v_fault v_number v_tape_length v_tape_end v_tape_at v_tape_start v_tape_kind v_tape_code v_tape_mayName v_tape_value v_names v_sorts v_numbers v_tape_bytes) (z.1) (wX6_passName E h h_tape h_names h_sorts h_numbers h_inn h_tape_bytes v_named z.2.1 z.2.2.1 v_tape_length v_tape_end z.2.2.2.1 z.2.2.2.2.1 z.2.2.2.2.2.1 z.2.2.2.2.2.2.1 z.2.2.2.2.2.2.2.1 z.2.2.2.2.2.2.2.2 v_names v_sorts v_numbers v_tape_bytes) := by
  intro sz
  refine ct_body (by decide) (Nat.le_of_ble_eq_true rfl) ?_
  intro p e s m args below meth c A ls hAe C hr hin hP hD hS hl
  have C : CX p s m args meth c cX6_passName RX6 2 E A := C
  have hl : lv_has ls 2 [(0, .ref h), (1, .int p0)] := hl
  have hx := C.1
  have hb := C.2.1
  rw [hAe]
  clear hAe
  obtain ⟨Q, hQ⟩ : ∃ Q, Q = MQ below (Qi E A (z.1) (wX6_passName E h h_tape h_names h_sorts h_numbers h_inn h_tape_bytes v_named z.2.1 z.2.2.1 v_tape_length v_tape_end z.2.2.2.1 z.2.2.2.2.1 z.2.2.2.2.2.1 z.2.2.2.2.2.2.1 z.2.2.2.2.2.2.2.1 z.2.2.2.2.2.2.2.2 v_names v_sorts v_numbers v_tape_bytes)) args s 0 0 A := ⟨_, rfl⟩
  rw [← hQ]
  unfold fX6_passName at hf
  refine lv_aload_n (pc := 0) hx hb dX6_passName_0 rfl (lv_at hl 0 rfl) ?_
  refine lv_iload_n (pc := 1) hx hb dX6_passName_1 rfl (lv_at hl 1 rfl) ?_
  obtain ⟨r_2, v_fault_2, v_number_2, hc_2, hf⟩ := bd3 hf
  refine r_dalVi (pc := 2) (ws' := (wX6_passName E h h_tape h_names h_sorts h_numbers h_inn h_tape_bytes v_named v_fault_2 v_number_2 v_tape_length v_tape_end v_tape_at v_tape_start v_tape_kind v_tape_code v_tape_mayName v_tape_value v_names v_sorts v_numbers v_tape_bytes)) (As := [.int p0]) (rest := []) C (ctX6_lookUp l E h h_tape h_names h_sorts h_numbers h_inn h_tape_bytes v_named v_fault v_number v_tape_length v_tape_end v_tape_at v_tape_start v_tape_kind v_tape_code v_tape_mayName v_tape_value v_names v_sorts v_numbers N p0 (r_2, v_fault_2, v_number_2) hc_2) ml_X6_241 ⟨Nat.le_of_ble_eq_true rfl, Nat.le_of_ble_eq_true rfl⟩ hP hD hS 0 rfl rfl rfl [0, 1, 2, 3, 4] [6, 7, 8, 9, 10, 5] 6 rfl rfl rfl rfl rfl rfl rfl hl.1 rfl (Nat.le_of_ble_eq_true rfl) ⟨Nat.zero_le _, Nat.zero_le _⟩ dX6_passName_2 ?_
  clear hP hD hS; intro H locs hP hD hS
  refine lv_if_ne (pc := 5) (tgt := 10) hx hb dX6_passName_5 (by decide) (fun c_5 => ?_) (fun c_5 => ?_)
  · replace hf := it_f c_5 hf
    refine lv_aload_n (pc := 10) hx hb dX6_passName_10 rfl (lv_at hl 0 rfl) ?_
    refine r_get (pc := 11) C hP 0 rfl fl_X6_12 rfl dX6_passName_11 ?_
    obtain ⟨v_tape_at_14, v_tape_start_14, v_tape_kind_14, v_tape_code_14, v_tape_mayName_14, v_tape_value_14, hc_14, hf⟩ := bd6 hf
    refine r_dalVv (pc := 14) (ws' := (wX6_passName E h h_tape h_names h_sorts h_numbers h_inn h_tape_bytes v_named v_fault_2 v_number_2 v_tape_length v_tape_end v_tape_at_14 v_tape_start_14 v_tape_kind_14 v_tape_code_14 v_tape_mayName_14 v_tape_value_14 v_names v_sorts v_numbers v_tape_bytes)) (As := []) (rest := []) C (ctX7_advance l E h_tape h_tape_bytes v_tape_length v_tape_end v_tape_at v_tape_start v_tape_kind v_tape_code v_tape_mayName v_tape_value v_tape_bytes N (v_tape_at_14, v_tape_start_14, v_tape_kind_14, v_tape_code_14, v_tape_mayName_14, v_tape_value_14) hc_14) ml_X6_57 ⟨Nat.le_of_ble_eq_true rfl, Nat.le_of_ble_eq_true rfl⟩ hP hD hS 1 rfl rfl rfl [1, 5] [0, 6, 2, 3, 4, 7] 6 rfl rfl rfl rfl rfl rfl rfl hl.1 rfl (Nat.le_of_ble_eq_true rfl) ⟨Nat.zero_le _, Nat.zero_le _⟩ dX6_passName_14 ?_
    clear hP hD hS; intro H locs hP hD hS
    refine lv_iconst (pc := 17) (v := 1) hx hb dX6_passName_17 (by decide) ?_
    cases hf
    rw [hQ]
    exact r_zret C hr hP hD hS (Or.inr rfl) rfl dX6_passName_18
  · replace hf := it_t c_5 hf
    refine lv_iconst (pc := 8) (v := 0) hx hb dX6_passName_8 (by decide) ?_
    cases hf
    rw [hQ]
    exact r_zret C hr hP hD hS (Or.inl rfl) rfl dX6_passName_9
def wX6_passComma (E : EN) (h h_tape h_names h_sorts h_numbers h_inn h_tape_bytes : Nat) (v_named : Int32) (v_fault : Int32) (v_number : Int32) (v_tape_length : Int32) (v_tape_end : Int32) (v_tape_at : Int32) (v_tape_start : Int32) (v_tape_kind : Int32) (v_tape_code : Int64) (v_tape_mayName : Int32) (v_tape_value : Int32) (v_tape_bytes : Nat → Int32) : va_W := [(h, .inr (6, [.ref h_tape, .ref h_names, .ref h_sorts, .ref h_numbers, .int v_named, .ref h_inn, .int v_fault, .int v_number])), (h_tape, .inr (7, [.ref h_tape_bytes, .int v_tape_length, .int v_tape_end, .int v_tape_at, .int v_tape_start, .int v_tape_kind, .long v_tape_code, .int v_tape_mayName, .int v_tape_value])), (h_tape_bytes, aB E 900 v_tape_bytes)]
def fX6_passComma (N : Nat) (v_fault : Int32) (v_tape_end : Int32) (v_tape_at : Int32) (v_tape_start : Int32) (v_tape_kind : Int32) (v_tape_code : Int64) (v_tape_mayName : Int32) (v_tape_value : Int32) (v_tape_bytes : Nat → Int32) : Option (Int32 × Int32 × Int32 × Int32 × Int32 × Int64 × Int32 × Int32) := if v_tape_kind = 4 then ((fX7_advance N v_tape_end v_tape_at v_tape_bytes).bind (un6 fun (v_tape_at_21 : Int32) (v_tape_start_21 : Int32) (v_tape_kind_21 : Int32) (v_tape_code_21 : Int64) (v_tape_mayName_21 : Int32) (v_tape_value_21 : Int32) => some (1, v_fault, v_tape_at_21, v_tape_start_21, v_tape_kind_21, v_tape_code_21, v_tape_mayName_21, v_tape_value_21))) else ((fX6_fail N 1).bind (un2 fun (r_13 : Int32) (v_fault_13 : Int32) => zg r_13 (some (r_13, v_fault_13, v_tape_at, v_tape_start, v_tape_kind, v_tape_code, v_tape_mayName, v_tape_value))))
set_option maxHeartbeats 4000000 in
set_option maxRecDepth 100000 in
theorem ctX6_passComma (l : Launch) (E : EN) (h h_tape h_names h_sorts h_numbers h_inn h_tape_bytes : Nat) (v_named : Int32) (v_fault : Int32) (v_number : Int32) (v_tape_length : Int32) (v_tape_end : Int32) (v_tape_at : Int32) (v_tape_start : Int32) (v_tape_kind : Int32) (v_tape_code : Int64) (v_tape_mayName : Int32) (v_tape_value : Int32) (v_tape_bytes : Nat → Int32) (N : Nat) (z : Int32 × Int32 × Int32 × Int32 × Int32 × Int64 × Int32 × Int32) (hf : fX6_passComma N v_fault v_tape_end v_tape_at v_tape_start v_tape_kind v_tape_code v_tape_mayName v_tape_value v_tape_bytes = some z) : CTi l E yX6_passComma cX6_passComma 1 .boolean 2 44 [.ref h] (wX6_passComma E h h_tape h_names h_sorts h_numbers h_inn h_tape_bytes v_named v_fault v_number v_tape_length v_tape_end v_tape_at v_tape_start v_tape_kind v_tape_code v_tape_mayName v_tape_value v_tape_bytes) (z.1) (wX6_passComma E h h_tape h_names h_sorts h_numbers h_inn h_tape_bytes v_named z.2.1 v_number v_tape_length v_tape_end z.2.2.1 z.2.2.2.1 z.2.2.2.2.1 z.2.2.2.2.2.1 z.2.2.2.2.2.2.1 z.2.2.2.2.2.2.2 v_tape_bytes) := by
  intro sz
  refine ct_body (by decide) (Nat.le_of_ble_eq_true rfl) ?_
  intro p e s m args below meth c A ls hAe C hr hin hP hD hS hl
  have C : CX p s m args meth c cX6_passComma RX6 1 E A := C
  have hl : lv_has ls 1 [(0, .ref h)] := hl
  have hx := C.1
  have hb := C.2.1
  rw [hAe]
  clear hAe
  obtain ⟨Q, hQ⟩ : ∃ Q, Q = MQ below (Qi E A (z.1) (wX6_passComma E h h_tape h_names h_sorts h_numbers h_inn h_tape_bytes v_named z.2.1 v_number v_tape_length v_tape_end z.2.2.1 z.2.2.2.1 z.2.2.2.2.1 z.2.2.2.2.2.1 z.2.2.2.2.2.2.1 z.2.2.2.2.2.2.2 v_tape_bytes)) args s 0 0 A := ⟨_, rfl⟩
  rw [← hQ]
  unfold fX6_passComma at hf
  refine lv_aload_n (pc := 0) hx hb dX6_passComma_0 rfl (lv_at hl 0 rfl) ?_
  refine r_get (pc := 1) C hP 0 rfl fl_X6_12 rfl dX6_passComma_1 ?_
  refine r_get (pc := 4) C hP 1 rfl fl_X6_54 rfl dX6_passComma_4 ?_
  refine lv_iconst (pc := 7) (v := 4) hx hb dX6_passComma_7 (by decide) ?_
  refine lv_icmp_eq (pc := 8) (tgt := 17) hx hb dX6_passComma_8 (by decide) (fun c_8 => ?_) (fun c_8 => ?_)
  · replace hf := it_t c_8 hf
    refine lv_aload_n (pc := 17) hx hb dX6_passComma_17 rfl (lv_at hl 0 rfl) ?_
    refine r_get (pc := 18) C hP 0 rfl fl_X6_12 rfl dX6_passComma_18 ?_
    obtain ⟨v_tape_at_21, v_tape_start_21, v_tape_kind_21, v_tape_code_21, v_tape_mayName_21, v_tape_value_21, hc_21, hf⟩ := bd6 hf
    refine r_dalVv (pc := 21) (ws' := (wX6_passComma E h h_tape h_names h_sorts h_numbers h_inn h_tape_bytes v_named v_fault v_number v_tape_length v_tape_end v_tape_at_21 v_tape_start_21 v_tape_kind_21 v_tape_code_21 v_tape_mayName_21 v_tape_value_21 v_tape_bytes)) (As := []) (rest := []) C (ctX7_advance l E h_tape h_tape_bytes v_tape_length v_tape_end v_tape_at v_tape_start v_tape_kind v_tape_code v_tape_mayName v_tape_value v_tape_bytes N (v_tape_at_21, v_tape_start_21, v_tape_kind_21, v_tape_code_21, v_tape_mayName_21, v_tape_value_21) hc_21) ml_X6_57 ⟨Nat.le_of_ble_eq_true rfl, Nat.le_of_ble_eq_true rfl⟩ hP hD hS 1 rfl rfl rfl [1, 2] [0, 3, 4] 3 rfl rfl rfl rfl rfl rfl rfl hl.1 rfl (Nat.le_of_ble_eq_true rfl) ⟨Nat.zero_le _, Nat.zero_le _⟩ dX6_passComma_21 ?_
    clear hP hD hS; intro H locs hP hD hS
    refine lv_iconst (pc := 24) (v := 1) hx hb dX6_passComma_24 (by decide) ?_
    cases hf
    rw [hQ]
    exact r_zret C hr hP hD hS (Or.inr rfl) rfl dX6_passComma_25
  · replace hf := it_f c_8 hf
    refine lv_aload_n (pc := 11) hx hb dX6_passComma_11 rfl (lv_at hl 0 rfl) ?_
    refine lv_iconst (pc := 12) (v := 1) hx hb dX6_passComma_12 (by decide) ?_
    obtain ⟨r_13, v_fault_13, hc_13, hf⟩ := bd2 hf
    refine r_dalVi (pc := 13) (ws' := (wX6_passComma E h h_tape h_names h_sorts h_numbers h_inn h_tape_bytes v_named v_fault_13 v_number v_tape_length v_tape_end v_tape_at v_tape_start v_tape_kind v_tape_code v_tape_mayName v_tape_value v_tape_bytes)) (As := [.int 1]) (rest := []) C (ctX6_fail l E h h_tape h_names h_sorts h_numbers h_inn v_named v_fault v_number N 1 (r_13, v_fault_13) hc_13) ml_X6_60 ⟨Nat.le_of_ble_eq_true rfl, Nat.le_of_ble_eq_true rfl⟩ hP hD hS 0 rfl rfl rfl [0] [3, 1, 2] 3 rfl rfl rfl rfl rfl rfl rfl hl.1 rfl (Nat.le_of_ble_eq_true rfl) ⟨Nat.zero_le _, Nat.zero_le _⟩ dX6_passComma_13 ?_
    clear hP hD hS; intro H locs hP hD hS
    obtain ⟨hz_16, hf⟩ := zg_s hf
    cases hf
    rw [hQ]
    exact r_zret C hr hP hD hS hz_16 rfl dX6_passComma_16
def wX1_doorBetween (E : EN) (h h_creak h_cold h_one h_other h_how h_falls h_ways : Nat) (v_rooms : Int32) (v_doors : Int32) (v_one : Nat → Int32) (v_other : Nat → Int32) : va_W := [(h, .inr (1, [.int v_rooms, .ref h_creak, .ref h_cold, .int v_doors, .ref h_one, .ref h_other, .ref h_how, .ref h_falls, .ref h_ways])), (h_one, aI E 10 v_one), (h_other, aI E 10 v_other)]
def BX1_doorBetween_2 (v_doors : Int32) (v_one : Nat → Int32) (p1 : Int32) (v_other : Nat → Int32) (p0 : Int32) (rec2 : (Int32) → Option Int32) : (Int32) → Option Int32 := un1 fun (x2_3 : Int32) => if v_doors ≤ x2_3 then (some (-2)) else (gd x2_3 10 (jn (un0 (gd x2_3 10 (jn (un0 (rec2 (x2_3 + 1))) (fun j52 => if (v_one x2_3.toNatClampNeg) = p1 then (gd x2_3 10 (if (v_other x2_3.toNatClampNeg) = p0 then (some x2_3) else (j52 ()))) else (j52 ()))))) (fun j30 => if (v_one x2_3.toNatClampNeg) = p0 then (gd x2_3 10 (if (v_other x2_3.toNatClampNeg) = p1 then (some x2_3) else (j30 ()))) else (j30 ()))))
def fX1_doorBetween (N : Nat) (p0 : Int32) (p1 : Int32) (v_doors : Int32) (v_one : Nat → Int32) (v_other : Nat → Int32) : Option Int32 := lp (BX1_doorBetween_2 v_doors v_one p1 v_other p0) N 0
set_option maxHeartbeats 4000000 in
set_option maxRecDepth 100000 in
theorem ctX1_doorBetween (l : Launch) (E : EN) (h h_creak h_cold h_one h_other h_how h_falls h_ways : Nat) (v_rooms : Int32) (v_doors : Int32) (v_one : Nat → Int32) (v_other : Nat → Int32) (N : Nat) (p0 : Int32) (p1 : Int32) (z : Int32) (hf : fX1_doorBetween N p0 p1 v_doors v_one v_other = some z) : CTi l E yX1_doorBetween cX1_doorBetween 4 .int 0 0 [.ref h, .int p0, .int p1] (wX1_doorBetween E h h_creak h_cold h_one h_other h_how h_falls h_ways v_rooms v_doors v_one v_other) (z) (wX1_doorBetween E h h_creak h_cold h_one h_other h_how h_falls h_ways v_rooms v_doors v_one v_other) := by
  intro sz
  refine ct_body (by decide) (Nat.le_of_ble_eq_true rfl) ?_
  intro p e s m args below meth c A ls hAe C hr hin hP hD hS hl
  have C : CX p s m args meth c cX1_doorBetween RX1 4 E A := C
  have hl : lv_has ls 4 [(0, .ref h), (1, .int p0), (2, .int p1)] := hl
  have hx := C.1
  have hb := C.2.1
  rw [hAe]
  clear hAe
  obtain ⟨Q, hQ⟩ : ∃ Q, Q = MQ below (Qi E A (z) (wX1_doorBetween E h h_creak h_cold h_one h_other h_how h_falls h_ways v_rooms v_doors v_one v_other)) args s 0 0 A := ⟨_, rfl⟩
  rw [← hQ]
  unfold fX1_doorBetween at hf
  refine lv_iconst (pc := 0) (v := 0) hx hb dX1_doorBetween_0 (by decide) ?_
  refine lv_istore_n (pc := 1) (lv' := [(3, .int 0), (0, .ref h), (1, .int p0), (2, .int p1)]) hx hb dX1_doorBetween_1 rfl hl (by decide) rfl (fun ls hl => ?_)
  have key2 : ∀ (n : Nat) (x2_3 : Int32) , lp (BX1_doorBetween_2 v_doors v_one p1 v_other p0) n x2_3 = some z → AT p l e (rmOf 0 0) s m args below meth c E A Q 0 0 4 [(0, .ref h), (1, .int p0), (2, .int p1), (3, .int x2_3)] (wX1_doorBetween E h h_creak h_cold h_one h_other h_how h_falls h_ways v_rooms v_doors v_one v_other) 2 [] := by
    intro n
    induction n with
    | zero => intro x2_3 hf; exact (lp_0 hf).elim
    | succ n ih2 =>
      intro x2_3 hf H locs ls hl hP hD hS
      replace hf := lp_s hf
      generalize lp (BX1_doorBetween_2 v_doors v_one p1 v_other p0) n = rec2 at ih2 hf
      unfold BX1_doorBetween_2 at hf
      replace hf := un1_s hf
      refine lv_iload_n (pc := 2) hx hb dX1_doorBetween_2 rfl (lv_at hl 3 rfl) ?_
      refine lv_aload_n (pc := 3) hx hb dX1_doorBetween_3 rfl (lv_at hl 0 rfl) ?_
      refine r_get (pc := 4) C hP 0 rfl fl_X1_42 rfl dX1_doorBetween_4 ?_
      refine lv_icmp_ge (pc := 7) (tgt := 58) hx hb dX1_doorBetween_7 (by decide) (fun c_7 => ?_) (fun c_7 => ?_)
      · replace hf := it_t c_7 hf
        refine lv_bipush (pc := 58) (v := (-2)) hx hb dX1_doorBetween_58 (by decide) ?_
        cases hf
        rw [hQ]
        exact r_iret C hr hP hD hS rfl dX1_doorBetween_60
      · replace hf := it_f c_7 hf
        refine lv_aload_n (pc := 10) hx hb dX1_doorBetween_10 rfl (lv_at hl 0 rfl) ?_
        refine r_get (pc := 11) C hP 0 rfl fl_X1_19 rfl dX1_doorBetween_11 ?_
        refine lv_iload_n (pc := 14) hx hb dX1_doorBetween_14 rfl (lv_at hl 3 rfl) ?_
        obtain ⟨hi_15, hf⟩ := gd_s hf
        refine r_iald (pc := 15) C hP 1 rfl hi_15 dX1_doorBetween_15 ?_
        refine lv_iload_n (pc := 16) hx hb dX1_doorBetween_16 rfl (lv_at hl 1 rfl) ?_
        refine jnK hf (fun j30 ej30 hf => ?_)
        have hj30 : j30 () = some z → AT p l e (rmOf 0 0) s m args below meth c E A Q 0 0 4 [(0, .ref h), (1, .int p0), (2, .int p1), (3, .int x2_3)] (wX1_doorBetween E h h_creak h_cold h_one h_other h_how h_falls h_ways v_rooms v_doors v_one v_other) 30 [] := by
          intro  hf H locs ls hl hP hD hS
          rw [ej30] at hf
          replace hf := un0_s hf
          refine lv_aload_n (pc := 30) hx hb dX1_doorBetween_30 rfl (lv_at hl 0 rfl) ?_
          refine r_get (pc := 31) C hP 0 rfl fl_X1_19 rfl dX1_doorBetween_31 ?_
          refine lv_iload_n (pc := 34) hx hb dX1_doorBetween_34 rfl (lv_at hl 3 rfl) ?_
          obtain ⟨hi_35, hf⟩ := gd_s hf
          refine r_iald (pc := 35) C hP 1 rfl hi_35 dX1_doorBetween_35 ?_
          refine lv_iload_n (pc := 36) hx hb dX1_doorBetween_36 rfl (lv_at hl 2 rfl) ?_
          refine jnK hf (fun j52 ej52 hf => ?_)
          have hj52 : j52 () = some z → AT p l e (rmOf 0 0) s m args below meth c E A Q 0 0 4 [(0, .ref h), (1, .int p0), (2, .int p1), (3, .int x2_3)] (wX1_doorBetween E h h_creak h_cold h_one h_other h_how h_falls h_ways v_rooms v_doors v_one v_other) 52 [] := by
            intro  hf H locs ls hl hP hD hS
            rw [ej52] at hf
            replace hf := un0_s hf
            refine lv_iinc (pc := 52) (v := x2_3 + 1) (lv' := [(3, .int (x2_3 + 1)), (0, .ref h), (1, .int p0), (2, .int p1)]) hx hb dX1_doorBetween_52 hl (k := 3) rfl rfl (by decide) rfl (fun ls hl => ?_)
            refine lv_goto (pc := 55) (tgt := 2) hx hb dX1_doorBetween_55 (by decide) ?_
            exact ih2 (x2_3 + 1) hf _ _ _ (lv_sub hl [1, 2, 3, 0] rfl) hP hD hS
          clear ej52
          refine lv_icmp_ne (pc := 37) (tgt := 52) hx hb dX1_doorBetween_37 (by decide) (fun c_37 => ?_) (fun c_37 => ?_)
          · replace hf := it_f c_37 hf
            exact hj52  hf _ _ _ (lv_sub hl [0, 1, 2, 3] rfl) hP hD hS
          · replace hf := it_t c_37 hf
            refine lv_aload_n (pc := 40) hx hb dX1_doorBetween_40 rfl (lv_at hl 0 rfl) ?_
            refine r_get (pc := 41) C hP 0 rfl fl_X1_22 rfl dX1_doorBetween_41 ?_
            refine lv_iload_n (pc := 44) hx hb dX1_doorBetween_44 rfl (lv_at hl 3 rfl) ?_
            obtain ⟨hi_45, hf⟩ := gd_s hf
            refine r_iald (pc := 45) C hP 2 rfl hi_45 dX1_doorBetween_45 ?_
            refine lv_iload_n (pc := 46) hx hb dX1_doorBetween_46 rfl (lv_at hl 1 rfl) ?_
            refine lv_icmp_ne (pc := 47) (tgt := 52) hx hb dX1_doorBetween_47 (by decide) (fun c_47 => ?_) (fun c_47 => ?_)
            · replace hf := it_f c_47 hf
              exact hj52  hf _ _ _ (lv_sub hl [0, 1, 2, 3] rfl) hP hD hS
            · replace hf := it_t c_47 hf
              refine lv_iload_n (pc := 50) hx hb dX1_doorBetween_50 rfl (lv_at hl 3 rfl) ?_
              cases hf
              rw [hQ]
              exact r_iret C hr hP hD hS rfl dX1_doorBetween_51
        clear ej30
        refine lv_icmp_ne (pc := 17) (tgt := 30) hx hb dX1_doorBetween_17 (by decide) (fun c_17 => ?_) (fun c_17 => ?_)
        · replace hf := it_f c_17 hf
          exact hj30  hf _ _ _ (lv_sub hl [0, 1, 2, 3] rfl) hP hD hS
        · replace hf := it_t c_17 hf
          refine lv_aload_n (pc := 20) hx hb dX1_doorBetween_20 rfl (lv_at hl 0 rfl) ?_
          refine r_get (pc := 21) C hP 0 rfl fl_X1_22 rfl dX1_doorBetween_21 ?_
          refine lv_iload_n (pc := 24) hx hb dX1_doorBetween_24 rfl (lv_at hl 3 rfl) ?_
          obtain ⟨hi_25, hf⟩ := gd_s hf
          refine r_iald (pc := 25) C hP 2 rfl hi_25 dX1_doorBetween_25 ?_
          refine lv_iload_n (pc := 26) hx hb dX1_doorBetween_26 rfl (lv_at hl 2 rfl) ?_
          refine lv_icmp_eq (pc := 27) (tgt := 50) hx hb dX1_doorBetween_27 (by decide) (fun c_27 => ?_) (fun c_27 => ?_)
          · replace hf := it_t c_27 hf
            refine lv_iload_n (pc := 50) hx hb dX1_doorBetween_50 rfl (lv_at hl 3 rfl) ?_
            cases hf
            rw [hQ]
            exact r_iret C hr hP hD hS rfl dX1_doorBetween_51
          · replace hf := it_f c_27 hf
            exact hj30  hf _ _ _ (lv_sub hl [0, 1, 2, 3] rfl) hP hD hS
  exact key2 _ 0 hf _ _ _ (lv_sub hl [1, 2, 3, 0] rfl) hP hD hS
def wX6_passOtherRoom (E : EN) (h h_tape h_names h_sorts h_numbers h_inn h_tape_bytes h_inn_house h_inn_thingIn h_inn_full h_inn_states h_inn_bed h_inn_dreamOf h_inn_listensIn h_inn_house_creak h_inn_house_cold h_inn_house_one h_inn_house_other h_inn_house_how h_inn_house_falls h_inn_house_ways : Nat) (v_named : Int32) (v_fault : Int32) (v_number : Int32) (v_tape_length : Int32) (v_tape_end : Int32) (v_tape_at : Int32) (v_tape_start : Int32) (v_tape_kind : Int32) (v_tape_code : Int64) (v_tape_mayName : Int32) (v_tape_value : Int32) (v_names : Nat → Int64) (v_sorts : Nat → Int32) (v_numbers : Nat → Int32) (v_inn_minutes : Int32) (v_inn_things : Int32) (v_inn_dreams : Int32) (v_inn_sleepers : Int32) (v_inn_listeners : Int32) (v_inn_house_rooms : Int32) (v_inn_house_doors : Int32) (v_inn_house_one : Nat → Int32) (v_inn_house_other : Nat → Int32) (v_tape_bytes : Nat → Int32) : va_W := [(h, .inr (6, [.ref h_tape, .ref h_names, .ref h_sorts, .ref h_numbers, .int v_named, .ref h_inn, .int v_fault, .int v_number])), (h_tape, .inr (7, [.ref h_tape_bytes, .int v_tape_length, .int v_tape_end, .int v_tape_at, .int v_tape_start, .int v_tape_kind, .long v_tape_code, .int v_tape_mayName, .int v_tape_value])), (h_names, aJ E 19 v_names), (h_sorts, aI E 19 v_sorts), (h_numbers, aI E 19 v_numbers), (h_inn, .inr (2, [.ref h_inn_house, .int v_inn_minutes, .int v_inn_things, .ref h_inn_thingIn, .ref h_inn_full, .int v_inn_dreams, .ref h_inn_states, .int v_inn_sleepers, .ref h_inn_bed, .ref h_inn_dreamOf, .int v_inn_listeners, .ref h_inn_listensIn])), (h_inn_house, .inr (1, [.int v_inn_house_rooms, .ref h_inn_house_creak, .ref h_inn_house_cold, .int v_inn_house_doors, .ref h_inn_house_one, .ref h_inn_house_other, .ref h_inn_house_how, .ref h_inn_house_falls, .ref h_inn_house_ways])), (h_inn_house_one, aI E 10 v_inn_house_one), (h_inn_house_other, aI E 10 v_inn_house_other), (h_tape_bytes, aB E 900 v_tape_bytes)]
def fX6_passOtherRoom (N : Nat) (p0 : Int32) (v_named : Int32) (v_fault : Int32) (v_number : Int32) (v_tape_end : Int32) (v_tape_at : Int32) (v_tape_start : Int32) (v_tape_kind : Int32) (v_tape_code : Int64) (v_tape_mayName : Int32) (v_tape_value : Int32) (v_names : Nat → Int64) (v_sorts : Nat → Int32) (v_numbers : Nat → Int32) (v_inn_house_doors : Int32) (v_inn_house_one : Nat → Int32) (v_inn_house_other : Nat → Int32) (v_tape_bytes : Nat → Int32) : Option (Int32 × Int32 × Int32 × Int32 × Int32 × Int32 × Int64 × Int32 × Int32) := (fX6_lookUp N 0 v_named v_fault v_number v_tape_code v_tape_mayName v_names v_sorts v_numbers).bind (un3 fun (r_2 : Int32) (v_fault_2 : Int32) (v_number_2 : Int32) => if r_2 = 0 then (some (0, v_fault_2, v_number_2, v_tape_at, v_tape_start, v_tape_kind, v_tape_code, v_tape_mayName, v_tape_value)) else (if v_number_2 = p0 then ((fX6_fail N 3).bind (un2 fun (r_40 : Int32) (v_fault_40 : Int32) => zg r_40 (some (r_40, v_fault_40, v_number_2, v_tape_at, v_tape_start, v_tape_kind, v_tape_code, v_tape_mayName, v_tape_value)))) else ((fX1_doorBetween N p0 v_number_2 v_inn_house_doors v_inn_house_one v_inn_house_other).bind (un1 fun (r_30 : Int32) => if r_30 = (-2) then ((fX7_advance N v_tape_end v_tape_at v_tape_bytes).bind (un6 fun (v_tape_at_48 : Int32) (v_tape_start_48 : Int32) (v_tape_kind_48 : Int32) (v_tape_code_48 : Int64) (v_tape_mayName_48 : Int32) (v_tape_value_48 : Int32) => some (1, v_fault_2, v_number_2, v_tape_at_48, v_tape_start_48, v_tape_kind_48, v_tape_code_48, v_tape_mayName_48, v_tape_value_48))) else ((fX6_fail N 3).bind (un2 fun (r_40 : Int32) (v_fault_40 : Int32) => zg r_40 (some (r_40, v_fault_40, v_number_2, v_tape_at, v_tape_start, v_tape_kind, v_tape_code, v_tape_mayName, v_tape_value))))))))
set_option maxHeartbeats 4000000 in
set_option maxRecDepth 100000 in
theorem ctX6_passOtherRoom (l : Launch) (E : EN) (h h_tape h_names h_sorts h_numbers h_inn h_tape_bytes h_inn_house h_inn_thingIn h_inn_full h_inn_states h_inn_bed h_inn_dreamOf h_inn_listensIn h_inn_house_creak h_inn_house_cold h_inn_house_one h_inn_house_other h_inn_house_how h_inn_house_falls h_inn_house_ways : Nat) (v_named : Int32) (v_fault : Int32) (v_number : Int32) (v_tape_length : Int32) (v_tape_end : Int32) (v_tape_at : Int32) (v_tape_start : Int32) (v_tape_kind : Int32) (v_tape_code : Int64) (v_tape_mayName : Int32) (v_tape_value : Int32) (v_names : Nat → Int64) (v_sorts : Nat → Int32) (v_numbers : Nat → Int32) (v_inn_minutes : Int32) (v_inn_things : Int32) (v_inn_dreams : Int32) (v_inn_sleepers : Int32) (v_inn_listeners : Int32) (v_inn_house_rooms : Int32) (v_inn_house_doors : Int32) (v_inn_house_one : Nat → Int32) (v_inn_house_other : Nat → Int32) (v_tape_bytes : Nat → Int32) (N : Nat) (p0 : Int32) (z : Int32 × Int32 × Int32 × Int32 × Int32 × Int32 × Int64 × Int32 × Int32) (hf : fX6_passOtherRoom N p0 v_named v_fault v_number v_tape_end v_tape_at v_tape_start v_tape_kind v_tape_code v_tape_mayName v_tape_value v_names v_sorts v_numbers v_inn_house_doors v_inn_house_one v_inn_house_other v_tape_bytes = some z) : CTi l E yX6_passOtherRoom cX6_passOtherRoom 2 .boolean 2 44 [.ref h, .int p0] (wX6_passOtherRoom E h h_tape h_names h_sorts h_numbers h_inn h_tape_bytes h_inn_house h_inn_thingIn h_inn_full h_inn_states h_inn_bed h_inn_dreamOf h_inn_listensIn h_inn_house_creak h_inn_house_cold h_inn_house_one h_inn_house_other h_inn_house_how h_inn_house_falls h_inn_house_ways v_named v_fault v_number v_tape_length v_tape_end v_tape_at v_tape_start v_tape_kind v_tape_code v_tape_mayName v_tape_value v_names v_sorts v_numbers v_inn_minutes v_inn_things v_inn_dreams v_inn_sleepers v_inn_listeners v_inn_house_rooms v_inn_house_doors v_inn_house_one v_inn_house_other v_tape_bytes) (z.1) (wX6_passOtherRoom E h h_tape h_names h_sorts h_numbers h_inn h_tape_bytes h_inn_house h_inn_thingIn h_inn_full h_inn_states h_inn_bed h_inn_dreamOf h_inn_listensIn h_inn_house_creak h_inn_house_cold h_inn_house_one h_inn_house_other h_inn_house_how h_inn_house_falls h_inn_house_ways v_named z.2.1 z.2.2.1 v_tape_length v_tape_end z.2.2.2.1 z.2.2.2.2.1 z.2.2.2.2.2.1 z.2.2.2.2.2.2.1 z.2.2.2.2.2.2.2.1 z.2.2.2.2.2.2.2.2 v_names v_sorts v_numbers v_inn_minutes v_inn_things v_inn_dreams v_inn_sleepers v_inn_listeners v_inn_house_rooms v_inn_house_doors v_inn_house_one v_inn_house_other v_tape_bytes) := by
  intro sz
  refine ct_body (by decide) (Nat.le_of_ble_eq_true rfl) ?_
  intro p e s m args below meth c A ls hAe C hr hin hP hD hS hl
  have C : CX p s m args meth c cX6_passOtherRoom RX6 2 E A := C
  have hl : lv_has ls 2 [(0, .ref h), (1, .int p0)] := hl
  have hx := C.1
  have hb := C.2.1
  rw [hAe]
  clear hAe
  obtain ⟨Q, hQ⟩ : ∃ Q, Q = MQ below (Qi E A (z.1) (wX6_passOtherRoom E h h_tape h_names h_sorts h_numbers h_inn h_tape_bytes h_inn_house h_inn_thingIn h_inn_full h_inn_states h_inn_bed h_inn_dreamOf h_inn_listensIn h_inn_house_creak h_inn_house_cold h_inn_house_one h_inn_house_other h_inn_house_how h_inn_house_falls h_inn_house_ways v_named z.2.1 z.2.2.1 v_tape_length v_tape_end z.2.2.2.1 z.2.2.2.2.1 z.2.2.2.2.2.1 z.2.2.2.2.2.2.1 z.2.2.2.2.2.2.2.1 z.2.2.2.2.2.2.2.2 v_names v_sorts v_numbers v_inn_minutes v_inn_things v_inn_dreams v_inn_sleepers v_inn_listeners v_inn_house_rooms v_inn_house_doors v_inn_house_one v_inn_house_other v_tape_bytes)) args s 0 0 A := ⟨_, rfl⟩
  rw [← hQ]
  unfold fX6_passOtherRoom at hf
  refine lv_aload_n (pc := 0) hx hb dX6_passOtherRoom_0 rfl (lv_at hl 0 rfl) ?_
  refine lv_iconst (pc := 1) (v := 0) hx hb dX6_passOtherRoom_1 (by decide) ?_
  obtain ⟨r_2, v_fault_2, v_number_2, hc_2, hf⟩ := bd3 hf
  refine r_dalVi (pc := 2) (ws' := (wX6_passOtherRoom E h h_tape h_names h_sorts h_numbers h_inn h_tape_bytes h_inn_house h_inn_thingIn h_inn_full h_inn_states h_inn_bed h_inn_dreamOf h_inn_listensIn h_inn_house_creak h_inn_house_cold h_inn_house_one h_inn_house_other h_inn_house_how h_inn_house_falls h_inn_house_ways v_named v_fault_2 v_number_2 v_tape_length v_tape_end v_tape_at v_tape_start v_tape_kind v_tape_code v_tape_mayName v_tape_value v_names v_sorts v_numbers v_inn_minutes v_inn_things v_inn_dreams v_inn_sleepers v_inn_listeners v_inn_house_rooms v_inn_house_doors v_inn_house_one v_inn_house_other v_tape_bytes)) (As := [.int 0]) (rest := []) C (ctX6_lookUp l E h h_tape h_names h_sorts h_numbers h_inn h_tape_bytes v_named v_fault v_number v_tape_length v_tape_end v_tape_at v_tape_start v_tape_kind v_tape_code v_tape_mayName v_tape_value v_names v_sorts v_numbers N 0 (r_2, v_fault_2, v_number_2) hc_2) ml_X6_241 ⟨Nat.le_of_ble_eq_true rfl, Nat.le_of_ble_eq_true rfl⟩ hP hD hS 0 rfl rfl rfl [0, 1, 2, 3, 4] [10, 11, 12, 13, 14, 5, 6, 7, 8, 9] 10 rfl rfl rfl rfl rfl rfl rfl hl.1 rfl (Nat.le_of_ble_eq_true rfl) ⟨Nat.zero_le _, Nat.zero_le _⟩ dX6_passOtherRoom_2 ?_
  clear hP hD hS; intro H locs hP hD hS
  refine lv_if_ne (pc := 5) (tgt := 10) hx hb dX6_passOtherRoom_5 (by decide) (fun c_5 => ?_) (fun c_5 => ?_)
  · replace hf := it_f c_5 hf
    refine lv_aload_n (pc := 10) hx hb dX6_passOtherRoom_10 rfl (lv_at hl 0 rfl) ?_
    refine r_get (pc := 11) C hP 0 rfl fl_X6_148 rfl dX6_passOtherRoom_11 ?_
    refine lv_iload_n (pc := 14) hx hb dX6_passOtherRoom_14 rfl (lv_at hl 1 rfl) ?_
    refine lv_icmp_eq (pc := 15) (tgt := 38) hx hb dX6_passOtherRoom_15 (by decide) (fun c_15 => ?_) (fun c_15 => ?_)
    · replace hf := it_t c_15 hf
      refine lv_aload_n (pc := 38) hx hb dX6_passOtherRoom_38 rfl (lv_at hl 0 rfl) ?_
      refine lv_iconst (pc := 39) (v := 3) hx hb dX6_passOtherRoom_39 (by decide) ?_
      obtain ⟨r_40, v_fault_40, hc_40, hf⟩ := bd2 hf
      refine r_dalVi (pc := 40) (ws' := (wX6_passOtherRoom E h h_tape h_names h_sorts h_numbers h_inn h_tape_bytes h_inn_house h_inn_thingIn h_inn_full h_inn_states h_inn_bed h_inn_dreamOf h_inn_listensIn h_inn_house_creak h_inn_house_cold h_inn_house_one h_inn_house_other h_inn_house_how h_inn_house_falls h_inn_house_ways v_named v_fault_40 v_number_2 v_tape_length v_tape_end v_tape_at v_tape_start v_tape_kind v_tape_code v_tape_mayName v_tape_value v_names v_sorts v_numbers v_inn_minutes v_inn_things v_inn_dreams v_inn_sleepers v_inn_listeners v_inn_house_rooms v_inn_house_doors v_inn_house_one v_inn_house_other v_tape_bytes)) (As := [.int 3]) (rest := []) C (ctX6_fail l E h h_tape h_names h_sorts h_numbers h_inn v_named v_fault_2 v_number_2 N 3 (r_40, v_fault_40) hc_40) ml_X6_60 ⟨Nat.le_of_ble_eq_true rfl, Nat.le_of_ble_eq_true rfl⟩ hP hD hS 0 rfl rfl rfl [0] [10, 1, 2, 3, 4, 5, 6, 7, 8, 9] 10 rfl rfl rfl rfl rfl rfl rfl hl.1 rfl (Nat.le_of_ble_eq_true rfl) ⟨Nat.zero_le _, Nat.zero_le _⟩ dX6_passOtherRoom_40 ?_
      clear hP hD hS; intro H locs hP hD hS
      obtain ⟨hz_43, hf⟩ := zg_s hf
      cases hf
      rw [hQ]
      exact r_zret C hr hP hD hS hz_43 rfl dX6_passOtherRoom_43
    · replace hf := it_f c_15 hf
      refine lv_aload_n (pc := 18) hx hb dX6_passOtherRoom_18 rfl (lv_at hl 0 rfl) ?_
      refine r_get (pc := 19) C hP 0 rfl fl_X6_32 rfl dX6_passOtherRoom_19 ?_
      refine r_get (pc := 22) C hP 5 rfl fl_X6_67 rfl dX6_passOtherRoom_22 ?_
      refine lv_iload_n (pc := 25) hx hb dX6_passOtherRoom_25 rfl (lv_at hl 1 rfl) ?_
      refine lv_aload_n (pc := 26) hx hb dX6_passOtherRoom_26 rfl (lv_at hl 0 rfl) ?_
      refine r_get (pc := 27) C hP 0 rfl fl_X6_148 rfl dX6_passOtherRoom_27 ?_
      obtain ⟨r_30, hc_30, hf⟩ := bd1 hf
      refine r_dalVi (pc := 30) (ws' := (wX6_passOtherRoom E h h_tape h_names h_sorts h_numbers h_inn h_tape_bytes h_inn_house h_inn_thingIn h_inn_full h_inn_states h_inn_bed h_inn_dreamOf h_inn_listensIn h_inn_house_creak h_inn_house_cold h_inn_house_one h_inn_house_other h_inn_house_how h_inn_house_falls h_inn_house_ways v_named v_fault_2 v_number_2 v_tape_length v_tape_end v_tape_at v_tape_start v_tape_kind v_tape_code v_tape_mayName v_tape_value v_names v_sorts v_numbers v_inn_minutes v_inn_things v_inn_dreams v_inn_sleepers v_inn_listeners v_inn_house_rooms v_inn_house_doors v_inn_house_one v_inn_house_other v_tape_bytes)) (As := [.int p0, .int v_number_2]) (rest := []) C (ctX1_doorBetween l E h_inn_house h_inn_house_creak h_inn_house_cold h_inn_house_one h_inn_house_other h_inn_house_how h_inn_house_falls h_inn_house_ways v_inn_house_rooms v_inn_house_doors v_inn_house_one v_inn_house_other N p0 v_number_2 r_30 hc_30) ml_X6_281 ⟨Nat.le_of_ble_eq_true rfl, Nat.le_of_ble_eq_true rfl⟩ hP hD hS 6 rfl rfl rfl [6, 7, 8] [0, 1, 2, 3, 4, 5, 10, 11, 12, 9] 10 rfl rfl rfl rfl rfl rfl rfl hl.1 rfl (Nat.le_of_ble_eq_true rfl) ⟨Nat.zero_le _, Nat.zero_le _⟩ dX6_passOtherRoom_30 ?_
      clear hP hD hS; intro H locs hP hD hS
      refine lv_bipush (pc := 33) (v := (-2)) hx hb dX6_passOtherRoom_33 (by decide) ?_
      refine lv_icmp_eq (pc := 35) (tgt := 44) hx hb dX6_passOtherRoom_35 (by decide) (fun c_35 => ?_) (fun c_35 => ?_)
      · replace hf := it_t c_35 hf
        refine lv_aload_n (pc := 44) hx hb dX6_passOtherRoom_44 rfl (lv_at hl 0 rfl) ?_
        refine r_get (pc := 45) C hP 0 rfl fl_X6_12 rfl dX6_passOtherRoom_45 ?_
        obtain ⟨v_tape_at_48, v_tape_start_48, v_tape_kind_48, v_tape_code_48, v_tape_mayName_48, v_tape_value_48, hc_48, hf⟩ := bd6 hf
        refine r_dalVv (pc := 48) (ws' := (wX6_passOtherRoom E h h_tape h_names h_sorts h_numbers h_inn h_tape_bytes h_inn_house h_inn_thingIn h_inn_full h_inn_states h_inn_bed h_inn_dreamOf h_inn_listensIn h_inn_house_creak h_inn_house_cold h_inn_house_one h_inn_house_other h_inn_house_how h_inn_house_falls h_inn_house_ways v_named v_fault_2 v_number_2 v_tape_length v_tape_end v_tape_at_48 v_tape_start_48 v_tape_kind_48 v_tape_code_48 v_tape_mayName_48 v_tape_value_48 v_names v_sorts v_numbers v_inn_minutes v_inn_things v_inn_dreams v_inn_sleepers v_inn_listeners v_inn_house_rooms v_inn_house_doors v_inn_house_one v_inn_house_other v_tape_bytes)) (As := []) (rest := []) C (ctX7_advance l E h_tape h_tape_bytes v_tape_length v_tape_end v_tape_at v_tape_start v_tape_kind v_tape_code v_tape_mayName v_tape_value v_tape_bytes N (v_tape_at_48, v_tape_start_48, v_tape_kind_48, v_tape_code_48, v_tape_mayName_48, v_tape_value_48) hc_48) ml_X6_57 ⟨Nat.le_of_ble_eq_true rfl, Nat.le_of_ble_eq_true rfl⟩ hP hD hS 1 rfl rfl rfl [1, 9] [0, 10, 2, 3, 4, 5, 6, 7, 8, 11] 10 rfl rfl rfl rfl rfl rfl rfl hl.1 rfl (Nat.le_of_ble_eq_true rfl) ⟨Nat.zero_le _, Nat.zero_le _⟩ dX6_passOtherRoom_48 ?_
        clear hP hD hS; intro H locs hP hD hS
        refine lv_iconst (pc := 51) (v := 1) hx hb dX6_passOtherRoom_51 (by decide) ?_
        cases hf
        rw [hQ]
        exact r_zret C hr hP hD hS (Or.inr rfl) rfl dX6_passOtherRoom_52
      · replace hf := it_f c_35 hf
        refine lv_aload_n (pc := 38) hx hb dX6_passOtherRoom_38 rfl (lv_at hl 0 rfl) ?_
        refine lv_iconst (pc := 39) (v := 3) hx hb dX6_passOtherRoom_39 (by decide) ?_
        obtain ⟨r_40, v_fault_40, hc_40, hf⟩ := bd2 hf
        refine r_dalVi (pc := 40) (ws' := (wX6_passOtherRoom E h h_tape h_names h_sorts h_numbers h_inn h_tape_bytes h_inn_house h_inn_thingIn h_inn_full h_inn_states h_inn_bed h_inn_dreamOf h_inn_listensIn h_inn_house_creak h_inn_house_cold h_inn_house_one h_inn_house_other h_inn_house_how h_inn_house_falls h_inn_house_ways v_named v_fault_40 v_number_2 v_tape_length v_tape_end v_tape_at v_tape_start v_tape_kind v_tape_code v_tape_mayName v_tape_value v_names v_sorts v_numbers v_inn_minutes v_inn_things v_inn_dreams v_inn_sleepers v_inn_listeners v_inn_house_rooms v_inn_house_doors v_inn_house_one v_inn_house_other v_tape_bytes)) (As := [.int 3]) (rest := []) C (ctX6_fail l E h h_tape h_names h_sorts h_numbers h_inn v_named v_fault_2 v_number_2 N 3 (r_40, v_fault_40) hc_40) ml_X6_60 ⟨Nat.le_of_ble_eq_true rfl, Nat.le_of_ble_eq_true rfl⟩ hP hD hS 0 rfl rfl rfl [0] [10, 1, 2, 3, 4, 5, 6, 7, 8, 9] 10 rfl rfl rfl rfl rfl rfl rfl hl.1 rfl (Nat.le_of_ble_eq_true rfl) ⟨Nat.zero_le _, Nat.zero_le _⟩ dX6_passOtherRoom_40 ?_
        clear hP hD hS; intro H locs hP hD hS
        obtain ⟨hz_43, hf⟩ := zg_s hf
        cases hf
        rw [hQ]
        exact r_zret C hr hP hD hS hz_43 rfl dX6_passOtherRoom_43
  · replace hf := it_t c_5 hf
    refine lv_iconst (pc := 8) (v := 0) hx hb dX6_passOtherRoom_8 (by decide) ?_
    cases hf
    rw [hQ]
    exact r_zret C hr hP hD hS (Or.inl rfl) rfl dX6_passOtherRoom_9
def wX1_addDoor (E : EN) (h h_creak h_cold h_one h_other h_how h_falls h_ways : Nat) (v_rooms : Int32) (v_doors : Int32) (v_one : Nat → Int32) (v_other : Nat → Int32) (v_how : Nat → Int32) (v_falls : Nat → Int32) : va_W := [(h, .inr (1, [.int v_rooms, .ref h_creak, .ref h_cold, .int v_doors, .ref h_one, .ref h_other, .ref h_how, .ref h_falls, .ref h_ways])), (h_one, aI E 10 v_one), (h_other, aI E 10 v_other), (h_how, aI E 10 v_how), (h_falls, aZ E 10 v_falls)]
def fX1_addDoor (N : Nat) (p0 : Int32) (p1 : Int32) (p2 : Int32) (p3 : Int32) (v_doors : Int32) (v_one : Nat → Int32) (v_other : Nat → Int32) (v_how : Nat → Int32) (v_falls : Nat → Int32) : Option (Int32 × (Nat → Int32) × (Nat → Int32) × (Nat → Int32) × (Nat → Int32)) := gd v_doors 10 (gd v_doors 10 (gd v_doors 10 (gd v_doors 10 (zg p3 (some (v_doors + 1, upd v_one v_doors.toNatClampNeg p0, upd v_other v_doors.toNatClampNeg p1, upd v_how v_doors.toNatClampNeg p2, upd v_falls v_doors.toNatClampNeg p3))))))
set_option maxHeartbeats 4000000 in
set_option maxRecDepth 100000 in
theorem ctX1_addDoor (l : Launch) (E : EN) (h h_creak h_cold h_one h_other h_how h_falls h_ways : Nat) (v_rooms : Int32) (v_doors : Int32) (v_one : Nat → Int32) (v_other : Nat → Int32) (v_how : Nat → Int32) (v_falls : Nat → Int32) (N : Nat) (p0 : Int32) (p1 : Int32) (p2 : Int32) (p3 : Int32) (z : Int32 × (Nat → Int32) × (Nat → Int32) × (Nat → Int32) × (Nat → Int32)) (hf : fX1_addDoor N p0 p1 p2 p3 v_doors v_one v_other v_how v_falls = some z) : CTv l E yX1_addDoor cX1_addDoor 5 0 0 [.ref h, .int p0, .int p1, .int p2, .int p3] (wX1_addDoor E h h_creak h_cold h_one h_other h_how h_falls h_ways v_rooms v_doors v_one v_other v_how v_falls) (wX1_addDoor E h h_creak h_cold h_one h_other h_how h_falls h_ways v_rooms z.1 z.2.1 z.2.2.1 z.2.2.2.1 z.2.2.2.2) := by
  intro sz
  refine ct_body (by decide) (Nat.le_of_ble_eq_true rfl) ?_
  intro p e s m args below meth c A ls hAe C hr hin hP hD hS hl
  have C : CX p s m args meth c cX1_addDoor RX1 5 E A := C
  have hl : lv_has ls 5 [(0, .ref h), (1, .int p0), (2, .int p1), (3, .int p2), (4, .int p3)] := hl
  have hx := C.1
  have hb := C.2.1
  rw [hAe]
  clear hAe
  obtain ⟨Q, hQ⟩ : ∃ Q, Q = MQ below (Qv E A (wX1_addDoor E h h_creak h_cold h_one h_other h_how h_falls h_ways v_rooms z.1 z.2.1 z.2.2.1 z.2.2.2.1 z.2.2.2.2)) args s 0 0 A := ⟨_, rfl⟩
  rw [← hQ]
  unfold fX1_addDoor at hf
  refine lv_aload_n (pc := 0) hx hb dX1_addDoor_0 rfl (lv_at hl 0 rfl) ?_
  refine r_get (pc := 1) C hP 0 rfl fl_X1_19 rfl dX1_addDoor_1 ?_
  refine lv_aload_n (pc := 4) hx hb dX1_addDoor_4 rfl (lv_at hl 0 rfl) ?_
  refine r_get (pc := 5) C hP 0 rfl fl_X1_42 rfl dX1_addDoor_5 ?_
  refine lv_iload_n (pc := 8) hx hb dX1_addDoor_8 rfl (lv_at hl 1 rfl) ?_
  obtain ⟨hi_9, hf⟩ := gd_s hf
  refine r_iast (pc := 9) (ws' := (wX1_addDoor E h h_creak h_cold h_one h_other h_how h_falls h_ways v_rooms v_doors (upd v_one v_doors.toNatClampNeg p0) v_other v_how v_falls)) C hP hD hS 1 rfl hi_9 rfl dX1_addDoor_9 ?_
  clear hP hD hS; intro H locs hP hD hS
  refine lv_aload_n (pc := 10) hx hb dX1_addDoor_10 rfl (lv_at hl 0 rfl) ?_
  refine r_get (pc := 11) C hP 0 rfl fl_X1_22 rfl dX1_addDoor_11 ?_
  refine lv_aload_n (pc := 14) hx hb dX1_addDoor_14 rfl (lv_at hl 0 rfl) ?_
  refine r_get (pc := 15) C hP 0 rfl fl_X1_42 rfl dX1_addDoor_15 ?_
  refine lv_iload_n (pc := 18) hx hb dX1_addDoor_18 rfl (lv_at hl 2 rfl) ?_
  obtain ⟨hi_19, hf⟩ := gd_s hf
  refine r_iast (pc := 19) (ws' := (wX1_addDoor E h h_creak h_cold h_one h_other h_how h_falls h_ways v_rooms v_doors (upd v_one v_doors.toNatClampNeg p0) (upd v_other v_doors.toNatClampNeg p1) v_how v_falls)) C hP hD hS 2 rfl hi_19 rfl dX1_addDoor_19 ?_
  clear hP hD hS; intro H locs hP hD hS
  refine lv_aload_n (pc := 20) hx hb dX1_addDoor_20 rfl (lv_at hl 0 rfl) ?_
  refine r_get (pc := 21) C hP 0 rfl fl_X1_25 rfl dX1_addDoor_21 ?_
  refine lv_aload_n (pc := 24) hx hb dX1_addDoor_24 rfl (lv_at hl 0 rfl) ?_
  refine r_get (pc := 25) C hP 0 rfl fl_X1_42 rfl dX1_addDoor_25 ?_
  refine lv_iload_n (pc := 28) hx hb dX1_addDoor_28 rfl (lv_at hl 3 rfl) ?_
  obtain ⟨hi_29, hf⟩ := gd_s hf
  refine r_iast (pc := 29) (ws' := (wX1_addDoor E h h_creak h_cold h_one h_other h_how h_falls h_ways v_rooms v_doors (upd v_one v_doors.toNatClampNeg p0) (upd v_other v_doors.toNatClampNeg p1) (upd v_how v_doors.toNatClampNeg p2) v_falls)) C hP hD hS 3 rfl hi_29 rfl dX1_addDoor_29 ?_
  clear hP hD hS; intro H locs hP hD hS
  refine lv_aload_n (pc := 30) hx hb dX1_addDoor_30 rfl (lv_at hl 0 rfl) ?_
  refine r_get (pc := 31) C hP 0 rfl fl_X1_28 rfl dX1_addDoor_31 ?_
  refine lv_aload_n (pc := 34) hx hb dX1_addDoor_34 rfl (lv_at hl 0 rfl) ?_
  refine r_get (pc := 35) C hP 0 rfl fl_X1_42 rfl dX1_addDoor_35 ?_
  refine lv_iload (pc := 38) hx hb dX1_addDoor_38 (lv_at hl 4 rfl) ?_
  obtain ⟨hi_40, hf⟩ := gd_s hf
  obtain ⟨hz_40, hf⟩ := zg_s hf
  refine r_zast (pc := 40) (ws' := (wX1_addDoor E h h_creak h_cold h_one h_other h_how h_falls h_ways v_rooms v_doors (upd v_one v_doors.toNatClampNeg p0) (upd v_other v_doors.toNatClampNeg p1) (upd v_how v_doors.toNatClampNeg p2) (upd v_falls v_doors.toNatClampNeg p3))) C hP hD hS 4 rfl hi_40 hz_40 rfl dX1_addDoor_40 ?_
  clear hP hD hS; intro H locs hP hD hS
  refine lv_aload_n (pc := 41) hx hb dX1_addDoor_41 rfl (lv_at hl 0 rfl) ?_
  refine lv_dup (pc := 42) hx hb dX1_addDoor_42 rfl ?_
  refine r_get (pc := 43) C hP 0 rfl fl_X1_42 rfl dX1_addDoor_43 ?_
  refine lv_iconst (pc := 46) (v := 1) hx hb dX1_addDoor_46 (by decide) ?_
  refine lv_iadd (pc := 47) hx hb dX1_addDoor_47 ?_
  refine r_put (pc := 48) (ws' := (wX1_addDoor E h h_creak h_cold h_one h_other h_how h_falls h_ways v_rooms (v_doors + 1) (upd v_one v_doors.toNatClampNeg p0) (upd v_other v_doors.toNatClampNeg p1) (upd v_how v_doors.toNatClampNeg p2) (upd v_falls v_doors.toNatClampNeg p3))) C hP hD hS 0 rfl fl_X1_42 rfl rfl (Nat.le_of_ble_eq_true rfl) rfl dX1_addDoor_48 ?_
  clear hP hD hS; intro H locs hP hD hS
  cases hf
  rw [hQ]
  exact r_vret C hr hP hD hS dX1_addDoor_51
def wX6_readDoor (E : EN) (h h_tape h_names h_sorts h_numbers h_inn h_inn_house h_inn_thingIn h_inn_full h_inn_states h_inn_bed h_inn_dreamOf h_inn_listensIn h_inn_house_creak h_inn_house_cold h_inn_house_one h_inn_house_other h_inn_house_how h_inn_house_falls h_inn_house_ways h_tape_bytes : Nat) (v_named : Int32) (v_fault : Int32) (v_number : Int32) (v_inn_minutes : Int32) (v_inn_things : Int32) (v_inn_dreams : Int32) (v_inn_sleepers : Int32) (v_inn_listeners : Int32) (v_inn_house_rooms : Int32) (v_inn_house_doors : Int32) (v_tape_length : Int32) (v_tape_end : Int32) (v_tape_at : Int32) (v_tape_start : Int32) (v_tape_kind : Int32) (v_tape_code : Int64) (v_tape_mayName : Int32) (v_tape_value : Int32) (v_tape_bytes : Nat → Int32) (v_names : Nat → Int64) (v_sorts : Nat → Int32) (v_numbers : Nat → Int32) (v_inn_house_one : Nat → Int32) (v_inn_house_other : Nat → Int32) (v_inn_house_how : Nat → Int32) (v_inn_house_falls : Nat → Int32) : va_W := [(h, .inr (6, [.ref h_tape, .ref h_names, .ref h_sorts, .ref h_numbers, .int v_named, .ref h_inn, .int v_fault, .int v_number])), (h_inn, .inr (2, [.ref h_inn_house, .int v_inn_minutes, .int v_inn_things, .ref h_inn_thingIn, .ref h_inn_full, .int v_inn_dreams, .ref h_inn_states, .int v_inn_sleepers, .ref h_inn_bed, .ref h_inn_dreamOf, .int v_inn_listeners, .ref h_inn_listensIn])), (h_inn_house, .inr (1, [.int v_inn_house_rooms, .ref h_inn_house_creak, .ref h_inn_house_cold, .int v_inn_house_doors, .ref h_inn_house_one, .ref h_inn_house_other, .ref h_inn_house_how, .ref h_inn_house_falls, .ref h_inn_house_ways])), (h_tape, .inr (7, [.ref h_tape_bytes, .int v_tape_length, .int v_tape_end, .int v_tape_at, .int v_tape_start, .int v_tape_kind, .long v_tape_code, .int v_tape_mayName, .int v_tape_value])), (h_tape_bytes, aB E 900 v_tape_bytes), (h_names, aJ E 19 v_names), (h_sorts, aI E 19 v_sorts), (h_numbers, aI E 19 v_numbers), (h_inn_house_one, aI E 10 v_inn_house_one), (h_inn_house_other, aI E 10 v_inn_house_other), (h_inn_house_how, aI E 10 v_inn_house_how), (h_inn_house_falls, aZ E 10 v_inn_house_falls)]
def fX6_readDoor (N : Nat) (v_named : Int32) (v_fault : Int32) (v_number : Int32) (v_inn_house_doors : Int32) (v_tape_end : Int32) (v_tape_at : Int32) (v_tape_start : Int32) (v_tape_kind : Int32) (v_tape_code : Int64) (v_tape_mayName : Int32) (v_tape_value : Int32) (v_tape_bytes : Nat → Int32) (v_names : Nat → Int64) (v_sorts : Nat → Int32) (v_numbers : Nat → Int32) (v_inn_house_one : Nat → Int32) (v_inn_house_other : Nat → Int32) (v_inn_house_how : Nat → Int32) (v_inn_house_falls : Nat → Int32) : Option (Int32 × Int32 × Int32 × Int32 × Int32 × Int32 × Int32 × Int64 × Int32 × Int32 × (Nat → Int32) × (Nat → Int32) × (Nat → Int32) × (Nat → Int32)) := if v_inn_house_doors < 10 then ((fX7_advance N v_tape_end v_tape_at v_tape_bytes).bind (un6 fun (v_tape_at_25 : Int32) (v_tape_start_25 : Int32) (v_tape_kind_25 : Int32) (v_tape_code_25 : Int64) (v_tape_mayName_25 : Int32) (v_tape_value_25 : Int32) => (fX6_passName N 0 v_named v_fault v_number v_tape_end v_tape_at_25 v_tape_start_25 v_tape_kind_25 v_tape_code_25 v_tape_mayName_25 v_tape_value_25 v_names v_sorts v_numbers v_tape_bytes).bind (un9 fun (r_30 : Int32) (v_fault_30 : Int32) (v_number_30 : Int32) (v_tape_at_30 : Int32) (v_tape_start_30 : Int32) (v_tape_kind_30 : Int32) (v_tape_code_30 : Int64) (v_tape_mayName_30 : Int32) (v_tape_value_30 : Int32) => if r_30 = 0 then (some (0, v_fault_30, v_number_30, v_inn_house_doors, v_tape_at_30, v_tape_start_30, v_tape_kind_30, v_tape_code_30, v_tape_mayName_30, v_tape_value_30, v_inn_house_one, v_inn_house_other, v_inn_house_how, v_inn_house_falls)) else ((fX6_passComma N v_fault_30 v_tape_end v_tape_at_30 v_tape_start_30 v_tape_kind_30 v_tape_code_30 v_tape_mayName_30 v_tape_value_30 v_tape_bytes).bind (un8 fun (r_44 : Int32) (v_fault_44 : Int32) (v_tape_at_44 : Int32) (v_tape_start_44 : Int32) (v_tape_kind_44 : Int32) (v_tape_code_44 : Int64) (v_tape_mayName_44 : Int32) (v_tape_value_44 : Int32) => if r_44 = 0 then (some (0, v_fault_44, v_number_30, v_inn_house_doors, v_tape_at_44, v_tape_start_44, v_tape_kind_44, v_tape_code_44, v_tape_mayName_44, v_tape_value_44, v_inn_house_one, v_inn_house_other, v_inn_house_how, v_inn_house_falls)) else ((fX6_passOtherRoom N v_number_30 v_named v_fault_44 v_number_30 v_tape_end v_tape_at_44 v_tape_start_44 v_tape_kind_44 v_tape_code_44 v_tape_mayName_44 v_tape_value_44 v_names v_sorts v_numbers v_inn_house_doors v_inn_house_one v_inn_house_other v_tape_bytes).bind (un9 fun (r_52 : Int32) (v_fault_52 : Int32) (v_number_52 : Int32) (v_tape_at_52 : Int32) (v_tape_start_52 : Int32) (v_tape_kind_52 : Int32) (v_tape_code_52 : Int64) (v_tape_mayName_52 : Int32) (v_tape_value_52 : Int32) => if r_52 = 0 then (some (0, v_fault_52, v_number_52, v_inn_house_doors, v_tape_at_52, v_tape_start_52, v_tape_kind_52, v_tape_code_52, v_tape_mayName_52, v_tape_value_52, v_inn_house_one, v_inn_house_other, v_inn_house_how, v_inn_house_falls)) else ((fX6_passIf N 8 v_tape_end v_tape_at_52 v_tape_start_52 v_tape_kind_52 v_tape_code_52 v_tape_mayName_52 v_tape_value_52 v_tape_bytes).bind (un7 fun (r_69 : Int32) (v_tape_at_69 : Int32) (v_tape_start_69 : Int32) (v_tape_kind_69 : Int32) (v_tape_code_69 : Int64) (v_tape_mayName_69 : Int32) (v_tape_value_69 : Int32) => jn (un7 fun (x94_s0 : Int32) (x94_tape_at : Int32) (x94_tape_start : Int32) (x94_tape_kind : Int32) (x94_tape_code : Int64) (x94_tape_mayName : Int32) (x94_tape_value : Int32) => (fX6_passIf N 10 v_tape_end x94_tape_at x94_tape_start x94_tape_kind x94_tape_code x94_tape_mayName x94_tape_value v_tape_bytes).bind (un7 fun (r_109 : Int32) (v_tape_at_109 : Int32) (v_tape_start_109 : Int32) (v_tape_kind_109 : Int32) (v_tape_code_109 : Int64) (v_tape_mayName_109 : Int32) (v_tape_value_109 : Int32) => (fX1_addDoor N v_number_30 v_number_52 x94_s0 r_109 v_inn_house_doors v_inn_house_one v_inn_house_other v_inn_house_how v_inn_house_falls).bind (un5 fun (v_inn_house_doors_112 : Int32) (v_inn_house_one_112 : Nat → Int32) (v_inn_house_other_112 : Nat → Int32) (v_inn_house_how_112 : Nat → Int32) (v_inn_house_falls_112 : Nat → Int32) => some (1, v_fault_52, v_number_52, v_inn_house_doors_112, v_tape_at_109, v_tape_start_109, v_tape_kind_109, v_tape_code_109, v_tape_mayName_109, v_tape_value_109, v_inn_house_one_112, v_inn_house_other_112, v_inn_house_how_112, v_inn_house_falls_112)))) (fun j94 => if r_69 = 0 then ((fX6_passIf N 9 v_tape_end v_tape_at_69 v_tape_start_69 v_tape_kind_69 v_tape_code_69 v_tape_mayName_69 v_tape_value_69 v_tape_bytes).bind (un7 fun (r_83 : Int32) (v_tape_at_83 : Int32) (v_tape_start_83 : Int32) (v_tape_kind_83 : Int32) (v_tape_code_83 : Int64) (v_tape_mayName_83 : Int32) (v_tape_value_83 : Int32) => if r_83 = 0 then (j94 (0, v_tape_at_83, v_tape_start_83, v_tape_kind_83, v_tape_code_83, v_tape_mayName_83, v_tape_value_83)) else (j94 (2, v_tape_at_83, v_tape_start_83, v_tape_kind_83, v_tape_code_83, v_tape_mayName_83, v_tape_value_83)))) else (j94 (1, v_tape_at_69, v_tape_start_69, v_tape_kind_69, v_tape_code_69, v_tape_mayName_69, v_tape_value_69)))))))))))) else ((fX6_fail N 5).bind (un2 fun (r_17 : Int32) (v_fault_17 : Int32) => zg r_17 (some (r_17, v_fault_17, v_number, v_inn_house_doors, v_tape_at, v_tape_start, v_tape_kind, v_tape_code, v_tape_mayName, v_tape_value, v_inn_house_one, v_inn_house_other, v_inn_house_how, v_inn_house_falls))))
set_option maxHeartbeats 4000000 in
set_option maxRecDepth 100000 in
theorem ctX6_readDoor (l : Launch) (E : EN) (h h_tape h_names h_sorts h_numbers h_inn h_inn_house h_inn_thingIn h_inn_full h_inn_states h_inn_bed h_inn_dreamOf h_inn_listensIn h_inn_house_creak h_inn_house_cold h_inn_house_one h_inn_house_other h_inn_house_how h_inn_house_falls h_inn_house_ways h_tape_bytes : Nat) (v_named : Int32) (v_fault : Int32) (v_number : Int32) (v_inn_minutes : Int32) (v_inn_things : Int32) (v_inn_dreams : Int32) (v_inn_sleepers : Int32) (v_inn_listeners : Int32) (v_inn_house_rooms : Int32) (v_inn_house_doors : Int32) (v_tape_length : Int32) (v_tape_end : Int32) (v_tape_at : Int32) (v_tape_start : Int32) (v_tape_kind : Int32) (v_tape_code : Int64) (v_tape_mayName : Int32) (v_tape_value : Int32) (v_tape_bytes : Nat → Int32) (v_names : Nat → Int64) (v_sorts : Nat → Int32) (v_numbers : Nat → Int32) (v_inn_house_one : Nat → Int32) (v_inn_house_other : Nat → Int32) (v_inn_house_how : Nat → Int32) (v_inn_house_falls : Nat → Int32) (N : Nat) (z : Int32 × Int32 × Int32 × Int32 × Int32 × Int32 × Int32 × Int64 × Int32 × Int32 × (Nat → Int32) × (Nat → Int32) × (Nat → Int32) × (Nat → Int32)) (hf : fX6_readDoor N v_named v_fault v_number v_inn_house_doors v_tape_end v_tape_at v_tape_start v_tape_kind v_tape_code v_tape_mayName v_tape_value v_tape_bytes v_names v_sorts v_numbers v_inn_house_one v_inn_house_other v_inn_house_how v_inn_house_falls = some z) : CTi l E yX6_readDoor cX6_readDoor 4 .boolean 3 66 [.ref h] (wX6_readDoor E h h_tape h_names h_sorts h_numbers h_inn h_inn_house h_inn_thingIn h_inn_full h_inn_states h_inn_bed h_inn_dreamOf h_inn_listensIn h_inn_house_creak h_inn_house_cold h_inn_house_one h_inn_house_other h_inn_house_how h_inn_house_falls h_inn_house_ways h_tape_bytes v_named v_fault v_number v_inn_minutes v_inn_things v_inn_dreams v_inn_sleepers v_inn_listeners v_inn_house_rooms v_inn_house_doors v_tape_length v_tape_end v_tape_at v_tape_start v_tape_kind v_tape_code v_tape_mayName v_tape_value v_tape_bytes v_names v_sorts v_numbers v_inn_house_one v_inn_house_other v_inn_house_how v_inn_house_falls) (z.1) (wX6_readDoor E h h_tape h_names h_sorts h_numbers h_inn h_inn_house h_inn_thingIn h_inn_full h_inn_states h_inn_bed h_inn_dreamOf h_inn_listensIn h_inn_house_creak h_inn_house_cold h_inn_house_one h_inn_house_other h_inn_house_how h_inn_house_falls h_inn_house_ways h_tape_bytes v_named z.2.1 z.2.2.1 v_inn_minutes v_inn_things v_inn_dreams v_inn_sleepers v_inn_listeners v_inn_house_rooms z.2.2.2.1 v_tape_length v_tape_end z.2.2.2.2.1 z.2.2.2.2.2.1 z.2.2.2.2.2.2.1 z.2.2.2.2.2.2.2.1 z.2.2.2.2.2.2.2.2.1 z.2.2.2.2.2.2.2.2.2.1 v_tape_bytes v_names v_sorts v_numbers z.2.2.2.2.2.2.2.2.2.2.1 z.2.2.2.2.2.2.2.2.2.2.2.1 z.2.2.2.2.2.2.2.2.2.2.2.2.1 z.2.2.2.2.2.2.2.2.2.2.2.2.2) := by
  intro sz
  refine ct_body (by decide) (Nat.le_of_ble_eq_true rfl) ?_
  intro p e s m args below meth c A ls hAe C hr hin hP hD hS hl
  have C : CX p s m args meth c cX6_readDoor RX6 4 E A := C
  have hl : lv_has ls 4 [(0, .ref h)] := hl
  have hx := C.1
  have hb := C.2.1
  rw [hAe]
  clear hAe
  obtain ⟨Q, hQ⟩ : ∃ Q, Q = MQ below (Qi E A (z.1) (wX6_readDoor E h h_tape h_names h_sorts h_numbers h_inn h_inn_house h_inn_thingIn h_inn_full h_inn_states h_inn_bed h_inn_dreamOf h_inn_listensIn h_inn_house_creak h_inn_house_cold h_inn_house_one h_inn_house_other h_inn_house_how h_inn_house_falls h_inn_house_ways h_tape_bytes v_named z.2.1 z.2.2.1 v_inn_minutes v_inn_things v_inn_dreams v_inn_sleepers v_inn_listeners v_inn_house_rooms z.2.2.2.1 v_tape_length v_tape_end z.2.2.2.2.1 z.2.2.2.2.2.1 z.2.2.2.2.2.2.1 z.2.2.2.2.2.2.2.1 z.2.2.2.2.2.2.2.2.1 z.2.2.2.2.2.2.2.2.2.1 v_tape_bytes v_names v_sorts v_numbers z.2.2.2.2.2.2.2.2.2.2.1 z.2.2.2.2.2.2.2.2.2.2.2.1 z.2.2.2.2.2.2.2.2.2.2.2.2.1 z.2.2.2.2.2.2.2.2.2.2.2.2.2)) args s 0 0 A := ⟨_, rfl⟩
  rw [← hQ]
  unfold fX6_readDoor at hf
  refine lv_aload_n (pc := 0) hx hb dX6_readDoor_0 rfl (lv_at hl 0 rfl) ?_
  refine r_get (pc := 1) C hP 0 rfl fl_X6_32 rfl dX6_readDoor_1 ?_
  refine r_get (pc := 4) C hP 1 rfl fl_X6_67 rfl dX6_readDoor_4 ?_
  refine r_get (pc := 7) C hP 2 rfl fl_X6_167 rfl dX6_readDoor_7 ?_
  refine lv_bipush (pc := 10) (v := 10) hx hb dX6_readDoor_10 (by decide) ?_
  refine lv_icmp_lt (pc := 12) (tgt := 21) hx hb dX6_readDoor_12 (by decide) (fun c_12 => ?_) (fun c_12 => ?_)
  · replace hf := it_t c_12 hf
    refine lv_aload_n (pc := 21) hx hb dX6_readDoor_21 rfl (lv_at hl 0 rfl) ?_
    refine r_get (pc := 22) C hP 0 rfl fl_X6_12 rfl dX6_readDoor_22 ?_
    obtain ⟨v_tape_at_25, v_tape_start_25, v_tape_kind_25, v_tape_code_25, v_tape_mayName_25, v_tape_value_25, hc_25, hf⟩ := bd6 hf
    refine r_dalVv (pc := 25) (ws' := (wX6_readDoor E h h_tape h_names h_sorts h_numbers h_inn h_inn_house h_inn_thingIn h_inn_full h_inn_states h_inn_bed h_inn_dreamOf h_inn_listensIn h_inn_house_creak h_inn_house_cold h_inn_house_one h_inn_house_other h_inn_house_how h_inn_house_falls h_inn_house_ways h_tape_bytes v_named v_fault v_number v_inn_minutes v_inn_things v_inn_dreams v_inn_sleepers v_inn_listeners v_inn_house_rooms v_inn_house_doors v_tape_length v_tape_end v_tape_at_25 v_tape_start_25 v_tape_kind_25 v_tape_code_25 v_tape_mayName_25 v_tape_value_25 v_tape_bytes v_names v_sorts v_numbers v_inn_house_one v_inn_house_other v_inn_house_how v_inn_house_falls)) (As := []) (rest := []) C (ctX7_advance l E h_tape h_tape_bytes v_tape_length v_tape_end v_tape_at v_tape_start v_tape_kind v_tape_code v_tape_mayName v_tape_value v_tape_bytes N (v_tape_at_25, v_tape_start_25, v_tape_kind_25, v_tape_code_25, v_tape_mayName_25, v_tape_value_25) hc_25) ml_X6_57 ⟨Nat.le_of_ble_eq_true rfl, Nat.le_of_ble_eq_true rfl⟩ hP hD hS 3 rfl rfl rfl [3, 4] [0, 1, 2, 12, 13, 5, 6, 7, 8, 9, 10, 11] 12 rfl rfl rfl rfl rfl rfl rfl hl.1 rfl (Nat.le_of_ble_eq_true rfl) ⟨Nat.zero_le _, Nat.zero_le _⟩ dX6_readDoor_25 ?_
    clear hP hD hS; intro H locs hP hD hS
    refine lv_aload_n (pc := 28) hx hb dX6_readDoor_28 rfl (lv_at hl 0 rfl) ?_
    refine lv_iconst (pc := 29) (v := 0) hx hb dX6_readDoor_29 (by decide) ?_
    obtain ⟨r_30, v_fault_30, v_number_30, v_tape_at_30, v_tape_start_30, v_tape_kind_30, v_tape_code_30, v_tape_mayName_30, v_tape_value_30, hc_30, hf⟩ := bd9 hf
    refine r_dalVi (pc := 30) (ws' := (wX6_readDoor E h h_tape h_names h_sorts h_numbers h_inn h_inn_house h_inn_thingIn h_inn_full h_inn_states h_inn_bed h_inn_dreamOf h_inn_listensIn h_inn_house_creak h_inn_house_cold h_inn_house_one h_inn_house_other h_inn_house_how h_inn_house_falls h_inn_house_ways h_tape_bytes v_named v_fault_30 v_number_30 v_inn_minutes v_inn_things v_inn_dreams v_inn_sleepers v_inn_listeners v_inn_house_rooms v_inn_house_doors v_tape_length v_tape_end v_tape_at_30 v_tape_start_30 v_tape_kind_30 v_tape_code_30 v_tape_mayName_30 v_tape_value_30 v_tape_bytes v_names v_sorts v_numbers v_inn_house_one v_inn_house_other v_inn_house_how v_inn_house_falls)) (As := [.int 0]) (rest := []) C (ctX6_passName l E h h_tape h_names h_sorts h_numbers h_inn h_tape_bytes v_named v_fault v_number v_tape_length v_tape_end v_tape_at_25 v_tape_start_25 v_tape_kind_25 v_tape_code_25 v_tape_mayName_25 v_tape_value_25 v_names v_sorts v_numbers v_tape_bytes N 0 (r_30, v_fault_30, v_number_30, v_tape_at_30, v_tape_start_30, v_tape_kind_30, v_tape_code_30, v_tape_mayName_30, v_tape_value_30) hc_30) ml_X6_170 ⟨Nat.le_of_ble_eq_true rfl, Nat.le_of_ble_eq_true rfl⟩ hP hD hS 0 rfl rfl rfl [0, 3, 5, 6, 7, 4] [12, 1, 2, 13, 17, 14, 15, 16, 8, 9, 10, 11] 12 rfl rfl rfl rfl rfl rfl rfl hl.1 rfl (Nat.le_of_ble_eq_true rfl) ⟨Nat.zero_le _, Nat.zero_le _⟩ dX6_readDoor_30 ?_
    clear hP hD hS; intro H locs hP hD hS
    refine lv_if_ne (pc := 33) (tgt := 38) hx hb dX6_readDoor_33 (by decide) (fun c_33 => ?_) (fun c_33 => ?_)
    · replace hf := it_f c_33 hf
      refine lv_aload_n (pc := 38) hx hb dX6_readDoor_38 rfl (lv_at hl 0 rfl) ?_
      refine r_get (pc := 39) C hP 0 rfl fl_X6_148 rfl dX6_readDoor_39 ?_
      refine lv_istore_n (pc := 42) (lv' := [(1, .int v_number_30), (0, .ref h)]) hx hb dX6_readDoor_42 rfl hl (by decide) rfl (fun ls hl => ?_)
      refine lv_aload_n (pc := 43) hx hb dX6_readDoor_43 rfl (lv_at hl 1 rfl) ?_
      obtain ⟨r_44, v_fault_44, v_tape_at_44, v_tape_start_44, v_tape_kind_44, v_tape_code_44, v_tape_mayName_44, v_tape_value_44, hc_44, hf⟩ := bd8 hf
      refine r_dalVi (pc := 44) (ws' := (wX6_readDoor E h h_tape h_names h_sorts h_numbers h_inn h_inn_house h_inn_thingIn h_inn_full h_inn_states h_inn_bed h_inn_dreamOf h_inn_listensIn h_inn_house_creak h_inn_house_cold h_inn_house_one h_inn_house_other h_inn_house_how h_inn_house_falls h_inn_house_ways h_tape_bytes v_named v_fault_44 v_number_30 v_inn_minutes v_inn_things v_inn_dreams v_inn_sleepers v_inn_listeners v_inn_house_rooms v_inn_house_doors v_tape_length v_tape_end v_tape_at_44 v_tape_start_44 v_tape_kind_44 v_tape_code_44 v_tape_mayName_44 v_tape_value_44 v_tape_bytes v_names v_sorts v_numbers v_inn_house_one v_inn_house_other v_inn_house_how v_inn_house_falls)) (As := []) (rest := []) C (ctX6_passComma l E h h_tape h_names h_sorts h_numbers h_inn h_tape_bytes v_named v_fault_30 v_number_30 v_tape_length v_tape_end v_tape_at_30 v_tape_start_30 v_tape_kind_30 v_tape_code_30 v_tape_mayName_30 v_tape_value_30 v_tape_bytes N (r_44, v_fault_44, v_tape_at_44, v_tape_start_44, v_tape_kind_44, v_tape_code_44, v_tape_mayName_44, v_tape_value_44) hc_44) ml_X6_173 ⟨Nat.le_of_ble_eq_true rfl, Nat.le_of_ble_eq_true rfl⟩ hP hD hS 0 rfl rfl rfl [0, 3, 4] [12, 1, 2, 13, 14, 5, 6, 7, 8, 9, 10, 11] 12 rfl rfl rfl rfl rfl rfl rfl hl.1 rfl (Nat.le_of_ble_eq_true rfl) ⟨Nat.zero_le _, Nat.zero_le _⟩ dX6_readDoor_44 ?_
      clear hP hD hS; intro H locs hP hD hS
      refine lv_if_eq (pc := 47) (tgt := 58) hx hb dX6_readDoor_47 (by decide) (fun c_47 => ?_) (fun c_47 => ?_)
      · replace hf := it_t c_47 hf
        refine lv_iconst (pc := 58) (v := 0) hx hb dX6_readDoor_58 (by decide) ?_
        cases hf
        rw [hQ]
        exact r_zret C hr hP hD hS (Or.inl rfl) rfl dX6_readDoor_59
      · replace hf := it_f c_47 hf
        refine lv_aload_n (pc := 50) hx hb dX6_readDoor_50 rfl (lv_at hl 1 rfl) ?_
        refine lv_iload_n (pc := 51) hx hb dX6_readDoor_51 rfl (lv_at hl 0 rfl) ?_
        obtain ⟨r_52, v_fault_52, v_number_52, v_tape_at_52, v_tape_start_52, v_tape_kind_52, v_tape_code_52, v_tape_mayName_52, v_tape_value_52, hc_52, hf⟩ := bd9 hf
        refine r_dalVi (pc := 52) (ws' := (wX6_readDoor E h h_tape h_names h_sorts h_numbers h_inn h_inn_house h_inn_thingIn h_inn_full h_inn_states h_inn_bed h_inn_dreamOf h_inn_listensIn h_inn_house_creak h_inn_house_cold h_inn_house_one h_inn_house_other h_inn_house_how h_inn_house_falls h_inn_house_ways h_tape_bytes v_named v_fault_52 v_number_52 v_inn_minutes v_inn_things v_inn_dreams v_inn_sleepers v_inn_listeners v_inn_house_rooms v_inn_house_doors v_tape_length v_tape_end v_tape_at_52 v_tape_start_52 v_tape_kind_52 v_tape_code_52 v_tape_mayName_52 v_tape_value_52 v_tape_bytes v_names v_sorts v_numbers v_inn_house_one v_inn_house_other v_inn_house_how v_inn_house_falls)) (As := [.int v_number_30]) (rest := []) C (ctX6_passOtherRoom l E h h_tape h_names h_sorts h_numbers h_inn h_tape_bytes h_inn_house h_inn_thingIn h_inn_full h_inn_states h_inn_bed h_inn_dreamOf h_inn_listensIn h_inn_house_creak h_inn_house_cold h_inn_house_one h_inn_house_other h_inn_house_how h_inn_house_falls h_inn_house_ways v_named v_fault_44 v_number_30 v_tape_length v_tape_end v_tape_at_44 v_tape_start_44 v_tape_kind_44 v_tape_code_44 v_tape_mayName_44 v_tape_value_44 v_names v_sorts v_numbers v_inn_minutes v_inn_things v_inn_dreams v_inn_sleepers v_inn_listeners v_inn_house_rooms v_inn_house_doors v_inn_house_one v_inn_house_other v_tape_bytes N v_number_30 (r_52, v_fault_52, v_number_52, v_tape_at_52, v_tape_start_52, v_tape_kind_52, v_tape_code_52, v_tape_mayName_52, v_tape_value_52) hc_52) ml_X6_176 ⟨Nat.le_of_ble_eq_true rfl, Nat.le_of_ble_eq_true rfl⟩ hP hD hS 0 rfl rfl rfl [0, 3, 5, 6, 7, 1, 2, 8, 9, 4] [12, 17, 18, 13, 21, 14, 15, 16, 19, 20, 10, 11] 12 rfl rfl rfl rfl rfl rfl rfl hl.1 rfl (Nat.le_of_ble_eq_true rfl) ⟨Nat.zero_le _, Nat.zero_le _⟩ dX6_readDoor_52 ?_
        clear hP hD hS; intro H locs hP hD hS
        refine lv_if_ne (pc := 55) (tgt := 60) hx hb dX6_readDoor_55 (by decide) (fun c_55 => ?_) (fun c_55 => ?_)
        · replace hf := it_f c_55 hf
          refine lv_aload_n (pc := 60) hx hb dX6_readDoor_60 rfl (lv_at hl 1 rfl) ?_
          refine r_get (pc := 61) C hP 0 rfl fl_X6_148 rfl dX6_readDoor_61 ?_
          refine lv_istore_n (pc := 64) (lv' := [(2, .int v_number_52), (1, .int v_number_30), (0, .ref h)]) hx hb dX6_readDoor_64 rfl hl (by decide) rfl (fun ls hl => ?_)
          refine lv_aload_n (pc := 65) hx hb dX6_readDoor_65 rfl (lv_at hl 2 rfl) ?_
          refine r_gets (pc := 66) C (C.kx.1 8 (by decide)).1 hS gs_X6_179 dX6_readDoor_66 ?_
          obtain ⟨r_69, v_tape_at_69, v_tape_start_69, v_tape_kind_69, v_tape_code_69, v_tape_mayName_69, v_tape_value_69, hc_69, hf⟩ := bd7 hf
          refine r_dalVi (pc := 69) (ws' := (wX6_readDoor E h h_tape h_names h_sorts h_numbers h_inn h_inn_house h_inn_thingIn h_inn_full h_inn_states h_inn_bed h_inn_dreamOf h_inn_listensIn h_inn_house_creak h_inn_house_cold h_inn_house_one h_inn_house_other h_inn_house_how h_inn_house_falls h_inn_house_ways h_tape_bytes v_named v_fault_52 v_number_52 v_inn_minutes v_inn_things v_inn_dreams v_inn_sleepers v_inn_listeners v_inn_house_rooms v_inn_house_doors v_tape_length v_tape_end v_tape_at_69 v_tape_start_69 v_tape_kind_69 v_tape_code_69 v_tape_mayName_69 v_tape_value_69 v_tape_bytes v_names v_sorts v_numbers v_inn_house_one v_inn_house_other v_inn_house_how v_inn_house_falls)) (As := [.ref (E.2.2.1 8)]) (rest := []) C (ctX6_passIf l E h h_tape h_names h_sorts h_numbers h_inn h_tape_bytes v_named v_fault_52 v_number_52 v_tape_length v_tape_end v_tape_at_52 v_tape_start_52 v_tape_kind_52 v_tape_code_52 v_tape_mayName_52 v_tape_value_52 v_tape_bytes 8 (by decide) N (r_69, v_tape_at_69, v_tape_start_69, v_tape_kind_69, v_tape_code_69, v_tape_mayName_69, v_tape_value_69) hc_69) ml_X6_160 ⟨Nat.le_of_ble_eq_true rfl, Nat.le_of_ble_eq_true rfl⟩ hP hD hS 0 rfl rfl rfl [0, 3, 4] [12, 1, 2, 13, 14, 5, 6, 7, 8, 9, 10, 11] 12 rfl rfl rfl rfl rfl rfl rfl hl.1 rfl (Nat.le_of_ble_eq_true rfl) ⟨Nat.zero_le _, Nat.zero_le _⟩ dX6_readDoor_69 ?_
          clear hP hD hS; intro H locs hP hD hS
          refine jnK hf (fun j94 ej94 hf => ?_)
          have hj94 : ∀ (x94_s0 : Int32) (x94_tape_at : Int32) (x94_tape_start : Int32) (x94_tape_kind : Int32) (x94_tape_code : Int64) (x94_tape_mayName : Int32) (x94_tape_value : Int32) , j94 (x94_s0, x94_tape_at, x94_tape_start, x94_tape_kind, x94_tape_code, x94_tape_mayName, x94_tape_value) = some z → AT p l e (rmOf 3 66) s m args below meth c E A Q 0 0 4 [(0, .ref h), (1, .int v_number_30), (2, .int v_number_52)] (wX6_readDoor E h h_tape h_names h_sorts h_numbers h_inn h_inn_house h_inn_thingIn h_inn_full h_inn_states h_inn_bed h_inn_dreamOf h_inn_listensIn h_inn_house_creak h_inn_house_cold h_inn_house_one h_inn_house_other h_inn_house_how h_inn_house_falls h_inn_house_ways h_tape_bytes v_named v_fault_52 v_number_52 v_inn_minutes v_inn_things v_inn_dreams v_inn_sleepers v_inn_listeners v_inn_house_rooms v_inn_house_doors v_tape_length v_tape_end x94_tape_at x94_tape_start x94_tape_kind x94_tape_code x94_tape_mayName x94_tape_value v_tape_bytes v_names v_sorts v_numbers v_inn_house_one v_inn_house_other v_inn_house_how v_inn_house_falls) 94 [.int x94_s0] := by
            intro x94_s0 x94_tape_at x94_tape_start x94_tape_kind x94_tape_code x94_tape_mayName x94_tape_value hf H locs ls hl hP hD hS
            rw [ej94] at hf
            replace hf := un7_s hf
            refine lv_istore_n (pc := 94) (lv' := [(3, .int x94_s0), (0, .ref h), (1, .int v_number_30), (2, .int v_number_52)]) hx hb dX6_readDoor_94 rfl hl (by decide) rfl (fun ls hl => ?_)
            refine lv_aload_n (pc := 95) hx hb dX6_readDoor_95 rfl (lv_at hl 1 rfl) ?_
            refine r_get (pc := 96) C hP 0 rfl fl_X6_32 rfl dX6_readDoor_96 ?_
            refine r_get (pc := 99) C hP 1 rfl fl_X6_67 rfl dX6_readDoor_99 ?_
            refine lv_iload_n (pc := 102) hx hb dX6_readDoor_102 rfl (lv_at hl 2 rfl) ?_
            refine lv_iload_n (pc := 103) hx hb dX6_readDoor_103 rfl (lv_at hl 3 rfl) ?_
            refine lv_iload_n (pc := 104) hx hb dX6_readDoor_104 rfl (lv_at hl 0 rfl) ?_
            refine lv_aload_n (pc := 105) hx hb dX6_readDoor_105 rfl (lv_at hl 1 rfl) ?_
            refine r_gets (pc := 106) C (C.kx.1 10 (by decide)).1 hS gs_X6_185 dX6_readDoor_106 ?_
            obtain ⟨r_109, v_tape_at_109, v_tape_start_109, v_tape_kind_109, v_tape_code_109, v_tape_mayName_109, v_tape_value_109, hc_109, hf⟩ := bd7 hf
            refine r_dalVi (pc := 109) (ws' := (wX6_readDoor E h h_tape h_names h_sorts h_numbers h_inn h_inn_house h_inn_thingIn h_inn_full h_inn_states h_inn_bed h_inn_dreamOf h_inn_listensIn h_inn_house_creak h_inn_house_cold h_inn_house_one h_inn_house_other h_inn_house_how h_inn_house_falls h_inn_house_ways h_tape_bytes v_named v_fault_52 v_number_52 v_inn_minutes v_inn_things v_inn_dreams v_inn_sleepers v_inn_listeners v_inn_house_rooms v_inn_house_doors v_tape_length v_tape_end v_tape_at_109 v_tape_start_109 v_tape_kind_109 v_tape_code_109 v_tape_mayName_109 v_tape_value_109 v_tape_bytes v_names v_sorts v_numbers v_inn_house_one v_inn_house_other v_inn_house_how v_inn_house_falls)) (As := [.ref (E.2.2.1 10)]) (rest := [.int x94_s0, .int v_number_52, .int v_number_30, .ref h_inn_house]) C (ctX6_passIf l E h h_tape h_names h_sorts h_numbers h_inn h_tape_bytes v_named v_fault_52 v_number_52 v_tape_length v_tape_end x94_tape_at x94_tape_start x94_tape_kind x94_tape_code x94_tape_mayName x94_tape_value v_tape_bytes 10 (by decide) N (r_109, v_tape_at_109, v_tape_start_109, v_tape_kind_109, v_tape_code_109, v_tape_mayName_109, v_tape_value_109) hc_109) ml_X6_160 ⟨Nat.le_of_ble_eq_true rfl, Nat.le_of_ble_eq_true rfl⟩ hP hD hS 0 rfl rfl rfl [0, 3, 4] [12, 1, 2, 13, 14, 5, 6, 7, 8, 9, 10, 11] 12 rfl rfl rfl rfl rfl rfl rfl hl.1 rfl (Nat.le_of_ble_eq_true rfl) ⟨Nat.zero_le _, Nat.zero_le _⟩ dX6_readDoor_109 ?_
            clear hP hD hS; intro H locs hP hD hS
            obtain ⟨v_inn_house_doors_112, v_inn_house_one_112, v_inn_house_other_112, v_inn_house_how_112, v_inn_house_falls_112, hc_112, hf⟩ := bd5 hf
            refine r_dalVv (pc := 112) (ws' := (wX6_readDoor E h h_tape h_names h_sorts h_numbers h_inn h_inn_house h_inn_thingIn h_inn_full h_inn_states h_inn_bed h_inn_dreamOf h_inn_listensIn h_inn_house_creak h_inn_house_cold h_inn_house_one h_inn_house_other h_inn_house_how h_inn_house_falls h_inn_house_ways h_tape_bytes v_named v_fault_52 v_number_52 v_inn_minutes v_inn_things v_inn_dreams v_inn_sleepers v_inn_listeners v_inn_house_rooms v_inn_house_doors_112 v_tape_length v_tape_end v_tape_at_109 v_tape_start_109 v_tape_kind_109 v_tape_code_109 v_tape_mayName_109 v_tape_value_109 v_tape_bytes v_names v_sorts v_numbers v_inn_house_one_112 v_inn_house_other_112 v_inn_house_how_112 v_inn_house_falls_112)) (As := [.int v_number_30, .int v_number_52, .int x94_s0, .int r_109]) (rest := []) C (ctX1_addDoor l E h_inn_house h_inn_house_creak h_inn_house_cold h_inn_house_one h_inn_house_other h_inn_house_how h_inn_house_falls h_inn_house_ways v_inn_house_rooms v_inn_house_doors v_inn_house_one v_inn_house_other v_inn_house_how v_inn_house_falls N v_number_30 v_number_52 x94_s0 r_109 (v_inn_house_doors_112, v_inn_house_one_112, v_inn_house_other_112, v_inn_house_how_112, v_inn_house_falls_112) hc_112) ml_X6_188 ⟨Nat.le_of_ble_eq_true rfl, Nat.le_of_ble_eq_true rfl⟩ hP hD hS 2 rfl rfl rfl [2, 8, 9, 10, 11] [0, 1, 12, 3, 4, 5, 6, 7, 13, 14, 15, 16] 12 rfl rfl rfl rfl rfl rfl rfl hl.1 rfl (Nat.le_of_ble_eq_true rfl) ⟨Nat.zero_le _, Nat.zero_le _⟩ dX6_readDoor_112 ?_
            clear hP hD hS; intro H locs hP hD hS
            refine lv_iconst (pc := 115) (v := 1) hx hb dX6_readDoor_115 (by decide) ?_
            cases hf
            rw [hQ]
            exact r_zret C hr hP hD hS (Or.inr rfl) rfl dX6_readDoor_116
          clear ej94
          refine lv_if_eq (pc := 72) (tgt := 79) hx hb dX6_readDoor_72 (by decide) (fun c_72 => ?_) (fun c_72 => ?_)
          · replace hf := it_t c_72 hf
            refine lv_aload_n (pc := 79) hx hb dX6_readDoor_79 rfl (lv_at hl 2 rfl) ?_
            refine r_gets (pc := 80) C (C.kx.1 9 (by decide)).1 hS gs_X6_182 dX6_readDoor_80 ?_
            obtain ⟨r_83, v_tape_at_83, v_tape_start_83, v_tape_kind_83, v_tape_code_83, v_tape_mayName_83, v_tape_value_83, hc_83, hf⟩ := bd7 hf
            refine r_dalVi (pc := 83) (ws' := (wX6_readDoor E h h_tape h_names h_sorts h_numbers h_inn h_inn_house h_inn_thingIn h_inn_full h_inn_states h_inn_bed h_inn_dreamOf h_inn_listensIn h_inn_house_creak h_inn_house_cold h_inn_house_one h_inn_house_other h_inn_house_how h_inn_house_falls h_inn_house_ways h_tape_bytes v_named v_fault_52 v_number_52 v_inn_minutes v_inn_things v_inn_dreams v_inn_sleepers v_inn_listeners v_inn_house_rooms v_inn_house_doors v_tape_length v_tape_end v_tape_at_83 v_tape_start_83 v_tape_kind_83 v_tape_code_83 v_tape_mayName_83 v_tape_value_83 v_tape_bytes v_names v_sorts v_numbers v_inn_house_one v_inn_house_other v_inn_house_how v_inn_house_falls)) (As := [.ref (E.2.2.1 9)]) (rest := []) C (ctX6_passIf l E h h_tape h_names h_sorts h_numbers h_inn h_tape_bytes v_named v_fault_52 v_number_52 v_tape_length v_tape_end v_tape_at_69 v_tape_start_69 v_tape_kind_69 v_tape_code_69 v_tape_mayName_69 v_tape_value_69 v_tape_bytes 9 (by decide) N (r_83, v_tape_at_83, v_tape_start_83, v_tape_kind_83, v_tape_code_83, v_tape_mayName_83, v_tape_value_83) hc_83) ml_X6_160 ⟨Nat.le_of_ble_eq_true rfl, Nat.le_of_ble_eq_true rfl⟩ hP hD hS 0 rfl rfl rfl [0, 3, 4] [12, 1, 2, 13, 14, 5, 6, 7, 8, 9, 10, 11] 12 rfl rfl rfl rfl rfl rfl rfl hl.1 rfl (Nat.le_of_ble_eq_true rfl) ⟨Nat.zero_le _, Nat.zero_le _⟩ dX6_readDoor_83 ?_
            clear hP hD hS; intro H locs hP hD hS
            refine lv_if_eq (pc := 86) (tgt := 93) hx hb dX6_readDoor_86 (by decide) (fun c_86 => ?_) (fun c_86 => ?_)
            · replace hf := it_t c_86 hf
              refine lv_iconst (pc := 93) (v := 0) hx hb dX6_readDoor_93 (by decide) ?_
              exact hj94 0 v_tape_at_83 v_tape_start_83 v_tape_kind_83 v_tape_code_83 v_tape_mayName_83 v_tape_value_83 hf _ _ _ (lv_sub hl [2, 1, 0] rfl) hP hD hS
            · replace hf := it_f c_86 hf
              refine lv_iconst (pc := 89) (v := 2) hx hb dX6_readDoor_89 (by decide) ?_
              refine lv_goto (pc := 90) (tgt := 94) hx hb dX6_readDoor_90 (by decide) ?_
              exact hj94 2 v_tape_at_83 v_tape_start_83 v_tape_kind_83 v_tape_code_83 v_tape_mayName_83 v_tape_value_83 hf _ _ _ (lv_sub hl [2, 1, 0] rfl) hP hD hS
          · replace hf := it_f c_72 hf
            refine lv_iconst (pc := 75) (v := 1) hx hb dX6_readDoor_75 (by decide) ?_
            refine lv_goto (pc := 76) (tgt := 94) hx hb dX6_readDoor_76 (by decide) ?_
            exact hj94 1 v_tape_at_69 v_tape_start_69 v_tape_kind_69 v_tape_code_69 v_tape_mayName_69 v_tape_value_69 hf _ _ _ (lv_sub hl [2, 1, 0] rfl) hP hD hS
        · replace hf := it_t c_55 hf
          refine lv_iconst (pc := 58) (v := 0) hx hb dX6_readDoor_58 (by decide) ?_
          cases hf
          rw [hQ]
          exact r_zret C hr hP hD hS (Or.inl rfl) rfl dX6_readDoor_59
    · replace hf := it_t c_33 hf
      refine lv_iconst (pc := 36) (v := 0) hx hb dX6_readDoor_36 (by decide) ?_
      cases hf
      rw [hQ]
      exact r_zret C hr hP hD hS (Or.inl rfl) rfl dX6_readDoor_37
  · replace hf := it_f c_12 hf
    refine lv_aload_n (pc := 15) hx hb dX6_readDoor_15 rfl (lv_at hl 0 rfl) ?_
    refine lv_iconst (pc := 16) (v := 5) hx hb dX6_readDoor_16 (by decide) ?_
    obtain ⟨r_17, v_fault_17, hc_17, hf⟩ := bd2 hf
    refine r_dalVi (pc := 17) (ws' := (wX6_readDoor E h h_tape h_names h_sorts h_numbers h_inn h_inn_house h_inn_thingIn h_inn_full h_inn_states h_inn_bed h_inn_dreamOf h_inn_listensIn h_inn_house_creak h_inn_house_cold h_inn_house_one h_inn_house_other h_inn_house_how h_inn_house_falls h_inn_house_ways h_tape_bytes v_named v_fault_17 v_number v_inn_minutes v_inn_things v_inn_dreams v_inn_sleepers v_inn_listeners v_inn_house_rooms v_inn_house_doors v_tape_length v_tape_end v_tape_at v_tape_start v_tape_kind v_tape_code v_tape_mayName v_tape_value v_tape_bytes v_names v_sorts v_numbers v_inn_house_one v_inn_house_other v_inn_house_how v_inn_house_falls)) (As := [.int 5]) (rest := []) C (ctX6_fail l E h h_tape h_names h_sorts h_numbers h_inn v_named v_fault v_number N 5 (r_17, v_fault_17) hc_17) ml_X6_60 ⟨Nat.le_of_ble_eq_true rfl, Nat.le_of_ble_eq_true rfl⟩ hP hD hS 0 rfl rfl rfl [0] [12, 1, 2, 3, 4, 5, 6, 7, 8, 9, 10, 11] 12 rfl rfl rfl rfl rfl rfl rfl hl.1 rfl (Nat.le_of_ble_eq_true rfl) ⟨Nat.zero_le _, Nat.zero_le _⟩ dX6_readDoor_17 ?_
    clear hP hD hS; intro H locs hP hD hS
    obtain ⟨hz_20, hf⟩ := zg_s hf
    cases hf
    rw [hQ]
    exact r_zret C hr hP hD hS hz_20 rfl dX6_readDoor_20
def wX2_addThing (E : EN) (h h_house h_thingIn h_full h_states h_bed h_dreamOf h_listensIn : Nat) (v_minutes : Int32) (v_things : Int32) (v_dreams : Int32) (v_sleepers : Int32) (v_listeners : Int32) (v_thingIn : Nat → Int32) (v_full : Nat → Int32) : va_W := [(h, .inr (2, [.ref h_house, .int v_minutes, .int v_things, .ref h_thingIn, .ref h_full, .int v_dreams, .ref h_states, .int v_sleepers, .ref h_bed, .ref h_dreamOf, .int v_listeners, .ref h_listensIn])), (h_thingIn, aI E 4 v_thingIn), (h_full, aZ E 4 v_full)]
def fX2_addThing (N : Nat) (p0 : Int32) (p1 : Int32) (v_things : Int32) (v_thingIn : Nat → Int32) (v_full : Nat → Int32) : Option (Int32 × (Nat → Int32) × (Nat → Int32)) := gd v_things 4 (gd v_things 4 (zg p1 (some (v_things + 1, upd v_thingIn v_things.toNatClampNeg p0, upd v_full v_things.toNatClampNeg p1))))
set_option maxHeartbeats 4000000 in
set_option maxRecDepth 100000 in
theorem ctX2_addThing (l : Launch) (E : EN) (h h_house h_thingIn h_full h_states h_bed h_dreamOf h_listensIn : Nat) (v_minutes : Int32) (v_things : Int32) (v_dreams : Int32) (v_sleepers : Int32) (v_listeners : Int32) (v_thingIn : Nat → Int32) (v_full : Nat → Int32) (N : Nat) (p0 : Int32) (p1 : Int32) (z : Int32 × (Nat → Int32) × (Nat → Int32)) (hf : fX2_addThing N p0 p1 v_things v_thingIn v_full = some z) : CTv l E yX2_addThing cX2_addThing 3 0 0 [.ref h, .int p0, .int p1] (wX2_addThing E h h_house h_thingIn h_full h_states h_bed h_dreamOf h_listensIn v_minutes v_things v_dreams v_sleepers v_listeners v_thingIn v_full) (wX2_addThing E h h_house h_thingIn h_full h_states h_bed h_dreamOf h_listensIn v_minutes z.1 v_dreams v_sleepers v_listeners z.2.1 z.2.2) := by
  intro sz
  refine ct_body (by decide) (Nat.le_of_ble_eq_true rfl) ?_
  intro p e s m args below meth c A ls hAe C hr hin hP hD hS hl
  have C : CX p s m args meth c cX2_addThing RX2 3 E A := C
  have hl : lv_has ls 3 [(0, .ref h), (1, .int p0), (2, .int p1)] := hl
  have hx := C.1
  have hb := C.2.1
  rw [hAe]
  clear hAe
  obtain ⟨Q, hQ⟩ : ∃ Q, Q = MQ below (Qv E A (wX2_addThing E h h_house h_thingIn h_full h_states h_bed h_dreamOf h_listensIn v_minutes z.1 v_dreams v_sleepers v_listeners z.2.1 z.2.2)) args s 0 0 A := ⟨_, rfl⟩
  rw [← hQ]
  unfold fX2_addThing at hf
  refine lv_aload_n (pc := 0) hx hb dX2_addThing_0 rfl (lv_at hl 0 rfl) ?_
  refine r_get (pc := 1) C hP 0 rfl fl_X2_18 rfl dX2_addThing_1 ?_
  refine lv_aload_n (pc := 4) hx hb dX2_addThing_4 rfl (lv_at hl 0 rfl) ?_
  refine r_get (pc := 5) C hP 0 rfl fl_X2_48 rfl dX2_addThing_5 ?_
  refine lv_iload_n (pc := 8) hx hb dX2_addThing_8 rfl (lv_at hl 1 rfl) ?_
  obtain ⟨hi_9, hf⟩ := gd_s hf
  refine r_iast (pc := 9) (ws' := (wX2_addThing E h h_house h_thingIn h_full h_states h_bed h_dreamOf h_listensIn v_minutes v_things v_dreams v_sleepers v_listeners (upd v_thingIn v_things.toNatClampNeg p0) v_full)) C hP hD hS 1 rfl hi_9 rfl dX2_addThing_9 ?_
  clear hP hD hS; intro H locs hP hD hS
  refine lv_aload_n (pc := 10) hx hb dX2_addThing_10 rfl (lv_at hl 0 rfl) ?_
  refine r_get (pc := 11) C hP 0 rfl fl_X2_22 rfl dX2_addThing_11 ?_
  refine lv_aload_n (pc := 14) hx hb dX2_addThing_14 rfl (lv_at hl 0 rfl) ?_
  refine r_get (pc := 15) C hP 0 rfl fl_X2_48 rfl dX2_addThing_15 ?_
  refine lv_iload_n (pc := 18) hx hb dX2_addThing_18 rfl (lv_at hl 2 rfl) ?_
  obtain ⟨hi_19, hf⟩ := gd_s hf
  obtain ⟨hz_19, hf⟩ := zg_s hf
  refine r_zast (pc := 19) (ws' := (wX2_addThing E h h_house h_thingIn h_full h_states h_bed h_dreamOf h_listensIn v_minutes v_things v_dreams v_sleepers v_listeners (upd v_thingIn v_things.toNatClampNeg p0) (upd v_full v_things.toNatClampNeg p1))) C hP hD hS 2 rfl hi_19 hz_19 rfl dX2_addThing_19 ?_
  clear hP hD hS; intro H locs hP hD hS
  refine lv_aload_n (pc := 20) hx hb dX2_addThing_20 rfl (lv_at hl 0 rfl) ?_
  refine lv_dup (pc := 21) hx hb dX2_addThing_21 rfl ?_
  refine r_get (pc := 22) C hP 0 rfl fl_X2_48 rfl dX2_addThing_22 ?_
  refine lv_iconst (pc := 25) (v := 1) hx hb dX2_addThing_25 (by decide) ?_
  refine lv_iadd (pc := 26) hx hb dX2_addThing_26 ?_
  refine r_put (pc := 27) (ws' := (wX2_addThing E h h_house h_thingIn h_full h_states h_bed h_dreamOf h_listensIn v_minutes (v_things + 1) v_dreams v_sleepers v_listeners (upd v_thingIn v_things.toNatClampNeg p0) (upd v_full v_things.toNatClampNeg p1))) C hP hD hS 0 rfl fl_X2_48 rfl rfl (Nat.le_of_ble_eq_true rfl) rfl dX2_addThing_27 ?_
  clear hP hD hS; intro H locs hP hD hS
  cases hf
  rw [hQ]
  exact r_vret C hr hP hD hS dX2_addThing_30
def wX6_readThing (E : EN) (h h_tape h_names h_sorts h_numbers h_inn h_inn_house h_inn_thingIn h_inn_full h_inn_states h_inn_bed h_inn_dreamOf h_inn_listensIn h_tape_bytes : Nat) (v_named : Int32) (v_fault : Int32) (v_number : Int32) (v_inn_minutes : Int32) (v_inn_things : Int32) (v_inn_dreams : Int32) (v_inn_sleepers : Int32) (v_inn_listeners : Int32) (v_tape_length : Int32) (v_tape_end : Int32) (v_tape_at : Int32) (v_tape_start : Int32) (v_tape_kind : Int32) (v_tape_code : Int64) (v_tape_mayName : Int32) (v_tape_value : Int32) (v_tape_bytes : Nat → Int32) (v_names : Nat → Int64) (v_sorts : Nat → Int32) (v_numbers : Nat → Int32) (v_inn_thingIn : Nat → Int32) (v_inn_full : Nat → Int32) : va_W := [(h, .inr (6, [.ref h_tape, .ref h_names, .ref h_sorts, .ref h_numbers, .int v_named, .ref h_inn, .int v_fault, .int v_number])), (h_inn, .inr (2, [.ref h_inn_house, .int v_inn_minutes, .int v_inn_things, .ref h_inn_thingIn, .ref h_inn_full, .int v_inn_dreams, .ref h_inn_states, .int v_inn_sleepers, .ref h_inn_bed, .ref h_inn_dreamOf, .int v_inn_listeners, .ref h_inn_listensIn])), (h_tape, .inr (7, [.ref h_tape_bytes, .int v_tape_length, .int v_tape_end, .int v_tape_at, .int v_tape_start, .int v_tape_kind, .long v_tape_code, .int v_tape_mayName, .int v_tape_value])), (h_tape_bytes, aB E 900 v_tape_bytes), (h_names, aJ E 19 v_names), (h_sorts, aI E 19 v_sorts), (h_numbers, aI E 19 v_numbers), (h_inn_thingIn, aI E 4 v_inn_thingIn), (h_inn_full, aZ E 4 v_inn_full)]
def fX6_readThing (N : Nat) (v_named : Int32) (v_fault : Int32) (v_number : Int32) (v_inn_things : Int32) (v_tape_end : Int32) (v_tape_at : Int32) (v_tape_start : Int32) (v_tape_kind : Int32) (v_tape_code : Int64) (v_tape_mayName : Int32) (v_tape_value : Int32) (v_tape_bytes : Nat → Int32) (v_names : Nat → Int64) (v_sorts : Nat → Int32) (v_numbers : Nat → Int32) (v_inn_thingIn : Nat → Int32) (v_inn_full : Nat → Int32) : Option (Int32 × Int32 × Int32 × Int32 × Int32 × Int32 × Int32 × Int32 × Int64 × Int32 × Int32 × (Nat → Int64) × (Nat → Int32) × (Nat → Int32) × (Nat → Int32) × (Nat → Int32)) := if v_inn_things < 4 then ((fX7_advance N v_tape_end v_tape_at v_tape_bytes).bind (un6 fun (v_tape_at_21 : Int32) (v_tape_start_21 : Int32) (v_tape_kind_21 : Int32) (v_tape_code_21 : Int64) (v_tape_mayName_21 : Int32) (v_tape_value_21 : Int32) => (fX6_passNew N 1 v_inn_things v_named v_fault v_tape_end v_tape_at_21 v_tape_start_21 v_tape_kind_21 v_tape_code_21 v_tape_mayName_21 v_tape_value_21 v_names v_sorts v_numbers v_tape_bytes).bind (un12 fun (r_33 : Int32) (v_named_33 : Int32) (v_fault_33 : Int32) (v_tape_at_33 : Int32) (v_tape_start_33 : Int32) (v_tape_kind_33 : Int32) (v_tape_code_33 : Int64) (v_tape_mayName_33 : Int32) (v_tape_value_33 : Int32) (v_names_33 : Nat → Int64) (v_sorts_33 : Nat → Int32) (v_numbers_33 : Nat → Int32) => if r_33 = 0 then (some (0, v_named_33, v_fault_33, v_number, v_inn_things, v_tape_at_33, v_tape_start_33, v_tape_kind_33, v_tape_code_33, v_tape_mayName_33, v_tape_value_33, v_names_33, v_sorts_33, v_numbers_33, v_inn_thingIn, v_inn_full)) else ((fX6_pass N 21 v_fault_33 v_tape_end v_tape_at_33 v_tape_start_33 v_tape_kind_33 v_tape_code_33 v_tape_mayName_33 v_tape_value_33 v_tape_bytes).bind (un8 fun (r_43 : Int32) (v_fault_43 : Int32) (v_tape_at_43 : Int32) (v_tape_start_43 : Int32) (v_tape_kind_43 : Int32) (v_tape_code_43 : Int64) (v_tape_mayName_43 : Int32) (v_tape_value_43 : Int32) => if r_43 = 0 then (some (0, v_named_33, v_fault_43, v_number, v_inn_things, v_tape_at_43, v_tape_start_43, v_tape_kind_43, v_tape_code_43, v_tape_mayName_43, v_tape_value_43, v_names_33, v_sorts_33, v_numbers_33, v_inn_thingIn, v_inn_full)) else ((fX6_passName N 0 v_named_33 v_fault_43 v_number v_tape_end v_tape_at_43 v_tape_start_43 v_tape_kind_43 v_tape_code_43 v_tape_mayName_43 v_tape_value_43 v_names_33 v_sorts_33 v_numbers_33 v_tape_bytes).bind (un9 fun (r_51 : Int32) (v_fault_51 : Int32) (v_number_51 : Int32) (v_tape_at_51 : Int32) (v_tape_start_51 : Int32) (v_tape_kind_51 : Int32) (v_tape_code_51 : Int64) (v_tape_mayName_51 : Int32) (v_tape_value_51 : Int32) => if r_51 = 0 then (some (0, v_named_33, v_fault_51, v_number_51, v_inn_things, v_tape_at_51, v_tape_start_51, v_tape_kind_51, v_tape_code_51, v_tape_mayName_51, v_tape_value_51, v_names_33, v_sorts_33, v_numbers_33, v_inn_thingIn, v_inn_full)) else ((fX6_passIf N 11 v_tape_end v_tape_at_51 v_tape_start_51 v_tape_kind_51 v_tape_code_51 v_tape_mayName_51 v_tape_value_51 v_tape_bytes).bind (un7 fun (r_71 : Int32) (v_tape_at_71 : Int32) (v_tape_start_71 : Int32) (v_tape_kind_71 : Int32) (v_tape_code_71 : Int64) (v_tape_mayName_71 : Int32) (v_tape_value_71 : Int32) => (fX2_addThing N v_number_51 r_71 v_inn_things v_inn_thingIn v_inn_full).bind (un3 fun (v_inn_things_74 : Int32) (v_inn_thingIn_74 : Nat → Int32) (v_inn_full_74 : Nat → Int32) => some (1, v_named_33, v_fault_51, v_number_51, v_inn_things_74, v_tape_at_71, v_tape_start_71, v_tape_kind_71, v_tape_code_71, v_tape_mayName_71, v_tape_value_71, v_names_33, v_sorts_33, v_numbers_33, v_inn_thingIn_74, v_inn_full_74))))))))))) else ((fX6_fail N 5).bind (un2 fun (r_13 : Int32) (v_fault_13 : Int32) => zg r_13 (some (r_13, v_named, v_fault_13, v_number, v_inn_things, v_tape_at, v_tape_start, v_tape_kind, v_tape_code, v_tape_mayName, v_tape_value, v_names, v_sorts, v_numbers, v_inn_thingIn, v_inn_full))))
set_option maxHeartbeats 4000000 in
set_option maxRecDepth 100000 in
theorem ctX6_readThing (l : Launch) (E : EN) (h h_tape h_names h_sorts h_numbers h_inn h_inn_house h_inn_thingIn h_inn_full h_inn_states h_inn_bed h_inn_dreamOf h_inn_listensIn h_tape_bytes : Nat) (v_named : Int32) (v_fault : Int32) (v_number : Int32) (v_inn_minutes : Int32) (v_inn_things : Int32) (v_inn_dreams : Int32) (v_inn_sleepers : Int32) (v_inn_listeners : Int32) (v_tape_length : Int32) (v_tape_end : Int32) (v_tape_at : Int32) (v_tape_start : Int32) (v_tape_kind : Int32) (v_tape_code : Int64) (v_tape_mayName : Int32) (v_tape_value : Int32) (v_tape_bytes : Nat → Int32) (v_names : Nat → Int64) (v_sorts : Nat → Int32) (v_numbers : Nat → Int32) (v_inn_thingIn : Nat → Int32) (v_inn_full : Nat → Int32) (N : Nat) (z : Int32 × Int32 × Int32 × Int32 × Int32 × Int32 × Int32 × Int32 × Int64 × Int32 × Int32 × (Nat → Int64) × (Nat → Int32) × (Nat → Int32) × (Nat → Int32) × (Nat → Int32)) (hf : fX6_readThing N v_named v_fault v_number v_inn_things v_tape_end v_tape_at v_tape_start v_tape_kind v_tape_code v_tape_mayName v_tape_value v_tape_bytes v_names v_sorts v_numbers v_inn_thingIn v_inn_full = some z) : CTi l E yX6_readThing cX6_readThing 1 .boolean 3 66 [.ref h] (wX6_readThing E h h_tape h_names h_sorts h_numbers h_inn h_inn_house h_inn_thingIn h_inn_full h_inn_states h_inn_bed h_inn_dreamOf h_inn_listensIn h_tape_bytes v_named v_fault v_number v_inn_minutes v_inn_things v_inn_dreams v_inn_sleepers v_inn_listeners v_tape_length v_tape_end v_tape_at v_tape_start v_tape_kind v_tape_code v_tape_mayName v_tape_value v_tape_bytes v_names v_sorts v_numbers v_inn_thingIn v_inn_full) (z.1) (wX6_readThing E h h_tape h_names h_sorts h_numbers h_inn h_inn_house h_inn_thingIn h_inn_full h_inn_states h_inn_bed h_inn_dreamOf h_inn_listensIn h_tape_bytes z.2.1 z.2.2.1 z.2.2.2.1 v_inn_minutes z.2.2.2.2.1 v_inn_dreams v_inn_sleepers v_inn_listeners v_tape_length v_tape_end z.2.2.2.2.2.1 z.2.2.2.2.2.2.1 z.2.2.2.2.2.2.2.1 z.2.2.2.2.2.2.2.2.1 z.2.2.2.2.2.2.2.2.2.1 z.2.2.2.2.2.2.2.2.2.2.1 v_tape_bytes z.2.2.2.2.2.2.2.2.2.2.2.1 z.2.2.2.2.2.2.2.2.2.2.2.2.1 z.2.2.2.2.2.2.2.2.2.2.2.2.2.1 z.2.2.2.2.2.2.2.2.2.2.2.2.2.2.1 z.2.2.2.2.2.2.2.2.2.2.2.2.2.2.2) := by
  intro sz
  refine ct_body (by decide) (Nat.le_of_ble_eq_true rfl) ?_
  intro p e s m args below meth c A ls hAe C hr hin hP hD hS hl
  have C : CX p s m args meth c cX6_readThing RX6 1 E A := C
  have hl : lv_has ls 1 [(0, .ref h)] := hl
  have hx := C.1
  have hb := C.2.1
  rw [hAe]
  clear hAe
  obtain ⟨Q, hQ⟩ : ∃ Q, Q = MQ below (Qi E A (z.1) (wX6_readThing E h h_tape h_names h_sorts h_numbers h_inn h_inn_house h_inn_thingIn h_inn_full h_inn_states h_inn_bed h_inn_dreamOf h_inn_listensIn h_tape_bytes z.2.1 z.2.2.1 z.2.2.2.1 v_inn_minutes z.2.2.2.2.1 v_inn_dreams v_inn_sleepers v_inn_listeners v_tape_length v_tape_end z.2.2.2.2.2.1 z.2.2.2.2.2.2.1 z.2.2.2.2.2.2.2.1 z.2.2.2.2.2.2.2.2.1 z.2.2.2.2.2.2.2.2.2.1 z.2.2.2.2.2.2.2.2.2.2.1 v_tape_bytes z.2.2.2.2.2.2.2.2.2.2.2.1 z.2.2.2.2.2.2.2.2.2.2.2.2.1 z.2.2.2.2.2.2.2.2.2.2.2.2.2.1 z.2.2.2.2.2.2.2.2.2.2.2.2.2.2.1 z.2.2.2.2.2.2.2.2.2.2.2.2.2.2.2)) args s 0 0 A := ⟨_, rfl⟩
  rw [← hQ]
  unfold fX6_readThing at hf
  refine lv_aload_n (pc := 0) hx hb dX6_readThing_0 rfl (lv_at hl 0 rfl) ?_
  refine r_get (pc := 1) C hP 0 rfl fl_X6_32 rfl dX6_readThing_1 ?_
  refine r_get (pc := 4) C hP 1 rfl fl_X6_192 rfl dX6_readThing_4 ?_
  refine lv_iconst (pc := 7) (v := 4) hx hb dX6_readThing_7 (by decide) ?_
  refine lv_icmp_lt (pc := 8) (tgt := 17) hx hb dX6_readThing_8 (by decide) (fun c_8 => ?_) (fun c_8 => ?_)
  · replace hf := it_t c_8 hf
    refine lv_aload_n (pc := 17) hx hb dX6_readThing_17 rfl (lv_at hl 0 rfl) ?_
    refine r_get (pc := 18) C hP 0 rfl fl_X6_12 rfl dX6_readThing_18 ?_
    obtain ⟨v_tape_at_21, v_tape_start_21, v_tape_kind_21, v_tape_code_21, v_tape_mayName_21, v_tape_value_21, hc_21, hf⟩ := bd6 hf
    refine r_dalVv (pc := 21) (ws' := (wX6_readThing E h h_tape h_names h_sorts h_numbers h_inn h_inn_house h_inn_thingIn h_inn_full h_inn_states h_inn_bed h_inn_dreamOf h_inn_listensIn h_tape_bytes v_named v_fault v_number v_inn_minutes v_inn_things v_inn_dreams v_inn_sleepers v_inn_listeners v_tape_length v_tape_end v_tape_at_21 v_tape_start_21 v_tape_kind_21 v_tape_code_21 v_tape_mayName_21 v_tape_value_21 v_tape_bytes v_names v_sorts v_numbers v_inn_thingIn v_inn_full)) (As := []) (rest := []) C (ctX7_advance l E h_tape h_tape_bytes v_tape_length v_tape_end v_tape_at v_tape_start v_tape_kind v_tape_code v_tape_mayName v_tape_value v_tape_bytes N (v_tape_at_21, v_tape_start_21, v_tape_kind_21, v_tape_code_21, v_tape_mayName_21, v_tape_value_21) hc_21) ml_X6_57 ⟨Nat.le_of_ble_eq_true rfl, Nat.le_of_ble_eq_true rfl⟩ hP hD hS 2 rfl rfl rfl [2, 3] [0, 1, 9, 10, 4, 5, 6, 7, 8] 9 rfl rfl rfl rfl rfl rfl rfl hl.1 rfl (Nat.le_of_ble_eq_true rfl) ⟨Nat.zero_le _, Nat.zero_le _⟩ dX6_readThing_21 ?_
    clear hP hD hS; intro H locs hP hD hS
    refine lv_aload_n (pc := 24) hx hb dX6_readThing_24 rfl (lv_at hl 0 rfl) ?_
    refine lv_iconst (pc := 25) (v := 1) hx hb dX6_readThing_25 (by decide) ?_
    refine lv_aload_n (pc := 26) hx hb dX6_readThing_26 rfl (lv_at hl 0 rfl) ?_
    refine r_get (pc := 27) C hP 0 rfl fl_X6_32 rfl dX6_readThing_27 ?_
    refine r_get (pc := 30) C hP 1 rfl fl_X6_192 rfl dX6_readThing_30 ?_
    obtain ⟨r_33, v_named_33, v_fault_33, v_tape_at_33, v_tape_start_33, v_tape_kind_33, v_tape_code_33, v_tape_mayName_33, v_tape_value_33, v_names_33, v_sorts_33, v_numbers_33, hc_33, hf⟩ := bd12 hf
    refine r_dalVi (pc := 33) (ws' := (wX6_readThing E h h_tape h_names h_sorts h_numbers h_inn h_inn_house h_inn_thingIn h_inn_full h_inn_states h_inn_bed h_inn_dreamOf h_inn_listensIn h_tape_bytes v_named_33 v_fault_33 v_number v_inn_minutes v_inn_things v_inn_dreams v_inn_sleepers v_inn_listeners v_tape_length v_tape_end v_tape_at_33 v_tape_start_33 v_tape_kind_33 v_tape_code_33 v_tape_mayName_33 v_tape_value_33 v_tape_bytes v_names_33 v_sorts_33 v_numbers_33 v_inn_thingIn v_inn_full)) (As := [.int 1, .int v_inn_things]) (rest := []) C (ctX6_passNew l E h h_tape h_names h_sorts h_numbers h_inn h_tape_bytes v_named v_fault v_number v_tape_length v_tape_end v_tape_at_21 v_tape_start_21 v_tape_kind_21 v_tape_code_21 v_tape_mayName_21 v_tape_value_21 v_names v_sorts v_numbers v_tape_bytes N 1 v_inn_things (r_33, v_named_33, v_fault_33, v_tape_at_33, v_tape_start_33, v_tape_kind_33, v_tape_code_33, v_tape_mayName_33, v_tape_value_33, v_names_33, v_sorts_33, v_numbers_33) hc_33) ml_X6_151 ⟨Nat.le_of_ble_eq_true rfl, Nat.le_of_ble_eq_true rfl⟩ hP hD hS 0 rfl rfl rfl [0, 2, 4, 5, 6, 3] [9, 1, 10, 14, 11, 12, 13, 7, 8] 9 rfl rfl rfl rfl rfl rfl rfl hl.1 rfl (Nat.le_of_ble_eq_true rfl) ⟨Nat.zero_le _, Nat.zero_le _⟩ dX6_readThing_33 ?_
    clear hP hD hS; intro H locs hP hD hS
    refine lv_if_eq (pc := 36) (tgt := 57) hx hb dX6_readThing_36 (by decide) (fun c_36 => ?_) (fun c_36 => ?_)
    · replace hf := it_t c_36 hf
      refine lv_iconst (pc := 57) (v := 0) hx hb dX6_readThing_57 (by decide) ?_
      cases hf
      rw [hQ]
      exact r_zret C hr hP hD hS (Or.inl rfl) rfl dX6_readThing_58
    · replace hf := it_f c_36 hf
      refine lv_aload_n (pc := 39) hx hb dX6_readThing_39 rfl (lv_at hl 0 rfl) ?_
      refine r_gets (pc := 40) C (C.kx.1 21 (by decide)).1 hS gs_X6_195 dX6_readThing_40 ?_
      obtain ⟨r_43, v_fault_43, v_tape_at_43, v_tape_start_43, v_tape_kind_43, v_tape_code_43, v_tape_mayName_43, v_tape_value_43, hc_43, hf⟩ := bd8 hf
      refine r_dalVi (pc := 43) (ws' := (wX6_readThing E h h_tape h_names h_sorts h_numbers h_inn h_inn_house h_inn_thingIn h_inn_full h_inn_states h_inn_bed h_inn_dreamOf h_inn_listensIn h_tape_bytes v_named_33 v_fault_43 v_number v_inn_minutes v_inn_things v_inn_dreams v_inn_sleepers v_inn_listeners v_tape_length v_tape_end v_tape_at_43 v_tape_start_43 v_tape_kind_43 v_tape_code_43 v_tape_mayName_43 v_tape_value_43 v_tape_bytes v_names_33 v_sorts_33 v_numbers_33 v_inn_thingIn v_inn_full)) (As := [.ref (E.2.2.1 21)]) (rest := []) C (ctX6_pass l E h h_tape h_names h_sorts h_numbers h_inn h_tape_bytes v_named_33 v_fault_33 v_number v_tape_length v_tape_end v_tape_at_33 v_tape_start_33 v_tape_kind_33 v_tape_code_33 v_tape_mayName_33 v_tape_value_33 v_tape_bytes 21 (by decide) N (r_43, v_fault_43, v_tape_at_43, v_tape_start_43, v_tape_kind_43, v_tape_code_43, v_tape_mayName_43, v_tape_value_43) hc_43) ml_X6_141 ⟨Nat.le_of_ble_eq_true rfl, Nat.le_of_ble_eq_true rfl⟩ hP hD hS 0 rfl rfl rfl [0, 2, 3] [9, 1, 10, 11, 4, 5, 6, 7, 8] 9 rfl rfl rfl rfl rfl rfl rfl hl.1 rfl (Nat.le_of_ble_eq_true rfl) ⟨Nat.zero_le _, Nat.zero_le _⟩ dX6_readThing_43 ?_
      clear hP hD hS; intro H locs hP hD hS
      refine lv_if_eq (pc := 46) (tgt := 57) hx hb dX6_readThing_46 (by decide) (fun c_46 => ?_) (fun c_46 => ?_)
      · replace hf := it_t c_46 hf
        refine lv_iconst (pc := 57) (v := 0) hx hb dX6_readThing_57 (by decide) ?_
        cases hf
        rw [hQ]
        exact r_zret C hr hP hD hS (Or.inl rfl) rfl dX6_readThing_58
      · replace hf := it_f c_46 hf
        refine lv_aload_n (pc := 49) hx hb dX6_readThing_49 rfl (lv_at hl 0 rfl) ?_
        refine lv_iconst (pc := 50) (v := 0) hx hb dX6_readThing_50 (by decide) ?_
        obtain ⟨r_51, v_fault_51, v_number_51, v_tape_at_51, v_tape_start_51, v_tape_kind_51, v_tape_code_51, v_tape_mayName_51, v_tape_value_51, hc_51, hf⟩ := bd9 hf
        refine r_dalVi (pc := 51) (ws' := (wX6_readThing E h h_tape h_names h_sorts h_numbers h_inn h_inn_house h_inn_thingIn h_inn_full h_inn_states h_inn_bed h_inn_dreamOf h_inn_listensIn h_tape_bytes v_named_33 v_fault_51 v_number_51 v_inn_minutes v_inn_things v_inn_dreams v_inn_sleepers v_inn_listeners v_tape_length v_tape_end v_tape_at_51 v_tape_start_51 v_tape_kind_51 v_tape_code_51 v_tape_mayName_51 v_tape_value_51 v_tape_bytes v_names_33 v_sorts_33 v_numbers_33 v_inn_thingIn v_inn_full)) (As := [.int 0]) (rest := []) C (ctX6_passName l E h h_tape h_names h_sorts h_numbers h_inn h_tape_bytes v_named_33 v_fault_43 v_number v_tape_length v_tape_end v_tape_at_43 v_tape_start_43 v_tape_kind_43 v_tape_code_43 v_tape_mayName_43 v_tape_value_43 v_names_33 v_sorts_33 v_numbers_33 v_tape_bytes N 0 (r_51, v_fault_51, v_number_51, v_tape_at_51, v_tape_start_51, v_tape_kind_51, v_tape_code_51, v_tape_mayName_51, v_tape_value_51) hc_51) ml_X6_170 ⟨Nat.le_of_ble_eq_true rfl, Nat.le_of_ble_eq_true rfl⟩ hP hD hS 0 rfl rfl rfl [0, 2, 4, 5, 6, 3] [9, 1, 10, 14, 11, 12, 13, 7, 8] 9 rfl rfl rfl rfl rfl rfl rfl hl.1 rfl (Nat.le_of_ble_eq_true rfl) ⟨Nat.zero_le _, Nat.zero_le _⟩ dX6_readThing_51 ?_
        clear hP hD hS; intro H locs hP hD hS
        refine lv_if_ne (pc := 54) (tgt := 59) hx hb dX6_readThing_54 (by decide) (fun c_54 => ?_) (fun c_54 => ?_)
        · replace hf := it_f c_54 hf
          refine lv_aload_n (pc := 59) hx hb dX6_readThing_59 rfl (lv_at hl 0 rfl) ?_
          refine r_get (pc := 60) C hP 0 rfl fl_X6_32 rfl dX6_readThing_60 ?_
          refine lv_aload_n (pc := 63) hx hb dX6_readThing_63 rfl (lv_at hl 0 rfl) ?_
          refine r_get (pc := 64) C hP 0 rfl fl_X6_148 rfl dX6_readThing_64 ?_
          refine lv_aload_n (pc := 67) hx hb dX6_readThing_67 rfl (lv_at hl 0 rfl) ?_
          refine r_gets (pc := 68) C (C.kx.1 11 (by decide)).1 hS gs_X6_198 dX6_readThing_68 ?_
          obtain ⟨r_71, v_tape_at_71, v_tape_start_71, v_tape_kind_71, v_tape_code_71, v_tape_mayName_71, v_tape_value_71, hc_71, hf⟩ := bd7 hf
          refine r_dalVi (pc := 71) (ws' := (wX6_readThing E h h_tape h_names h_sorts h_numbers h_inn h_inn_house h_inn_thingIn h_inn_full h_inn_states h_inn_bed h_inn_dreamOf h_inn_listensIn h_tape_bytes v_named_33 v_fault_51 v_number_51 v_inn_minutes v_inn_things v_inn_dreams v_inn_sleepers v_inn_listeners v_tape_length v_tape_end v_tape_at_71 v_tape_start_71 v_tape_kind_71 v_tape_code_71 v_tape_mayName_71 v_tape_value_71 v_tape_bytes v_names_33 v_sorts_33 v_numbers_33 v_inn_thingIn v_inn_full)) (As := [.ref (E.2.2.1 11)]) (rest := [.int v_number_51, .ref h_inn]) C (ctX6_passIf l E h h_tape h_names h_sorts h_numbers h_inn h_tape_bytes v_named_33 v_fault_51 v_number_51 v_tape_length v_tape_end v_tape_at_51 v_tape_start_51 v_tape_kind_51 v_tape_code_51 v_tape_mayName_51 v_tape_value_51 v_tape_bytes 11 (by decide) N (r_71, v_tape_at_71, v_tape_start_71, v_tape_kind_71, v_tape_code_71, v_tape_mayName_71, v_tape_value_71) hc_71) ml_X6_160 ⟨Nat.le_of_ble_eq_true rfl, Nat.le_of_ble_eq_true rfl⟩ hP hD hS 0 rfl rfl rfl [0, 2, 3] [9, 1, 10, 11, 4, 5, 6, 7, 8] 9 rfl rfl rfl rfl rfl rfl rfl hl.1 rfl (Nat.le_of_ble_eq_true rfl) ⟨Nat.zero_le _, Nat.zero_le _⟩ dX6_readThing_71 ?_
          clear hP hD hS; intro H locs hP hD hS
          obtain ⟨v_inn_things_74, v_inn_thingIn_74, v_inn_full_74, hc_74, hf⟩ := bd3 hf
          refine r_dalVv (pc := 74) (ws' := (wX6_readThing E h h_tape h_names h_sorts h_numbers h_inn h_inn_house h_inn_thingIn h_inn_full h_inn_states h_inn_bed h_inn_dreamOf h_inn_listensIn h_tape_bytes v_named_33 v_fault_51 v_number_51 v_inn_minutes v_inn_things_74 v_inn_dreams v_inn_sleepers v_inn_listeners v_tape_length v_tape_end v_tape_at_71 v_tape_start_71 v_tape_kind_71 v_tape_code_71 v_tape_mayName_71 v_tape_value_71 v_tape_bytes v_names_33 v_sorts_33 v_numbers_33 v_inn_thingIn_74 v_inn_full_74)) (As := [.int v_number_51, .int r_71]) (rest := []) C (ctX2_addThing l E h_inn h_inn_house h_inn_thingIn h_inn_full h_inn_states h_inn_bed h_inn_dreamOf h_inn_listensIn v_inn_minutes v_inn_things v_inn_dreams v_inn_sleepers v_inn_listeners v_inn_thingIn v_inn_full N v_number_51 r_71 (v_inn_things_74, v_inn_thingIn_74, v_inn_full_74) hc_74) ml_X6_201 ⟨Nat.le_of_ble_eq_true rfl, Nat.le_of_ble_eq_true rfl⟩ hP hD hS 1 rfl rfl rfl [1, 7, 8] [0, 9, 2, 3, 4, 5, 6, 10, 11] 9 rfl rfl rfl rfl rfl rfl rfl hl.1 rfl (Nat.le_of_ble_eq_true rfl) ⟨Nat.zero_le _, Nat.zero_le _⟩ dX6_readThing_74 ?_
          clear hP hD hS; intro H locs hP hD hS
          refine lv_iconst (pc := 77) (v := 1) hx hb dX6_readThing_77 (by decide) ?_
          cases hf
          rw [hQ]
          exact r_zret C hr hP hD hS (Or.inr rfl) rfl dX6_readThing_78
        · replace hf := it_t c_54 hf
          refine lv_iconst (pc := 57) (v := 0) hx hb dX6_readThing_57 (by decide) ?_
          cases hf
          rw [hQ]
          exact r_zret C hr hP hD hS (Or.inl rfl) rfl dX6_readThing_58
  · replace hf := it_f c_8 hf
    refine lv_aload_n (pc := 11) hx hb dX6_readThing_11 rfl (lv_at hl 0 rfl) ?_
    refine lv_iconst (pc := 12) (v := 5) hx hb dX6_readThing_12 (by decide) ?_
    obtain ⟨r_13, v_fault_13, hc_13, hf⟩ := bd2 hf
    refine r_dalVi (pc := 13) (ws' := (wX6_readThing E h h_tape h_names h_sorts h_numbers h_inn h_inn_house h_inn_thingIn h_inn_full h_inn_states h_inn_bed h_inn_dreamOf h_inn_listensIn h_tape_bytes v_named v_fault_13 v_number v_inn_minutes v_inn_things v_inn_dreams v_inn_sleepers v_inn_listeners v_tape_length v_tape_end v_tape_at v_tape_start v_tape_kind v_tape_code v_tape_mayName v_tape_value v_tape_bytes v_names v_sorts v_numbers v_inn_thingIn v_inn_full)) (As := [.int 5]) (rest := []) C (ctX6_fail l E h h_tape h_names h_sorts h_numbers h_inn v_named v_fault v_number N 5 (r_13, v_fault_13) hc_13) ml_X6_60 ⟨Nat.le_of_ble_eq_true rfl, Nat.le_of_ble_eq_true rfl⟩ hP hD hS 0 rfl rfl rfl [0] [9, 1, 2, 3, 4, 5, 6, 7, 8] 9 rfl rfl rfl rfl rfl rfl rfl hl.1 rfl (Nat.le_of_ble_eq_true rfl) ⟨Nat.zero_le _, Nat.zero_le _⟩ dX6_readThing_13 ?_
    clear hP hD hS; intro H locs hP hD hS
    obtain ⟨hz_16, hf⟩ := zg_s hf
    cases hf
    rw [hQ]
    exact r_zret C hr hP hD hS hz_16 rfl dX6_readThing_16
def wX6_passDream (E : EN) (h h_tape h_names h_sorts h_numbers h_inn h_tape_bytes h_inn_house h_inn_thingIn h_inn_full h_inn_states h_inn_bed h_inn_dreamOf h_inn_listensIn : Nat) (v_named : Int32) (v_fault : Int32) (v_number : Int32) (v_tape_length : Int32) (v_tape_end : Int32) (v_tape_at : Int32) (v_tape_start : Int32) (v_tape_kind : Int32) (v_tape_code : Int64) (v_tape_mayName : Int32) (v_tape_value : Int32) (v_names : Nat → Int64) (v_inn_minutes : Int32) (v_inn_things : Int32) (v_inn_dreams : Int32) (v_inn_sleepers : Int32) (v_inn_listeners : Int32) (v_sorts : Nat → Int32) (v_numbers : Nat → Int32) (v_tape_bytes : Nat → Int32) : va_W := [(h, .inr (6, [.ref h_tape, .ref h_names, .ref h_sorts, .ref h_numbers, .int v_named, .ref h_inn, .int v_fault, .int v_number])), (h_tape, .inr (7, [.ref h_tape_bytes, .int v_tape_length, .int v_tape_end, .int v_tape_at, .int v_tape_start, .int v_tape_kind, .long v_tape_code, .int v_tape_mayName, .int v_tape_value])), (h_names, aJ E 19 v_names), (h_inn, .inr (2, [.ref h_inn_house, .int v_inn_minutes, .int v_inn_things, .ref h_inn_thingIn, .ref h_inn_full, .int v_inn_dreams, .ref h_inn_states, .int v_inn_sleepers, .ref h_inn_bed, .ref h_inn_dreamOf, .int v_inn_listeners, .ref h_inn_listensIn])), (h_sorts, aI E 19 v_sorts), (h_numbers, aI E 19 v_numbers), (h_tape_bytes, aB E 900 v_tape_bytes)]
def fX6_passDream (N : Nat) (v_named : Int32) (v_fault : Int32) (v_number : Int32) (v_tape_end : Int32) (v_tape_at : Int32) (v_tape_start : Int32) (v_tape_kind : Int32) (v_tape_code : Int64) (v_tape_mayName : Int32) (v_tape_value : Int32) (v_names : Nat → Int64) (v_inn_dreams : Int32) (v_sorts : Nat → Int32) (v_numbers : Nat → Int32) (v_tape_bytes : Nat → Int32) : Option (Int32 × Int32 × Int32 × Int32 × Int32 × Int32 × Int32 × Int64 × Int32 × Int32 × (Nat → Int64) × Int32 × (Nat → Int32) × (Nat → Int32)) := if v_tape_mayName = 0 then ((fX6_fail N 1).bind (un2 fun (r_12 : Int32) (v_fault_12 : Int32) => zg r_12 (some (r_12, v_named, v_fault_12, v_number, v_tape_at, v_tape_start, v_tape_kind, v_tape_code, v_tape_mayName, v_tape_value, v_names, v_inn_dreams, v_sorts, v_numbers)))) else ((fX6_placeOfName N v_named v_names v_tape_code).bind (un1 fun (r_17 : Int32) => jn (un6 fun (x105_named : Int32) (x105_number : Int32) (x105_names : Nat → Int64) (x105_inn_dreams : Int32) (x105_sorts : Nat → Int32) (x105_numbers : Nat → Int32) => (fX7_advance N v_tape_end v_tape_at v_tape_bytes).bind (un6 fun (v_tape_at_109 : Int32) (v_tape_start_109 : Int32) (v_tape_kind_109 : Int32) (v_tape_code_109 : Int64) (v_tape_mayName_109 : Int32) (v_tape_value_109 : Int32) => some (1, x105_named, v_fault, x105_number, v_tape_at_109, v_tape_start_109, v_tape_kind_109, v_tape_code_109, v_tape_mayName_109, v_tape_value_109, x105_names, x105_inn_dreams, x105_sorts, x105_numbers))) (fun j105 => if r_17 = (-1) then (if v_inn_dreams < 4 then ((fX6_tellName N 2 v_inn_dreams v_named v_tape_code v_names v_sorts v_numbers).bind (un4 fun (v_named_89 : Int32) (v_names_89 : Nat → Int64) (v_sorts_89 : Nat → Int32) (v_numbers_89 : Nat → Int32) => j105 (v_named_89, v_inn_dreams, v_names_89, v_inn_dreams + 1, v_sorts_89, v_numbers_89))) else ((fX6_fail N 5).bind (un2 fun (r_68 : Int32) (v_fault_68 : Int32) => zg r_68 (some (r_68, v_named, v_fault_68, v_number, v_tape_at, v_tape_start, v_tape_kind, v_tape_code, v_tape_mayName, v_tape_value, v_names, v_inn_dreams, v_sorts, v_numbers))))) else (gd r_17 19 (if (v_sorts r_17.toNatClampNeg) = 2 then (gd r_17 19 (j105 (v_named, v_numbers r_17.toNatClampNeg, v_names, v_inn_dreams, v_sorts, v_numbers))) else ((fX6_fail N 3).bind (un2 fun (r_38 : Int32) (v_fault_38 : Int32) => zg r_38 (some (r_38, v_named, v_fault_38, v_number, v_tape_at, v_tape_start, v_tape_kind, v_tape_code, v_tape_mayName, v_tape_value, v_names, v_inn_dreams, v_sorts, v_numbers)))))))))
set_option maxHeartbeats 4000000 in
set_option maxRecDepth 100000 in
theorem ctX6_passDream (l : Launch) (E : EN) (h h_tape h_names h_sorts h_numbers h_inn h_tape_bytes h_inn_house h_inn_thingIn h_inn_full h_inn_states h_inn_bed h_inn_dreamOf h_inn_listensIn : Nat) (v_named : Int32) (v_fault : Int32) (v_number : Int32) (v_tape_length : Int32) (v_tape_end : Int32) (v_tape_at : Int32) (v_tape_start : Int32) (v_tape_kind : Int32) (v_tape_code : Int64) (v_tape_mayName : Int32) (v_tape_value : Int32) (v_names : Nat → Int64) (v_inn_minutes : Int32) (v_inn_things : Int32) (v_inn_dreams : Int32) (v_inn_sleepers : Int32) (v_inn_listeners : Int32) (v_sorts : Nat → Int32) (v_numbers : Nat → Int32) (v_tape_bytes : Nat → Int32) (N : Nat) (z : Int32 × Int32 × Int32 × Int32 × Int32 × Int32 × Int32 × Int64 × Int32 × Int32 × (Nat → Int64) × Int32 × (Nat → Int32) × (Nat → Int32)) (hf : fX6_passDream N v_named v_fault v_number v_tape_end v_tape_at v_tape_start v_tape_kind v_tape_code v_tape_mayName v_tape_value v_names v_inn_dreams v_sorts v_numbers v_tape_bytes = some z) : CTi l E yX6_passDream cX6_passDream 2 .boolean 2 44 [.ref h] (wX6_passDream E h h_tape h_names h_sorts h_numbers h_inn h_tape_bytes h_inn_house h_inn_thingIn h_inn_full h_inn_states h_inn_bed h_inn_dreamOf h_inn_listensIn v_named v_fault v_number v_tape_length v_tape_end v_tape_at v_tape_start v_tape_kind v_tape_code v_tape_mayName v_tape_value v_names v_inn_minutes v_inn_things v_inn_dreams v_inn_sleepers v_inn_listeners v_sorts v_numbers v_tape_bytes) (z.1) (wX6_passDream E h h_tape h_names h_sorts h_numbers h_inn h_tape_bytes h_inn_house h_inn_thingIn h_inn_full h_inn_states h_inn_bed h_inn_dreamOf h_inn_listensIn z.2.1 z.2.2.1 z.2.2.2.1 v_tape_length v_tape_end z.2.2.2.2.1 z.2.2.2.2.2.1 z.2.2.2.2.2.2.1 z.2.2.2.2.2.2.2.1 z.2.2.2.2.2.2.2.2.1 z.2.2.2.2.2.2.2.2.2.1 z.2.2.2.2.2.2.2.2.2.2.1 v_inn_minutes v_inn_things z.2.2.2.2.2.2.2.2.2.2.2.1 v_inn_sleepers v_inn_listeners z.2.2.2.2.2.2.2.2.2.2.2.2.1 z.2.2.2.2.2.2.2.2.2.2.2.2.2 v_tape_bytes) := by
  intro sz
  refine ct_body (by decide) (Nat.le_of_ble_eq_true rfl) ?_
  intro p e s m args below meth c A ls hAe C hr hin hP hD hS hl
  have C : CX p s m args meth c cX6_passDream RX6 2 E A := C
  have hl : lv_has ls 2 [(0, .ref h)] := hl
  have hx := C.1
  have hb := C.2.1
  rw [hAe]
  clear hAe
  obtain ⟨Q, hQ⟩ : ∃ Q, Q = MQ below (Qi E A (z.1) (wX6_passDream E h h_tape h_names h_sorts h_numbers h_inn h_tape_bytes h_inn_house h_inn_thingIn h_inn_full h_inn_states h_inn_bed h_inn_dreamOf h_inn_listensIn z.2.1 z.2.2.1 z.2.2.2.1 v_tape_length v_tape_end z.2.2.2.2.1 z.2.2.2.2.2.1 z.2.2.2.2.2.2.1 z.2.2.2.2.2.2.2.1 z.2.2.2.2.2.2.2.2.1 z.2.2.2.2.2.2.2.2.2.1 z.2.2.2.2.2.2.2.2.2.2.1 v_inn_minutes v_inn_things z.2.2.2.2.2.2.2.2.2.2.2.1 v_inn_sleepers v_inn_listeners z.2.2.2.2.2.2.2.2.2.2.2.2.1 z.2.2.2.2.2.2.2.2.2.2.2.2.2 v_tape_bytes)) args s 0 0 A := ⟨_, rfl⟩
  rw [← hQ]
  unfold fX6_passDream at hf
  refine lv_aload_n (pc := 0) hx hb dX6_passDream_0 rfl (lv_at hl 0 rfl) ?_
  refine r_get (pc := 1) C hP 0 rfl fl_X6_12 rfl dX6_passDream_1 ?_
  refine r_get (pc := 4) C hP 1 rfl fl_X6_271 rfl dX6_passDream_4 ?_
  refine lv_if_ne (pc := 7) (tgt := 16) hx hb dX6_passDream_7 (by decide) (fun c_7 => ?_) (fun c_7 => ?_)
  · replace hf := it_f c_7 hf
    refine lv_aload_n (pc := 16) hx hb dX6_passDream_16 rfl (lv_at hl 0 rfl) ?_
    obtain ⟨r_17, hc_17, hf⟩ := bd1 hf
    refine r_dalVi (pc := 17) (ws' := (wX6_passDream E h h_tape h_names h_sorts h_numbers h_inn h_tape_bytes h_inn_house h_inn_thingIn h_inn_full h_inn_states h_inn_bed h_inn_dreamOf h_inn_listensIn v_named v_fault v_number v_tape_length v_tape_end v_tape_at v_tape_start v_tape_kind v_tape_code v_tape_mayName v_tape_value v_names v_inn_minutes v_inn_things v_inn_dreams v_inn_sleepers v_inn_listeners v_sorts v_numbers v_tape_bytes)) (As := []) (rest := []) C (ctX6_placeOfName l E h h_tape h_names h_sorts h_numbers h_inn h_tape_bytes v_named v_fault v_number v_names v_tape_length v_tape_end v_tape_at v_tape_start v_tape_kind v_tape_code v_tape_mayName v_tape_value N r_17 hc_17) ml_X6_275 ⟨Nat.le_of_ble_eq_true rfl, Nat.le_of_ble_eq_true rfl⟩ hP hD hS 0 rfl rfl rfl [0, 2, 1] [7, 9, 8, 3, 4, 5, 6] 7 rfl rfl rfl rfl rfl rfl rfl hl.1 rfl (Nat.le_of_ble_eq_true rfl) ⟨Nat.zero_le _, Nat.zero_le _⟩ dX6_passDream_17 ?_
    clear hP hD hS; intro H locs hP hD hS
    refine lv_istore_n (pc := 20) (lv' := [(1, .int r_17), (0, .ref h)]) hx hb dX6_passDream_20 rfl hl (by decide) rfl (fun ls hl => ?_)
    refine lv_iload_n (pc := 21) hx hb dX6_passDream_21 rfl (lv_at hl 0 rfl) ?_
    refine lv_iconst (pc := 22) (v := (-1)) hx hb dX6_passDream_22 (by decide) ?_
    refine jnK hf (fun j105 ej105 hf => ?_)
    have hj105 : ∀ (x105_named : Int32) (x105_number : Int32) (x105_names : Nat → Int64) (x105_inn_dreams : Int32) (x105_sorts : Nat → Int32) (x105_numbers : Nat → Int32) , j105 (x105_named, x105_number, x105_names, x105_inn_dreams, x105_sorts, x105_numbers) = some z → AT p l e (rmOf 2 44) s m args below meth c E A Q 0 0 2 [(0, .ref h)] (wX6_passDream E h h_tape h_names h_sorts h_numbers h_inn h_tape_bytes h_inn_house h_inn_thingIn h_inn_full h_inn_states h_inn_bed h_inn_dreamOf h_inn_listensIn x105_named v_fault x105_number v_tape_length v_tape_end v_tape_at v_tape_start v_tape_kind v_tape_code v_tape_mayName v_tape_value x105_names v_inn_minutes v_inn_things x105_inn_dreams v_inn_sleepers v_inn_listeners x105_sorts x105_numbers v_tape_bytes) 105 [] := by
      intro x105_named x105_number x105_names x105_inn_dreams x105_sorts x105_numbers hf H locs ls hl hP hD hS
      rw [ej105] at hf
      replace hf := un6_s hf
      refine lv_aload_n (pc := 105) hx hb dX6_passDream_105 rfl (lv_at hl 0 rfl) ?_
      refine r_get (pc := 106) C hP 0 rfl fl_X6_12 rfl dX6_passDream_106 ?_
      obtain ⟨v_tape_at_109, v_tape_start_109, v_tape_kind_109, v_tape_code_109, v_tape_mayName_109, v_tape_value_109, hc_109, hf⟩ := bd6 hf
      refine r_dalVv (pc := 109) (ws' := (wX6_passDream E h h_tape h_names h_sorts h_numbers h_inn h_tape_bytes h_inn_house h_inn_thingIn h_inn_full h_inn_states h_inn_bed h_inn_dreamOf h_inn_listensIn x105_named v_fault x105_number v_tape_length v_tape_end v_tape_at_109 v_tape_start_109 v_tape_kind_109 v_tape_code_109 v_tape_mayName_109 v_tape_value_109 x105_names v_inn_minutes v_inn_things x105_inn_dreams v_inn_sleepers v_inn_listeners x105_sorts x105_numbers v_tape_bytes)) (As := []) (rest := []) C (ctX7_advance l E h_tape h_tape_bytes v_tape_length v_tape_end v_tape_at v_tape_start v_tape_kind v_tape_code v_tape_mayName v_tape_value v_tape_bytes N (v_tape_at_109, v_tape_start_109, v_tape_kind_109, v_tape_code_109, v_tape_mayName_109, v_tape_value_109) hc_109) ml_X6_57 ⟨Nat.le_of_ble_eq_true rfl, Nat.le_of_ble_eq_true rfl⟩ hP hD hS 1 rfl rfl rfl [1, 6] [0, 7, 2, 3, 4, 5, 8] 7 rfl rfl rfl rfl rfl rfl rfl hl.1 rfl (Nat.le_of_ble_eq_true rfl) ⟨Nat.zero_le _, Nat.zero_le _⟩ dX6_passDream_109 ?_
      clear hP hD hS; intro H locs hP hD hS
      refine lv_iconst (pc := 112) (v := 1) hx hb dX6_passDream_112 (by decide) ?_
      cases hf
      rw [hQ]
      exact r_zret C hr hP hD hS (Or.inr rfl) rfl dX6_passDream_113
    clear ej105
    refine lv_icmp_eq (pc := 23) (tgt := 55) hx hb dX6_passDream_23 (by decide) (fun c_23 => ?_) (fun c_23 => ?_)
    · replace hf := it_t c_23 hf
      refine lv_aload_n (pc := 55) hx hb dX6_passDream_55 rfl (lv_at hl 1 rfl) ?_
      refine r_get (pc := 56) C hP 0 rfl fl_X6_32 rfl dX6_passDream_56 ?_
      refine r_get (pc := 59) C hP 3 rfl fl_X6_285 rfl dX6_passDream_59 ?_
      refine lv_iconst (pc := 62) (v := 4) hx hb dX6_passDream_62 (by decide) ?_
      refine lv_icmp_lt (pc := 63) (tgt := 72) hx hb dX6_passDream_63 (by decide) (fun c_63 => ?_) (fun c_63 => ?_)
      · replace hf := it_t c_63 hf
        refine lv_aload_n (pc := 72) hx hb dX6_passDream_72 rfl (lv_at hl 1 rfl) ?_
        refine lv_aload_n (pc := 73) hx hb dX6_passDream_73 rfl (lv_at hl 1 rfl) ?_
        refine r_get (pc := 74) C hP 0 rfl fl_X6_32 rfl dX6_passDream_74 ?_
        refine r_get (pc := 77) C hP 3 rfl fl_X6_285 rfl dX6_passDream_77 ?_
        refine r_put (pc := 80) (ws' := (wX6_passDream E h h_tape h_names h_sorts h_numbers h_inn h_tape_bytes h_inn_house h_inn_thingIn h_inn_full h_inn_states h_inn_bed h_inn_dreamOf h_inn_listensIn v_named v_fault v_inn_dreams v_tape_length v_tape_end v_tape_at v_tape_start v_tape_kind v_tape_code v_tape_mayName v_tape_value v_names v_inn_minutes v_inn_things v_inn_dreams v_inn_sleepers v_inn_listeners v_sorts v_numbers v_tape_bytes)) C hP hD hS 0 rfl fl_X6_148 rfl rfl (Nat.le_of_ble_eq_true rfl) rfl dX6_passDream_80 ?_
        clear hP hD hS; intro H locs hP hD hS
        refine lv_aload_n (pc := 83) hx hb dX6_passDream_83 rfl (lv_at hl 1 rfl) ?_
        refine lv_iconst (pc := 84) (v := 2) hx hb dX6_passDream_84 (by decide) ?_
        refine lv_aload_n (pc := 85) hx hb dX6_passDream_85 rfl (lv_at hl 1 rfl) ?_
        refine r_get (pc := 86) C hP 0 rfl fl_X6_148 rfl dX6_passDream_86 ?_
        obtain ⟨v_named_89, v_names_89, v_sorts_89, v_numbers_89, hc_89, hf⟩ := bd4 hf
        refine r_dalVv (pc := 89) (ws' := (wX6_passDream E h h_tape h_names h_sorts h_numbers h_inn h_tape_bytes h_inn_house h_inn_thingIn h_inn_full h_inn_states h_inn_bed h_inn_dreamOf h_inn_listensIn v_named_89 v_fault v_inn_dreams v_tape_length v_tape_end v_tape_at v_tape_start v_tape_kind v_tape_code v_tape_mayName v_tape_value v_names_89 v_inn_minutes v_inn_things v_inn_dreams v_inn_sleepers v_inn_listeners v_sorts_89 v_numbers_89 v_tape_bytes)) (As := [.int 2, .int v_inn_dreams]) (rest := []) C (ctX6_tellName l E h h_tape h_names h_sorts h_numbers h_inn h_tape_bytes v_named v_fault v_inn_dreams v_tape_length v_tape_end v_tape_at v_tape_start v_tape_kind v_tape_code v_tape_mayName v_tape_value v_names v_sorts v_numbers N 2 v_inn_dreams (v_named_89, v_names_89, v_sorts_89, v_numbers_89) hc_89) ml_X6_278 ⟨Nat.le_of_ble_eq_true rfl, Nat.le_of_ble_eq_true rfl⟩ hP hD hS 0 rfl rfl rfl [0, 1, 2, 4, 5] [7, 8, 9, 3, 10, 11, 6] 7 rfl rfl rfl rfl rfl rfl rfl hl.1 rfl (Nat.le_of_ble_eq_true rfl) ⟨Nat.zero_le _, Nat.zero_le _⟩ dX6_passDream_89 ?_
        clear hP hD hS; intro H locs hP hD hS
        refine lv_aload_n (pc := 92) hx hb dX6_passDream_92 rfl (lv_at hl 1 rfl) ?_
        refine r_get (pc := 93) C hP 0 rfl fl_X6_32 rfl dX6_passDream_93 ?_
        refine lv_dup (pc := 96) hx hb dX6_passDream_96 rfl ?_
        refine r_get (pc := 97) C hP 3 rfl fl_X6_285 rfl dX6_passDream_97 ?_
        refine lv_iconst (pc := 100) (v := 1) hx hb dX6_passDream_100 (by decide) ?_
        refine lv_iadd (pc := 101) hx hb dX6_passDream_101 ?_
        refine r_put (pc := 102) (ws' := (wX6_passDream E h h_tape h_names h_sorts h_numbers h_inn h_tape_bytes h_inn_house h_inn_thingIn h_inn_full h_inn_states h_inn_bed h_inn_dreamOf h_inn_listensIn v_named_89 v_fault v_inn_dreams v_tape_length v_tape_end v_tape_at v_tape_start v_tape_kind v_tape_code v_tape_mayName v_tape_value v_names_89 v_inn_minutes v_inn_things (v_inn_dreams + 1) v_inn_sleepers v_inn_listeners v_sorts_89 v_numbers_89 v_tape_bytes)) C hP hD hS 3 rfl fl_X6_285 rfl rfl (Nat.le_of_ble_eq_true rfl) rfl dX6_passDream_102 ?_
        clear hP hD hS; intro H locs hP hD hS
        exact hj105 v_named_89 v_inn_dreams v_names_89 (v_inn_dreams + 1) v_sorts_89 v_numbers_89 hf _ _ _ (lv_sub hl [1] rfl) hP hD hS
      · replace hf := it_f c_63 hf
        refine lv_aload_n (pc := 66) hx hb dX6_passDream_66 rfl (lv_at hl 1 rfl) ?_
        refine lv_iconst (pc := 67) (v := 5) hx hb dX6_passDream_67 (by decide) ?_
        obtain ⟨r_68, v_fault_68, hc_68, hf⟩ := bd2 hf
        refine r_dalVi (pc := 68) (ws' := (wX6_passDream E h h_tape h_names h_sorts h_numbers h_inn h_tape_bytes h_inn_house h_inn_thingIn h_inn_full h_inn_states h_inn_bed h_inn_dreamOf h_inn_listensIn v_named v_fault_68 v_number v_tape_length v_tape_end v_tape_at v_tape_start v_tape_kind v_tape_code v_tape_mayName v_tape_value v_names v_inn_minutes v_inn_things v_inn_dreams v_inn_sleepers v_inn_listeners v_sorts v_numbers v_tape_bytes)) (As := [.int 5]) (rest := []) C (ctX6_fail l E h h_tape h_names h_sorts h_numbers h_inn v_named v_fault v_number N 5 (r_68, v_fault_68) hc_68) ml_X6_60 ⟨Nat.le_of_ble_eq_true rfl, Nat.le_of_ble_eq_true rfl⟩ hP hD hS 0 rfl rfl rfl [0] [7, 1, 2, 3, 4, 5, 6] 7 rfl rfl rfl rfl rfl rfl rfl hl.1 rfl (Nat.le_of_ble_eq_true rfl) ⟨Nat.zero_le _, Nat.zero_le _⟩ dX6_passDream_68 ?_
        clear hP hD hS; intro H locs hP hD hS
        obtain ⟨hz_71, hf⟩ := zg_s hf
        cases hf
        rw [hQ]
        exact r_zret C hr hP hD hS hz_71 rfl dX6_passDream_71
    · replace hf := it_f c_23 hf
      refine lv_aload_n (pc := 26) hx hb dX6_passDream_26 rfl (lv_at hl 1 rfl) ?_
      refine r_get (pc := 27) C hP 0 rfl fl_X6_22 rfl dX6_passDream_27 ?_
      refine lv_iload_n (pc := 30) hx hb dX6_passDream_30 rfl (lv_at hl 0 rfl) ?_
      obtain ⟨hi_31, hf⟩ := gd_s hf
      refine r_iald (pc := 31) C hP 4 rfl hi_31 dX6_passDream_31 ?_
      refine lv_iconst (pc := 32) (v := 2) hx hb dX6_passDream_32 (by decide) ?_
      refine lv_icmp_eq (pc := 33) (tgt := 42) hx hb dX6_passDream_33 (by decide) (fun c_33 => ?_) (fun c_33 => ?_)
      · replace hf := it_t c_33 hf
        refine lv_aload_n (pc := 42) hx hb dX6_passDream_42 rfl (lv_at hl 1 rfl) ?_
        refine lv_aload_n (pc := 43) hx hb dX6_passDream_43 rfl (lv_at hl 1 rfl) ?_
        refine r_get (pc := 44) C hP 0 rfl fl_X6_26 rfl dX6_passDream_44 ?_
        refine lv_iload_n (pc := 47) hx hb dX6_passDream_47 rfl (lv_at hl 0 rfl) ?_
        obtain ⟨hi_48, hf⟩ := gd_s hf
        refine r_iald (pc := 48) C hP 5 rfl hi_48 dX6_passDream_48 ?_
        refine r_put (pc := 49) (ws' := (wX6_passDream E h h_tape h_names h_sorts h_numbers h_inn h_tape_bytes h_inn_house h_inn_thingIn h_inn_full h_inn_states h_inn_bed h_inn_dreamOf h_inn_listensIn v_named v_fault (v_numbers r_17.toNatClampNeg) v_tape_length v_tape_end v_tape_at v_tape_start v_tape_kind v_tape_code v_tape_mayName v_tape_value v_names v_inn_minutes v_inn_things v_inn_dreams v_inn_sleepers v_inn_listeners v_sorts v_numbers v_tape_bytes)) C hP hD hS 0 rfl fl_X6_148 rfl rfl (Nat.le_of_ble_eq_true rfl) rfl dX6_passDream_49 ?_
        clear hP hD hS; intro H locs hP hD hS
        refine lv_goto (pc := 52) (tgt := 105) hx hb dX6_passDream_52 (by decide) ?_
        exact hj105 v_named (v_numbers r_17.toNatClampNeg) v_names v_inn_dreams v_sorts v_numbers hf _ _ _ (lv_sub hl [1] rfl) hP hD hS
      · replace hf := it_f c_33 hf
        refine lv_aload_n (pc := 36) hx hb dX6_passDream_36 rfl (lv_at hl 1 rfl) ?_
        refine lv_iconst (pc := 37) (v := 3) hx hb dX6_passDream_37 (by decide) ?_
        obtain ⟨r_38, v_fault_38, hc_38, hf⟩ := bd2 hf
        refine r_dalVi (pc := 38) (ws' := (wX6_passDream E h h_tape h_names h_sorts h_numbers h_inn h_tape_bytes h_inn_house h_inn_thingIn h_inn_full h_inn_states h_inn_bed h_inn_dreamOf h_inn_listensIn v_named v_fault_38 v_number v_tape_length v_tape_end v_tape_at v_tape_start v_tape_kind v_tape_code v_tape_mayName v_tape_value v_names v_inn_minutes v_inn_things v_inn_dreams v_inn_sleepers v_inn_listeners v_sorts v_numbers v_tape_bytes)) (As := [.int 3]) (rest := []) C (ctX6_fail l E h h_tape h_names h_sorts h_numbers h_inn v_named v_fault v_number N 3 (r_38, v_fault_38) hc_38) ml_X6_60 ⟨Nat.le_of_ble_eq_true rfl, Nat.le_of_ble_eq_true rfl⟩ hP hD hS 0 rfl rfl rfl [0] [7, 1, 2, 3, 4, 5, 6] 7 rfl rfl rfl rfl rfl rfl rfl hl.1 rfl (Nat.le_of_ble_eq_true rfl) ⟨Nat.zero_le _, Nat.zero_le _⟩ dX6_passDream_38 ?_
        clear hP hD hS; intro H locs hP hD hS
        obtain ⟨hz_41, hf⟩ := zg_s hf
        cases hf
        rw [hQ]
        exact r_zret C hr hP hD hS hz_41 rfl dX6_passDream_41
  · replace hf := it_t c_7 hf
    refine lv_aload_n (pc := 10) hx hb dX6_passDream_10 rfl (lv_at hl 0 rfl) ?_
    refine lv_iconst (pc := 11) (v := 1) hx hb dX6_passDream_11 (by decide) ?_
    obtain ⟨r_12, v_fault_12, hc_12, hf⟩ := bd2 hf
    refine r_dalVi (pc := 12) (ws' := (wX6_passDream E h h_tape h_names h_sorts h_numbers h_inn h_tape_bytes h_inn_house h_inn_thingIn h_inn_full h_inn_states h_inn_bed h_inn_dreamOf h_inn_listensIn v_named v_fault_12 v_number v_tape_length v_tape_end v_tape_at v_tape_start v_tape_kind v_tape_code v_tape_mayName v_tape_value v_names v_inn_minutes v_inn_things v_inn_dreams v_inn_sleepers v_inn_listeners v_sorts v_numbers v_tape_bytes)) (As := [.int 1]) (rest := []) C (ctX6_fail l E h h_tape h_names h_sorts h_numbers h_inn v_named v_fault v_number N 1 (r_12, v_fault_12) hc_12) ml_X6_60 ⟨Nat.le_of_ble_eq_true rfl, Nat.le_of_ble_eq_true rfl⟩ hP hD hS 0 rfl rfl rfl [0] [7, 1, 2, 3, 4, 5, 6] 7 rfl rfl rfl rfl rfl rfl rfl hl.1 rfl (Nat.le_of_ble_eq_true rfl) ⟨Nat.zero_le _, Nat.zero_le _⟩ dX6_passDream_12 ?_
    clear hP hD hS; intro H locs hP hD hS
    obtain ⟨hz_15, hf⟩ := zg_s hf
    cases hf
    rw [hQ]
    exact r_zret C hr hP hD hS hz_15 rfl dX6_passDream_15
