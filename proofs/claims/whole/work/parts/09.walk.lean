theorem dX5_areSo_0 : decode cX5_areSo 0 = .ok (.iconst 0, 1) := by decide +kernel
theorem dX5_areSo_1 : decode cX5_areSo 1 = .ok (.istore 4, 2) := by decide +kernel
theorem dX5_areSo_3 : decode cX5_areSo 3 = .ok (.iload 4, 2) := by decide +kernel
theorem dX5_areSo_5 : decode cX5_areSo 5 = .ok (.aload_n 0, 1) := by decide +kernel
theorem dX5_areSo_6 : decode cX5_areSo 6 = .ok (.getfield 24, 3) := by decide +kernel
theorem dX5_areSo_9 : decode cX5_areSo 9 = .ok (.if_icmp .ge 37, 3) := by decide +kernel
theorem dX5_areSo_12 : decode cX5_areSo 12 = .ok (.iload_n 1, 1) := by decide +kernel
theorem dX5_areSo_13 : decode cX5_areSo 13 = .ok (.i2l, 1) := by decide +kernel
theorem dX5_areSo_14 : decode cX5_areSo 14 = .ok (.aload_n 0, 1) := by decide +kernel
theorem dX5_areSo_15 : decode cX5_areSo 15 = .ok (.getfield 9, 3) := by decide +kernel
theorem dX5_areSo_18 : decode cX5_areSo 18 = .ok (.iload 4, 2) := by decide +kernel
theorem dX5_areSo_20 : decode cX5_areSo 20 = .ok (.iaload, 1) := by decide +kernel
theorem dX5_areSo_21 : decode cX5_areSo 21 = .ok (.invokestatic 28, 3) := by decide +kernel
theorem dX5_areSo_24 : decode cX5_areSo 24 = .ok (.ifCond .eq 16, 3) := by decide +kernel
theorem dX5_areSo_27 : decode cX5_areSo 27 = .ok (.aload_n 0, 1) := by decide +kernel
theorem dX5_areSo_28 : decode cX5_areSo 28 = .ok (.iload 4, 2) := by decide +kernel
theorem dX5_areSo_30 : decode cX5_areSo 30 = .ok (.aload_n 2, 1) := by decide +kernel
theorem dX5_areSo_31 : decode cX5_areSo 31 = .ok (.iload_n 3, 1) := by decide +kernel
theorem dX5_areSo_32 : decode cX5_areSo 32 = .ok (.invokevirtual 32, 3) := by decide +kernel
theorem dX5_areSo_35 : decode cX5_areSo 35 = .ok (.ifCond .ne 5, 3) := by decide +kernel
theorem dX5_areSo_38 : decode cX5_areSo 38 = .ok (.iconst 0, 1) := by decide +kernel
theorem dX5_areSo_39 : decode cX5_areSo 39 = .ok (.ireturn, 1) := by decide +kernel
theorem dX5_areSo_40 : decode cX5_areSo 40 = .ok (.iinc 4 1, 3) := by decide +kernel
theorem dX5_areSo_43 : decode cX5_areSo 43 = .ok (.goto (-40), 3) := by decide +kernel
theorem dX5_areSo_46 : decode cX5_areSo 46 = .ok (.iconst 1, 1) := by decide +kernel
theorem dX5_areSo_47 : decode cX5_areSo 47 = .ok (.ireturn, 1) := by decide +kernel
theorem dX0_gather_0 : decode cX0_gather 0 = .ok (.aload_n 0, 1) := by decide +kernel
theorem dX0_gather_1 : decode cX0_gather 1 = .ok (.iconst 0, 1) := by decide +kernel
theorem dX0_gather_2 : decode cX0_gather 2 = .ok (.putfield 91, 3) := by decide +kernel
theorem dX0_gather_5 : decode cX0_gather 5 = .ok (.iconst 0, 1) := by decide +kernel
theorem dX0_gather_6 : decode cX0_gather 6 = .ok (.istore_n 3, 1) := by decide +kernel
theorem dX0_gather_7 : decode cX0_gather 7 = .ok (.iload_n 3, 1) := by decide +kernel
theorem dX0_gather_8 : decode cX0_gather 8 = .ok (.aload_n 0, 1) := by decide +kernel
theorem dX0_gather_9 : decode cX0_gather 9 = .ok (.getfield 48, 3) := by decide +kernel
theorem dX0_gather_12 : decode cX0_gather 12 = .ok (.if_icmp .ge 42, 3) := by decide +kernel
theorem dX0_gather_15 : decode cX0_gather 15 = .ok (.aload_n 1, 1) := by decide +kernel
theorem dX0_gather_16 : decode cX0_gather 16 = .ok (.iload_n 2, 1) := by decide +kernel
theorem dX0_gather_17 : decode cX0_gather 17 = .ok (.aload_n 0, 1) := by decide +kernel
theorem dX0_gather_18 : decode cX0_gather 18 = .ok (.getfield 18, 3) := by decide +kernel
theorem dX0_gather_21 : decode cX0_gather 21 = .ok (.iload_n 3, 1) := by decide +kernel
theorem dX0_gather_22 : decode cX0_gather 22 = .ok (.invokevirtual 94, 3) := by decide +kernel
theorem dX0_gather_25 : decode cX0_gather 25 = .ok (.ifCond .eq 23, 3) := by decide +kernel
theorem dX0_gather_28 : decode cX0_gather 28 = .ok (.aload_n 0, 1) := by decide +kernel
theorem dX0_gather_29 : decode cX0_gather 29 = .ok (.getfield 32, 3) := by decide +kernel
theorem dX0_gather_32 : decode cX0_gather 32 = .ok (.aload_n 0, 1) := by decide +kernel
theorem dX0_gather_33 : decode cX0_gather 33 = .ok (.getfield 91, 3) := by decide +kernel
theorem dX0_gather_36 : decode cX0_gather 36 = .ok (.iload_n 3, 1) := by decide +kernel
theorem dX0_gather_37 : decode cX0_gather 37 = .ok (.iastore, 1) := by decide +kernel
theorem dX0_gather_38 : decode cX0_gather 38 = .ok (.aload_n 0, 1) := by decide +kernel
theorem dX0_gather_39 : decode cX0_gather 39 = .ok (.dup, 1) := by decide +kernel
theorem dX0_gather_40 : decode cX0_gather 40 = .ok (.getfield 91, 3) := by decide +kernel
theorem dX0_gather_43 : decode cX0_gather 43 = .ok (.iconst 1, 1) := by decide +kernel
theorem dX0_gather_44 : decode cX0_gather 44 = .ok (.iadd, 1) := by decide +kernel
theorem dX0_gather_45 : decode cX0_gather 45 = .ok (.putfield 91, 3) := by decide +kernel
theorem dX0_gather_48 : decode cX0_gather 48 = .ok (.iinc 3 1, 3) := by decide +kernel
theorem dX0_gather_51 : decode cX0_gather 51 = .ok (.goto (-44), 3) := by decide +kernel
theorem dX0_gather_54 : decode cX0_gather 54 = .ok (.aload_n 0, 1) := by decide +kernel
theorem dX0_gather_55 : decode cX0_gather 55 = .ok (.getfield 91, 3) := by decide +kernel
theorem dX0_gather_58 : decode cX0_gather 58 = .ok (.ireturn, 1) := by decide +kernel
theorem dX10_fits_0 : decode cX10_fits 0 = .ok (.aload_n 0, 1) := by decide +kernel
theorem dX10_fits_1 : decode cX10_fits 1 = .ok (.invokevirtual 170, 3) := by decide +kernel
theorem dX10_fits_4 : decode cX10_fits 4 = .ok (.ifCond .ne 9, 3) := by decide +kernel
theorem dX10_fits_7 : decode cX10_fits 7 = .ok (.aload_n 0, 1) := by decide +kernel
theorem dX10_fits_8 : decode cX10_fits 8 = .ok (.iconst 1, 1) := by decide +kernel
theorem dX10_fits_9 : decode cX10_fits 9 = .ok (.invokevirtual 68, 3) := by decide +kernel
theorem dX10_fits_12 : decode cX10_fits 12 = .ok (.ireturn, 1) := by decide +kernel
theorem dX10_fits_13 : decode cX10_fits 13 = .ok (.iload_n 1, 1) := by decide +kernel
theorem dX10_fits_14 : decode cX10_fits 14 = .ok (.invokestatic 259, 3) := by decide +kernel
theorem dX10_fits_17 : decode cX10_fits 17 = .ok (.ifCond .ne 9, 3) := by decide +kernel
theorem dX10_fits_20 : decode cX10_fits 20 = .ok (.aload_n 0, 1) := by decide +kernel
theorem dX10_fits_21 : decode cX10_fits 21 = .ok (.iconst 2, 1) := by decide +kernel
theorem dX10_fits_22 : decode cX10_fits 22 = .ok (.invokevirtual 68, 3) := by decide +kernel
theorem dX10_fits_25 : decode cX10_fits 25 = .ok (.ireturn, 1) := by decide +kernel
theorem dX10_fits_26 : decode cX10_fits 26 = .ok (.aload_n 0, 1) := by decide +kernel
theorem dX10_fits_27 : decode cX10_fits 27 = .ok (.aload_n 0, 1) := by decide +kernel
theorem dX10_fits_28 : decode cX10_fits 28 = .ok (.getfield 50, 3) := by decide +kernel
theorem dX10_fits_31 : decode cX10_fits 31 = .ok (.aload_n 0, 1) := by decide +kernel
theorem dX10_fits_32 : decode cX10_fits 32 = .ok (.getfield 43, 3) := by decide +kernel
theorem dX10_fits_35 : decode cX10_fits 35 = .ok (.iload_n 1, 1) := by decide +kernel
theorem dX10_fits_36 : decode cX10_fits 36 = .ok (.invokevirtual 262, 3) := by decide +kernel
theorem dX10_fits_39 : decode cX10_fits 39 = .ok (.invokevirtual 95, 3) := by decide +kernel
theorem dX10_fits_42 : decode cX10_fits 42 = .ok (.ireturn, 1) := by decide +kernel
theorem dX0_dreamIn_0 : decode cX0_dreamIn 0 = .ok (.aload_n 0, 1) := by decide +kernel
theorem dX0_dreamIn_1 : decode cX0_dreamIn 1 = .ok (.getfield 9, 3) := by decide +kernel
theorem dX0_dreamIn_4 : decode cX0_dreamIn 4 = .ok (.aload_n 0, 1) := by decide +kernel
theorem dX0_dreamIn_5 : decode cX0_dreamIn 5 = .ok (.getfield 32, 3) := by decide +kernel
theorem dX0_dreamIn_8 : decode cX0_dreamIn 8 = .ok (.iload_n 1, 1) := by decide +kernel
theorem dX0_dreamIn_9 : decode cX0_dreamIn 9 = .ok (.iaload, 1) := by decide +kernel
theorem dX0_dreamIn_10 : decode cX0_dreamIn 10 = .ok (.iconst 3, 1) := by decide +kernel
theorem dX0_dreamIn_11 : decode cX0_dreamIn 11 = .ok (.imul, 1) := by decide +kernel
theorem dX0_dreamIn_12 : decode cX0_dreamIn 12 = .ok (.iload_n 2, 1) := by decide +kernel
theorem dX0_dreamIn_13 : decode cX0_dreamIn 13 = .ok (.iadd, 1) := by decide +kernel
theorem dX0_dreamIn_14 : decode cX0_dreamIn 14 = .ok (.iaload, 1) := by decide +kernel
theorem dX0_dreamIn_15 : decode cX0_dreamIn 15 = .ok (.ireturn, 1) := by decide +kernel
theorem dX10_fit_0 : decode cX10_fit 0 = .ok (.aload_n 0, 1) := by decide +kernel
theorem dX10_fit_1 : decode cX10_fit 1 = .ok (.iload_n 3, 1) := by decide +kernel
theorem dX10_fit_2 : decode cX10_fit 2 = .ok (.invokevirtual 167, 3) := by decide +kernel
theorem dX10_fit_5 : decode cX10_fit 5 = .ok (.ifCond .ne 9, 3) := by decide +kernel
theorem dX10_fit_8 : decode cX10_fit 8 = .ok (.aload_n 0, 1) := by decide +kernel
theorem dX10_fit_9 : decode cX10_fit 9 = .ok (.iconst 1, 1) := by decide +kernel
theorem dX10_fit_10 : decode cX10_fit 10 = .ok (.invokevirtual 68, 3) := by decide +kernel
theorem dX10_fit_13 : decode cX10_fit 13 = .ok (.ireturn, 1) := by decide +kernel
theorem dX10_fit_14 : decode cX10_fit 14 = .ok (.iload_n 1, 1) := by decide +kernel
theorem dX10_fit_15 : decode cX10_fit 15 = .ok (.invokestatic 259, 3) := by decide +kernel
theorem dX10_fit_18 : decode cX10_fit 18 = .ok (.ifCond .ne 9, 3) := by decide +kernel
theorem dX10_fit_21 : decode cX10_fit 21 = .ok (.aload_n 0, 1) := by decide +kernel
theorem dX10_fit_22 : decode cX10_fit 22 = .ok (.iconst 2, 1) := by decide +kernel
theorem dX10_fit_23 : decode cX10_fit 23 = .ok (.invokevirtual 68, 3) := by decide +kernel
theorem dX10_fit_26 : decode cX10_fit 26 = .ok (.ireturn, 1) := by decide +kernel
theorem dX10_fit_27 : decode cX10_fit 27 = .ok (.iload_n 2, 1) := by decide +kernel
theorem dX10_fit_28 : decode cX10_fit 28 = .ok (.aload_n 0, 1) := by decide +kernel
theorem dX10_fit_29 : decode cX10_fit 29 = .ok (.getfield 50, 3) := by decide +kernel
theorem dX10_fit_32 : decode cX10_fit 32 = .ok (.aload_n 0, 1) := by decide +kernel
theorem dX10_fit_33 : decode cX10_fit 33 = .ok (.getfield 43, 3) := by decide +kernel
theorem dX10_fit_36 : decode cX10_fit 36 = .ok (.iload_n 1, 1) := by decide +kernel
theorem dX10_fit_37 : decode cX10_fit 37 = .ok (.invokevirtual 262, 3) := by decide +kernel
theorem dX10_fit_40 : decode cX10_fit 40 = .ok (.invokestatic 121, 3) := by decide +kernel
theorem dX10_fit_43 : decode cX10_fit 43 = .ok (.ifCond .ne 9, 3) := by decide +kernel
theorem dX10_fit_46 : decode cX10_fit 46 = .ok (.aload_n 0, 1) := by decide +kernel
theorem dX10_fit_47 : decode cX10_fit 47 = .ok (.iconst 1, 1) := by decide +kernel
theorem dX10_fit_48 : decode cX10_fit 48 = .ok (.invokevirtual 68, 3) := by decide +kernel
theorem dX10_fit_51 : decode cX10_fit 51 = .ok (.ireturn, 1) := by decide +kernel
theorem dX10_fit_52 : decode cX10_fit 52 = .ok (.aload_n 0, 1) := by decide +kernel
theorem dX10_fit_53 : decode cX10_fit 53 = .ok (.aload_n 0, 1) := by decide +kernel
theorem dX10_fit_54 : decode cX10_fit 54 = .ok (.getfield 50, 3) := by decide +kernel
theorem dX10_fit_57 : decode cX10_fit 57 = .ok (.iload_n 2, 1) := by decide +kernel
theorem dX10_fit_58 : decode cX10_fit 58 = .ok (.iload_n 3, 1) := by decide +kernel
theorem dX10_fit_59 : decode cX10_fit 59 = .ok (.invokevirtual 266, 3) := by decide +kernel
theorem dX10_fit_62 : decode cX10_fit 62 = .ok (.invokevirtual 95, 3) := by decide +kernel
theorem dX10_fit_65 : decode cX10_fit 65 = .ok (.ireturn, 1) := by decide +kernel
theorem dX0_commonDream_0 : decode cX0_commonDream 0 = .ok (.iconst 1, 1) := by decide +kernel
theorem dX0_commonDream_1 : decode cX0_commonDream 1 = .ok (.istore_n 2, 1) := by decide +kernel
theorem dX0_commonDream_2 : decode cX0_commonDream 2 = .ok (.iload_n 2, 1) := by decide +kernel
theorem dX0_commonDream_3 : decode cX0_commonDream 3 = .ok (.aload_n 0, 1) := by decide +kernel
theorem dX0_commonDream_4 : decode cX0_commonDream 4 = .ok (.getfield 91, 3) := by decide +kernel
theorem dX0_commonDream_7 : decode cX0_commonDream 7 = .ok (.if_icmp .ge 27, 3) := by decide +kernel
theorem dX0_commonDream_10 : decode cX0_commonDream 10 = .ok (.aload_n 0, 1) := by decide +kernel
theorem dX0_commonDream_11 : decode cX0_commonDream 11 = .ok (.iload_n 2, 1) := by decide +kernel
theorem dX0_commonDream_12 : decode cX0_commonDream 12 = .ok (.iload_n 1, 1) := by decide +kernel
theorem dX0_commonDream_13 : decode cX0_commonDream 13 = .ok (.invokevirtual 100, 3) := by decide +kernel
theorem dX0_commonDream_16 : decode cX0_commonDream 16 = .ok (.aload_n 0, 1) := by decide +kernel
theorem dX0_commonDream_17 : decode cX0_commonDream 17 = .ok (.iconst 0, 1) := by decide +kernel
theorem dX0_commonDream_18 : decode cX0_commonDream 18 = .ok (.iload_n 1, 1) := by decide +kernel
theorem dX0_commonDream_19 : decode cX0_commonDream 19 = .ok (.invokevirtual 100, 3) := by decide +kernel
theorem dX0_commonDream_22 : decode cX0_commonDream 22 = .ok (.if_icmp .eq 6, 3) := by decide +kernel
theorem dX0_commonDream_25 : decode cX0_commonDream 25 = .ok (.bipush (-2), 2) := by decide +kernel
theorem dX0_commonDream_27 : decode cX0_commonDream 27 = .ok (.ireturn, 1) := by decide +kernel
theorem dX0_commonDream_28 : decode cX0_commonDream 28 = .ok (.iinc 2 1, 3) := by decide +kernel
theorem dX0_commonDream_31 : decode cX0_commonDream 31 = .ok (.goto (-29), 3) := by decide +kernel
theorem dX0_commonDream_34 : decode cX0_commonDream 34 = .ok (.aload_n 0, 1) := by decide +kernel
theorem dX0_commonDream_35 : decode cX0_commonDream 35 = .ok (.iconst 0, 1) := by decide +kernel
theorem dX0_commonDream_36 : decode cX0_commonDream 36 = .ok (.iload_n 1, 1) := by decide +kernel
theorem dX0_commonDream_37 : decode cX0_commonDream 37 = .ok (.invokevirtual 100, 3) := by decide +kernel
theorem dX0_commonDream_40 : decode cX0_commonDream 40 = .ok (.ireturn, 1) := by decide +kernel
theorem dX10_sure_0 : decode cX10_sure 0 = .ok (.aload_n 0, 1) := by decide +kernel
theorem dX10_sure_1 : decode cX10_sure 1 = .ok (.iload_n 1, 1) := by decide +kernel
theorem dX10_sure_2 : decode cX10_sure 2 = .ok (.invokevirtual 167, 3) := by decide +kernel
theorem dX10_sure_5 : decode cX10_sure 5 = .ok (.ifCond .ne 9, 3) := by decide +kernel
theorem dX10_sure_8 : decode cX10_sure 8 = .ok (.aload_n 0, 1) := by decide +kernel
theorem dX10_sure_9 : decode cX10_sure 9 = .ok (.iconst 1, 1) := by decide +kernel
theorem dX10_sure_10 : decode cX10_sure 10 = .ok (.invokevirtual 68, 3) := by decide +kernel
theorem dX10_sure_13 : decode cX10_sure 13 = .ok (.ireturn, 1) := by decide +kernel
theorem dX10_sure_14 : decode cX10_sure 14 = .ok (.aload_n 0, 1) := by decide +kernel
theorem dX10_sure_15 : decode cX10_sure 15 = .ok (.getfield 50, 3) := by decide +kernel
theorem dX10_sure_18 : decode cX10_sure 18 = .ok (.aload_n 0, 1) := by decide +kernel
theorem dX10_sure_19 : decode cX10_sure 19 = .ok (.getfield 43, 3) := by decide +kernel
theorem dX10_sure_22 : decode cX10_sure 22 = .ok (.iconst 3, 1) := by decide +kernel
theorem dX10_sure_23 : decode cX10_sure 23 = .ok (.invokevirtual 262, 3) := by decide +kernel
theorem dX10_sure_26 : decode cX10_sure 26 = .ok (.ifCond .ne 10, 3) := by decide +kernel
theorem dX10_sure_29 : decode cX10_sure 29 = .ok (.aload_n 0, 1) := by decide +kernel
theorem dX10_sure_30 : decode cX10_sure 30 = .ok (.bipush 6, 2) := by decide +kernel
theorem dX10_sure_32 : decode cX10_sure 32 = .ok (.invokevirtual 68, 3) := by decide +kernel
theorem dX10_sure_35 : decode cX10_sure 35 = .ok (.ireturn, 1) := by decide +kernel
theorem dX10_sure_36 : decode cX10_sure 36 = .ok (.aload_n 0, 1) := by decide +kernel
theorem dX10_sure_37 : decode cX10_sure 37 = .ok (.aload_n 0, 1) := by decide +kernel
theorem dX10_sure_38 : decode cX10_sure 38 = .ok (.getfield 50, 3) := by decide +kernel
theorem dX10_sure_41 : decode cX10_sure 41 = .ok (.iload_n 1, 1) := by decide +kernel
theorem dX10_sure_42 : decode cX10_sure 42 = .ok (.invokevirtual 269, 3) := by decide +kernel
theorem dX10_sure_45 : decode cX10_sure 45 = .ok (.invokevirtual 95, 3) := by decide +kernel
theorem dX10_sure_48 : decode cX10_sure 48 = .ok (.ireturn, 1) := by decide +kernel
theorem dX10_verdict_0 : decode cX10_verdict 0 = .ok (.aload_n 0, 1) := by decide +kernel
theorem dX10_verdict_1 : decode cX10_verdict 1 = .ok (.invokevirtual 170, 3) := by decide +kernel
theorem dX10_verdict_4 : decode cX10_verdict 4 = .ok (.ifCond .ne 9, 3) := by decide +kernel
theorem dX10_verdict_7 : decode cX10_verdict 7 = .ok (.aload_n 0, 1) := by decide +kernel
theorem dX10_verdict_8 : decode cX10_verdict 8 = .ok (.iconst 1, 1) := by decide +kernel
theorem dX10_verdict_9 : decode cX10_verdict 9 = .ok (.invokevirtual 68, 3) := by decide +kernel
theorem dX10_verdict_12 : decode cX10_verdict 12 = .ok (.ireturn, 1) := by decide +kernel
theorem dX10_verdict_13 : decode cX10_verdict 13 = .ok (.aload_n 0, 1) := by decide +kernel
theorem dX10_verdict_14 : decode cX10_verdict 14 = .ok (.getfield 50, 3) := by decide +kernel
theorem dX10_verdict_17 : decode cX10_verdict 17 = .ok (.aload_n 0, 1) := by decide +kernel
theorem dX10_verdict_18 : decode cX10_verdict 18 = .ok (.getfield 43, 3) := by decide +kernel
theorem dX10_verdict_21 : decode cX10_verdict 21 = .ok (.iconst 3, 1) := by decide +kernel
theorem dX10_verdict_22 : decode cX10_verdict 22 = .ok (.invokevirtual 262, 3) := by decide +kernel
theorem dX10_verdict_25 : decode cX10_verdict 25 = .ok (.ifCond .le 9, 3) := by decide +kernel
theorem dX10_verdict_28 : decode cX10_verdict 28 = .ok (.aload_n 0, 1) := by decide +kernel
theorem dX10_verdict_29 : decode cX10_verdict 29 = .ok (.iconst 0, 1) := by decide +kernel
theorem dX10_verdict_30 : decode cX10_verdict 30 = .ok (.invokevirtual 95, 3) := by decide +kernel
theorem dX10_verdict_33 : decode cX10_verdict 33 = .ok (.ireturn, 1) := by decide +kernel
theorem dX10_verdict_34 : decode cX10_verdict 34 = .ok (.aload_n 0, 1) := by decide +kernel
theorem dX10_verdict_35 : decode cX10_verdict 35 = .ok (.getfield 50, 3) := by decide +kernel
theorem dX10_verdict_38 : decode cX10_verdict 38 = .ok (.aload_n 0, 1) := by decide +kernel
theorem dX10_verdict_39 : decode cX10_verdict 39 = .ok (.getfield 43, 3) := by decide +kernel
theorem dX10_verdict_42 : decode cX10_verdict 42 = .ok (.iconst 1, 1) := by decide +kernel
theorem dX10_verdict_43 : decode cX10_verdict 43 = .ok (.invokevirtual 262, 3) := by decide +kernel
theorem dX10_verdict_46 : decode cX10_verdict 46 = .ok (.ifCond .le 7, 3) := by decide +kernel
theorem dX10_verdict_49 : decode cX10_verdict 49 = .ok (.iconst 1, 1) := by decide +kernel
theorem dX10_verdict_50 : decode cX10_verdict 50 = .ok (.goto 4, 3) := by decide +kernel
theorem dX10_verdict_53 : decode cX10_verdict 53 = .ok (.iconst 0, 1) := by decide +kernel
theorem dX10_verdict_54 : decode cX10_verdict 54 = .ok (.istore_n 1, 1) := by decide +kernel
theorem dX10_verdict_55 : decode cX10_verdict 55 = .ok (.aload_n 0, 1) := by decide +kernel
theorem dX10_verdict_56 : decode cX10_verdict 56 = .ok (.getfield 50, 3) := by decide +kernel
theorem dX10_verdict_59 : decode cX10_verdict 59 = .ok (.aload_n 0, 1) := by decide +kernel
theorem dX10_verdict_60 : decode cX10_verdict 60 = .ok (.getfield 43, 3) := by decide +kernel
theorem dX10_verdict_63 : decode cX10_verdict 63 = .ok (.iconst 2, 1) := by decide +kernel
theorem dX10_verdict_64 : decode cX10_verdict 64 = .ok (.invokevirtual 262, 3) := by decide +kernel
theorem dX10_verdict_67 : decode cX10_verdict 67 = .ok (.ifCond .le 7, 3) := by decide +kernel
theorem dX10_verdict_70 : decode cX10_verdict 70 = .ok (.iconst 1, 1) := by decide +kernel
theorem dX10_verdict_71 : decode cX10_verdict 71 = .ok (.goto 4, 3) := by decide +kernel
theorem dX10_verdict_74 : decode cX10_verdict 74 = .ok (.iconst 0, 1) := by decide +kernel
theorem dX10_verdict_75 : decode cX10_verdict 75 = .ok (.istore_n 2, 1) := by decide +kernel
theorem dX10_verdict_76 : decode cX10_verdict 76 = .ok (.iload_n 1, 1) := by decide +kernel
theorem dX10_verdict_77 : decode cX10_verdict 77 = .ok (.ifCond .eq 17, 3) := by decide +kernel
theorem dX10_verdict_80 : decode cX10_verdict 80 = .ok (.aload_n 0, 1) := by decide +kernel
theorem dX10_verdict_81 : decode cX10_verdict 81 = .ok (.iload_n 2, 1) := by decide +kernel
theorem dX10_verdict_82 : decode cX10_verdict 82 = .ok (.ifCond .eq 7, 3) := by decide +kernel
theorem dX10_verdict_85 : decode cX10_verdict 85 = .ok (.iconst 3, 1) := by decide +kernel
theorem dX10_verdict_86 : decode cX10_verdict 86 = .ok (.goto 4, 3) := by decide +kernel
theorem dX10_verdict_89 : decode cX10_verdict 89 = .ok (.iconst 1, 1) := by decide +kernel
theorem dX10_verdict_90 : decode cX10_verdict 90 = .ok (.invokevirtual 95, 3) := by decide +kernel
theorem dX10_verdict_93 : decode cX10_verdict 93 = .ok (.ireturn, 1) := by decide +kernel
theorem dX10_verdict_94 : decode cX10_verdict 94 = .ok (.aload_n 0, 1) := by decide +kernel
theorem dX10_verdict_95 : decode cX10_verdict 95 = .ok (.iload_n 2, 1) := by decide +kernel
theorem dX10_verdict_96 : decode cX10_verdict 96 = .ok (.ifCond .eq 7, 3) := by decide +kernel
theorem dX10_verdict_99 : decode cX10_verdict 99 = .ok (.iconst 2, 1) := by decide +kernel
theorem dX10_verdict_100 : decode cX10_verdict 100 = .ok (.goto 4, 3) := by decide +kernel
theorem dX10_verdict_103 : decode cX10_verdict 103 = .ok (.iconst 4, 1) := by decide +kernel
theorem dX10_verdict_104 : decode cX10_verdict 104 = .ok (.invokevirtual 95, 3) := by decide +kernel
theorem dX10_verdict_107 : decode cX10_verdict 107 = .ok (.ireturn, 1) := by decide +kernel
theorem dX0_areSame_0 : decode cX0_areSame 0 = .ok (.iload_n 3, 1) := by decide +kernel
theorem dX0_areSame_1 : decode cX0_areSame 1 = .ok (.bipush 64, 2) := by decide +kernel
theorem dX0_areSame_3 : decode cX0_areSame 3 = .ok (.imul, 1) := by decide +kernel
theorem dX0_areSame_4 : decode cX0_areSame 4 = .ok (.istore 4, 2) := by decide +kernel
theorem dX0_areSame_6 : decode cX0_areSame 6 = .ok (.aload_n 0, 1) := by decide +kernel
theorem dX0_areSame_7 : decode cX0_areSame 7 = .ok (.getfield 29, 3) := by decide +kernel
theorem dX0_areSame_10 : decode cX0_areSame 10 = .ok (.iload 4, 2) := by decide +kernel
theorem dX0_areSame_12 : decode cX0_areSame 12 = .ok (.aload_n 0, 1) := by decide +kernel
theorem dX0_areSame_13 : decode cX0_areSame 13 = .ok (.getfield 32, 3) := by decide +kernel
theorem dX0_areSame_16 : decode cX0_areSame 16 = .ok (.iload_n 1, 1) := by decide +kernel
theorem dX0_areSame_17 : decode cX0_areSame 17 = .ok (.iaload, 1) := by decide +kernel
theorem dX0_areSame_18 : decode cX0_areSame 18 = .ok (.iadd, 1) := by decide +kernel
theorem dX0_areSame_19 : decode cX0_areSame 19 = .ok (.iaload, 1) := by decide +kernel
theorem dX0_areSame_20 : decode cX0_areSame 20 = .ok (.aload_n 0, 1) := by decide +kernel
theorem dX0_areSame_21 : decode cX0_areSame 21 = .ok (.getfield 29, 3) := by decide +kernel
theorem dX0_areSame_24 : decode cX0_areSame 24 = .ok (.iload 4, 2) := by decide +kernel
theorem dX0_areSame_26 : decode cX0_areSame 26 = .ok (.aload_n 0, 1) := by decide +kernel
theorem dX0_areSame_27 : decode cX0_areSame 27 = .ok (.getfield 32, 3) := by decide +kernel
theorem dX0_areSame_30 : decode cX0_areSame 30 = .ok (.iload_n 2, 1) := by decide +kernel
theorem dX0_areSame_31 : decode cX0_areSame 31 = .ok (.iaload, 1) := by decide +kernel
theorem dX0_areSame_32 : decode cX0_areSame 32 = .ok (.iadd, 1) := by decide +kernel
theorem dX0_areSame_33 : decode cX0_areSame 33 = .ok (.iaload, 1) := by decide +kernel
theorem dX0_areSame_34 : decode cX0_areSame 34 = .ok (.if_icmp .ne 7, 3) := by decide +kernel
theorem dX0_areSame_37 : decode cX0_areSame 37 = .ok (.iconst 1, 1) := by decide +kernel
theorem dX0_areSame_38 : decode cX0_areSame 38 = .ok (.goto 4, 3) := by decide +kernel
theorem dX0_areSame_41 : decode cX0_areSame 41 = .ok (.iconst 0, 1) := by decide +kernel
theorem dX0_areSame_42 : decode cX0_areSame 42 = .ok (.ireturn, 1) := by decide +kernel
theorem dX0_mostAlike_0 : decode cX0_mostAlike 0 = .ok (.iconst 0, 1) := by decide +kernel
theorem dX0_mostAlike_1 : decode cX0_mostAlike 1 = .ok (.istore_n 3, 1) := by decide +kernel
theorem dX0_mostAlike_2 : decode cX0_mostAlike 2 = .ok (.iconst 0, 1) := by decide +kernel
theorem dX0_mostAlike_3 : decode cX0_mostAlike 3 = .ok (.istore 4, 2) := by decide +kernel
theorem dX0_mostAlike_5 : decode cX0_mostAlike 5 = .ok (.iload 4, 2) := by decide +kernel
theorem dX0_mostAlike_7 : decode cX0_mostAlike 7 = .ok (.aload_n 0, 1) := by decide +kernel
theorem dX0_mostAlike_8 : decode cX0_mostAlike 8 = .ok (.getfield 91, 3) := by decide +kernel
theorem dX0_mostAlike_11 : decode cX0_mostAlike 11 = .ok (.if_icmp .ge 64, 3) := by decide +kernel
theorem dX0_mostAlike_14 : decode cX0_mostAlike 14 = .ok (.iconst 0, 1) := by decide +kernel
theorem dX0_mostAlike_15 : decode cX0_mostAlike 15 = .ok (.istore 5, 2) := by decide +kernel
theorem dX0_mostAlike_17 : decode cX0_mostAlike 17 = .ok (.iconst 0, 1) := by decide +kernel
theorem dX0_mostAlike_18 : decode cX0_mostAlike 18 = .ok (.istore 6, 2) := by decide +kernel
theorem dX0_mostAlike_20 : decode cX0_mostAlike 20 = .ok (.iload 6, 2) := by decide +kernel
theorem dX0_mostAlike_22 : decode cX0_mostAlike 22 = .ok (.aload_n 0, 1) := by decide +kernel
theorem dX0_mostAlike_23 : decode cX0_mostAlike 23 = .ok (.getfield 91, 3) := by decide +kernel
theorem dX0_mostAlike_26 : decode cX0_mostAlike 26 = .ok (.if_icmp .ge 36, 3) := by decide +kernel
theorem dX0_mostAlike_29 : decode cX0_mostAlike 29 = .ok (.aload_n 0, 1) := by decide +kernel
theorem dX0_mostAlike_30 : decode cX0_mostAlike 30 = .ok (.iload 4, 2) := by decide +kernel
theorem dX0_mostAlike_32 : decode cX0_mostAlike 32 = .ok (.iload 6, 2) := by decide +kernel
theorem dX0_mostAlike_34 : decode cX0_mostAlike 34 = .ok (.iload_n 1, 1) := by decide +kernel
theorem dX0_mostAlike_35 : decode cX0_mostAlike 35 = .ok (.invokevirtual 104, 3) := by decide +kernel
theorem dX0_mostAlike_38 : decode cX0_mostAlike 38 = .ok (.ifCond .eq 18, 3) := by decide +kernel
theorem dX0_mostAlike_41 : decode cX0_mostAlike 41 = .ok (.aload_n 0, 1) := by decide +kernel
theorem dX0_mostAlike_42 : decode cX0_mostAlike 42 = .ok (.iload 4, 2) := by decide +kernel
theorem dX0_mostAlike_44 : decode cX0_mostAlike 44 = .ok (.iload 6, 2) := by decide +kernel
theorem dX0_mostAlike_46 : decode cX0_mostAlike 46 = .ok (.iload_n 2, 1) := by decide +kernel
theorem dX0_mostAlike_47 : decode cX0_mostAlike 47 = .ok (.invokevirtual 104, 3) := by decide +kernel
theorem dX0_mostAlike_50 : decode cX0_mostAlike 50 = .ok (.ifCond .eq 6, 3) := by decide +kernel
theorem dX0_mostAlike_53 : decode cX0_mostAlike 53 = .ok (.iinc 5 1, 3) := by decide +kernel
theorem dX0_mostAlike_56 : decode cX0_mostAlike 56 = .ok (.iinc 6 1, 3) := by decide +kernel
theorem dX0_mostAlike_59 : decode cX0_mostAlike 59 = .ok (.goto (-39), 3) := by decide +kernel
theorem dX0_mostAlike_62 : decode cX0_mostAlike 62 = .ok (.iload_n 3, 1) := by decide +kernel
theorem dX0_mostAlike_63 : decode cX0_mostAlike 63 = .ok (.iload 5, 2) := by decide +kernel
theorem dX0_mostAlike_65 : decode cX0_mostAlike 65 = .ok (.invokestatic 108, 3) := by decide +kernel
theorem dX0_mostAlike_68 : decode cX0_mostAlike 68 = .ok (.istore_n 3, 1) := by decide +kernel
theorem dX0_mostAlike_69 : decode cX0_mostAlike 69 = .ok (.iinc 4 1, 3) := by decide +kernel
theorem dX0_mostAlike_72 : decode cX0_mostAlike 72 = .ok (.goto (-67), 3) := by decide +kernel
theorem dX0_mostAlike_75 : decode cX0_mostAlike 75 = .ok (.iload_n 3, 1) := by decide +kernel
theorem dX0_mostAlike_76 : decode cX0_mostAlike 76 = .ok (.ireturn, 1) := by decide +kernel
theorem dX10_parts_0 : decode cX10_parts 0 = .ok (.aload_n 0, 1) := by decide +kernel
theorem dX10_parts_1 : decode cX10_parts 1 = .ok (.iload_n 1, 1) := by decide +kernel
theorem dX10_parts_2 : decode cX10_parts 2 = .ok (.invokevirtual 149, 3) := by decide +kernel
theorem dX10_parts_5 : decode cX10_parts 5 = .ok (.ifCond .ne 9, 3) := by decide +kernel
theorem dX10_parts_8 : decode cX10_parts 8 = .ok (.aload_n 0, 1) := by decide +kernel
theorem dX10_parts_9 : decode cX10_parts 9 = .ok (.iconst 1, 1) := by decide +kernel
theorem dX10_parts_10 : decode cX10_parts 10 = .ok (.invokevirtual 68, 3) := by decide +kernel
theorem dX10_parts_13 : decode cX10_parts 13 = .ok (.ireturn, 1) := by decide +kernel
theorem dX10_parts_14 : decode cX10_parts 14 = .ok (.aload_n 0, 1) := by decide +kernel
theorem dX10_parts_15 : decode cX10_parts 15 = .ok (.getfield 50, 3) := by decide +kernel
theorem dX10_parts_18 : decode cX10_parts 18 = .ok (.aload_n 0, 1) := by decide +kernel
theorem dX10_parts_19 : decode cX10_parts 19 = .ok (.getfield 43, 3) := by decide +kernel
theorem dX10_parts_22 : decode cX10_parts 22 = .ok (.iconst 3, 1) := by decide +kernel
theorem dX10_parts_23 : decode cX10_parts 23 = .ok (.invokevirtual 262, 3) := by decide +kernel
theorem dX10_parts_26 : decode cX10_parts 26 = .ok (.ifCond .ne 10, 3) := by decide +kernel
theorem dX10_parts_29 : decode cX10_parts 29 = .ok (.aload_n 0, 1) := by decide +kernel
theorem dX10_parts_30 : decode cX10_parts 30 = .ok (.bipush 6, 2) := by decide +kernel
theorem dX10_parts_32 : decode cX10_parts 32 = .ok (.invokevirtual 68, 3) := by decide +kernel
theorem dX10_parts_35 : decode cX10_parts 35 = .ok (.ireturn, 1) := by decide +kernel
theorem dX10_parts_36 : decode cX10_parts 36 = .ok (.aload_n 0, 1) := by decide +kernel
theorem dX10_parts_37 : decode cX10_parts 37 = .ok (.getfield 50, 3) := by decide +kernel
theorem dX10_parts_40 : decode cX10_parts 40 = .ok (.iload_n 1, 1) := by decide +kernel
theorem dX10_parts_41 : decode cX10_parts 41 = .ok (.iload_n 1, 1) := by decide +kernel
theorem dX10_parts_42 : decode cX10_parts 42 = .ok (.invokevirtual 88, 3) := by decide +kernel
theorem dX10_parts_45 : decode cX10_parts 45 = .ok (.aload_n 0, 1) := by decide +kernel
theorem dX10_parts_46 : decode cX10_parts 46 = .ok (.aload_n 0, 1) := by decide +kernel
theorem dX10_parts_47 : decode cX10_parts 47 = .ok (.getfield 50, 3) := by decide +kernel
theorem dX10_parts_50 : decode cX10_parts 50 = .ok (.iload_n 1, 1) := by decide +kernel
theorem dX10_parts_51 : decode cX10_parts 51 = .ok (.iload_n 1, 1) := by decide +kernel
theorem dX10_parts_52 : decode cX10_parts 52 = .ok (.invokevirtual 272, 3) := by decide +kernel
theorem dX10_parts_55 : decode cX10_parts 55 = .ok (.invokevirtual 95, 3) := by decide +kernel
theorem dX10_parts_58 : decode cX10_parts 58 = .ok (.ireturn, 1) := by decide +kernel
theorem dX0_bestSetting_0 : decode cX0_bestSetting 0 = .ok (.iconst 0, 1) := by decide +kernel
theorem dX0_bestSetting_1 : decode cX0_bestSetting 1 = .ok (.istore_n 1, 1) := by decide +kernel
theorem dX0_bestSetting_2 : decode cX0_bestSetting 2 = .ok (.aload_n 0, 1) := by decide +kernel
theorem dX0_bestSetting_3 : decode cX0_bestSetting 3 = .ok (.iconst 0, 1) := by decide +kernel
theorem dX0_bestSetting_4 : decode cX0_bestSetting 4 = .ok (.iconst 0, 1) := by decide +kernel
theorem dX0_bestSetting_5 : decode cX0_bestSetting 5 = .ok (.invokevirtual 113, 3) := by decide +kernel
theorem dX0_bestSetting_8 : decode cX0_bestSetting 8 = .ok (.istore_n 2, 1) := by decide +kernel
theorem dX0_bestSetting_9 : decode cX0_bestSetting 9 = .ok (.iconst 1, 1) := by decide +kernel
theorem dX0_bestSetting_10 : decode cX0_bestSetting 10 = .ok (.istore_n 3, 1) := by decide +kernel
theorem dX0_bestSetting_11 : decode cX0_bestSetting 11 = .ok (.iload_n 3, 1) := by decide +kernel
theorem dX0_bestSetting_12 : decode cX0_bestSetting 12 = .ok (.aload_n 0, 1) := by decide +kernel
theorem dX0_bestSetting_13 : decode cX0_bestSetting 13 = .ok (.getfield 35, 3) := by decide +kernel
theorem dX0_bestSetting_16 : decode cX0_bestSetting 16 = .ok (.invokevirtual 116, 3) := by decide +kernel
theorem dX0_bestSetting_19 : decode cX0_bestSetting 19 = .ok (.if_icmp .ge 28, 3) := by decide +kernel
theorem dX0_bestSetting_22 : decode cX0_bestSetting 22 = .ok (.aload_n 0, 1) := by decide +kernel
theorem dX0_bestSetting_23 : decode cX0_bestSetting 23 = .ok (.iload_n 3, 1) := by decide +kernel
theorem dX0_bestSetting_24 : decode cX0_bestSetting 24 = .ok (.iload_n 3, 1) := by decide +kernel
theorem dX0_bestSetting_25 : decode cX0_bestSetting 25 = .ok (.invokevirtual 113, 3) := by decide +kernel
theorem dX0_bestSetting_28 : decode cX0_bestSetting 28 = .ok (.istore 4, 2) := by decide +kernel
theorem dX0_bestSetting_30 : decode cX0_bestSetting 30 = .ok (.iload 4, 2) := by decide +kernel
theorem dX0_bestSetting_32 : decode cX0_bestSetting 32 = .ok (.iload_n 2, 1) := by decide +kernel
theorem dX0_bestSetting_33 : decode cX0_bestSetting 33 = .ok (.if_icmp .ge 8, 3) := by decide +kernel
theorem dX0_bestSetting_36 : decode cX0_bestSetting 36 = .ok (.iload 4, 2) := by decide +kernel
theorem dX0_bestSetting_38 : decode cX0_bestSetting 38 = .ok (.istore_n 2, 1) := by decide +kernel
theorem dX0_bestSetting_39 : decode cX0_bestSetting 39 = .ok (.iload_n 3, 1) := by decide +kernel
theorem dX0_bestSetting_40 : decode cX0_bestSetting 40 = .ok (.istore_n 1, 1) := by decide +kernel
theorem dX0_bestSetting_41 : decode cX0_bestSetting 41 = .ok (.iinc 3 1, 3) := by decide +kernel
theorem dX0_bestSetting_44 : decode cX0_bestSetting 44 = .ok (.goto (-33), 3) := by decide +kernel
theorem dX0_bestSetting_47 : decode cX0_bestSetting 47 = .ok (.iload_n 1, 1) := by decide +kernel
theorem dX0_bestSetting_48 : decode cX0_bestSetting 48 = .ok (.ireturn, 1) := by decide +kernel
theorem dX10_best_0 : decode cX10_best 0 = .ok (.aload_n 0, 1) := by decide +kernel
theorem dX10_best_1 : decode cX10_best 1 = .ok (.invokevirtual 170, 3) := by decide +kernel
theorem dX10_best_4 : decode cX10_best 4 = .ok (.ifCond .ne 9, 3) := by decide +kernel
theorem dX10_best_7 : decode cX10_best 7 = .ok (.aload_n 0, 1) := by decide +kernel
theorem dX10_best_8 : decode cX10_best 8 = .ok (.iconst 1, 1) := by decide +kernel
theorem dX10_best_9 : decode cX10_best 9 = .ok (.invokevirtual 68, 3) := by decide +kernel
theorem dX10_best_12 : decode cX10_best 12 = .ok (.ireturn, 1) := by decide +kernel
theorem dX10_best_13 : decode cX10_best 13 = .ok (.aload_n 0, 1) := by decide +kernel
theorem dX10_best_14 : decode cX10_best 14 = .ok (.getfield 50, 3) := by decide +kernel
theorem dX10_best_17 : decode cX10_best 17 = .ok (.aload_n 0, 1) := by decide +kernel
theorem dX10_best_18 : decode cX10_best 18 = .ok (.getfield 43, 3) := by decide +kernel
theorem dX10_best_21 : decode cX10_best 21 = .ok (.iconst 3, 1) := by decide +kernel
theorem dX10_best_22 : decode cX10_best 22 = .ok (.invokevirtual 262, 3) := by decide +kernel
theorem dX10_best_25 : decode cX10_best 25 = .ok (.ifCond .ne 10, 3) := by decide +kernel
theorem dX10_best_28 : decode cX10_best 28 = .ok (.aload_n 0, 1) := by decide +kernel
theorem dX10_best_29 : decode cX10_best 29 = .ok (.bipush 6, 2) := by decide +kernel
theorem dX10_best_31 : decode cX10_best 31 = .ok (.invokevirtual 68, 3) := by decide +kernel
theorem dX10_best_34 : decode cX10_best 34 = .ok (.ireturn, 1) := by decide +kernel
theorem dX10_best_35 : decode cX10_best 35 = .ok (.aload_n 0, 1) := by decide +kernel
theorem dX10_best_36 : decode cX10_best 36 = .ok (.getfield 50, 3) := by decide +kernel
theorem dX10_best_39 : decode cX10_best 39 = .ok (.iconst 0, 1) := by decide +kernel
theorem dX10_best_40 : decode cX10_best 40 = .ok (.aload_n 0, 1) := by decide +kernel
theorem dX10_best_41 : decode cX10_best 41 = .ok (.getfield 19, 3) := by decide +kernel
theorem dX10_best_44 : decode cX10_best 44 = .ok (.invokevirtual 275, 3) := by decide +kernel
theorem dX10_best_47 : decode cX10_best 47 = .ok (.iconst 1, 1) := by decide +kernel
theorem dX10_best_48 : decode cX10_best 48 = .ok (.isub, 1) := by decide +kernel
theorem dX10_best_49 : decode cX10_best 49 = .ok (.invokevirtual 88, 3) := by decide +kernel
theorem dX10_best_52 : decode cX10_best 52 = .ok (.aload_n 0, 1) := by decide +kernel
theorem dX10_best_53 : decode cX10_best 53 = .ok (.aload_n 0, 1) := by decide +kernel
theorem dX10_best_54 : decode cX10_best 54 = .ok (.getfield 50, 3) := by decide +kernel
theorem dX10_best_57 : decode cX10_best 57 = .ok (.invokevirtual 279, 3) := by decide +kernel
theorem dX10_best_60 : decode cX10_best 60 = .ok (.invokevirtual 95, 3) := by decide +kernel
theorem dX10_best_63 : decode cX10_best 63 = .ok (.ireturn, 1) := by decide +kernel
theorem dX10_told_0 : decode cX10_told 0 = .ok (.aload_n 0, 1) := by decide +kernel
theorem dX10_told_1 : decode cX10_told 1 = .ok (.iload_n 1, 1) := by decide +kernel
theorem dX10_told_2 : decode cX10_told 2 = .ok (.invokevirtual 149, 3) := by decide +kernel
theorem dX10_told_5 : decode cX10_told 5 = .ok (.ifCond .eq 11, 3) := by decide +kernel
theorem dX10_told_8 : decode cX10_told 8 = .ok (.aload_n 0, 1) := by decide +kernel
theorem dX10_told_9 : decode cX10_told 9 = .ok (.iload_n 2, 1) := by decide +kernel
theorem dX10_told_10 : decode cX10_told 10 = .ok (.invokevirtual 149, 3) := by decide +kernel
theorem dX10_told_13 : decode cX10_told 13 = .ok (.ifCond .ne 9, 3) := by decide +kernel
theorem dX10_told_16 : decode cX10_told 16 = .ok (.aload_n 0, 1) := by decide +kernel
theorem dX10_told_17 : decode cX10_told 17 = .ok (.iconst 1, 1) := by decide +kernel
theorem dX10_told_18 : decode cX10_told 18 = .ok (.invokevirtual 68, 3) := by decide +kernel
theorem dX10_told_21 : decode cX10_told 21 = .ok (.ireturn, 1) := by decide +kernel
theorem dX10_told_22 : decode cX10_told 22 = .ok (.aload_n 0, 1) := by decide +kernel
theorem dX10_told_23 : decode cX10_told 23 = .ok (.getfield 50, 3) := by decide +kernel
theorem dX10_told_26 : decode cX10_told 26 = .ok (.aload_n 0, 1) := by decide +kernel
theorem dX10_told_27 : decode cX10_told 27 = .ok (.getfield 43, 3) := by decide +kernel
theorem dX10_told_30 : decode cX10_told 30 = .ok (.iconst 3, 1) := by decide +kernel
theorem dX10_told_31 : decode cX10_told 31 = .ok (.invokevirtual 262, 3) := by decide +kernel
theorem dX10_told_34 : decode cX10_told 34 = .ok (.ifCond .ne 10, 3) := by decide +kernel
theorem dX10_told_37 : decode cX10_told 37 = .ok (.aload_n 0, 1) := by decide +kernel
theorem dX10_told_38 : decode cX10_told 38 = .ok (.bipush 6, 2) := by decide +kernel
theorem dX10_told_40 : decode cX10_told 40 = .ok (.invokevirtual 68, 3) := by decide +kernel
theorem dX10_told_43 : decode cX10_told 43 = .ok (.ireturn, 1) := by decide +kernel
theorem dX10_told_44 : decode cX10_told 44 = .ok (.aload_n 0, 1) := by decide +kernel
theorem dX10_told_45 : decode cX10_told 45 = .ok (.getfield 50, 3) := by decide +kernel
theorem dX10_told_48 : decode cX10_told 48 = .ok (.iload_n 1, 1) := by decide +kernel
theorem dX10_told_49 : decode cX10_told 49 = .ok (.iload_n 1, 1) := by decide +kernel
theorem dX10_told_50 : decode cX10_told 50 = .ok (.invokevirtual 88, 3) := by decide +kernel
theorem dX10_told_53 : decode cX10_told 53 = .ok (.aload_n 0, 1) := by decide +kernel
theorem dX10_told_54 : decode cX10_told 54 = .ok (.getfield 50, 3) := by decide +kernel
theorem dX10_told_57 : decode cX10_told 57 = .ok (.iload_n 2, 1) := by decide +kernel
theorem dX10_told_58 : decode cX10_told 58 = .ok (.iload_n 2, 1) := by decide +kernel
theorem dX10_told_59 : decode cX10_told 59 = .ok (.invokevirtual 88, 3) := by decide +kernel
theorem dX10_told_62 : decode cX10_told 62 = .ok (.aload_n 0, 1) := by decide +kernel
theorem dX10_told_63 : decode cX10_told 63 = .ok (.aload_n 0, 1) := by decide +kernel
theorem dX10_told_64 : decode cX10_told 64 = .ok (.getfield 50, 3) := by decide +kernel
theorem dX10_told_67 : decode cX10_told 67 = .ok (.iload_n 1, 1) := by decide +kernel
theorem dX10_told_68 : decode cX10_told 68 = .ok (.iload_n 2, 1) := by decide +kernel
theorem dX10_told_69 : decode cX10_told 69 = .ok (.invokevirtual 272, 3) := by decide +kernel
theorem dX10_told_72 : decode cX10_told 72 = .ok (.invokevirtual 95, 3) := by decide +kernel
theorem dX10_told_75 : decode cX10_told 75 = .ok (.ireturn, 1) := by decide +kernel
theorem dX0_areAlike_0 : decode cX0_areAlike 0 = .ok (.iconst 0, 1) := by decide +kernel
theorem dX0_areAlike_1 : decode cX0_areAlike 1 = .ok (.istore_n 3, 1) := by decide +kernel
theorem dX0_areAlike_2 : decode cX0_areAlike 2 = .ok (.iload_n 3, 1) := by decide +kernel
theorem dX0_areAlike_3 : decode cX0_areAlike 3 = .ok (.aload_n 0, 1) := by decide +kernel
theorem dX0_areAlike_4 : decode cX0_areAlike 4 = .ok (.getfield 35, 3) := by decide +kernel
theorem dX0_areAlike_7 : decode cX0_areAlike 7 = .ok (.invokevirtual 116, 3) := by decide +kernel
theorem dX0_areAlike_10 : decode cX0_areAlike 10 = .ok (.if_icmp .ge 21, 3) := by decide +kernel
theorem dX0_areAlike_13 : decode cX0_areAlike 13 = .ok (.aload_n 0, 1) := by decide +kernel
theorem dX0_areAlike_14 : decode cX0_areAlike 14 = .ok (.iload_n 1, 1) := by decide +kernel
theorem dX0_areAlike_15 : decode cX0_areAlike 15 = .ok (.iload_n 2, 1) := by decide +kernel
theorem dX0_areAlike_16 : decode cX0_areAlike 16 = .ok (.iload_n 3, 1) := by decide +kernel
theorem dX0_areAlike_17 : decode cX0_areAlike 17 = .ok (.invokevirtual 104, 3) := by decide +kernel
theorem dX0_areAlike_20 : decode cX0_areAlike 20 = .ok (.ifCond .ne 5, 3) := by decide +kernel
theorem dX0_areAlike_23 : decode cX0_areAlike 23 = .ok (.iconst 0, 1) := by decide +kernel
theorem dX0_areAlike_24 : decode cX0_areAlike 24 = .ok (.ireturn, 1) := by decide +kernel
theorem dX0_areAlike_25 : decode cX0_areAlike 25 = .ok (.iinc 3 1, 3) := by decide +kernel
theorem dX0_areAlike_28 : decode cX0_areAlike 28 = .ok (.goto (-26), 3) := by decide +kernel
theorem dX0_areAlike_31 : decode cX0_areAlike 31 = .ok (.iconst 1, 1) := by decide +kernel
theorem dX0_areAlike_32 : decode cX0_areAlike 32 = .ok (.ireturn, 1) := by decide +kernel
theorem dX10_alike_0 : decode cX10_alike 0 = .ok (.aload_n 0, 1) := by decide +kernel
theorem dX10_alike_1 : decode cX10_alike 1 = .ok (.getfield 50, 3) := by decide +kernel
theorem dX10_alike_4 : decode cX10_alike 4 = .ok (.aload_n 0, 1) := by decide +kernel
theorem dX10_alike_5 : decode cX10_alike 5 = .ok (.getfield 43, 3) := by decide +kernel
theorem dX10_alike_8 : decode cX10_alike 8 = .ok (.iconst 3, 1) := by decide +kernel
theorem dX10_alike_9 : decode cX10_alike 9 = .ok (.invokevirtual 262, 3) := by decide +kernel
theorem dX10_alike_12 : decode cX10_alike 12 = .ok (.istore_n 3, 1) := by decide +kernel
theorem dX10_alike_13 : decode cX10_alike 13 = .ok (.iload_n 1, 1) := by decide +kernel
theorem dX10_alike_14 : decode cX10_alike 14 = .ok (.iload_n 3, 1) := by decide +kernel
theorem dX10_alike_15 : decode cX10_alike 15 = .ok (.invokestatic 121, 3) := by decide +kernel
theorem dX10_alike_18 : decode cX10_alike 18 = .ok (.ifCond .eq 16, 3) := by decide +kernel
theorem dX10_alike_21 : decode cX10_alike 21 = .ok (.iload_n 2, 1) := by decide +kernel
theorem dX10_alike_22 : decode cX10_alike 22 = .ok (.iload_n 3, 1) := by decide +kernel
theorem dX10_alike_23 : decode cX10_alike 23 = .ok (.invokestatic 121, 3) := by decide +kernel
theorem dX10_alike_26 : decode cX10_alike 26 = .ok (.ifCond .eq 8, 3) := by decide +kernel
theorem dX10_alike_29 : decode cX10_alike 29 = .ok (.iload_n 1, 1) := by decide +kernel
theorem dX10_alike_30 : decode cX10_alike 30 = .ok (.iload_n 2, 1) := by decide +kernel
theorem dX10_alike_31 : decode cX10_alike 31 = .ok (.if_icmp .ne 9, 3) := by decide +kernel
theorem dX10_alike_34 : decode cX10_alike 34 = .ok (.aload_n 0, 1) := by decide +kernel
theorem dX10_alike_35 : decode cX10_alike 35 = .ok (.iconst 1, 1) := by decide +kernel
theorem dX10_alike_36 : decode cX10_alike 36 = .ok (.invokevirtual 68, 3) := by decide +kernel
theorem dX10_alike_39 : decode cX10_alike 39 = .ok (.ireturn, 1) := by decide +kernel
theorem dX10_alike_40 : decode cX10_alike 40 = .ok (.aload_n 0, 1) := by decide +kernel
theorem dX10_alike_41 : decode cX10_alike 41 = .ok (.getfield 50, 3) := by decide +kernel
theorem dX10_alike_44 : decode cX10_alike 44 = .ok (.iconst 0, 1) := by decide +kernel
theorem dX10_alike_45 : decode cX10_alike 45 = .ok (.aload_n 0, 1) := by decide +kernel
theorem dX10_alike_46 : decode cX10_alike 46 = .ok (.getfield 19, 3) := by decide +kernel
theorem dX10_alike_49 : decode cX10_alike 49 = .ok (.invokevirtual 275, 3) := by decide +kernel
theorem dX10_alike_52 : decode cX10_alike 52 = .ok (.iconst 1, 1) := by decide +kernel
theorem dX10_alike_53 : decode cX10_alike 53 = .ok (.isub, 1) := by decide +kernel
theorem dX10_alike_54 : decode cX10_alike 54 = .ok (.invokevirtual 88, 3) := by decide +kernel
theorem dX10_alike_57 : decode cX10_alike 57 = .ok (.aload_n 0, 1) := by decide +kernel
theorem dX10_alike_58 : decode cX10_alike 58 = .ok (.aload_n 0, 1) := by decide +kernel
theorem dX10_alike_59 : decode cX10_alike 59 = .ok (.getfield 50, 3) := by decide +kernel
theorem dX10_alike_62 : decode cX10_alike 62 = .ok (.iload_n 1, 1) := by decide +kernel
theorem dX10_alike_63 : decode cX10_alike 63 = .ok (.iload_n 2, 1) := by decide +kernel
theorem dX10_alike_64 : decode cX10_alike 64 = .ok (.invokevirtual 282, 3) := by decide +kernel
theorem dX10_alike_67 : decode cX10_alike 67 = .ok (.invokestatic 132, 3) := by decide +kernel
theorem dX10_alike_70 : decode cX10_alike 70 = .ok (.invokevirtual 95, 3) := by decide +kernel
theorem dX10_alike_73 : decode cX10_alike 73 = .ok (.ireturn, 1) := by decide +kernel
theorem dX0_alikePairs_0 : decode cX0_alikePairs 0 = .ok (.iconst 0, 1) := by decide +kernel
theorem dX0_alikePairs_1 : decode cX0_alikePairs 1 = .ok (.istore_n 1, 1) := by decide +kernel
theorem dX0_alikePairs_2 : decode cX0_alikePairs 2 = .ok (.iconst 0, 1) := by decide +kernel
theorem dX0_alikePairs_3 : decode cX0_alikePairs 3 = .ok (.istore_n 2, 1) := by decide +kernel
theorem dX0_alikePairs_4 : decode cX0_alikePairs 4 = .ok (.iload_n 2, 1) := by decide +kernel
theorem dX0_alikePairs_5 : decode cX0_alikePairs 5 = .ok (.aload_n 0, 1) := by decide +kernel
theorem dX0_alikePairs_6 : decode cX0_alikePairs 6 = .ok (.getfield 91, 3) := by decide +kernel
theorem dX0_alikePairs_9 : decode cX0_alikePairs 9 = .ok (.if_icmp .ge 39, 3) := by decide +kernel
theorem dX0_alikePairs_12 : decode cX0_alikePairs 12 = .ok (.iload_n 2, 1) := by decide +kernel
theorem dX0_alikePairs_13 : decode cX0_alikePairs 13 = .ok (.iconst 1, 1) := by decide +kernel
theorem dX0_alikePairs_14 : decode cX0_alikePairs 14 = .ok (.iadd, 1) := by decide +kernel
theorem dX0_alikePairs_15 : decode cX0_alikePairs 15 = .ok (.istore_n 3, 1) := by decide +kernel
theorem dX0_alikePairs_16 : decode cX0_alikePairs 16 = .ok (.iload_n 3, 1) := by decide +kernel
theorem dX0_alikePairs_17 : decode cX0_alikePairs 17 = .ok (.aload_n 0, 1) := by decide +kernel
theorem dX0_alikePairs_18 : decode cX0_alikePairs 18 = .ok (.getfield 91, 3) := by decide +kernel
theorem dX0_alikePairs_21 : decode cX0_alikePairs 21 = .ok (.if_icmp .ge 21, 3) := by decide +kernel
theorem dX0_alikePairs_24 : decode cX0_alikePairs 24 = .ok (.aload_n 0, 1) := by decide +kernel
theorem dX0_alikePairs_25 : decode cX0_alikePairs 25 = .ok (.iload_n 2, 1) := by decide +kernel
theorem dX0_alikePairs_26 : decode cX0_alikePairs 26 = .ok (.iload_n 3, 1) := by decide +kernel
theorem dX0_alikePairs_27 : decode cX0_alikePairs 27 = .ok (.invokevirtual 120, 3) := by decide +kernel
theorem dX0_alikePairs_30 : decode cX0_alikePairs 30 = .ok (.ifCond .eq 6, 3) := by decide +kernel
theorem dX0_alikePairs_33 : decode cX0_alikePairs 33 = .ok (.iinc 1 1, 3) := by decide +kernel
theorem dX0_alikePairs_36 : decode cX0_alikePairs 36 = .ok (.iinc 3 1, 3) := by decide +kernel
theorem dX0_alikePairs_39 : decode cX0_alikePairs 39 = .ok (.goto (-23), 3) := by decide +kernel
theorem dX0_alikePairs_42 : decode cX0_alikePairs 42 = .ok (.iinc 2 1, 3) := by decide +kernel
theorem dX0_alikePairs_45 : decode cX0_alikePairs 45 = .ok (.goto (-41), 3) := by decide +kernel
theorem dX0_alikePairs_48 : decode cX0_alikePairs 48 = .ok (.iload_n 1, 1) := by decide +kernel
theorem dX0_alikePairs_49 : decode cX0_alikePairs 49 = .ok (.ireturn, 1) := by decide +kernel
theorem dX10_never_0 : decode cX10_never 0 = .ok (.aload_n 0, 1) := by decide +kernel
theorem dX10_never_1 : decode cX10_never 1 = .ok (.invokevirtual 170, 3) := by decide +kernel
theorem dX10_never_4 : decode cX10_never 4 = .ok (.ifCond .ne 9, 3) := by decide +kernel
theorem dX10_never_7 : decode cX10_never 7 = .ok (.aload_n 0, 1) := by decide +kernel
theorem dX10_never_8 : decode cX10_never 8 = .ok (.iconst 1, 1) := by decide +kernel
theorem dX10_never_9 : decode cX10_never 9 = .ok (.invokevirtual 68, 3) := by decide +kernel
theorem dX10_never_12 : decode cX10_never 12 = .ok (.ireturn, 1) := by decide +kernel
theorem dX10_never_13 : decode cX10_never 13 = .ok (.aload_n 0, 1) := by decide +kernel
theorem dX10_never_14 : decode cX10_never 14 = .ok (.getfield 50, 3) := by decide +kernel
theorem dX10_never_17 : decode cX10_never 17 = .ok (.aload_n 0, 1) := by decide +kernel
theorem dX10_never_18 : decode cX10_never 18 = .ok (.getfield 43, 3) := by decide +kernel
theorem dX10_never_21 : decode cX10_never 21 = .ok (.iconst 3, 1) := by decide +kernel
theorem dX10_never_22 : decode cX10_never 22 = .ok (.invokevirtual 262, 3) := by decide +kernel
theorem dX10_never_25 : decode cX10_never 25 = .ok (.pop, 1) := by decide +kernel
theorem dX10_never_26 : decode cX10_never 26 = .ok (.aload_n 0, 1) := by decide +kernel
theorem dX10_never_27 : decode cX10_never 27 = .ok (.getfield 50, 3) := by decide +kernel
theorem dX10_never_30 : decode cX10_never 30 = .ok (.iconst 0, 1) := by decide +kernel
theorem dX10_never_31 : decode cX10_never 31 = .ok (.aload_n 0, 1) := by decide +kernel
theorem dX10_never_32 : decode cX10_never 32 = .ok (.getfield 19, 3) := by decide +kernel
theorem dX10_never_35 : decode cX10_never 35 = .ok (.invokevirtual 275, 3) := by decide +kernel
theorem dX10_never_38 : decode cX10_never 38 = .ok (.iconst 1, 1) := by decide +kernel
theorem dX10_never_39 : decode cX10_never 39 = .ok (.isub, 1) := by decide +kernel
theorem dX10_never_40 : decode cX10_never 40 = .ok (.invokevirtual 88, 3) := by decide +kernel
theorem dX10_never_43 : decode cX10_never 43 = .ok (.aload_n 0, 1) := by decide +kernel
theorem dX10_never_44 : decode cX10_never 44 = .ok (.aload_n 0, 1) := by decide +kernel
theorem dX10_never_45 : decode cX10_never 45 = .ok (.getfield 50, 3) := by decide +kernel
theorem dX10_never_48 : decode cX10_never 48 = .ok (.invokevirtual 285, 3) := by decide +kernel
theorem dX10_never_51 : decode cX10_never 51 = .ok (.invokevirtual 95, 3) := by decide +kernel
theorem dX10_never_54 : decode cX10_never 54 = .ok (.ireturn, 1) := by decide +kernel
theorem dJ6_bitCount_0f7a4_0 : decode cJ6_bitCount_0f7a4 0 = .ok (.iload_n 0, 1) := by decide +kernel
theorem dJ6_bitCount_0f7a4_1 : decode cJ6_bitCount_0f7a4 1 = .ok (.iload_n 0, 1) := by decide +kernel
theorem dJ6_bitCount_0f7a4_2 : decode cJ6_bitCount_0f7a4 2 = .ok (.iconst 1, 1) := by decide +kernel
theorem dJ6_bitCount_0f7a4_3 : decode cJ6_bitCount_0f7a4 3 = .ok (.iushr, 1) := by decide +kernel
theorem dJ6_bitCount_0f7a4_4 : decode cJ6_bitCount_0f7a4 4 = .ok (.ldc_w 265, 3) := by decide +kernel
theorem dJ6_bitCount_0f7a4_7 : decode cJ6_bitCount_0f7a4 7 = .ok (.iand, 1) := by decide +kernel
theorem dJ6_bitCount_0f7a4_8 : decode cJ6_bitCount_0f7a4 8 = .ok (.isub, 1) := by decide +kernel
theorem dJ6_bitCount_0f7a4_9 : decode cJ6_bitCount_0f7a4 9 = .ok (.istore_n 0, 1) := by decide +kernel
theorem dJ6_bitCount_0f7a4_10 : decode cJ6_bitCount_0f7a4 10 = .ok (.iload_n 0, 1) := by decide +kernel
theorem dJ6_bitCount_0f7a4_11 : decode cJ6_bitCount_0f7a4 11 = .ok (.ldc_w 266, 3) := by decide +kernel
theorem dJ6_bitCount_0f7a4_14 : decode cJ6_bitCount_0f7a4 14 = .ok (.iand, 1) := by decide +kernel
theorem dJ6_bitCount_0f7a4_15 : decode cJ6_bitCount_0f7a4 15 = .ok (.iload_n 0, 1) := by decide +kernel
theorem dJ6_bitCount_0f7a4_16 : decode cJ6_bitCount_0f7a4 16 = .ok (.iconst 2, 1) := by decide +kernel
theorem dJ6_bitCount_0f7a4_17 : decode cJ6_bitCount_0f7a4 17 = .ok (.iushr, 1) := by decide +kernel
theorem dJ6_bitCount_0f7a4_18 : decode cJ6_bitCount_0f7a4 18 = .ok (.ldc_w 266, 3) := by decide +kernel
theorem dJ6_bitCount_0f7a4_21 : decode cJ6_bitCount_0f7a4 21 = .ok (.iand, 1) := by decide +kernel
theorem dJ6_bitCount_0f7a4_22 : decode cJ6_bitCount_0f7a4 22 = .ok (.iadd, 1) := by decide +kernel
theorem dJ6_bitCount_0f7a4_23 : decode cJ6_bitCount_0f7a4 23 = .ok (.istore_n 0, 1) := by decide +kernel
theorem dJ6_bitCount_0f7a4_24 : decode cJ6_bitCount_0f7a4 24 = .ok (.iload_n 0, 1) := by decide +kernel
theorem dJ6_bitCount_0f7a4_25 : decode cJ6_bitCount_0f7a4 25 = .ok (.iload_n 0, 1) := by decide +kernel
theorem dJ6_bitCount_0f7a4_26 : decode cJ6_bitCount_0f7a4 26 = .ok (.iconst 4, 1) := by decide +kernel
theorem dJ6_bitCount_0f7a4_27 : decode cJ6_bitCount_0f7a4 27 = .ok (.iushr, 1) := by decide +kernel
theorem dJ6_bitCount_0f7a4_28 : decode cJ6_bitCount_0f7a4 28 = .ok (.iadd, 1) := by decide +kernel
theorem dJ6_bitCount_0f7a4_29 : decode cJ6_bitCount_0f7a4 29 = .ok (.ldc_w 267, 3) := by decide +kernel
theorem dJ6_bitCount_0f7a4_32 : decode cJ6_bitCount_0f7a4 32 = .ok (.iand, 1) := by decide +kernel
theorem dJ6_bitCount_0f7a4_33 : decode cJ6_bitCount_0f7a4 33 = .ok (.istore_n 0, 1) := by decide +kernel
theorem dJ6_bitCount_0f7a4_34 : decode cJ6_bitCount_0f7a4 34 = .ok (.iload_n 0, 1) := by decide +kernel
theorem dJ6_bitCount_0f7a4_35 : decode cJ6_bitCount_0f7a4 35 = .ok (.iload_n 0, 1) := by decide +kernel
theorem dJ6_bitCount_0f7a4_36 : decode cJ6_bitCount_0f7a4 36 = .ok (.bipush 8, 2) := by decide +kernel
theorem dJ6_bitCount_0f7a4_38 : decode cJ6_bitCount_0f7a4 38 = .ok (.iushr, 1) := by decide +kernel
theorem dJ6_bitCount_0f7a4_39 : decode cJ6_bitCount_0f7a4 39 = .ok (.iadd, 1) := by decide +kernel
theorem dJ6_bitCount_0f7a4_40 : decode cJ6_bitCount_0f7a4 40 = .ok (.istore_n 0, 1) := by decide +kernel
theorem dJ6_bitCount_0f7a4_41 : decode cJ6_bitCount_0f7a4 41 = .ok (.iload_n 0, 1) := by decide +kernel
theorem dJ6_bitCount_0f7a4_42 : decode cJ6_bitCount_0f7a4 42 = .ok (.iload_n 0, 1) := by decide +kernel
theorem dJ6_bitCount_0f7a4_43 : decode cJ6_bitCount_0f7a4 43 = .ok (.bipush 16, 2) := by decide +kernel
theorem dJ6_bitCount_0f7a4_45 : decode cJ6_bitCount_0f7a4 45 = .ok (.iushr, 1) := by decide +kernel
theorem dJ6_bitCount_0f7a4_46 : decode cJ6_bitCount_0f7a4 46 = .ok (.iadd, 1) := by decide +kernel
theorem dJ6_bitCount_0f7a4_47 : decode cJ6_bitCount_0f7a4 47 = .ok (.istore_n 0, 1) := by decide +kernel
theorem dJ6_bitCount_0f7a4_48 : decode cJ6_bitCount_0f7a4 48 = .ok (.iload_n 0, 1) := by decide +kernel
theorem dJ6_bitCount_0f7a4_49 : decode cJ6_bitCount_0f7a4 49 = .ok (.bipush 63, 2) := by decide +kernel
theorem dJ6_bitCount_0f7a4_51 : decode cJ6_bitCount_0f7a4 51 = .ok (.iand, 1) := by decide +kernel
theorem dJ6_bitCount_0f7a4_52 : decode cJ6_bitCount_0f7a4 52 = .ok (.ireturn, 1) := by decide +kernel
theorem dX1_reachedFrom_0 : decode cX1_reachedFrom 0 = .ok (.iload_n 1, 1) := by decide +kernel
theorem dX1_reachedFrom_1 : decode cX1_reachedFrom 1 = .ok (.istore_n 3, 1) := by decide +kernel
theorem dX1_reachedFrom_2 : decode cX1_reachedFrom 2 = .ok (.iconst 0, 1) := by decide +kernel
theorem dX1_reachedFrom_3 : decode cX1_reachedFrom 3 = .ok (.istore 4, 2) := by decide +kernel
theorem dX1_reachedFrom_5 : decode cX1_reachedFrom 5 = .ok (.iload 4, 2) := by decide +kernel
theorem dX1_reachedFrom_7 : decode cX1_reachedFrom 7 = .ok (.aload_n 0, 1) := by decide +kernel
theorem dX1_reachedFrom_8 : decode cX1_reachedFrom 8 = .ok (.getfield 38, 3) := by decide +kernel
theorem dX1_reachedFrom_11 : decode cX1_reachedFrom 11 = .ok (.if_icmp .ge 70, 3) := by decide +kernel
theorem dX1_reachedFrom_14 : decode cX1_reachedFrom 14 = .ok (.iconst 0, 1) := by decide +kernel
theorem dX1_reachedFrom_15 : decode cX1_reachedFrom 15 = .ok (.istore 5, 2) := by decide +kernel
theorem dX1_reachedFrom_17 : decode cX1_reachedFrom 17 = .ok (.iload 5, 2) := by decide +kernel
theorem dX1_reachedFrom_19 : decode cX1_reachedFrom 19 = .ok (.aload_n 0, 1) := by decide +kernel
theorem dX1_reachedFrom_20 : decode cX1_reachedFrom 20 = .ok (.getfield 42, 3) := by decide +kernel
theorem dX1_reachedFrom_23 : decode cX1_reachedFrom 23 = .ok (.if_icmp .ge 52, 3) := by decide +kernel
theorem dX1_reachedFrom_26 : decode cX1_reachedFrom 26 = .ok (.iconst 1, 1) := by decide +kernel
theorem dX1_reachedFrom_27 : decode cX1_reachedFrom 27 = .ok (.aload_n 0, 1) := by decide +kernel
theorem dX1_reachedFrom_28 : decode cX1_reachedFrom 28 = .ok (.getfield 19, 3) := by decide +kernel
theorem dX1_reachedFrom_31 : decode cX1_reachedFrom 31 = .ok (.iload 5, 2) := by decide +kernel
theorem dX1_reachedFrom_33 : decode cX1_reachedFrom 33 = .ok (.iaload, 1) := by decide +kernel
theorem dX1_reachedFrom_34 : decode cX1_reachedFrom 34 = .ok (.ishl, 1) := by decide +kernel
theorem dX1_reachedFrom_35 : decode cX1_reachedFrom 35 = .ok (.iconst 1, 1) := by decide +kernel
theorem dX1_reachedFrom_36 : decode cX1_reachedFrom 36 = .ok (.aload_n 0, 1) := by decide +kernel
theorem dX1_reachedFrom_37 : decode cX1_reachedFrom 37 = .ok (.getfield 22, 3) := by decide +kernel
theorem dX1_reachedFrom_40 : decode cX1_reachedFrom 40 = .ok (.iload 5, 2) := by decide +kernel
theorem dX1_reachedFrom_42 : decode cX1_reachedFrom 42 = .ok (.iaload, 1) := by decide +kernel
theorem dX1_reachedFrom_43 : decode cX1_reachedFrom 43 = .ok (.ishl, 1) := by decide +kernel
theorem dX1_reachedFrom_44 : decode cX1_reachedFrom 44 = .ok (.ior, 1) := by decide +kernel
theorem dX1_reachedFrom_45 : decode cX1_reachedFrom 45 = .ok (.istore 6, 2) := by decide +kernel
theorem dX1_reachedFrom_47 : decode cX1_reachedFrom 47 = .ok (.iload_n 2, 1) := by decide +kernel
theorem dX1_reachedFrom_48 : decode cX1_reachedFrom 48 = .ok (.i2l, 1) := by decide +kernel
theorem dX1_reachedFrom_49 : decode cX1_reachedFrom 49 = .ok (.iload 5, 2) := by decide +kernel
theorem dX1_reachedFrom_51 : decode cX1_reachedFrom 51 = .ok (.invokestatic 45, 3) := by decide +kernel
theorem dX1_reachedFrom_54 : decode cX1_reachedFrom 54 = .ok (.ifCond .ne 15, 3) := by decide +kernel
theorem dX1_reachedFrom_57 : decode cX1_reachedFrom 57 = .ok (.iload_n 3, 1) := by decide +kernel
theorem dX1_reachedFrom_58 : decode cX1_reachedFrom 58 = .ok (.iload 6, 2) := by decide +kernel
theorem dX1_reachedFrom_60 : decode cX1_reachedFrom 60 = .ok (.iand, 1) := by decide +kernel
theorem dX1_reachedFrom_61 : decode cX1_reachedFrom 61 = .ok (.ifCond .eq 8, 3) := by decide +kernel
theorem dX1_reachedFrom_64 : decode cX1_reachedFrom 64 = .ok (.iload_n 3, 1) := by decide +kernel
theorem dX1_reachedFrom_65 : decode cX1_reachedFrom 65 = .ok (.iload 6, 2) := by decide +kernel
theorem dX1_reachedFrom_67 : decode cX1_reachedFrom 67 = .ok (.ior, 1) := by decide +kernel
theorem dX1_reachedFrom_68 : decode cX1_reachedFrom 68 = .ok (.istore_n 3, 1) := by decide +kernel
theorem dX1_reachedFrom_69 : decode cX1_reachedFrom 69 = .ok (.iinc 5 1, 3) := by decide +kernel
theorem dX1_reachedFrom_72 : decode cX1_reachedFrom 72 = .ok (.goto (-55), 3) := by decide +kernel
theorem dX1_reachedFrom_75 : decode cX1_reachedFrom 75 = .ok (.iinc 4 1, 3) := by decide +kernel
theorem dX1_reachedFrom_78 : decode cX1_reachedFrom 78 = .ok (.goto (-73), 3) := by decide +kernel
theorem dX1_reachedFrom_81 : decode cX1_reachedFrom 81 = .ok (.iload_n 3, 1) := by decide +kernel
theorem dX1_reachedFrom_82 : decode cX1_reachedFrom 82 = .ok (.ireturn, 1) := by decide +kernel
theorem dX2_leastLocks_0 : decode cX2_leastLocks 0 = .ok (.iconst 0, 1) := by decide +kernel
theorem dX2_leastLocks_1 : decode cX2_leastLocks 1 = .ok (.istore_n 2, 1) := by decide +kernel
theorem dX2_leastLocks_2 : decode cX2_leastLocks 2 = .ok (.iconst 0, 1) := by decide +kernel
theorem dX2_leastLocks_3 : decode cX2_leastLocks 3 = .ok (.istore_n 3, 1) := by decide +kernel
theorem dX2_leastLocks_4 : decode cX2_leastLocks 4 = .ok (.iload_n 3, 1) := by decide +kernel
theorem dX2_leastLocks_5 : decode cX2_leastLocks 5 = .ok (.aload_n 0, 1) := by decide +kernel
theorem dX2_leastLocks_6 : decode cX2_leastLocks 6 = .ok (.getfield 60, 3) := by decide +kernel
theorem dX2_leastLocks_9 : decode cX2_leastLocks 9 = .ok (.if_icmp .ge 20, 3) := by decide +kernel
theorem dX2_leastLocks_12 : decode cX2_leastLocks 12 = .ok (.iload_n 2, 1) := by decide +kernel
theorem dX2_leastLocks_13 : decode cX2_leastLocks 13 = .ok (.iconst 1, 1) := by decide +kernel
theorem dX2_leastLocks_14 : decode cX2_leastLocks 14 = .ok (.aload_n 0, 1) := by decide +kernel
theorem dX2_leastLocks_15 : decode cX2_leastLocks 15 = .ok (.getfield 29, 3) := by decide +kernel
theorem dX2_leastLocks_18 : decode cX2_leastLocks 18 = .ok (.iload_n 3, 1) := by decide +kernel
theorem dX2_leastLocks_19 : decode cX2_leastLocks 19 = .ok (.iaload, 1) := by decide +kernel
theorem dX2_leastLocks_20 : decode cX2_leastLocks 20 = .ok (.ishl, 1) := by decide +kernel
theorem dX2_leastLocks_21 : decode cX2_leastLocks 21 = .ok (.ior, 1) := by decide +kernel
theorem dX2_leastLocks_22 : decode cX2_leastLocks 22 = .ok (.istore_n 2, 1) := by decide +kernel
theorem dX2_leastLocks_23 : decode cX2_leastLocks 23 = .ok (.iinc 3 1, 3) := by decide +kernel
theorem dX2_leastLocks_26 : decode cX2_leastLocks 26 = .ok (.goto (-22), 3) := by decide +kernel
theorem dX2_leastLocks_29 : decode cX2_leastLocks 29 = .ok (.iload_n 2, 1) := by decide +kernel
theorem dX2_leastLocks_30 : decode cX2_leastLocks 30 = .ok (.i2l, 1) := by decide +kernel
theorem dX2_leastLocks_31 : decode cX2_leastLocks 31 = .ok (.iload_n 1, 1) := by decide +kernel
theorem dX2_leastLocks_32 : decode cX2_leastLocks 32 = .ok (.invokestatic 77, 3) := by decide +kernel
theorem dX2_leastLocks_35 : decode cX2_leastLocks 35 = .ok (.ifCond .eq 6, 3) := by decide +kernel
theorem dX2_leastLocks_38 : decode cX2_leastLocks 38 = .ok (.bipush (-2), 2) := by decide +kernel
theorem dX2_leastLocks_40 : decode cX2_leastLocks 40 = .ok (.ireturn, 1) := by decide +kernel
theorem dX2_leastLocks_41 : decode cX2_leastLocks 41 = .ok (.aload_n 0, 1) := by decide +kernel
theorem dX2_leastLocks_42 : decode cX2_leastLocks 42 = .ok (.iconst 0, 1) := by decide +kernel
theorem dX2_leastLocks_43 : decode cX2_leastLocks 43 = .ok (.invokevirtual 81, 3) := by decide +kernel
theorem dX2_leastLocks_46 : decode cX2_leastLocks 46 = .ok (.istore_n 3, 1) := by decide +kernel
theorem dX2_leastLocks_47 : decode cX2_leastLocks 47 = .ok (.iconst 1, 1) := by decide +kernel
theorem dX2_leastLocks_48 : decode cX2_leastLocks 48 = .ok (.aload_n 0, 1) := by decide +kernel
theorem dX2_leastLocks_49 : decode cX2_leastLocks 49 = .ok (.getfield 12, 3) := by decide +kernel
theorem dX2_leastLocks_52 : decode cX2_leastLocks 52 = .ok (.getfield 42, 3) := by decide +kernel
theorem dX2_leastLocks_55 : decode cX2_leastLocks 55 = .ok (.ishl, 1) := by decide +kernel
theorem dX2_leastLocks_56 : decode cX2_leastLocks 56 = .ok (.iconst 1, 1) := by decide +kernel
theorem dX2_leastLocks_57 : decode cX2_leastLocks 57 = .ok (.isub, 1) := by decide +kernel
theorem dX2_leastLocks_58 : decode cX2_leastLocks 58 = .ok (.istore 4, 2) := by decide +kernel
theorem dX2_leastLocks_60 : decode cX2_leastLocks 60 = .ok (.iconst 0, 1) := by decide +kernel
theorem dX2_leastLocks_61 : decode cX2_leastLocks 61 = .ok (.istore 5, 2) := by decide +kernel
theorem dX2_leastLocks_63 : decode cX2_leastLocks 63 = .ok (.iload 5, 2) := by decide +kernel
theorem dX2_leastLocks_65 : decode cX2_leastLocks 65 = .ok (.iconst 1, 1) := by decide +kernel
theorem dX2_leastLocks_66 : decode cX2_leastLocks 66 = .ok (.aload_n 0, 1) := by decide +kernel
theorem dX2_leastLocks_67 : decode cX2_leastLocks 67 = .ok (.getfield 12, 3) := by decide +kernel
theorem dX2_leastLocks_70 : decode cX2_leastLocks 70 = .ok (.getfield 42, 3) := by decide +kernel
theorem dX2_leastLocks_73 : decode cX2_leastLocks 73 = .ok (.ishl, 1) := by decide +kernel
theorem dX2_leastLocks_74 : decode cX2_leastLocks 74 = .ok (.if_icmp .ge 46, 3) := by decide +kernel
theorem dX2_leastLocks_77 : decode cX2_leastLocks 77 = .ok (.iload 5, 2) := by decide +kernel
theorem dX2_leastLocks_79 : decode cX2_leastLocks 79 = .ok (.invokestatic 85, 3) := by decide +kernel
theorem dX2_leastLocks_82 : decode cX2_leastLocks 82 = .ok (.iload 4, 2) := by decide +kernel
theorem dX2_leastLocks_84 : decode cX2_leastLocks 84 = .ok (.invokestatic 85, 3) := by decide +kernel
theorem dX2_leastLocks_87 : decode cX2_leastLocks 87 = .ok (.if_icmp .ge 27, 3) := by decide +kernel
theorem dX2_leastLocks_90 : decode cX2_leastLocks 90 = .ok (.aload_n 0, 1) := by decide +kernel
theorem dX2_leastLocks_91 : decode cX2_leastLocks 91 = .ok (.getfield 12, 3) := by decide +kernel
theorem dX2_leastLocks_94 : decode cX2_leastLocks 94 = .ok (.iload_n 2, 1) := by decide +kernel
theorem dX2_leastLocks_95 : decode cX2_leastLocks 95 = .ok (.iload_n 3, 1) := by decide +kernel
theorem dX2_leastLocks_96 : decode cX2_leastLocks 96 = .ok (.iload 5, 2) := by decide +kernel
theorem dX2_leastLocks_98 : decode cX2_leastLocks 98 = .ok (.ior, 1) := by decide +kernel
theorem dX2_leastLocks_99 : decode cX2_leastLocks 99 = .ok (.invokevirtual 90, 3) := by decide +kernel
theorem dX2_leastLocks_102 : decode cX2_leastLocks 102 = .ok (.i2l, 1) := by decide +kernel
theorem dX2_leastLocks_103 : decode cX2_leastLocks 103 = .ok (.iload_n 1, 1) := by decide +kernel
theorem dX2_leastLocks_104 : decode cX2_leastLocks 104 = .ok (.invokestatic 77, 3) := by decide +kernel
theorem dX2_leastLocks_107 : decode cX2_leastLocks 107 = .ok (.ifCond .ne 7, 3) := by decide +kernel
theorem dX2_leastLocks_110 : decode cX2_leastLocks 110 = .ok (.iload 5, 2) := by decide +kernel
theorem dX2_leastLocks_112 : decode cX2_leastLocks 112 = .ok (.istore 4, 2) := by decide +kernel
theorem dX2_leastLocks_114 : decode cX2_leastLocks 114 = .ok (.iinc 5 1, 3) := by decide +kernel
theorem dX2_leastLocks_117 : decode cX2_leastLocks 117 = .ok (.goto (-54), 3) := by decide +kernel
theorem dX2_leastLocks_120 : decode cX2_leastLocks 120 = .ok (.iload 4, 2) := by decide +kernel
theorem dX2_leastLocks_122 : decode cX2_leastLocks 122 = .ok (.ireturn, 1) := by decide +kernel
theorem dX10_safely_0 : decode cX10_safely 0 = .ok (.aload_n 0, 1) := by decide +kernel
theorem dX10_safely_1 : decode cX10_safely 1 = .ok (.iload_n 1, 1) := by decide +kernel
theorem dX10_safely_2 : decode cX10_safely 2 = .ok (.invokevirtual 101, 3) := by decide +kernel
theorem dX10_safely_5 : decode cX10_safely 5 = .ok (.ifCond .ne 9, 3) := by decide +kernel
theorem dX10_safely_8 : decode cX10_safely 8 = .ok (.aload_n 0, 1) := by decide +kernel
theorem dX10_safely_9 : decode cX10_safely 9 = .ok (.iconst 1, 1) := by decide +kernel
theorem dX10_safely_10 : decode cX10_safely 10 = .ok (.invokevirtual 68, 3) := by decide +kernel
theorem dX10_safely_13 : decode cX10_safely 13 = .ok (.ireturn, 1) := by decide +kernel
theorem dX10_safely_14 : decode cX10_safely 14 = .ok (.aload_n 0, 1) := by decide +kernel
theorem dX10_safely_15 : decode cX10_safely 15 = .ok (.aload_n 0, 1) := by decide +kernel
theorem dX10_safely_16 : decode cX10_safely 16 = .ok (.getfield 19, 3) := by decide +kernel
theorem dX10_safely_19 : decode cX10_safely 19 = .ok (.iload_n 1, 1) := by decide +kernel
theorem dX10_safely_20 : decode cX10_safely 20 = .ok (.invokevirtual 295, 3) := by decide +kernel
theorem dX10_safely_23 : decode cX10_safely 23 = .ok (.invokevirtual 95, 3) := by decide +kernel
theorem dX10_safely_26 : decode cX10_safely 26 = .ok (.ireturn, 1) := by decide +kernel
theorem dX10_safe_0 : decode cX10_safe 0 = .ok (.aload_n 0, 1) := by decide +kernel
theorem dX10_safe_1 : decode cX10_safe 1 = .ok (.iload_n 1, 1) := by decide +kernel
theorem dX10_safe_2 : decode cX10_safe 2 = .ok (.invokevirtual 288, 3) := by decide +kernel
theorem dX10_safe_5 : decode cX10_safe 5 = .ok (.istore_n 2, 1) := by decide +kernel
theorem dX10_safe_6 : decode cX10_safe 6 = .ok (.iload_n 2, 1) := by decide +kernel
theorem dX10_safe_7 : decode cX10_safe 7 = .ok (.ifCond .ge 7, 3) := by decide +kernel
theorem dX10_safe_10 : decode cX10_safe 10 = .ok (.iload_n 2, 1) := by decide +kernel
theorem dX10_safe_11 : decode cX10_safe 11 = .ok (.goto 7, 3) := by decide +kernel
theorem dX10_safe_14 : decode cX10_safe 14 = .ok (.iload_n 2, 1) := by decide +kernel
theorem dX10_safe_15 : decode cX10_safe 15 = .ok (.invokestatic 291, 3) := by decide +kernel
theorem dX10_safe_18 : decode cX10_safe 18 = .ok (.ireturn, 1) := by decide +kernel
theorem dX10_walks_0 : decode cX10_walks 0 = .ok (.aload_n 0, 1) := by decide +kernel
theorem dX10_walks_1 : decode cX10_walks 1 = .ok (.iload_n 1, 1) := by decide +kernel
theorem dX10_walks_2 : decode cX10_walks 2 = .ok (.invokevirtual 298, 3) := by decide +kernel
theorem dX10_walks_5 : decode cX10_walks 5 = .ok (.ireturn, 1) := by decide +kernel
theorem dX10_led_0 : decode cX10_led 0 = .ok (.iconst 0, 1) := by decide +kernel
theorem dX10_led_1 : decode cX10_led 1 = .ok (.istore_n 2, 1) := by decide +kernel
theorem dX10_led_2 : decode cX10_led 2 = .ok (.iconst 0, 1) := by decide +kernel
theorem dX10_led_3 : decode cX10_led 3 = .ok (.istore_n 3, 1) := by decide +kernel
theorem dX10_led_4 : decode cX10_led 4 = .ok (.iload_n 3, 1) := by decide +kernel
theorem dX10_led_5 : decode cX10_led 5 = .ok (.aload_n 0, 1) := by decide +kernel
theorem dX10_led_6 : decode cX10_led 6 = .ok (.getfield 19, 3) := by decide +kernel
theorem dX10_led_9 : decode cX10_led 9 = .ok (.getfield 92, 3) := by decide +kernel
theorem dX10_led_12 : decode cX10_led 12 = .ok (.if_icmp .ge 40, 3) := by decide +kernel
theorem dX10_led_15 : decode cX10_led 15 = .ok (.aload_n 0, 1) := by decide +kernel
theorem dX10_led_16 : decode cX10_led 16 = .ok (.getfield 32, 3) := by decide +kernel
theorem dX10_led_19 : decode cX10_led 19 = .ok (.getfield 186, 3) := by decide +kernel
theorem dX10_led_22 : decode cX10_led 22 = .ok (.iload_n 3, 1) := by decide +kernel
theorem dX10_led_23 : decode cX10_led 23 = .ok (.iaload, 1) := by decide +kernel
theorem dX10_led_24 : decode cX10_led 24 = .ok (.aload_n 0, 1) := by decide +kernel
theorem dX10_led_25 : decode cX10_led 25 = .ok (.getfield 19, 3) := by decide +kernel
theorem dX10_led_28 : decode cX10_led 28 = .ok (.getfield 301, 3) := by decide +kernel
theorem dX10_led_31 : decode cX10_led 31 = .ok (.iload_n 3, 1) := by decide +kernel
theorem dX10_led_32 : decode cX10_led 32 = .ok (.iaload, 1) := by decide +kernel
theorem dX10_led_33 : decode cX10_led 33 = .ok (.if_icmp .eq 13, 3) := by decide +kernel
theorem dX10_led_36 : decode cX10_led 36 = .ok (.iload_n 2, 1) := by decide +kernel
theorem dX10_led_37 : decode cX10_led 37 = .ok (.iload_n 1, 1) := by decide +kernel
theorem dX10_led_38 : decode cX10_led 38 = .ok (.if_icmp .ne 5, 3) := by decide +kernel
theorem dX10_led_41 : decode cX10_led 41 = .ok (.iload_n 3, 1) := by decide +kernel
theorem dX10_led_42 : decode cX10_led 42 = .ok (.ireturn, 1) := by decide +kernel
theorem dX10_led_43 : decode cX10_led 43 = .ok (.iinc 2 1, 3) := by decide +kernel
theorem dX10_led_46 : decode cX10_led 46 = .ok (.iinc 3 1, 3) := by decide +kernel
theorem dX10_led_49 : decode cX10_led 49 = .ok (.goto (-45), 3) := by decide +kernel
theorem dX10_led_52 : decode cX10_led 52 = .ok (.new 304, 3) := by decide +kernel
theorem dX10_size_0 : decode cX10_size 0 = .ok (.iload_n 1, 1) := by decide +kernel
theorem dX10_size_1 : decode cX10_size 1 = .ok (.tableswitch 165 0 11 #[63, 74, 85, 93, 101, 109, 117, 125, 133, 141, 146, 154], 63) := by decide +kernel
theorem dX10_size_64 : decode cX10_size 64 = .ok (.aload_n 0, 1) := by decide +kernel
theorem dX10_size_65 : decode cX10_size 65 = .ok (.getfield 19, 3) := by decide +kernel
theorem dX10_size_68 : decode cX10_size 68 = .ok (.getfield 105, 3) := by decide +kernel
theorem dX10_size_71 : decode cX10_size 71 = .ok (.getfield 307, 3) := by decide +kernel
theorem dX10_size_74 : decode cX10_size 74 = .ok (.ireturn, 1) := by decide +kernel
theorem dX10_size_75 : decode cX10_size 75 = .ok (.aload_n 0, 1) := by decide +kernel
theorem dX10_size_76 : decode cX10_size 76 = .ok (.getfield 19, 3) := by decide +kernel
theorem dX10_size_79 : decode cX10_size 79 = .ok (.getfield 105, 3) := by decide +kernel
theorem dX10_size_82 : decode cX10_size 82 = .ok (.getfield 310, 3) := by decide +kernel
theorem dX10_size_85 : decode cX10_size 85 = .ok (.ireturn, 1) := by decide +kernel
theorem dX10_size_86 : decode cX10_size 86 = .ok (.aload_n 0, 1) := by decide +kernel
theorem dX10_size_87 : decode cX10_size 87 = .ok (.getfield 19, 3) := by decide +kernel
theorem dX10_size_90 : decode cX10_size 90 = .ok (.getfield 313, 3) := by decide +kernel
theorem dX10_size_93 : decode cX10_size 93 = .ok (.ireturn, 1) := by decide +kernel
theorem dX10_size_94 : decode cX10_size 94 = .ok (.aload_n 0, 1) := by decide +kernel
theorem dX10_size_95 : decode cX10_size 95 = .ok (.getfield 19, 3) := by decide +kernel
theorem dX10_size_98 : decode cX10_size 98 = .ok (.getfield 139, 3) := by decide +kernel
theorem dX10_size_101 : decode cX10_size 101 = .ok (.ireturn, 1) := by decide +kernel
theorem dX10_size_102 : decode cX10_size 102 = .ok (.aload_n 0, 1) := by decide +kernel
theorem dX10_size_103 : decode cX10_size 103 = .ok (.getfield 19, 3) := by decide +kernel
theorem dX10_size_106 : decode cX10_size 106 = .ok (.getfield 92, 3) := by decide +kernel
theorem dX10_size_109 : decode cX10_size 109 = .ok (.ireturn, 1) := by decide +kernel
theorem dX10_size_110 : decode cX10_size 110 = .ok (.aload_n 0, 1) := by decide +kernel
theorem dX10_size_111 : decode cX10_size 111 = .ok (.getfield 19, 3) := by decide +kernel
theorem dX10_size_114 : decode cX10_size 114 = .ok (.getfield 316, 3) := by decide +kernel
theorem dX10_size_117 : decode cX10_size 117 = .ok (.ireturn, 1) := by decide +kernel
theorem dX10_size_118 : decode cX10_size 118 = .ok (.aload_n 0, 1) := by decide +kernel
theorem dX10_size_119 : decode cX10_size 119 = .ok (.getfield 19, 3) := by decide +kernel
theorem dX10_size_122 : decode cX10_size 122 = .ok (.getfield 172, 3) := by decide +kernel
theorem dX10_size_125 : decode cX10_size 125 = .ok (.ireturn, 1) := by decide +kernel
theorem dX10_size_126 : decode cX10_size 126 = .ok (.aload_n 0, 1) := by decide +kernel
theorem dX10_size_127 : decode cX10_size 127 = .ok (.getfield 32, 3) := by decide +kernel
theorem dX10_size_130 : decode cX10_size 130 = .ok (.getfield 175, 3) := by decide +kernel
theorem dX10_size_133 : decode cX10_size 133 = .ok (.ireturn, 1) := by decide +kernel
theorem dX10_size_134 : decode cX10_size 134 = .ok (.aload_n 0, 1) := by decide +kernel
theorem dX10_size_135 : decode cX10_size 135 = .ok (.getfield 43, 3) := by decide +kernel
theorem dX10_size_138 : decode cX10_size 138 = .ok (.getfield 256, 3) := by decide +kernel
theorem dX10_size_141 : decode cX10_size 141 = .ok (.ireturn, 1) := by decide +kernel
theorem dX10_size_142 : decode cX10_size 142 = .ok (.aload_n 0, 1) := by decide +kernel
theorem dX10_size_143 : decode cX10_size 143 = .ok (.getfield 242, 3) := by decide +kernel
theorem dX10_size_146 : decode cX10_size 146 = .ok (.ireturn, 1) := by decide +kernel
theorem dX10_size_147 : decode cX10_size 147 = .ok (.aload_n 0, 1) := by decide +kernel
theorem dX10_size_148 : decode cX10_size 148 = .ok (.getfield 32, 3) := by decide +kernel
theorem dX10_size_151 : decode cX10_size 151 = .ok (.getfield 319, 3) := by decide +kernel
theorem dX10_size_154 : decode cX10_size 154 = .ok (.ireturn, 1) := by decide +kernel
theorem dX10_size_155 : decode cX10_size 155 = .ok (.aload_n 0, 1) := by decide +kernel
theorem dX10_size_156 : decode cX10_size 156 = .ok (.getfield 12, 3) := by decide +kernel
theorem dX10_size_159 : decode cX10_size 159 = .ok (.getfield 54, 3) := by decide +kernel
theorem dX10_size_162 : decode cX10_size 162 = .ok (.getfield 58, 3) := by decide +kernel
theorem dX10_size_165 : decode cX10_size 165 = .ok (.ireturn, 1) := by decide +kernel
theorem dX10_size_166 : decode cX10_size 166 = .ok (.iconst (-1), 1) := by decide +kernel
theorem dX10_size_167 : decode cX10_size 167 = .ok (.ireturn, 1) := by decide +kernel
theorem dX10_trouble_0 : decode cX10_trouble 0 = .ok (.aload_n 0, 1) := by decide +kernel
theorem dX10_trouble_1 : decode cX10_trouble 1 = .ok (.getfield 98, 3) := by decide +kernel
theorem dX10_trouble_4 : decode cX10_trouble 4 = .ok (.ireturn, 1) := by decide +kernel
theorem dX12_thrown_0 : decode cX12_thrown 0 = .ok (.aload_n 0, 1) := by decide +kernel
theorem dX12_thrown_1 : decode cX12_thrown 1 = .ok (.getfield 71, 3) := by decide +kernel
theorem dX12_thrown_4 : decode cX12_thrown 4 = .ok (.ireturn, 1) := by decide +kernel
theorem dX12_refused_0 : decode cX12_refused 0 = .ok (.aload_n 0, 1) := by decide +kernel
theorem dX12_refused_1 : decode cX12_refused 1 = .ok (.iload_n 1, 1) := by decide +kernel
theorem dX12_refused_2 : decode cX12_refused 2 = .ok (.putfield 74, 3) := by decide +kernel
theorem dX12_refused_5 : decode cX12_refused 5 = .ok (.aload_n 0, 1) := by decide +kernel
theorem dX12_refused_6 : decode cX12_refused 6 = .ok (.iconst (-1), 1) := by decide +kernel
theorem dX12_refused_7 : decode cX12_refused 7 = .ok (.putfield 9, 3) := by decide +kernel
theorem dX12_refused_10 : decode cX12_refused 10 = .ok (.iconst (-1), 1) := by decide +kernel
theorem dX12_refused_11 : decode cX12_refused 11 = .ok (.ireturn, 1) := by decide +kernel
theorem dX12_denied_0 : decode cX12_denied 0 = .ok (.aload_n 0, 1) := by decide +kernel
theorem dX12_denied_1 : decode cX12_denied 1 = .ok (.iload_n 1, 1) := by decide +kernel
theorem dX12_denied_2 : decode cX12_denied 2 = .ok (.invokevirtual 77, 3) := by decide +kernel
theorem dX12_denied_5 : decode cX12_denied 5 = .ok (.pop, 1) := by decide +kernel
theorem dX12_denied_6 : decode cX12_denied 6 = .ok (.iconst 0, 1) := by decide +kernel
theorem dX12_denied_7 : decode cX12_denied 7 = .ok (.ireturn, 1) := by decide +kernel
theorem dX12_good_0 : decode cX12_good 0 = .ok (.aload_n 0, 1) := by decide +kernel
theorem dX12_good_1 : decode cX12_good 1 = .ok (.iconst 0, 1) := by decide +kernel
theorem dX12_good_2 : decode cX12_good 2 = .ok (.putfield 74, 3) := by decide +kernel
theorem dX12_good_5 : decode cX12_good 5 = .ok (.aload_n 0, 1) := by decide +kernel
theorem dX12_good_6 : decode cX12_good 6 = .ok (.iconst (-1), 1) := by decide +kernel
theorem dX12_good_7 : decode cX12_good 7 = .ok (.putfield 9, 3) := by decide +kernel
theorem dX12_good_10 : decode cX12_good 10 = .ok (.iload_n 1, 1) := by decide +kernel
theorem dX12_good_11 : decode cX12_good 11 = .ok (.ireturn, 1) := by decide +kernel
theorem dX12_granted_0 : decode cX12_granted 0 = .ok (.aload_n 0, 1) := by decide +kernel
theorem dX12_granted_1 : decode cX12_granted 1 = .ok (.iconst 0, 1) := by decide +kernel
theorem dX12_granted_2 : decode cX12_granted 2 = .ok (.invokevirtual 81, 3) := by decide +kernel
theorem dX12_granted_5 : decode cX12_granted 5 = .ok (.pop, 1) := by decide +kernel
theorem dX12_granted_6 : decode cX12_granted 6 = .ok (.iconst 1, 1) := by decide +kernel
theorem dX12_granted_7 : decode cX12_granted 7 = .ok (.ireturn, 1) := by decide +kernel
theorem dX12_in_0 : decode cX12_in 0 = .ok (.iload_n 0, 1) := by decide +kernel
theorem dX12_in_1 : decode cX12_in 1 = .ok (.iload_n 1, 1) := by decide +kernel
theorem dX12_in_2 : decode cX12_in 2 = .ok (.if_icmp .lt 12, 3) := by decide +kernel
theorem dX12_in_5 : decode cX12_in 5 = .ok (.iload_n 0, 1) := by decide +kernel
theorem dX12_in_6 : decode cX12_in 6 = .ok (.iload_n 2, 1) := by decide +kernel
theorem dX12_in_7 : decode cX12_in 7 = .ok (.if_icmp .gt 7, 3) := by decide +kernel
theorem dX12_in_10 : decode cX12_in 10 = .ok (.iconst 1, 1) := by decide +kernel
theorem dX12_in_11 : decode cX12_in 11 = .ok (.goto 4, 3) := by decide +kernel
theorem dX12_in_14 : decode cX12_in 14 = .ok (.iconst 0, 1) := by decide +kernel
theorem dX12_in_15 : decode cX12_in 15 = .ok (.ireturn, 1) := by decide +kernel
theorem dX12_has_0 : decode cX12_has 0 = .ok (.iload_n 0, 1) := by decide +kernel
theorem dX12_has_1 : decode cX12_has 1 = .ok (.iload_n 1, 1) := by decide +kernel
theorem dX12_has_2 : decode cX12_has 2 = .ok (.ishr, 1) := by decide +kernel
theorem dX12_has_3 : decode cX12_has 3 = .ok (.iconst 1, 1) := by decide +kernel
theorem dX12_has_4 : decode cX12_has 4 = .ok (.iand, 1) := by decide +kernel
theorem dX12_has_5 : decode cX12_has 5 = .ok (.iconst 1, 1) := by decide +kernel
theorem dX12_has_6 : decode cX12_has 6 = .ok (.if_icmp .ne 7, 3) := by decide +kernel
theorem dX12_has_9 : decode cX12_has 9 = .ok (.iconst 1, 1) := by decide +kernel
theorem dX12_has_10 : decode cX12_has 10 = .ok (.goto 4, 3) := by decide +kernel
theorem dX12_has_13 : decode cX12_has 13 = .ok (.iconst 0, 1) := by decide +kernel
theorem dX12_has_14 : decode cX12_has 14 = .ok (.ireturn, 1) := by decide +kernel
theorem dX12_bits_0 : decode cX12_bits 0 = .ok (.iconst 0, 1) := by decide +kernel
theorem dX12_bits_1 : decode cX12_bits 1 = .ok (.istore_n 1, 1) := by decide +kernel
theorem dX12_bits_2 : decode cX12_bits 2 = .ok (.iload_n 0, 1) := by decide +kernel
theorem dX12_bits_3 : decode cX12_bits 3 = .ok (.istore_n 2, 1) := by decide +kernel
theorem dX12_bits_4 : decode cX12_bits 4 = .ok (.iload_n 2, 1) := by decide +kernel
theorem dX12_bits_5 : decode cX12_bits 5 = .ok (.ifCond .eq 15, 3) := by decide +kernel
theorem dX12_bits_8 : decode cX12_bits 8 = .ok (.iinc 1 1, 3) := by decide +kernel
theorem dX12_bits_11 : decode cX12_bits 11 = .ok (.iload_n 2, 1) := by decide +kernel
theorem dX12_bits_12 : decode cX12_bits 12 = .ok (.iload_n 2, 1) := by decide +kernel
theorem dX12_bits_13 : decode cX12_bits 13 = .ok (.iconst 1, 1) := by decide +kernel
theorem dX12_bits_14 : decode cX12_bits 14 = .ok (.isub, 1) := by decide +kernel
theorem dX12_bits_15 : decode cX12_bits 15 = .ok (.iand, 1) := by decide +kernel
theorem dX12_bits_16 : decode cX12_bits 16 = .ok (.istore_n 2, 1) := by decide +kernel
theorem dX12_bits_17 : decode cX12_bits 17 = .ok (.goto (-13), 3) := by decide +kernel
theorem dX12_bits_20 : decode cX12_bits 20 = .ok (.iload_n 1, 1) := by decide +kernel
theorem dX12_bits_21 : decode cX12_bits 21 = .ok (.ireturn, 1) := by decide +kernel
def wX5_areSo (E : EN) (h h_book h_sort h_one h_other a1 a1_rows : Nat) (v_count : Int32) (v_book : Nat → Int32) (v_sort : Nat → Int32) (v_one : Nat → Int32) (v_a1_rows : Nat → Int64) (v_other : Nat → Int32) : va_W := [(h, .inr (5, [.ref h_book, .ref h_sort, .ref h_one, .ref h_other, .int v_count])), (h_book, aI E 20 v_book), (h_sort, aI E 20 v_sort), (h_one, aI E 20 v_one), (a1, .inr (3, [.ref a1_rows])), (a1_rows, aJ E 256 v_a1_rows), (h_other, aI E 20 v_other)]
def BX5_areSo_3 (v_count : Int32) (N : Nat) (p0 : Int32) (v_book : Nat → Int32) (p2 : Int32) (v_sort : Nat → Int32) (v_one : Nat → Int32) (v_a1_rows : Nat → Int64) (v_other : Nat → Int32) (rec3 : (Int32) → Option Int32) : (Int32) → Option Int32 := un1 fun (x3_4 : Int32) => if v_count ≤ x3_4 then (some 1) else (gd x3_4 20 ((fX10_isBitSet N p0.toInt64 (v_book x3_4.toNatClampNeg)).bind (un1 fun (r_21 : Int32) => jn (un0 (rec3 (x3_4 + 1))) (fun j40 => if r_21 = 0 then (j40 ()) else ((fX5_isSo N x3_4 p2 v_sort v_one v_a1_rows v_other).bind (un1 fun (r_32 : Int32) => if r_32 = 0 then (some 0) else (j40 ())))))))
def fX5_areSo (N : Nat) (p0 : Int32) (p2 : Int32) (v_count : Int32) (v_book : Nat → Int32) (v_sort : Nat → Int32) (v_one : Nat → Int32) (v_a1_rows : Nat → Int64) (v_other : Nat → Int32) : Option Int32 := lp (BX5_areSo_3 v_count N p0 v_book p2 v_sort v_one v_a1_rows v_other) N 0
set_option maxHeartbeats 4000000 in
set_option maxRecDepth 100000 in
theorem ctX5_areSo (l : Launch) (E : EN) (h h_book h_sort h_one h_other a1 a1_rows : Nat) (v_count : Int32) (v_book : Nat → Int32) (v_sort : Nat → Int32) (v_one : Nat → Int32) (v_a1_rows : Nat → Int64) (v_other : Nat → Int32) (N : Nat) (p0 : Int32) (p2 : Int32) (z0 : Int32) (hf : fX5_areSo N p0 p2 v_count v_book v_sort v_one v_a1_rows v_other = some z0) : CTi l E yX5_areSo cX5_areSo 5 .boolean 3 68 [.ref h, .int p0, .ref a1, .int p2] (wX5_areSo E h h_book h_sort h_one h_other a1 a1_rows v_count v_book v_sort v_one v_a1_rows v_other) z0 (wX5_areSo E h h_book h_sort h_one h_other a1 a1_rows v_count v_book v_sort v_one v_a1_rows v_other) := by
  intro sz
  refine ct_body (by decide) (Nat.le_of_ble_eq_true rfl) ?_
  intro p e s m args below meth c A ls hAe C hr hin hP hD hS hl
  have C : CX p s m args meth c cX5_areSo RX5 5 E A := C
  have hl : lv_has ls 5 [(0, .ref h), (1, .int p0), (2, .ref a1), (3, .int p2)] := hl
  have hx := C.1
  have hb := C.2.1
  rw [hAe]
  clear hAe
  obtain ⟨Q, hQ⟩ : ∃ Q, Q = MQ below (Qi E A z0 (wX5_areSo E h h_book h_sort h_one h_other a1 a1_rows v_count v_book v_sort v_one v_a1_rows v_other)) args s 0 0 A := ⟨_, rfl⟩
  rw [← hQ]
  unfold fX5_areSo at hf
  refine lv_iconst (v := 0) hx hb dX5_areSo_0 (by decide) ?_
  refine lv_istore (lv' := [(4, .int 0), (0, .ref h), (1, .int p0), (2, .ref a1), (3, .int p2)]) hx hb dX5_areSo_1 hl (by decide) rfl (fun ls hl => ?_)
  have key3 : ∀ (n : Nat) (x3_4 : Int32) , lp (BX5_areSo_3 v_count N p0 v_book p2 v_sort v_one v_a1_rows v_other) n x3_4 = some z0 → AT p l e (rmOf 3 68) s m args below meth c E A Q 0 0 5 [(0, .ref h), (1, .int p0), (2, .ref a1), (3, .int p2), (4, .int x3_4)] (wX5_areSo E h h_book h_sort h_one h_other a1 a1_rows v_count v_book v_sort v_one v_a1_rows v_other) 3 [] := by
    intro n
    induction n with
    | zero => intro x3_4 hf; exact (lp_0 hf).elim
    | succ n ih3 =>
      intro x3_4 hf H locs ls hl hP hD hS
      replace hf := lp_s hf
      generalize lp (BX5_areSo_3 v_count N p0 v_book p2 v_sort v_one v_a1_rows v_other) n = rec3 at ih3 hf
      unfold BX5_areSo_3 at hf
      replace hf := un1_s hf
      refine lv_iload hx hb dX5_areSo_3 (lv_at hl 4 rfl) ?_
      refine lv_aload_n hx hb dX5_areSo_5 rfl (lv_at hl 0 rfl) ?_
      refine r_get C hP 0 rfl fl_X5_24 rfl dX5_areSo_6 ?_
      refine lv_icmp_ge (tgt := 46) hx hb dX5_areSo_9 (by decide) (fun c_9 => ?_) (fun c_9 => ?_)
      · replace hf := it_t c_9 hf
        refine lv_iconst (v := 1) hx hb dX5_areSo_46 (by decide) ?_
        cases hf
        rw [hQ]
        exact r_zret C hr hP hD hS (Or.inr rfl) rfl dX5_areSo_47
      · replace hf := it_f c_9 hf
        refine lv_iload_n hx hb dX5_areSo_12 rfl (lv_at hl 1 rfl) ?_
        refine lv_i2l (v := p0.toInt64) hx hb dX5_areSo_13 rfl ?_
        refine lv_aload_n hx hb dX5_areSo_14 rfl (lv_at hl 0 rfl) ?_
        refine r_get C hP 0 rfl fl_X5_9 rfl dX5_areSo_15 ?_
        refine lv_iload hx hb dX5_areSo_18 (lv_at hl 4 rfl) ?_
        obtain ⟨hi_20, hf⟩ := gd_s hf
        refine r_iald C hP 1 rfl hi_20 dX5_areSo_20 ?_
        obtain ⟨r_21, hc_21, hf⟩ := bd1 hf
        refine r_callSi (ws' := (wX5_areSo E h h_book h_sort h_one h_other a1 a1_rows v_count v_book v_sort v_one v_a1_rows v_other)) (As := [.long p0.toInt64, .int (v_book x3_4.toNatClampNeg)]) (rest := []) C (ctX10_isBitSet l E N p0.toInt64 (v_book x3_4.toNatClampNeg) r_21 hc_21) ml_X5_28 ⟨Nat.le_of_ble_eq_true rfl, Nat.le_of_ble_eq_true rfl⟩ hP hD hS [] rfl rfl rfl rfl rfl hl.1 rfl (Nat.le_of_ble_eq_true rfl) ⟨Nat.zero_le _, Nat.zero_le _⟩ dX5_areSo_21 ?_
        clear hP hD hS; intro H locs hP hD hS
        refine jnK hf (fun j40 ej40 hf => ?_)
        have hj40 : j40 () = some z0 → AT p l e (rmOf 3 68) s m args below meth c E A Q 0 0 5 [(0, .ref h), (1, .int p0), (2, .ref a1), (3, .int p2), (4, .int x3_4)] (wX5_areSo E h h_book h_sort h_one h_other a1 a1_rows v_count v_book v_sort v_one v_a1_rows v_other) 40 [] := by
          intro  hf H locs ls hl hP hD hS
          rw [ej40] at hf
          replace hf := un0_s hf
          refine lv_iinc (v := x3_4 + 1) (lv' := [(4, .int (x3_4 + 1)), (0, .ref h), (1, .int p0), (2, .ref a1), (3, .int p2)]) hx hb dX5_areSo_40 hl (k := 4) rfl rfl (by decide) rfl (fun ls hl => ?_)
          refine lv_goto (tgt := 3) hx hb dX5_areSo_43 (by decide) ?_
          exact ih3 (x3_4 + 1) hf _ _ _ (lv_sub hl [1, 2, 3, 4, 0] rfl) hP hD hS
        clear ej40
        refine lv_if_eq (tgt := 40) hx hb dX5_areSo_24 (by decide) (fun c_24 => ?_) (fun c_24 => ?_)
        · replace hf := it_t c_24 hf
          exact hj40  hf _ _ _ (lv_sub hl [0, 1, 2, 3, 4] rfl) hP hD hS
        · replace hf := it_f c_24 hf
          refine lv_aload_n hx hb dX5_areSo_27 rfl (lv_at hl 0 rfl) ?_
          refine lv_iload hx hb dX5_areSo_28 (lv_at hl 4 rfl) ?_
          refine lv_aload_n hx hb dX5_areSo_30 rfl (lv_at hl 2 rfl) ?_
          refine lv_iload_n hx hb dX5_areSo_31 rfl (lv_at hl 3 rfl) ?_
          obtain ⟨r_32, hc_32, hf⟩ := bd1 hf
          refine r_callVi (ws' := (wX5_areSo E h h_book h_sort h_one h_other a1 a1_rows v_count v_book v_sort v_one v_a1_rows v_other)) (As := [.int x3_4, .ref a1, .int p2]) (rest := []) C (ctX5_isSo l E h h_book h_sort h_one h_other a1 a1_rows v_count v_sort v_one v_a1_rows v_other N x3_4 p2 r_32 hc_32) ml_X5_32 ⟨Nat.le_of_ble_eq_true rfl, Nat.le_of_ble_eq_true rfl⟩ hP hD hS 0 rfl rfl rfl [0, 2, 3, 4, 5, 6] rfl rfl rfl rfl rfl hl.1 rfl (Nat.le_of_ble_eq_true rfl) ⟨Nat.zero_le _, Nat.zero_le _⟩ dX5_areSo_32 ?_
          clear hP hD hS; intro H locs hP hD hS
          refine lv_if_ne (tgt := 40) hx hb dX5_areSo_35 (by decide) (fun c_35 => ?_) (fun c_35 => ?_)
          · replace hf := it_f c_35 hf
            exact hj40  hf _ _ _ (lv_sub hl [0, 1, 2, 3, 4] rfl) hP hD hS
          · replace hf := it_t c_35 hf
            refine lv_iconst (v := 0) hx hb dX5_areSo_38 (by decide) ?_
            cases hf
            rw [hQ]
            exact r_zret C hr hP hD hS (Or.inl rfl) rfl dX5_areSo_39
  exact key3 _ 0 hf _ _ _ (lv_sub hl [1, 2, 3, 4, 0] rfl) hP hD hS
def wX0_gather (E : EN) (h h_trial h_inn h_dreams h_plain h_set h_tried h_kin h_fitters a0 a0_book a0_sort a0_one a0_other h_plain_rows : Nat) (v_count : Int32) (v_fitting : Int32) (v_a0_count : Int32) (v_a0_book : Nat → Int32) (v_a0_sort : Nat → Int32) (v_a0_one : Nat → Int32) (v_plain_rows : Nat → Int64) (v_a0_other : Nat → Int32) (v_fitters : Nat → Int32) : va_W := [(h, .inr (0, [.ref h_trial, .ref h_inn, .int v_count, .ref h_dreams, .ref h_plain, .ref h_set, .ref h_tried, .ref h_kin, .int v_fitting, .ref h_fitters])), (a0, .inr (5, [.ref a0_book, .ref a0_sort, .ref a0_one, .ref a0_other, .int v_a0_count])), (a0_book, aI E 20 v_a0_book), (a0_sort, aI E 20 v_a0_sort), (a0_one, aI E 20 v_a0_one), (h_plain, .inr (3, [.ref h_plain_rows])), (h_plain_rows, aJ E 256 v_plain_rows), (a0_other, aI E 20 v_a0_other), (h_fitters, aI E 64 v_fitters)]
def BX0_gather_7 (v_count : Int32) (N : Nat) (p1 : Int32) (v_a0_count : Int32) (v_a0_book : Nat → Int32) (v_a0_sort : Nat → Int32) (v_a0_one : Nat → Int32) (v_plain_rows : Nat → Int64) (v_a0_other : Nat → Int32) (rec7 : (Int32 × Int32 × (Nat → Int32)) → Option (Int32 × Int32 × (Nat → Int32))) : (Int32 × Int32 × (Nat → Int32)) → Option (Int32 × Int32 × (Nat → Int32)) := un3 fun (x7_3 : Int32) (x7_fitting : Int32) (x7_fitters : Nat → Int32) => if v_count ≤ x7_3 then (some (x7_fitting, x7_fitting, x7_fitters)) else ((fX5_areSo N p1 x7_3 v_a0_count v_a0_book v_a0_sort v_a0_one v_plain_rows v_a0_other).bind (un1 fun (r_22 : Int32) => jn (un2 fun (x48_fitting : Int32) (x48_fitters : Nat → Int32) => rec7 (x7_3 + 1, x48_fitting, x48_fitters)) (fun j48 => if r_22 = 0 then (j48 (x7_fitting, x7_fitters)) else (gd x7_fitting 64 (j48 (x7_fitting + 1, upd x7_fitters x7_fitting.toNatClampNeg x7_3))))))
def fX0_gather (N : Nat) (p1 : Int32) (v_count : Int32) (v_a0_count : Int32) (v_a0_book : Nat → Int32) (v_a0_sort : Nat → Int32) (v_a0_one : Nat → Int32) (v_plain_rows : Nat → Int64) (v_a0_other : Nat → Int32) (v_fitters : Nat → Int32) : Option (Int32 × Int32 × (Nat → Int32)) := lp (BX0_gather_7 v_count N p1 v_a0_count v_a0_book v_a0_sort v_a0_one v_plain_rows v_a0_other) N (0, 0, v_fitters)
set_option maxHeartbeats 4000000 in
set_option maxRecDepth 100000 in
theorem ctX0_gather (l : Launch) (E : EN) (h h_trial h_inn h_dreams h_plain h_set h_tried h_kin h_fitters a0 a0_book a0_sort a0_one a0_other h_plain_rows : Nat) (v_count : Int32) (v_fitting : Int32) (v_a0_count : Int32) (v_a0_book : Nat → Int32) (v_a0_sort : Nat → Int32) (v_a0_one : Nat → Int32) (v_plain_rows : Nat → Int64) (v_a0_other : Nat → Int32) (v_fitters : Nat → Int32) (N : Nat) (p1 : Int32) (z0 : Int32) (z1 : Int32) (z2 : Nat → Int32) (hf : fX0_gather N p1 v_count v_a0_count v_a0_book v_a0_sort v_a0_one v_plain_rows v_a0_other v_fitters = some (z0, z1, z2)) : CTi l E yX0_gather cX0_gather 4 .int 4 92 [.ref h, .ref a0, .int p1] (wX0_gather E h h_trial h_inn h_dreams h_plain h_set h_tried h_kin h_fitters a0 a0_book a0_sort a0_one a0_other h_plain_rows v_count v_fitting v_a0_count v_a0_book v_a0_sort v_a0_one v_plain_rows v_a0_other v_fitters) z0 (wX0_gather E h h_trial h_inn h_dreams h_plain h_set h_tried h_kin h_fitters a0 a0_book a0_sort a0_one a0_other h_plain_rows v_count z1 v_a0_count v_a0_book v_a0_sort v_a0_one v_plain_rows v_a0_other z2) := by
  intro sz
  refine ct_body (by decide) (Nat.le_of_ble_eq_true rfl) ?_
  intro p e s m args below meth c A ls hAe C hr hin hP hD hS hl
  have C : CX p s m args meth c cX0_gather RX0 4 E A := C
  have hl : lv_has ls 4 [(0, .ref h), (1, .ref a0), (2, .int p1)] := hl
  have hx := C.1
  have hb := C.2.1
  rw [hAe]
  clear hAe
  obtain ⟨Q, hQ⟩ : ∃ Q, Q = MQ below (Qi E A z0 (wX0_gather E h h_trial h_inn h_dreams h_plain h_set h_tried h_kin h_fitters a0 a0_book a0_sort a0_one a0_other h_plain_rows v_count z1 v_a0_count v_a0_book v_a0_sort v_a0_one v_plain_rows v_a0_other z2)) args s 0 0 A := ⟨_, rfl⟩
  rw [← hQ]
  unfold fX0_gather at hf
  refine lv_aload_n hx hb dX0_gather_0 rfl (lv_at hl 0 rfl) ?_
  refine lv_iconst (v := 0) hx hb dX0_gather_1 (by decide) ?_
  refine r_put (ws' := (wX0_gather E h h_trial h_inn h_dreams h_plain h_set h_tried h_kin h_fitters a0 a0_book a0_sort a0_one a0_other h_plain_rows v_count 0 v_a0_count v_a0_book v_a0_sort v_a0_one v_plain_rows v_a0_other v_fitters)) C hP hD hS 0 rfl fl_X0_91 rfl rfl (by decide) rfl dX0_gather_2 ?_
  clear hP hD hS; intro H locs hP hD hS
  refine lv_iconst (v := 0) hx hb dX0_gather_5 (by decide) ?_
  refine lv_istore_n (lv' := [(3, .int 0), (0, .ref h), (1, .ref a0), (2, .int p1)]) hx hb dX0_gather_6 rfl hl (by decide) rfl (fun ls hl => ?_)
  have key7 : ∀ (n : Nat) (x7_3 : Int32) (x7_fitting : Int32) (x7_fitters : Nat → Int32) , lp (BX0_gather_7 v_count N p1 v_a0_count v_a0_book v_a0_sort v_a0_one v_plain_rows v_a0_other) n (x7_3, x7_fitting, x7_fitters) = some (z0, z1, z2) → AT p l e (rmOf 4 92) s m args below meth c E A Q 0 0 4 [(0, .ref h), (1, .ref a0), (2, .int p1), (3, .int x7_3)] (wX0_gather E h h_trial h_inn h_dreams h_plain h_set h_tried h_kin h_fitters a0 a0_book a0_sort a0_one a0_other h_plain_rows v_count x7_fitting v_a0_count v_a0_book v_a0_sort v_a0_one v_plain_rows v_a0_other x7_fitters) 7 [] := by
    intro n
    induction n with
    | zero => intro x7_3 x7_fitting x7_fitters hf; exact (lp_0 hf).elim
    | succ n ih7 =>
      intro x7_3 x7_fitting x7_fitters hf H locs ls hl hP hD hS
      replace hf := lp_s hf
      generalize lp (BX0_gather_7 v_count N p1 v_a0_count v_a0_book v_a0_sort v_a0_one v_plain_rows v_a0_other) n = rec7 at ih7 hf
      unfold BX0_gather_7 at hf
      replace hf := un3_s hf
      refine lv_iload_n hx hb dX0_gather_7 rfl (lv_at hl 3 rfl) ?_
      refine lv_aload_n hx hb dX0_gather_8 rfl (lv_at hl 0 rfl) ?_
      refine r_get C hP 0 rfl fl_X0_48 rfl dX0_gather_9 ?_
      refine lv_icmp_ge (tgt := 54) hx hb dX0_gather_12 (by decide) (fun c_12 => ?_) (fun c_12 => ?_)
      · replace hf := it_t c_12 hf
        refine lv_aload_n hx hb dX0_gather_54 rfl (lv_at hl 0 rfl) ?_
        refine r_get C hP 0 rfl fl_X0_91 rfl dX0_gather_55 ?_
        cases hf
        rw [hQ]
        exact r_iret C hr hP hD hS rfl dX0_gather_58
      · replace hf := it_f c_12 hf
        refine lv_aload_n hx hb dX0_gather_15 rfl (lv_at hl 1 rfl) ?_
        refine lv_iload_n hx hb dX0_gather_16 rfl (lv_at hl 2 rfl) ?_
        refine lv_aload_n hx hb dX0_gather_17 rfl (lv_at hl 0 rfl) ?_
        refine r_get C hP 0 rfl fl_X0_18 rfl dX0_gather_18 ?_
        refine lv_iload_n hx hb dX0_gather_21 rfl (lv_at hl 3 rfl) ?_
        obtain ⟨r_22, hc_22, hf⟩ := bd1 hf
        refine r_callVi (ws' := (wX0_gather E h h_trial h_inn h_dreams h_plain h_set h_tried h_kin h_fitters a0 a0_book a0_sort a0_one a0_other h_plain_rows v_count x7_fitting v_a0_count v_a0_book v_a0_sort v_a0_one v_plain_rows v_a0_other x7_fitters)) (As := [.int p1, .ref h_plain, .int x7_3]) (rest := []) C (ctX5_areSo l E a0 a0_book a0_sort a0_one a0_other h_plain h_plain_rows v_a0_count v_a0_book v_a0_sort v_a0_one v_plain_rows v_a0_other N p1 x7_3 r_22 hc_22) ml_X0_94 ⟨Nat.le_of_ble_eq_true rfl, Nat.le_of_ble_eq_true rfl⟩ hP hD hS 1 rfl rfl rfl [1, 2, 3, 4, 5, 6, 7] rfl rfl rfl rfl rfl hl.1 rfl (Nat.le_of_ble_eq_true rfl) ⟨Nat.zero_le _, Nat.zero_le _⟩ dX0_gather_22 ?_
        clear hP hD hS; intro H locs hP hD hS
        refine jnK hf (fun j48 ej48 hf => ?_)
        have hj48 : ∀ (x48_fitting : Int32) (x48_fitters : Nat → Int32) , j48 (x48_fitting, x48_fitters) = some (z0, z1, z2) → AT p l e (rmOf 4 92) s m args below meth c E A Q 0 0 4 [(0, .ref h), (1, .ref a0), (2, .int p1), (3, .int x7_3)] (wX0_gather E h h_trial h_inn h_dreams h_plain h_set h_tried h_kin h_fitters a0 a0_book a0_sort a0_one a0_other h_plain_rows v_count x48_fitting v_a0_count v_a0_book v_a0_sort v_a0_one v_plain_rows v_a0_other x48_fitters) 48 [] := by
          intro x48_fitting x48_fitters hf H locs ls hl hP hD hS
          rw [ej48] at hf
          replace hf := un2_s hf
          refine lv_iinc (v := x7_3 + 1) (lv' := [(3, .int (x7_3 + 1)), (0, .ref h), (1, .ref a0), (2, .int p1)]) hx hb dX0_gather_48 hl (k := 3) rfl rfl (by decide) rfl (fun ls hl => ?_)
          refine lv_goto (tgt := 7) hx hb dX0_gather_51 (by decide) ?_
          exact ih7 (x7_3 + 1) x48_fitting x48_fitters hf _ _ _ (lv_sub hl [1, 2, 3, 0] rfl) hP hD hS
        clear ej48
        refine lv_if_eq (tgt := 48) hx hb dX0_gather_25 (by decide) (fun c_25 => ?_) (fun c_25 => ?_)
        · replace hf := it_t c_25 hf
          exact hj48 x7_fitting x7_fitters hf _ _ _ (lv_sub hl [0, 1, 2, 3] rfl) hP hD hS
        · replace hf := it_f c_25 hf
          refine lv_aload_n hx hb dX0_gather_28 rfl (lv_at hl 0 rfl) ?_
          refine r_get C hP 0 rfl fl_X0_32 rfl dX0_gather_29 ?_
          refine lv_aload_n hx hb dX0_gather_32 rfl (lv_at hl 0 rfl) ?_
          refine r_get C hP 0 rfl fl_X0_91 rfl dX0_gather_33 ?_
          refine lv_iload_n hx hb dX0_gather_36 rfl (lv_at hl 3 rfl) ?_
          obtain ⟨hi_37, hf⟩ := gd_s hf
          refine r_iast (ws' := (wX0_gather E h h_trial h_inn h_dreams h_plain h_set h_tried h_kin h_fitters a0 a0_book a0_sort a0_one a0_other h_plain_rows v_count x7_fitting v_a0_count v_a0_book v_a0_sort v_a0_one v_plain_rows v_a0_other (upd x7_fitters x7_fitting.toNatClampNeg x7_3))) C hP hD hS 8 rfl hi_37 rfl dX0_gather_37 ?_
          clear hP hD hS; intro H locs hP hD hS
          refine lv_aload_n hx hb dX0_gather_38 rfl (lv_at hl 0 rfl) ?_
          refine lv_dup hx hb dX0_gather_39 rfl ?_
          refine r_get C hP 0 rfl fl_X0_91 rfl dX0_gather_40 ?_
          refine lv_iconst (v := 1) hx hb dX0_gather_43 (by decide) ?_
          refine lv_iadd hx hb dX0_gather_44 ?_
          refine r_put (ws' := (wX0_gather E h h_trial h_inn h_dreams h_plain h_set h_tried h_kin h_fitters a0 a0_book a0_sort a0_one a0_other h_plain_rows v_count (x7_fitting + 1) v_a0_count v_a0_book v_a0_sort v_a0_one v_plain_rows v_a0_other (upd x7_fitters x7_fitting.toNatClampNeg x7_3))) C hP hD hS 0 rfl fl_X0_91 rfl rfl (by decide) rfl dX0_gather_45 ?_
          clear hP hD hS; intro H locs hP hD hS
          exact hj48 (x7_fitting + 1) (upd x7_fitters x7_fitting.toNatClampNeg x7_3) hf _ _ _ (lv_sub hl [0, 1, 2, 3] rfl) hP hD hS
  exact key7 _ 0 0 v_fitters hf _ _ _ (lv_sub hl [1, 2, 3, 0] rfl) hP hD hS
def wX10_fits (E : EN) (h h_reader h_inn h_chosen h_night h_marks h_notes h_casts h_inn_house h_inn_thingIn h_inn_full h_inn_states h_inn_bed h_inn_dreamOf h_inn_listensIn h_casts_trial h_casts_dreams h_casts_plain h_casts_set h_casts_tried h_casts_kin h_casts_fitters h_notes_book h_notes_sort h_notes_one h_notes_other h_casts_plain_rows : Nat) (v_marked : Int32) (v_refusal : Int32) (v_latestFault : Int32) (v_faultPlace : Int32) (v_inn_minutes : Int32) (v_inn_things : Int32) (v_inn_dreams : Int32) (v_inn_sleepers : Int32) (v_inn_listeners : Int32) (v_casts_count : Int32) (v_casts_fitting : Int32) (v_notes_count : Int32) (v_notes_book : Nat → Int32) (v_notes_sort : Nat → Int32) (v_notes_one : Nat → Int32) (v_casts_plain_rows : Nat → Int64) (v_notes_other : Nat → Int32) (v_casts_fitters : Nat → Int32) : va_W := [(h, .inr (9, [.ref h_reader, .ref h_inn, .ref h_chosen, .ref h_night, .ref h_marks, .int v_marked, .ref h_notes, .ref h_casts, .int v_refusal, .int v_latestFault, .int v_faultPlace])), (h_inn, .inr (2, [.ref h_inn_house, .int v_inn_minutes, .int v_inn_things, .ref h_inn_thingIn, .ref h_inn_full, .int v_inn_dreams, .ref h_inn_states, .int v_inn_sleepers, .ref h_inn_bed, .ref h_inn_dreamOf, .int v_inn_listeners, .ref h_inn_listensIn])), (h_casts, .inr (0, [.ref h_casts_trial, .ref h_inn, .int v_casts_count, .ref h_casts_dreams, .ref h_casts_plain, .ref h_casts_set, .ref h_casts_tried, .ref h_casts_kin, .int v_casts_fitting, .ref h_casts_fitters])), (h_notes, .inr (5, [.ref h_notes_book, .ref h_notes_sort, .ref h_notes_one, .ref h_notes_other, .int v_notes_count])), (h_notes_book, aI E 20 v_notes_book), (h_notes_sort, aI E 20 v_notes_sort), (h_notes_one, aI E 20 v_notes_one), (h_casts_plain, .inr (3, [.ref h_casts_plain_rows])), (h_casts_plain_rows, aJ E 256 v_casts_plain_rows), (h_notes_other, aI E 20 v_notes_other), (h_casts_fitters, aI E 64 v_casts_fitters)]
def fX10_fits (N : Nat) (p0 : Int32) (v_inn_minutes : Int32) (v_casts_count : Int32) (v_casts_fitting : Int32) (v_notes_count : Int32) (v_notes_book : Nat → Int32) (v_notes_sort : Nat → Int32) (v_notes_one : Nat → Int32) (v_casts_plain_rows : Nat → Int64) (v_notes_other : Nat → Int32) (v_casts_fitters : Nat → Int32) : Option (Int32 × Int32 × Int32 × (Nat → Int32)) := (fX10_isTold N v_inn_minutes).bind (un1 fun (r_1 : Int32) => if r_1 = 0 then ((fX10_refuse N 1).bind (un2 fun (r_9 : Int32) (v_refusal_9 : Int32) => some (r_9, v_refusal_9, v_casts_fitting, v_casts_fitters))) else ((fX10_areBooks N p0).bind (un1 fun (r_14 : Int32) => if r_14 = 0 then ((fX10_refuse N 2).bind (un2 fun (r_22 : Int32) (v_refusal_22 : Int32) => some (r_22, v_refusal_22, v_casts_fitting, v_casts_fitters))) else ((fX0_gather N p0 v_casts_count v_notes_count v_notes_book v_notes_sort v_notes_one v_casts_plain_rows v_notes_other v_casts_fitters).bind (un3 fun (r_36 : Int32) (v_casts_fitting_36 : Int32) (v_casts_fitters_36 : Nat → Int32) => (fX10_answer N r_36).bind (un2 fun (r_39 : Int32) (v_refusal_39 : Int32) => some (r_39, v_refusal_39, v_casts_fitting_36, v_casts_fitters_36)))))))
set_option maxHeartbeats 4000000 in
set_option maxRecDepth 100000 in
theorem ctX10_fits (l : Launch) (E : EN) (h h_reader h_inn h_chosen h_night h_marks h_notes h_casts h_inn_house h_inn_thingIn h_inn_full h_inn_states h_inn_bed h_inn_dreamOf h_inn_listensIn h_casts_trial h_casts_dreams h_casts_plain h_casts_set h_casts_tried h_casts_kin h_casts_fitters h_notes_book h_notes_sort h_notes_one h_notes_other h_casts_plain_rows : Nat) (v_marked : Int32) (v_refusal : Int32) (v_latestFault : Int32) (v_faultPlace : Int32) (v_inn_minutes : Int32) (v_inn_things : Int32) (v_inn_dreams : Int32) (v_inn_sleepers : Int32) (v_inn_listeners : Int32) (v_casts_count : Int32) (v_casts_fitting : Int32) (v_notes_count : Int32) (v_notes_book : Nat → Int32) (v_notes_sort : Nat → Int32) (v_notes_one : Nat → Int32) (v_casts_plain_rows : Nat → Int64) (v_notes_other : Nat → Int32) (v_casts_fitters : Nat → Int32) (N : Nat) (p0 : Int32) (z0 : Int32) (z1 : Int32) (z2 : Int32) (z3 : Nat → Int32) (hf : fX10_fits N p0 v_inn_minutes v_casts_count v_casts_fitting v_notes_count v_notes_book v_notes_sort v_notes_one v_casts_plain_rows v_notes_other v_casts_fitters = some (z0, z1, z2, z3)) : CTi l E yX10_fits cX10_fits 2 .int 5 115 [.ref h, .int p0] (wX10_fits E h h_reader h_inn h_chosen h_night h_marks h_notes h_casts h_inn_house h_inn_thingIn h_inn_full h_inn_states h_inn_bed h_inn_dreamOf h_inn_listensIn h_casts_trial h_casts_dreams h_casts_plain h_casts_set h_casts_tried h_casts_kin h_casts_fitters h_notes_book h_notes_sort h_notes_one h_notes_other h_casts_plain_rows v_marked v_refusal v_latestFault v_faultPlace v_inn_minutes v_inn_things v_inn_dreams v_inn_sleepers v_inn_listeners v_casts_count v_casts_fitting v_notes_count v_notes_book v_notes_sort v_notes_one v_casts_plain_rows v_notes_other v_casts_fitters) z0 (wX10_fits E h h_reader h_inn h_chosen h_night h_marks h_notes h_casts h_inn_house h_inn_thingIn h_inn_full h_inn_states h_inn_bed h_inn_dreamOf h_inn_listensIn h_casts_trial h_casts_dreams h_casts_plain h_casts_set h_casts_tried h_casts_kin h_casts_fitters h_notes_book h_notes_sort h_notes_one h_notes_other h_casts_plain_rows v_marked z1 v_latestFault v_faultPlace v_inn_minutes v_inn_things v_inn_dreams v_inn_sleepers v_inn_listeners v_casts_count z2 v_notes_count v_notes_book v_notes_sort v_notes_one v_casts_plain_rows v_notes_other z3) := by
  intro sz
  refine ct_body (by decide) (Nat.le_of_ble_eq_true rfl) ?_
  intro p e s m args below meth c A ls hAe C hr hin hP hD hS hl
  have C : CX p s m args meth c cX10_fits RX10 2 E A := C
  have hl : lv_has ls 2 [(0, .ref h), (1, .int p0)] := hl
  have hx := C.1
  have hb := C.2.1
  rw [hAe]
  clear hAe
  obtain ⟨Q, hQ⟩ : ∃ Q, Q = MQ below (Qi E A z0 (wX10_fits E h h_reader h_inn h_chosen h_night h_marks h_notes h_casts h_inn_house h_inn_thingIn h_inn_full h_inn_states h_inn_bed h_inn_dreamOf h_inn_listensIn h_casts_trial h_casts_dreams h_casts_plain h_casts_set h_casts_tried h_casts_kin h_casts_fitters h_notes_book h_notes_sort h_notes_one h_notes_other h_casts_plain_rows v_marked z1 v_latestFault v_faultPlace v_inn_minutes v_inn_things v_inn_dreams v_inn_sleepers v_inn_listeners v_casts_count z2 v_notes_count v_notes_book v_notes_sort v_notes_one v_casts_plain_rows v_notes_other z3)) args s 0 0 A := ⟨_, rfl⟩
  rw [← hQ]
  unfold fX10_fits at hf
  refine lv_aload_n hx hb dX10_fits_0 rfl (lv_at hl 0 rfl) ?_
  obtain ⟨r_1, hc_1, hf⟩ := bd1 hf
  refine r_callVi (ws' := (wX10_fits E h h_reader h_inn h_chosen h_night h_marks h_notes h_casts h_inn_house h_inn_thingIn h_inn_full h_inn_states h_inn_bed h_inn_dreamOf h_inn_listensIn h_casts_trial h_casts_dreams h_casts_plain h_casts_set h_casts_tried h_casts_kin h_casts_fitters h_notes_book h_notes_sort h_notes_one h_notes_other h_casts_plain_rows v_marked v_refusal v_latestFault v_faultPlace v_inn_minutes v_inn_things v_inn_dreams v_inn_sleepers v_inn_listeners v_casts_count v_casts_fitting v_notes_count v_notes_book v_notes_sort v_notes_one v_casts_plain_rows v_notes_other v_casts_fitters)) (As := []) (rest := []) C (ctX10_isTold l E h h_reader h_inn h_chosen h_night h_marks h_notes h_casts h_inn_house h_inn_thingIn h_inn_full h_inn_states h_inn_bed h_inn_dreamOf h_inn_listensIn v_marked v_refusal v_latestFault v_faultPlace v_inn_minutes v_inn_things v_inn_dreams v_inn_sleepers v_inn_listeners N r_1 hc_1) ml_X10_170 ⟨Nat.le_of_ble_eq_true rfl, Nat.le_of_ble_eq_true rfl⟩ hP hD hS 0 rfl rfl rfl [0, 1] rfl rfl rfl rfl rfl hl.1 rfl (Nat.le_of_ble_eq_true rfl) ⟨Nat.zero_le _, Nat.zero_le _⟩ dX10_fits_1 ?_
  clear hP hD hS; intro H locs hP hD hS
  refine lv_if_ne (tgt := 13) hx hb dX10_fits_4 (by decide) (fun c_4 => ?_) (fun c_4 => ?_)
  · replace hf := it_f c_4 hf
    refine lv_iload_n hx hb dX10_fits_13 rfl (lv_at hl 1 rfl) ?_
    obtain ⟨r_14, hc_14, hf⟩ := bd1 hf
    refine r_callSi (ws' := (wX10_fits E h h_reader h_inn h_chosen h_night h_marks h_notes h_casts h_inn_house h_inn_thingIn h_inn_full h_inn_states h_inn_bed h_inn_dreamOf h_inn_listensIn h_casts_trial h_casts_dreams h_casts_plain h_casts_set h_casts_tried h_casts_kin h_casts_fitters h_notes_book h_notes_sort h_notes_one h_notes_other h_casts_plain_rows v_marked v_refusal v_latestFault v_faultPlace v_inn_minutes v_inn_things v_inn_dreams v_inn_sleepers v_inn_listeners v_casts_count v_casts_fitting v_notes_count v_notes_book v_notes_sort v_notes_one v_casts_plain_rows v_notes_other v_casts_fitters)) (As := [.int p0]) (rest := []) C (ctX10_areBooks l E N p0 r_14 hc_14) ml_X10_259 ⟨Nat.le_of_ble_eq_true rfl, Nat.le_of_ble_eq_true rfl⟩ hP hD hS [] rfl rfl rfl rfl rfl hl.1 rfl (Nat.le_of_ble_eq_true rfl) ⟨Nat.zero_le _, Nat.zero_le _⟩ dX10_fits_14 ?_
    clear hP hD hS; intro H locs hP hD hS
    refine lv_if_ne (tgt := 26) hx hb dX10_fits_17 (by decide) (fun c_17 => ?_) (fun c_17 => ?_)
    · replace hf := it_f c_17 hf
      refine lv_aload_n hx hb dX10_fits_26 rfl (lv_at hl 0 rfl) ?_
      refine lv_aload_n hx hb dX10_fits_27 rfl (lv_at hl 0 rfl) ?_
      refine r_get C hP 0 rfl fl_X10_50 rfl dX10_fits_28 ?_
      refine lv_aload_n hx hb dX10_fits_31 rfl (lv_at hl 0 rfl) ?_
      refine r_get C hP 0 rfl fl_X10_43 rfl dX10_fits_32 ?_
      refine lv_iload_n hx hb dX10_fits_35 rfl (lv_at hl 1 rfl) ?_
      obtain ⟨r_36, v_casts_fitting_36, v_casts_fitters_36, hc_36, hf⟩ := bd3 hf
      refine r_callVi (ws' := (wX10_fits E h h_reader h_inn h_chosen h_night h_marks h_notes h_casts h_inn_house h_inn_thingIn h_inn_full h_inn_states h_inn_bed h_inn_dreamOf h_inn_listensIn h_casts_trial h_casts_dreams h_casts_plain h_casts_set h_casts_tried h_casts_kin h_casts_fitters h_notes_book h_notes_sort h_notes_one h_notes_other h_casts_plain_rows v_marked v_refusal v_latestFault v_faultPlace v_inn_minutes v_inn_things v_inn_dreams v_inn_sleepers v_inn_listeners v_casts_count v_casts_fitting_36 v_notes_count v_notes_book v_notes_sort v_notes_one v_casts_plain_rows v_notes_other v_casts_fitters_36)) (As := [.ref h_notes, .int p0]) (rest := [.ref h]) C (ctX0_gather l E h_casts h_casts_trial h_inn h_casts_dreams h_casts_plain h_casts_set h_casts_tried h_casts_kin h_casts_fitters h_notes h_notes_book h_notes_sort h_notes_one h_notes_other h_casts_plain_rows v_casts_count v_casts_fitting v_notes_count v_notes_book v_notes_sort v_notes_one v_casts_plain_rows v_notes_other v_casts_fitters N p0 r_36 v_casts_fitting_36 v_casts_fitters_36 hc_36) ml_X10_262 ⟨Nat.le_of_ble_eq_true rfl, Nat.le_of_ble_eq_true rfl⟩ hP hD hS 2 rfl rfl rfl [2, 3, 4, 5, 6, 7, 8, 9, 10] rfl rfl rfl rfl rfl hl.1 rfl (Nat.le_of_ble_eq_true rfl) ⟨Nat.zero_le _, Nat.zero_le _⟩ dX10_fits_36 ?_
      clear hP hD hS; intro H locs hP hD hS
      obtain ⟨r_39, v_refusal_39, hc_39, hf⟩ := bd2 hf
      refine r_callVi (ws' := (wX10_fits E h h_reader h_inn h_chosen h_night h_marks h_notes h_casts h_inn_house h_inn_thingIn h_inn_full h_inn_states h_inn_bed h_inn_dreamOf h_inn_listensIn h_casts_trial h_casts_dreams h_casts_plain h_casts_set h_casts_tried h_casts_kin h_casts_fitters h_notes_book h_notes_sort h_notes_one h_notes_other h_casts_plain_rows v_marked v_refusal_39 v_latestFault v_faultPlace v_inn_minutes v_inn_things v_inn_dreams v_inn_sleepers v_inn_listeners v_casts_count v_casts_fitting_36 v_notes_count v_notes_book v_notes_sort v_notes_one v_casts_plain_rows v_notes_other v_casts_fitters_36)) (As := [.int r_36]) (rest := []) C (ctX10_answer l E h h_reader h_inn h_chosen h_night h_marks h_notes h_casts v_marked v_refusal v_latestFault v_faultPlace N r_36 r_39 v_refusal_39 hc_39) ml_X10_95 ⟨Nat.le_of_ble_eq_true rfl, Nat.le_of_ble_eq_true rfl⟩ hP hD hS 0 rfl rfl rfl [0] rfl rfl rfl rfl rfl hl.1 rfl (Nat.le_of_ble_eq_true rfl) ⟨Nat.zero_le _, Nat.zero_le _⟩ dX10_fits_39 ?_
      clear hP hD hS; intro H locs hP hD hS
      cases hf
      rw [hQ]
      exact r_iret C hr hP hD hS rfl dX10_fits_42
    · replace hf := it_t c_17 hf
      refine lv_aload_n hx hb dX10_fits_20 rfl (lv_at hl 0 rfl) ?_
      refine lv_iconst (v := 2) hx hb dX10_fits_21 (by decide) ?_
      obtain ⟨r_22, v_refusal_22, hc_22, hf⟩ := bd2 hf
      refine r_callVi (ws' := (wX10_fits E h h_reader h_inn h_chosen h_night h_marks h_notes h_casts h_inn_house h_inn_thingIn h_inn_full h_inn_states h_inn_bed h_inn_dreamOf h_inn_listensIn h_casts_trial h_casts_dreams h_casts_plain h_casts_set h_casts_tried h_casts_kin h_casts_fitters h_notes_book h_notes_sort h_notes_one h_notes_other h_casts_plain_rows v_marked v_refusal_22 v_latestFault v_faultPlace v_inn_minutes v_inn_things v_inn_dreams v_inn_sleepers v_inn_listeners v_casts_count v_casts_fitting v_notes_count v_notes_book v_notes_sort v_notes_one v_casts_plain_rows v_notes_other v_casts_fitters)) (As := [.int 2]) (rest := []) C (ctX10_refuse l E h h_reader h_inn h_chosen h_night h_marks h_notes h_casts v_marked v_refusal v_latestFault v_faultPlace N 2 r_22 v_refusal_22 hc_22) ml_X10_68 ⟨Nat.le_of_ble_eq_true rfl, Nat.le_of_ble_eq_true rfl⟩ hP hD hS 0 rfl rfl rfl [0] rfl rfl rfl rfl rfl hl.1 rfl (Nat.le_of_ble_eq_true rfl) ⟨Nat.zero_le _, Nat.zero_le _⟩ dX10_fits_22 ?_
      clear hP hD hS; intro H locs hP hD hS
      cases hf
      rw [hQ]
      exact r_iret C hr hP hD hS rfl dX10_fits_25
  · replace hf := it_t c_4 hf
    refine lv_aload_n hx hb dX10_fits_7 rfl (lv_at hl 0 rfl) ?_
    refine lv_iconst (v := 1) hx hb dX10_fits_8 (by decide) ?_
    obtain ⟨r_9, v_refusal_9, hc_9, hf⟩ := bd2 hf
    refine r_callVi (ws' := (wX10_fits E h h_reader h_inn h_chosen h_night h_marks h_notes h_casts h_inn_house h_inn_thingIn h_inn_full h_inn_states h_inn_bed h_inn_dreamOf h_inn_listensIn h_casts_trial h_casts_dreams h_casts_plain h_casts_set h_casts_tried h_casts_kin h_casts_fitters h_notes_book h_notes_sort h_notes_one h_notes_other h_casts_plain_rows v_marked v_refusal_9 v_latestFault v_faultPlace v_inn_minutes v_inn_things v_inn_dreams v_inn_sleepers v_inn_listeners v_casts_count v_casts_fitting v_notes_count v_notes_book v_notes_sort v_notes_one v_casts_plain_rows v_notes_other v_casts_fitters)) (As := [.int 1]) (rest := []) C (ctX10_refuse l E h h_reader h_inn h_chosen h_night h_marks h_notes h_casts v_marked v_refusal v_latestFault v_faultPlace N 1 r_9 v_refusal_9 hc_9) ml_X10_68 ⟨Nat.le_of_ble_eq_true rfl, Nat.le_of_ble_eq_true rfl⟩ hP hD hS 0 rfl rfl rfl [0] rfl rfl rfl rfl rfl hl.1 rfl (Nat.le_of_ble_eq_true rfl) ⟨Nat.zero_le _, Nat.zero_le _⟩ dX10_fits_9 ?_
    clear hP hD hS; intro H locs hP hD hS
    cases hf
    rw [hQ]
    exact r_iret C hr hP hD hS rfl dX10_fits_12
def wX0_dreamIn (E : EN) (h h_trial h_inn h_dreams h_plain h_set h_tried h_kin h_fitters : Nat) (v_count : Int32) (v_fitting : Int32) (v_fitters : Nat → Int32) (v_dreams : Nat → Int32) : va_W := [(h, .inr (0, [.ref h_trial, .ref h_inn, .int v_count, .ref h_dreams, .ref h_plain, .ref h_set, .ref h_tried, .ref h_kin, .int v_fitting, .ref h_fitters])), (h_fitters, aI E 64 v_fitters), (h_dreams, aI E 192 v_dreams)]
def fX0_dreamIn (N : Nat) (p0 : Int32) (p1 : Int32) (v_fitters : Nat → Int32) (v_dreams : Nat → Int32) : Option Int32 := gd p0 64 (gd (((v_fitters p0.toNatClampNeg) * 3) + p1) 192 (some (v_dreams (((v_fitters p0.toNatClampNeg) * 3) + p1).toNatClampNeg)))
set_option maxHeartbeats 4000000 in
set_option maxRecDepth 100000 in
theorem ctX0_dreamIn (l : Launch) (E : EN) (h h_trial h_inn h_dreams h_plain h_set h_tried h_kin h_fitters : Nat) (v_count : Int32) (v_fitting : Int32) (v_fitters : Nat → Int32) (v_dreams : Nat → Int32) (N : Nat) (p0 : Int32) (p1 : Int32) (z0 : Int32) (hf : fX0_dreamIn N p0 p1 v_fitters v_dreams = some z0) : CTi l E yX0_dreamIn cX0_dreamIn 3 .int 0 0 [.ref h, .int p0, .int p1] (wX0_dreamIn E h h_trial h_inn h_dreams h_plain h_set h_tried h_kin h_fitters v_count v_fitting v_fitters v_dreams) z0 (wX0_dreamIn E h h_trial h_inn h_dreams h_plain h_set h_tried h_kin h_fitters v_count v_fitting v_fitters v_dreams) := by
  intro sz
  refine ct_body (by decide) (Nat.le_of_ble_eq_true rfl) ?_
  intro p e s m args below meth c A ls hAe C hr hin hP hD hS hl
  have C : CX p s m args meth c cX0_dreamIn RX0 3 E A := C
  have hl : lv_has ls 3 [(0, .ref h), (1, .int p0), (2, .int p1)] := hl
  have hx := C.1
  have hb := C.2.1
  rw [hAe]
  clear hAe
  obtain ⟨Q, hQ⟩ : ∃ Q, Q = MQ below (Qi E A z0 (wX0_dreamIn E h h_trial h_inn h_dreams h_plain h_set h_tried h_kin h_fitters v_count v_fitting v_fitters v_dreams)) args s 0 0 A := ⟨_, rfl⟩
  rw [← hQ]
  unfold fX0_dreamIn at hf
  refine lv_aload_n hx hb dX0_dreamIn_0 rfl (lv_at hl 0 rfl) ?_
  refine r_get C hP 0 rfl fl_X0_9 rfl dX0_dreamIn_1 ?_
  refine lv_aload_n hx hb dX0_dreamIn_4 rfl (lv_at hl 0 rfl) ?_
  refine r_get C hP 0 rfl fl_X0_32 rfl dX0_dreamIn_5 ?_
  refine lv_iload_n hx hb dX0_dreamIn_8 rfl (lv_at hl 1 rfl) ?_
  obtain ⟨hi_9, hf⟩ := gd_s hf
  refine r_iald C hP 1 rfl hi_9 dX0_dreamIn_9 ?_
  refine lv_iconst (v := 3) hx hb dX0_dreamIn_10 (by decide) ?_
  refine lv_imul hx hb dX0_dreamIn_11 ?_
  refine lv_iload_n hx hb dX0_dreamIn_12 rfl (lv_at hl 2 rfl) ?_
  refine lv_iadd hx hb dX0_dreamIn_13 ?_
  obtain ⟨hi_14, hf⟩ := gd_s hf
  refine r_iald C hP 2 rfl hi_14 dX0_dreamIn_14 ?_
  cases hf
  rw [hQ]
  exact r_iret C hr hP hD hS rfl dX0_dreamIn_15
def wX10_fit (E : EN) (h h_reader h_inn h_chosen h_night h_marks h_notes h_casts h_inn_house h_inn_thingIn h_inn_full h_inn_states h_inn_bed h_inn_dreamOf h_inn_listensIn h_casts_trial h_casts_dreams h_casts_plain h_casts_set h_casts_tried h_casts_kin h_casts_fitters h_notes_book h_notes_sort h_notes_one h_notes_other h_casts_plain_rows : Nat) (v_marked : Int32) (v_refusal : Int32) (v_latestFault : Int32) (v_faultPlace : Int32) (v_inn_minutes : Int32) (v_inn_things : Int32) (v_inn_dreams : Int32) (v_inn_sleepers : Int32) (v_inn_listeners : Int32) (v_casts_count : Int32) (v_casts_fitting : Int32) (v_notes_count : Int32) (v_notes_book : Nat → Int32) (v_notes_sort : Nat → Int32) (v_notes_one : Nat → Int32) (v_casts_plain_rows : Nat → Int64) (v_notes_other : Nat → Int32) (v_casts_fitters : Nat → Int32) (v_casts_dreams : Nat → Int32) : va_W := [(h, .inr (9, [.ref h_reader, .ref h_inn, .ref h_chosen, .ref h_night, .ref h_marks, .int v_marked, .ref h_notes, .ref h_casts, .int v_refusal, .int v_latestFault, .int v_faultPlace])), (h_inn, .inr (2, [.ref h_inn_house, .int v_inn_minutes, .int v_inn_things, .ref h_inn_thingIn, .ref h_inn_full, .int v_inn_dreams, .ref h_inn_states, .int v_inn_sleepers, .ref h_inn_bed, .ref h_inn_dreamOf, .int v_inn_listeners, .ref h_inn_listensIn])), (h_casts, .inr (0, [.ref h_casts_trial, .ref h_inn, .int v_casts_count, .ref h_casts_dreams, .ref h_casts_plain, .ref h_casts_set, .ref h_casts_tried, .ref h_casts_kin, .int v_casts_fitting, .ref h_casts_fitters])), (h_notes, .inr (5, [.ref h_notes_book, .ref h_notes_sort, .ref h_notes_one, .ref h_notes_other, .int v_notes_count])), (h_notes_book, aI E 20 v_notes_book), (h_notes_sort, aI E 20 v_notes_sort), (h_notes_one, aI E 20 v_notes_one), (h_casts_plain, .inr (3, [.ref h_casts_plain_rows])), (h_casts_plain_rows, aJ E 256 v_casts_plain_rows), (h_notes_other, aI E 20 v_notes_other), (h_casts_fitters, aI E 64 v_casts_fitters), (h_casts_dreams, aI E 192 v_casts_dreams)]
def fX10_fit (N : Nat) (p0 : Int32) (p1 : Int32) (p2 : Int32) (v_inn_sleepers : Int32) (v_casts_count : Int32) (v_casts_fitting : Int32) (v_notes_count : Int32) (v_notes_book : Nat → Int32) (v_notes_sort : Nat → Int32) (v_notes_one : Nat → Int32) (v_casts_plain_rows : Nat → Int64) (v_notes_other : Nat → Int32) (v_casts_fitters : Nat → Int32) (v_casts_dreams : Nat → Int32) : Option (Int32 × Int32 × Int32 × (Nat → Int32)) := (fX10_isSleeper N p2 v_inn_sleepers).bind (un1 fun (r_2 : Int32) => if r_2 = 0 then ((fX10_refuse N 1).bind (un2 fun (r_10 : Int32) (v_refusal_10 : Int32) => some (r_10, v_refusal_10, v_casts_fitting, v_casts_fitters))) else ((fX10_areBooks N p0).bind (un1 fun (r_15 : Int32) => if r_15 = 0 then ((fX10_refuse N 2).bind (un2 fun (r_23 : Int32) (v_refusal_23 : Int32) => some (r_23, v_refusal_23, v_casts_fitting, v_casts_fitters))) else ((fX0_gather N p0 v_casts_count v_notes_count v_notes_book v_notes_sort v_notes_one v_casts_plain_rows v_notes_other v_casts_fitters).bind (un3 fun (r_37 : Int32) (v_casts_fitting_37 : Int32) (v_casts_fitters_37 : Nat → Int32) => (fX10_isBelow N p1 r_37).bind (un1 fun (r_40 : Int32) => if r_40 = 0 then ((fX10_refuse N 1).bind (un2 fun (r_48 : Int32) (v_refusal_48 : Int32) => some (r_48, v_refusal_48, v_casts_fitting_37, v_casts_fitters_37))) else ((fX0_dreamIn N p1 p2 v_casts_fitters_37 v_casts_dreams).bind (un1 fun (r_59 : Int32) => (fX10_answer N r_59).bind (un2 fun (r_62 : Int32) (v_refusal_62 : Int32) => some (r_62, v_refusal_62, v_casts_fitting_37, v_casts_fitters_37))))))))))
set_option maxHeartbeats 4000000 in
set_option maxRecDepth 100000 in
theorem ctX10_fit (l : Launch) (E : EN) (h h_reader h_inn h_chosen h_night h_marks h_notes h_casts h_inn_house h_inn_thingIn h_inn_full h_inn_states h_inn_bed h_inn_dreamOf h_inn_listensIn h_casts_trial h_casts_dreams h_casts_plain h_casts_set h_casts_tried h_casts_kin h_casts_fitters h_notes_book h_notes_sort h_notes_one h_notes_other h_casts_plain_rows : Nat) (v_marked : Int32) (v_refusal : Int32) (v_latestFault : Int32) (v_faultPlace : Int32) (v_inn_minutes : Int32) (v_inn_things : Int32) (v_inn_dreams : Int32) (v_inn_sleepers : Int32) (v_inn_listeners : Int32) (v_casts_count : Int32) (v_casts_fitting : Int32) (v_notes_count : Int32) (v_notes_book : Nat → Int32) (v_notes_sort : Nat → Int32) (v_notes_one : Nat → Int32) (v_casts_plain_rows : Nat → Int64) (v_notes_other : Nat → Int32) (v_casts_fitters : Nat → Int32) (v_casts_dreams : Nat → Int32) (N : Nat) (p0 : Int32) (p1 : Int32) (p2 : Int32) (z0 : Int32) (z1 : Int32) (z2 : Int32) (z3 : Nat → Int32) (hf : fX10_fit N p0 p1 p2 v_inn_sleepers v_casts_count v_casts_fitting v_notes_count v_notes_book v_notes_sort v_notes_one v_casts_plain_rows v_notes_other v_casts_fitters v_casts_dreams = some (z0, z1, z2, z3)) : CTi l E yX10_fit cX10_fit 4 .int 5 115 [.ref h, .int p0, .int p1, .int p2] (wX10_fit E h h_reader h_inn h_chosen h_night h_marks h_notes h_casts h_inn_house h_inn_thingIn h_inn_full h_inn_states h_inn_bed h_inn_dreamOf h_inn_listensIn h_casts_trial h_casts_dreams h_casts_plain h_casts_set h_casts_tried h_casts_kin h_casts_fitters h_notes_book h_notes_sort h_notes_one h_notes_other h_casts_plain_rows v_marked v_refusal v_latestFault v_faultPlace v_inn_minutes v_inn_things v_inn_dreams v_inn_sleepers v_inn_listeners v_casts_count v_casts_fitting v_notes_count v_notes_book v_notes_sort v_notes_one v_casts_plain_rows v_notes_other v_casts_fitters v_casts_dreams) z0 (wX10_fit E h h_reader h_inn h_chosen h_night h_marks h_notes h_casts h_inn_house h_inn_thingIn h_inn_full h_inn_states h_inn_bed h_inn_dreamOf h_inn_listensIn h_casts_trial h_casts_dreams h_casts_plain h_casts_set h_casts_tried h_casts_kin h_casts_fitters h_notes_book h_notes_sort h_notes_one h_notes_other h_casts_plain_rows v_marked z1 v_latestFault v_faultPlace v_inn_minutes v_inn_things v_inn_dreams v_inn_sleepers v_inn_listeners v_casts_count z2 v_notes_count v_notes_book v_notes_sort v_notes_one v_casts_plain_rows v_notes_other z3 v_casts_dreams) := by
  intro sz
  refine ct_body (by decide) (Nat.le_of_ble_eq_true rfl) ?_
  intro p e s m args below meth c A ls hAe C hr hin hP hD hS hl
  have C : CX p s m args meth c cX10_fit RX10 4 E A := C
  have hl : lv_has ls 4 [(0, .ref h), (1, .int p0), (2, .int p1), (3, .int p2)] := hl
  have hx := C.1
  have hb := C.2.1
  rw [hAe]
  clear hAe
  obtain ⟨Q, hQ⟩ : ∃ Q, Q = MQ below (Qi E A z0 (wX10_fit E h h_reader h_inn h_chosen h_night h_marks h_notes h_casts h_inn_house h_inn_thingIn h_inn_full h_inn_states h_inn_bed h_inn_dreamOf h_inn_listensIn h_casts_trial h_casts_dreams h_casts_plain h_casts_set h_casts_tried h_casts_kin h_casts_fitters h_notes_book h_notes_sort h_notes_one h_notes_other h_casts_plain_rows v_marked z1 v_latestFault v_faultPlace v_inn_minutes v_inn_things v_inn_dreams v_inn_sleepers v_inn_listeners v_casts_count z2 v_notes_count v_notes_book v_notes_sort v_notes_one v_casts_plain_rows v_notes_other z3 v_casts_dreams)) args s 0 0 A := ⟨_, rfl⟩
  rw [← hQ]
  unfold fX10_fit at hf
  refine lv_aload_n hx hb dX10_fit_0 rfl (lv_at hl 0 rfl) ?_
  refine lv_iload_n hx hb dX10_fit_1 rfl (lv_at hl 3 rfl) ?_
  obtain ⟨r_2, hc_2, hf⟩ := bd1 hf
  refine r_callVi (ws' := (wX10_fit E h h_reader h_inn h_chosen h_night h_marks h_notes h_casts h_inn_house h_inn_thingIn h_inn_full h_inn_states h_inn_bed h_inn_dreamOf h_inn_listensIn h_casts_trial h_casts_dreams h_casts_plain h_casts_set h_casts_tried h_casts_kin h_casts_fitters h_notes_book h_notes_sort h_notes_one h_notes_other h_casts_plain_rows v_marked v_refusal v_latestFault v_faultPlace v_inn_minutes v_inn_things v_inn_dreams v_inn_sleepers v_inn_listeners v_casts_count v_casts_fitting v_notes_count v_notes_book v_notes_sort v_notes_one v_casts_plain_rows v_notes_other v_casts_fitters v_casts_dreams)) (As := [.int p2]) (rest := []) C (ctX10_isSleeper l E h h_reader h_inn h_chosen h_night h_marks h_notes h_casts h_inn_house h_inn_thingIn h_inn_full h_inn_states h_inn_bed h_inn_dreamOf h_inn_listensIn v_marked v_refusal v_latestFault v_faultPlace v_inn_minutes v_inn_things v_inn_dreams v_inn_sleepers v_inn_listeners N p2 r_2 hc_2) ml_X10_167 ⟨Nat.le_of_ble_eq_true rfl, Nat.le_of_ble_eq_true rfl⟩ hP hD hS 0 rfl rfl rfl [0, 1] rfl rfl rfl rfl rfl hl.1 rfl (Nat.le_of_ble_eq_true rfl) ⟨Nat.zero_le _, Nat.zero_le _⟩ dX10_fit_2 ?_
  clear hP hD hS; intro H locs hP hD hS
  refine lv_if_ne (tgt := 14) hx hb dX10_fit_5 (by decide) (fun c_5 => ?_) (fun c_5 => ?_)
  · replace hf := it_f c_5 hf
    refine lv_iload_n hx hb dX10_fit_14 rfl (lv_at hl 1 rfl) ?_
    obtain ⟨r_15, hc_15, hf⟩ := bd1 hf
    refine r_callSi (ws' := (wX10_fit E h h_reader h_inn h_chosen h_night h_marks h_notes h_casts h_inn_house h_inn_thingIn h_inn_full h_inn_states h_inn_bed h_inn_dreamOf h_inn_listensIn h_casts_trial h_casts_dreams h_casts_plain h_casts_set h_casts_tried h_casts_kin h_casts_fitters h_notes_book h_notes_sort h_notes_one h_notes_other h_casts_plain_rows v_marked v_refusal v_latestFault v_faultPlace v_inn_minutes v_inn_things v_inn_dreams v_inn_sleepers v_inn_listeners v_casts_count v_casts_fitting v_notes_count v_notes_book v_notes_sort v_notes_one v_casts_plain_rows v_notes_other v_casts_fitters v_casts_dreams)) (As := [.int p0]) (rest := []) C (ctX10_areBooks l E N p0 r_15 hc_15) ml_X10_259 ⟨Nat.le_of_ble_eq_true rfl, Nat.le_of_ble_eq_true rfl⟩ hP hD hS [] rfl rfl rfl rfl rfl hl.1 rfl (Nat.le_of_ble_eq_true rfl) ⟨Nat.zero_le _, Nat.zero_le _⟩ dX10_fit_15 ?_
    clear hP hD hS; intro H locs hP hD hS
    refine lv_if_ne (tgt := 27) hx hb dX10_fit_18 (by decide) (fun c_18 => ?_) (fun c_18 => ?_)
    · replace hf := it_f c_18 hf
      refine lv_iload_n hx hb dX10_fit_27 rfl (lv_at hl 2 rfl) ?_
      refine lv_aload_n hx hb dX10_fit_28 rfl (lv_at hl 0 rfl) ?_
      refine r_get C hP 0 rfl fl_X10_50 rfl dX10_fit_29 ?_
      refine lv_aload_n hx hb dX10_fit_32 rfl (lv_at hl 0 rfl) ?_
      refine r_get C hP 0 rfl fl_X10_43 rfl dX10_fit_33 ?_
      refine lv_iload_n hx hb dX10_fit_36 rfl (lv_at hl 1 rfl) ?_
      obtain ⟨r_37, v_casts_fitting_37, v_casts_fitters_37, hc_37, hf⟩ := bd3 hf
      refine r_callVi (ws' := (wX10_fit E h h_reader h_inn h_chosen h_night h_marks h_notes h_casts h_inn_house h_inn_thingIn h_inn_full h_inn_states h_inn_bed h_inn_dreamOf h_inn_listensIn h_casts_trial h_casts_dreams h_casts_plain h_casts_set h_casts_tried h_casts_kin h_casts_fitters h_notes_book h_notes_sort h_notes_one h_notes_other h_casts_plain_rows v_marked v_refusal v_latestFault v_faultPlace v_inn_minutes v_inn_things v_inn_dreams v_inn_sleepers v_inn_listeners v_casts_count v_casts_fitting_37 v_notes_count v_notes_book v_notes_sort v_notes_one v_casts_plain_rows v_notes_other v_casts_fitters_37 v_casts_dreams)) (As := [.ref h_notes, .int p0]) (rest := [.int p1]) C (ctX0_gather l E h_casts h_casts_trial h_inn h_casts_dreams h_casts_plain h_casts_set h_casts_tried h_casts_kin h_casts_fitters h_notes h_notes_book h_notes_sort h_notes_one h_notes_other h_casts_plain_rows v_casts_count v_casts_fitting v_notes_count v_notes_book v_notes_sort v_notes_one v_casts_plain_rows v_notes_other v_casts_fitters N p0 r_37 v_casts_fitting_37 v_casts_fitters_37 hc_37) ml_X10_262 ⟨Nat.le_of_ble_eq_true rfl, Nat.le_of_ble_eq_true rfl⟩ hP hD hS 2 rfl rfl rfl [2, 3, 4, 5, 6, 7, 8, 9, 10] rfl rfl rfl rfl rfl hl.1 rfl (Nat.le_of_ble_eq_true rfl) ⟨Nat.zero_le _, Nat.zero_le _⟩ dX10_fit_37 ?_
      clear hP hD hS; intro H locs hP hD hS
      obtain ⟨r_40, hc_40, hf⟩ := bd1 hf
      refine r_callSi (ws' := (wX10_fit E h h_reader h_inn h_chosen h_night h_marks h_notes h_casts h_inn_house h_inn_thingIn h_inn_full h_inn_states h_inn_bed h_inn_dreamOf h_inn_listensIn h_casts_trial h_casts_dreams h_casts_plain h_casts_set h_casts_tried h_casts_kin h_casts_fitters h_notes_book h_notes_sort h_notes_one h_notes_other h_casts_plain_rows v_marked v_refusal v_latestFault v_faultPlace v_inn_minutes v_inn_things v_inn_dreams v_inn_sleepers v_inn_listeners v_casts_count v_casts_fitting_37 v_notes_count v_notes_book v_notes_sort v_notes_one v_casts_plain_rows v_notes_other v_casts_fitters_37 v_casts_dreams)) (As := [.int p1, .int r_37]) (rest := []) C (ctX10_isBelow l E N p1 r_37 r_40 hc_40) ml_X10_121 ⟨Nat.le_of_ble_eq_true rfl, Nat.le_of_ble_eq_true rfl⟩ hP hD hS [] rfl rfl rfl rfl rfl hl.1 rfl (Nat.le_of_ble_eq_true rfl) ⟨Nat.zero_le _, Nat.zero_le _⟩ dX10_fit_40 ?_
      clear hP hD hS; intro H locs hP hD hS
      refine lv_if_ne (tgt := 52) hx hb dX10_fit_43 (by decide) (fun c_43 => ?_) (fun c_43 => ?_)
      · replace hf := it_f c_43 hf
        refine lv_aload_n hx hb dX10_fit_52 rfl (lv_at hl 0 rfl) ?_
        refine lv_aload_n hx hb dX10_fit_53 rfl (lv_at hl 0 rfl) ?_
        refine r_get C hP 0 rfl fl_X10_50 rfl dX10_fit_54 ?_
        refine lv_iload_n hx hb dX10_fit_57 rfl (lv_at hl 2 rfl) ?_
        refine lv_iload_n hx hb dX10_fit_58 rfl (lv_at hl 3 rfl) ?_
        obtain ⟨r_59, hc_59, hf⟩ := bd1 hf
        refine r_callVi (ws' := (wX10_fit E h h_reader h_inn h_chosen h_night h_marks h_notes h_casts h_inn_house h_inn_thingIn h_inn_full h_inn_states h_inn_bed h_inn_dreamOf h_inn_listensIn h_casts_trial h_casts_dreams h_casts_plain h_casts_set h_casts_tried h_casts_kin h_casts_fitters h_notes_book h_notes_sort h_notes_one h_notes_other h_casts_plain_rows v_marked v_refusal v_latestFault v_faultPlace v_inn_minutes v_inn_things v_inn_dreams v_inn_sleepers v_inn_listeners v_casts_count v_casts_fitting_37 v_notes_count v_notes_book v_notes_sort v_notes_one v_casts_plain_rows v_notes_other v_casts_fitters_37 v_casts_dreams)) (As := [.int p1, .int p2]) (rest := [.ref h]) C (ctX0_dreamIn l E h_casts h_casts_trial h_inn h_casts_dreams h_casts_plain h_casts_set h_casts_tried h_casts_kin h_casts_fitters v_casts_count v_casts_fitting_37 v_casts_fitters_37 v_casts_dreams N p1 p2 r_59 hc_59) ml_X10_266 ⟨Nat.le_of_ble_eq_true rfl, Nat.le_of_ble_eq_true rfl⟩ hP hD hS 2 rfl rfl rfl [2, 10, 11] rfl rfl rfl rfl rfl hl.1 rfl (Nat.le_of_ble_eq_true rfl) ⟨Nat.zero_le _, Nat.zero_le _⟩ dX10_fit_59 ?_
        clear hP hD hS; intro H locs hP hD hS
        obtain ⟨r_62, v_refusal_62, hc_62, hf⟩ := bd2 hf
        refine r_callVi (ws' := (wX10_fit E h h_reader h_inn h_chosen h_night h_marks h_notes h_casts h_inn_house h_inn_thingIn h_inn_full h_inn_states h_inn_bed h_inn_dreamOf h_inn_listensIn h_casts_trial h_casts_dreams h_casts_plain h_casts_set h_casts_tried h_casts_kin h_casts_fitters h_notes_book h_notes_sort h_notes_one h_notes_other h_casts_plain_rows v_marked v_refusal_62 v_latestFault v_faultPlace v_inn_minutes v_inn_things v_inn_dreams v_inn_sleepers v_inn_listeners v_casts_count v_casts_fitting_37 v_notes_count v_notes_book v_notes_sort v_notes_one v_casts_plain_rows v_notes_other v_casts_fitters_37 v_casts_dreams)) (As := [.int r_59]) (rest := []) C (ctX10_answer l E h h_reader h_inn h_chosen h_night h_marks h_notes h_casts v_marked v_refusal v_latestFault v_faultPlace N r_59 r_62 v_refusal_62 hc_62) ml_X10_95 ⟨Nat.le_of_ble_eq_true rfl, Nat.le_of_ble_eq_true rfl⟩ hP hD hS 0 rfl rfl rfl [0] rfl rfl rfl rfl rfl hl.1 rfl (Nat.le_of_ble_eq_true rfl) ⟨Nat.zero_le _, Nat.zero_le _⟩ dX10_fit_62 ?_
        clear hP hD hS; intro H locs hP hD hS
        cases hf
        rw [hQ]
        exact r_iret C hr hP hD hS rfl dX10_fit_65
      · replace hf := it_t c_43 hf
        refine lv_aload_n hx hb dX10_fit_46 rfl (lv_at hl 0 rfl) ?_
        refine lv_iconst (v := 1) hx hb dX10_fit_47 (by decide) ?_
        obtain ⟨r_48, v_refusal_48, hc_48, hf⟩ := bd2 hf
        refine r_callVi (ws' := (wX10_fit E h h_reader h_inn h_chosen h_night h_marks h_notes h_casts h_inn_house h_inn_thingIn h_inn_full h_inn_states h_inn_bed h_inn_dreamOf h_inn_listensIn h_casts_trial h_casts_dreams h_casts_plain h_casts_set h_casts_tried h_casts_kin h_casts_fitters h_notes_book h_notes_sort h_notes_one h_notes_other h_casts_plain_rows v_marked v_refusal_48 v_latestFault v_faultPlace v_inn_minutes v_inn_things v_inn_dreams v_inn_sleepers v_inn_listeners v_casts_count v_casts_fitting_37 v_notes_count v_notes_book v_notes_sort v_notes_one v_casts_plain_rows v_notes_other v_casts_fitters_37 v_casts_dreams)) (As := [.int 1]) (rest := []) C (ctX10_refuse l E h h_reader h_inn h_chosen h_night h_marks h_notes h_casts v_marked v_refusal v_latestFault v_faultPlace N 1 r_48 v_refusal_48 hc_48) ml_X10_68 ⟨Nat.le_of_ble_eq_true rfl, Nat.le_of_ble_eq_true rfl⟩ hP hD hS 0 rfl rfl rfl [0] rfl rfl rfl rfl rfl hl.1 rfl (Nat.le_of_ble_eq_true rfl) ⟨Nat.zero_le _, Nat.zero_le _⟩ dX10_fit_48 ?_
        clear hP hD hS; intro H locs hP hD hS
        cases hf
        rw [hQ]
        exact r_iret C hr hP hD hS rfl dX10_fit_51
    · replace hf := it_t c_18 hf
      refine lv_aload_n hx hb dX10_fit_21 rfl (lv_at hl 0 rfl) ?_
      refine lv_iconst (v := 2) hx hb dX10_fit_22 (by decide) ?_
      obtain ⟨r_23, v_refusal_23, hc_23, hf⟩ := bd2 hf
      refine r_callVi (ws' := (wX10_fit E h h_reader h_inn h_chosen h_night h_marks h_notes h_casts h_inn_house h_inn_thingIn h_inn_full h_inn_states h_inn_bed h_inn_dreamOf h_inn_listensIn h_casts_trial h_casts_dreams h_casts_plain h_casts_set h_casts_tried h_casts_kin h_casts_fitters h_notes_book h_notes_sort h_notes_one h_notes_other h_casts_plain_rows v_marked v_refusal_23 v_latestFault v_faultPlace v_inn_minutes v_inn_things v_inn_dreams v_inn_sleepers v_inn_listeners v_casts_count v_casts_fitting v_notes_count v_notes_book v_notes_sort v_notes_one v_casts_plain_rows v_notes_other v_casts_fitters v_casts_dreams)) (As := [.int 2]) (rest := []) C (ctX10_refuse l E h h_reader h_inn h_chosen h_night h_marks h_notes h_casts v_marked v_refusal v_latestFault v_faultPlace N 2 r_23 v_refusal_23 hc_23) ml_X10_68 ⟨Nat.le_of_ble_eq_true rfl, Nat.le_of_ble_eq_true rfl⟩ hP hD hS 0 rfl rfl rfl [0] rfl rfl rfl rfl rfl hl.1 rfl (Nat.le_of_ble_eq_true rfl) ⟨Nat.zero_le _, Nat.zero_le _⟩ dX10_fit_23 ?_
      clear hP hD hS; intro H locs hP hD hS
      cases hf
      rw [hQ]
      exact r_iret C hr hP hD hS rfl dX10_fit_26
  · replace hf := it_t c_5 hf
    refine lv_aload_n hx hb dX10_fit_8 rfl (lv_at hl 0 rfl) ?_
    refine lv_iconst (v := 1) hx hb dX10_fit_9 (by decide) ?_
    obtain ⟨r_10, v_refusal_10, hc_10, hf⟩ := bd2 hf
    refine r_callVi (ws' := (wX10_fit E h h_reader h_inn h_chosen h_night h_marks h_notes h_casts h_inn_house h_inn_thingIn h_inn_full h_inn_states h_inn_bed h_inn_dreamOf h_inn_listensIn h_casts_trial h_casts_dreams h_casts_plain h_casts_set h_casts_tried h_casts_kin h_casts_fitters h_notes_book h_notes_sort h_notes_one h_notes_other h_casts_plain_rows v_marked v_refusal_10 v_latestFault v_faultPlace v_inn_minutes v_inn_things v_inn_dreams v_inn_sleepers v_inn_listeners v_casts_count v_casts_fitting v_notes_count v_notes_book v_notes_sort v_notes_one v_casts_plain_rows v_notes_other v_casts_fitters v_casts_dreams)) (As := [.int 1]) (rest := []) C (ctX10_refuse l E h h_reader h_inn h_chosen h_night h_marks h_notes h_casts v_marked v_refusal v_latestFault v_faultPlace N 1 r_10 v_refusal_10 hc_10) ml_X10_68 ⟨Nat.le_of_ble_eq_true rfl, Nat.le_of_ble_eq_true rfl⟩ hP hD hS 0 rfl rfl rfl [0] rfl rfl rfl rfl rfl hl.1 rfl (Nat.le_of_ble_eq_true rfl) ⟨Nat.zero_le _, Nat.zero_le _⟩ dX10_fit_10 ?_
    clear hP hD hS; intro H locs hP hD hS
    cases hf
    rw [hQ]
    exact r_iret C hr hP hD hS rfl dX10_fit_13
def wX0_commonDream (E : EN) (h h_trial h_inn h_dreams h_plain h_set h_tried h_kin h_fitters : Nat) (v_count : Int32) (v_fitting : Int32) (v_fitters : Nat → Int32) (v_dreams : Nat → Int32) : va_W := [(h, .inr (0, [.ref h_trial, .ref h_inn, .int v_count, .ref h_dreams, .ref h_plain, .ref h_set, .ref h_tried, .ref h_kin, .int v_fitting, .ref h_fitters])), (h_fitters, aI E 64 v_fitters), (h_dreams, aI E 192 v_dreams)]
def BX0_commonDream_2 (v_fitting : Int32) (N : Nat) (p0 : Int32) (v_fitters : Nat → Int32) (v_dreams : Nat → Int32) (rec2 : (Int32) → Option Int32) : (Int32) → Option Int32 := un1 fun (x2_2 : Int32) => if v_fitting ≤ x2_2 then ((fX0_dreamIn N 0 p0 v_fitters v_dreams).bind (un1 fun (r_37 : Int32) => some r_37)) else ((fX0_dreamIn N x2_2 p0 v_fitters v_dreams).bind (un1 fun (r_13 : Int32) => (fX0_dreamIn N 0 p0 v_fitters v_dreams).bind (un1 fun (r_19 : Int32) => if r_13 = r_19 then (rec2 (x2_2 + 1)) else (some (-2)))))
def fX0_commonDream (N : Nat) (p0 : Int32) (v_fitting : Int32) (v_fitters : Nat → Int32) (v_dreams : Nat → Int32) : Option Int32 := lp (BX0_commonDream_2 v_fitting N p0 v_fitters v_dreams) N 1
set_option maxHeartbeats 4000000 in
set_option maxRecDepth 100000 in
theorem ctX0_commonDream (l : Launch) (E : EN) (h h_trial h_inn h_dreams h_plain h_set h_tried h_kin h_fitters : Nat) (v_count : Int32) (v_fitting : Int32) (v_fitters : Nat → Int32) (v_dreams : Nat → Int32) (N : Nat) (p0 : Int32) (z0 : Int32) (hf : fX0_commonDream N p0 v_fitting v_fitters v_dreams = some z0) : CTi l E yX0_commonDream cX0_commonDream 3 .int 1 22 [.ref h, .int p0] (wX0_commonDream E h h_trial h_inn h_dreams h_plain h_set h_tried h_kin h_fitters v_count v_fitting v_fitters v_dreams) z0 (wX0_commonDream E h h_trial h_inn h_dreams h_plain h_set h_tried h_kin h_fitters v_count v_fitting v_fitters v_dreams) := by
  intro sz
  refine ct_body (by decide) (Nat.le_of_ble_eq_true rfl) ?_
  intro p e s m args below meth c A ls hAe C hr hin hP hD hS hl
  have C : CX p s m args meth c cX0_commonDream RX0 3 E A := C
  have hl : lv_has ls 3 [(0, .ref h), (1, .int p0)] := hl
  have hx := C.1
  have hb := C.2.1
  rw [hAe]
  clear hAe
  obtain ⟨Q, hQ⟩ : ∃ Q, Q = MQ below (Qi E A z0 (wX0_commonDream E h h_trial h_inn h_dreams h_plain h_set h_tried h_kin h_fitters v_count v_fitting v_fitters v_dreams)) args s 0 0 A := ⟨_, rfl⟩
  rw [← hQ]
  unfold fX0_commonDream at hf
  refine lv_iconst (v := 1) hx hb dX0_commonDream_0 (by decide) ?_
  refine lv_istore_n (lv' := [(2, .int 1), (0, .ref h), (1, .int p0)]) hx hb dX0_commonDream_1 rfl hl (by decide) rfl (fun ls hl => ?_)
  have key2 : ∀ (n : Nat) (x2_2 : Int32) , lp (BX0_commonDream_2 v_fitting N p0 v_fitters v_dreams) n x2_2 = some z0 → AT p l e (rmOf 1 22) s m args below meth c E A Q 0 0 3 [(0, .ref h), (1, .int p0), (2, .int x2_2)] (wX0_commonDream E h h_trial h_inn h_dreams h_plain h_set h_tried h_kin h_fitters v_count v_fitting v_fitters v_dreams) 2 [] := by
    intro n
    induction n with
    | zero => intro x2_2 hf; exact (lp_0 hf).elim
    | succ n ih2 =>
      intro x2_2 hf H locs ls hl hP hD hS
      replace hf := lp_s hf
      generalize lp (BX0_commonDream_2 v_fitting N p0 v_fitters v_dreams) n = rec2 at ih2 hf
      unfold BX0_commonDream_2 at hf
      replace hf := un1_s hf
      refine lv_iload_n hx hb dX0_commonDream_2 rfl (lv_at hl 2 rfl) ?_
      refine lv_aload_n hx hb dX0_commonDream_3 rfl (lv_at hl 0 rfl) ?_
      refine r_get C hP 0 rfl fl_X0_91 rfl dX0_commonDream_4 ?_
      refine lv_icmp_ge (tgt := 34) hx hb dX0_commonDream_7 (by decide) (fun c_7 => ?_) (fun c_7 => ?_)
      · replace hf := it_t c_7 hf
        refine lv_aload_n hx hb dX0_commonDream_34 rfl (lv_at hl 0 rfl) ?_
        refine lv_iconst (v := 0) hx hb dX0_commonDream_35 (by decide) ?_
        refine lv_iload_n hx hb dX0_commonDream_36 rfl (lv_at hl 1 rfl) ?_
        obtain ⟨r_37, hc_37, hf⟩ := bd1 hf
        refine r_callVi (ws' := (wX0_commonDream E h h_trial h_inn h_dreams h_plain h_set h_tried h_kin h_fitters v_count v_fitting v_fitters v_dreams)) (As := [.int 0, .int p0]) (rest := []) C (ctX0_dreamIn l E h h_trial h_inn h_dreams h_plain h_set h_tried h_kin h_fitters v_count v_fitting v_fitters v_dreams N 0 p0 r_37 hc_37) ml_X0_100 ⟨Nat.le_of_ble_eq_true rfl, Nat.le_of_ble_eq_true rfl⟩ hP hD hS 0 rfl rfl rfl [0, 1, 2] rfl rfl rfl rfl rfl hl.1 rfl (Nat.le_of_ble_eq_true rfl) ⟨Nat.zero_le _, Nat.zero_le _⟩ dX0_commonDream_37 ?_
        clear hP hD hS; intro H locs hP hD hS
        cases hf
        rw [hQ]
        exact r_iret C hr hP hD hS rfl dX0_commonDream_40
      · replace hf := it_f c_7 hf
        refine lv_aload_n hx hb dX0_commonDream_10 rfl (lv_at hl 0 rfl) ?_
        refine lv_iload_n hx hb dX0_commonDream_11 rfl (lv_at hl 2 rfl) ?_
        refine lv_iload_n hx hb dX0_commonDream_12 rfl (lv_at hl 1 rfl) ?_
        obtain ⟨r_13, hc_13, hf⟩ := bd1 hf
        refine r_callVi (ws' := (wX0_commonDream E h h_trial h_inn h_dreams h_plain h_set h_tried h_kin h_fitters v_count v_fitting v_fitters v_dreams)) (As := [.int x2_2, .int p0]) (rest := []) C (ctX0_dreamIn l E h h_trial h_inn h_dreams h_plain h_set h_tried h_kin h_fitters v_count v_fitting v_fitters v_dreams N x2_2 p0 r_13 hc_13) ml_X0_100 ⟨Nat.le_of_ble_eq_true rfl, Nat.le_of_ble_eq_true rfl⟩ hP hD hS 0 rfl rfl rfl [0, 1, 2] rfl rfl rfl rfl rfl hl.1 rfl (Nat.le_of_ble_eq_true rfl) ⟨Nat.zero_le _, Nat.zero_le _⟩ dX0_commonDream_13 ?_
        clear hP hD hS; intro H locs hP hD hS
        refine lv_aload_n hx hb dX0_commonDream_16 rfl (lv_at hl 0 rfl) ?_
        refine lv_iconst (v := 0) hx hb dX0_commonDream_17 (by decide) ?_
        refine lv_iload_n hx hb dX0_commonDream_18 rfl (lv_at hl 1 rfl) ?_
        obtain ⟨r_19, hc_19, hf⟩ := bd1 hf
        refine r_callVi (ws' := (wX0_commonDream E h h_trial h_inn h_dreams h_plain h_set h_tried h_kin h_fitters v_count v_fitting v_fitters v_dreams)) (As := [.int 0, .int p0]) (rest := [.int r_13]) C (ctX0_dreamIn l E h h_trial h_inn h_dreams h_plain h_set h_tried h_kin h_fitters v_count v_fitting v_fitters v_dreams N 0 p0 r_19 hc_19) ml_X0_100 ⟨Nat.le_of_ble_eq_true rfl, Nat.le_of_ble_eq_true rfl⟩ hP hD hS 0 rfl rfl rfl [0, 1, 2] rfl rfl rfl rfl rfl hl.1 rfl (Nat.le_of_ble_eq_true rfl) ⟨Nat.zero_le _, Nat.zero_le _⟩ dX0_commonDream_19 ?_
        clear hP hD hS; intro H locs hP hD hS
        refine lv_icmp_eq (tgt := 28) hx hb dX0_commonDream_22 (by decide) (fun c_22 => ?_) (fun c_22 => ?_)
        · replace hf := it_t c_22 hf
          refine lv_iinc (v := x2_2 + 1) (lv' := [(2, .int (x2_2 + 1)), (0, .ref h), (1, .int p0)]) hx hb dX0_commonDream_28 hl (k := 2) rfl rfl (by decide) rfl (fun ls hl => ?_)
          refine lv_goto (tgt := 2) hx hb dX0_commonDream_31 (by decide) ?_
          exact ih2 (x2_2 + 1) hf _ _ _ (lv_sub hl [1, 2, 0] rfl) hP hD hS
        · replace hf := it_f c_22 hf
          refine lv_bipush (v := (-2)) hx hb dX0_commonDream_25 (by decide) ?_
          cases hf
          rw [hQ]
          exact r_iret C hr hP hD hS rfl dX0_commonDream_27
  exact key2 _ 1 hf _ _ _ (lv_sub hl [1, 2, 0] rfl) hP hD hS
def wX10_sure (E : EN) (h h_reader h_inn h_chosen h_night h_marks h_notes h_casts h_inn_house h_inn_thingIn h_inn_full h_inn_states h_inn_bed h_inn_dreamOf h_inn_listensIn h_casts_trial h_casts_dreams h_casts_plain h_casts_set h_casts_tried h_casts_kin h_casts_fitters h_notes_book h_notes_sort h_notes_one h_notes_other h_casts_plain_rows : Nat) (v_marked : Int32) (v_refusal : Int32) (v_latestFault : Int32) (v_faultPlace : Int32) (v_inn_minutes : Int32) (v_inn_things : Int32) (v_inn_dreams : Int32) (v_inn_sleepers : Int32) (v_inn_listeners : Int32) (v_casts_count : Int32) (v_casts_fitting : Int32) (v_notes_count : Int32) (v_notes_book : Nat → Int32) (v_notes_sort : Nat → Int32) (v_notes_one : Nat → Int32) (v_casts_plain_rows : Nat → Int64) (v_notes_other : Nat → Int32) (v_casts_fitters : Nat → Int32) (v_casts_dreams : Nat → Int32) : va_W := [(h, .inr (9, [.ref h_reader, .ref h_inn, .ref h_chosen, .ref h_night, .ref h_marks, .int v_marked, .ref h_notes, .ref h_casts, .int v_refusal, .int v_latestFault, .int v_faultPlace])), (h_inn, .inr (2, [.ref h_inn_house, .int v_inn_minutes, .int v_inn_things, .ref h_inn_thingIn, .ref h_inn_full, .int v_inn_dreams, .ref h_inn_states, .int v_inn_sleepers, .ref h_inn_bed, .ref h_inn_dreamOf, .int v_inn_listeners, .ref h_inn_listensIn])), (h_casts, .inr (0, [.ref h_casts_trial, .ref h_inn, .int v_casts_count, .ref h_casts_dreams, .ref h_casts_plain, .ref h_casts_set, .ref h_casts_tried, .ref h_casts_kin, .int v_casts_fitting, .ref h_casts_fitters])), (h_notes, .inr (5, [.ref h_notes_book, .ref h_notes_sort, .ref h_notes_one, .ref h_notes_other, .int v_notes_count])), (h_notes_book, aI E 20 v_notes_book), (h_notes_sort, aI E 20 v_notes_sort), (h_notes_one, aI E 20 v_notes_one), (h_casts_plain, .inr (3, [.ref h_casts_plain_rows])), (h_casts_plain_rows, aJ E 256 v_casts_plain_rows), (h_notes_other, aI E 20 v_notes_other), (h_casts_fitters, aI E 64 v_casts_fitters), (h_casts_dreams, aI E 192 v_casts_dreams)]
def fX10_sure (N : Nat) (p0 : Int32) (v_inn_sleepers : Int32) (v_casts_count : Int32) (v_casts_fitting : Int32) (v_notes_count : Int32) (v_notes_book : Nat → Int32) (v_notes_sort : Nat → Int32) (v_notes_one : Nat → Int32) (v_casts_plain_rows : Nat → Int64) (v_notes_other : Nat → Int32) (v_casts_fitters : Nat → Int32) (v_casts_dreams : Nat → Int32) : Option (Int32 × Int32 × Int32 × (Nat → Int32)) := (fX10_isSleeper N p0 v_inn_sleepers).bind (un1 fun (r_2 : Int32) => if r_2 = 0 then ((fX10_refuse N 1).bind (un2 fun (r_10 : Int32) (v_refusal_10 : Int32) => some (r_10, v_refusal_10, v_casts_fitting, v_casts_fitters))) else ((fX0_gather N 3 v_casts_count v_notes_count v_notes_book v_notes_sort v_notes_one v_casts_plain_rows v_notes_other v_casts_fitters).bind (un3 fun (r_23 : Int32) (v_casts_fitting_23 : Int32) (v_casts_fitters_23 : Nat → Int32) => if r_23 = 0 then ((fX10_refuse N 6).bind (un2 fun (r_32 : Int32) (v_refusal_32 : Int32) => some (r_32, v_refusal_32, v_casts_fitting_23, v_casts_fitters_23))) else ((fX0_commonDream N p0 v_casts_fitting_23 v_casts_fitters_23 v_casts_dreams).bind (un1 fun (r_42 : Int32) => (fX10_answer N r_42).bind (un2 fun (r_45 : Int32) (v_refusal_45 : Int32) => some (r_45, v_refusal_45, v_casts_fitting_23, v_casts_fitters_23)))))))
set_option maxHeartbeats 4000000 in
set_option maxRecDepth 100000 in
theorem ctX10_sure (l : Launch) (E : EN) (h h_reader h_inn h_chosen h_night h_marks h_notes h_casts h_inn_house h_inn_thingIn h_inn_full h_inn_states h_inn_bed h_inn_dreamOf h_inn_listensIn h_casts_trial h_casts_dreams h_casts_plain h_casts_set h_casts_tried h_casts_kin h_casts_fitters h_notes_book h_notes_sort h_notes_one h_notes_other h_casts_plain_rows : Nat) (v_marked : Int32) (v_refusal : Int32) (v_latestFault : Int32) (v_faultPlace : Int32) (v_inn_minutes : Int32) (v_inn_things : Int32) (v_inn_dreams : Int32) (v_inn_sleepers : Int32) (v_inn_listeners : Int32) (v_casts_count : Int32) (v_casts_fitting : Int32) (v_notes_count : Int32) (v_notes_book : Nat → Int32) (v_notes_sort : Nat → Int32) (v_notes_one : Nat → Int32) (v_casts_plain_rows : Nat → Int64) (v_notes_other : Nat → Int32) (v_casts_fitters : Nat → Int32) (v_casts_dreams : Nat → Int32) (N : Nat) (p0 : Int32) (z0 : Int32) (z1 : Int32) (z2 : Int32) (z3 : Nat → Int32) (hf : fX10_sure N p0 v_inn_sleepers v_casts_count v_casts_fitting v_notes_count v_notes_book v_notes_sort v_notes_one v_casts_plain_rows v_notes_other v_casts_fitters v_casts_dreams = some (z0, z1, z2, z3)) : CTi l E yX10_sure cX10_sure 2 .int 5 115 [.ref h, .int p0] (wX10_sure E h h_reader h_inn h_chosen h_night h_marks h_notes h_casts h_inn_house h_inn_thingIn h_inn_full h_inn_states h_inn_bed h_inn_dreamOf h_inn_listensIn h_casts_trial h_casts_dreams h_casts_plain h_casts_set h_casts_tried h_casts_kin h_casts_fitters h_notes_book h_notes_sort h_notes_one h_notes_other h_casts_plain_rows v_marked v_refusal v_latestFault v_faultPlace v_inn_minutes v_inn_things v_inn_dreams v_inn_sleepers v_inn_listeners v_casts_count v_casts_fitting v_notes_count v_notes_book v_notes_sort v_notes_one v_casts_plain_rows v_notes_other v_casts_fitters v_casts_dreams) z0 (wX10_sure E h h_reader h_inn h_chosen h_night h_marks h_notes h_casts h_inn_house h_inn_thingIn h_inn_full h_inn_states h_inn_bed h_inn_dreamOf h_inn_listensIn h_casts_trial h_casts_dreams h_casts_plain h_casts_set h_casts_tried h_casts_kin h_casts_fitters h_notes_book h_notes_sort h_notes_one h_notes_other h_casts_plain_rows v_marked z1 v_latestFault v_faultPlace v_inn_minutes v_inn_things v_inn_dreams v_inn_sleepers v_inn_listeners v_casts_count z2 v_notes_count v_notes_book v_notes_sort v_notes_one v_casts_plain_rows v_notes_other z3 v_casts_dreams) := by
  intro sz
  refine ct_body (by decide) (Nat.le_of_ble_eq_true rfl) ?_
  intro p e s m args below meth c A ls hAe C hr hin hP hD hS hl
  have C : CX p s m args meth c cX10_sure RX10 2 E A := C
  have hl : lv_has ls 2 [(0, .ref h), (1, .int p0)] := hl
  have hx := C.1
  have hb := C.2.1
  rw [hAe]
  clear hAe
  obtain ⟨Q, hQ⟩ : ∃ Q, Q = MQ below (Qi E A z0 (wX10_sure E h h_reader h_inn h_chosen h_night h_marks h_notes h_casts h_inn_house h_inn_thingIn h_inn_full h_inn_states h_inn_bed h_inn_dreamOf h_inn_listensIn h_casts_trial h_casts_dreams h_casts_plain h_casts_set h_casts_tried h_casts_kin h_casts_fitters h_notes_book h_notes_sort h_notes_one h_notes_other h_casts_plain_rows v_marked z1 v_latestFault v_faultPlace v_inn_minutes v_inn_things v_inn_dreams v_inn_sleepers v_inn_listeners v_casts_count z2 v_notes_count v_notes_book v_notes_sort v_notes_one v_casts_plain_rows v_notes_other z3 v_casts_dreams)) args s 0 0 A := ⟨_, rfl⟩
  rw [← hQ]
  unfold fX10_sure at hf
  refine lv_aload_n hx hb dX10_sure_0 rfl (lv_at hl 0 rfl) ?_
  refine lv_iload_n hx hb dX10_sure_1 rfl (lv_at hl 1 rfl) ?_
  obtain ⟨r_2, hc_2, hf⟩ := bd1 hf
  refine r_callVi (ws' := (wX10_sure E h h_reader h_inn h_chosen h_night h_marks h_notes h_casts h_inn_house h_inn_thingIn h_inn_full h_inn_states h_inn_bed h_inn_dreamOf h_inn_listensIn h_casts_trial h_casts_dreams h_casts_plain h_casts_set h_casts_tried h_casts_kin h_casts_fitters h_notes_book h_notes_sort h_notes_one h_notes_other h_casts_plain_rows v_marked v_refusal v_latestFault v_faultPlace v_inn_minutes v_inn_things v_inn_dreams v_inn_sleepers v_inn_listeners v_casts_count v_casts_fitting v_notes_count v_notes_book v_notes_sort v_notes_one v_casts_plain_rows v_notes_other v_casts_fitters v_casts_dreams)) (As := [.int p0]) (rest := []) C (ctX10_isSleeper l E h h_reader h_inn h_chosen h_night h_marks h_notes h_casts h_inn_house h_inn_thingIn h_inn_full h_inn_states h_inn_bed h_inn_dreamOf h_inn_listensIn v_marked v_refusal v_latestFault v_faultPlace v_inn_minutes v_inn_things v_inn_dreams v_inn_sleepers v_inn_listeners N p0 r_2 hc_2) ml_X10_167 ⟨Nat.le_of_ble_eq_true rfl, Nat.le_of_ble_eq_true rfl⟩ hP hD hS 0 rfl rfl rfl [0, 1] rfl rfl rfl rfl rfl hl.1 rfl (Nat.le_of_ble_eq_true rfl) ⟨Nat.zero_le _, Nat.zero_le _⟩ dX10_sure_2 ?_
  clear hP hD hS; intro H locs hP hD hS
  refine lv_if_ne (tgt := 14) hx hb dX10_sure_5 (by decide) (fun c_5 => ?_) (fun c_5 => ?_)
  · replace hf := it_f c_5 hf
    refine lv_aload_n hx hb dX10_sure_14 rfl (lv_at hl 0 rfl) ?_
    refine r_get C hP 0 rfl fl_X10_50 rfl dX10_sure_15 ?_
    refine lv_aload_n hx hb dX10_sure_18 rfl (lv_at hl 0 rfl) ?_
    refine r_get C hP 0 rfl fl_X10_43 rfl dX10_sure_19 ?_
    refine lv_iconst (v := 3) hx hb dX10_sure_22 (by decide) ?_
    obtain ⟨r_23, v_casts_fitting_23, v_casts_fitters_23, hc_23, hf⟩ := bd3 hf
    refine r_callVi (ws' := (wX10_sure E h h_reader h_inn h_chosen h_night h_marks h_notes h_casts h_inn_house h_inn_thingIn h_inn_full h_inn_states h_inn_bed h_inn_dreamOf h_inn_listensIn h_casts_trial h_casts_dreams h_casts_plain h_casts_set h_casts_tried h_casts_kin h_casts_fitters h_notes_book h_notes_sort h_notes_one h_notes_other h_casts_plain_rows v_marked v_refusal v_latestFault v_faultPlace v_inn_minutes v_inn_things v_inn_dreams v_inn_sleepers v_inn_listeners v_casts_count v_casts_fitting_23 v_notes_count v_notes_book v_notes_sort v_notes_one v_casts_plain_rows v_notes_other v_casts_fitters_23 v_casts_dreams)) (As := [.ref h_notes, .int 3]) (rest := []) C (ctX0_gather l E h_casts h_casts_trial h_inn h_casts_dreams h_casts_plain h_casts_set h_casts_tried h_casts_kin h_casts_fitters h_notes h_notes_book h_notes_sort h_notes_one h_notes_other h_casts_plain_rows v_casts_count v_casts_fitting v_notes_count v_notes_book v_notes_sort v_notes_one v_casts_plain_rows v_notes_other v_casts_fitters N 3 r_23 v_casts_fitting_23 v_casts_fitters_23 hc_23) ml_X10_262 ⟨Nat.le_of_ble_eq_true rfl, Nat.le_of_ble_eq_true rfl⟩ hP hD hS 2 rfl rfl rfl [2, 3, 4, 5, 6, 7, 8, 9, 10] rfl rfl rfl rfl rfl hl.1 rfl (Nat.le_of_ble_eq_true rfl) ⟨Nat.zero_le _, Nat.zero_le _⟩ dX10_sure_23 ?_
    clear hP hD hS; intro H locs hP hD hS
    refine lv_if_ne (tgt := 36) hx hb dX10_sure_26 (by decide) (fun c_26 => ?_) (fun c_26 => ?_)
    · replace hf := it_f c_26 hf
      refine lv_aload_n hx hb dX10_sure_36 rfl (lv_at hl 0 rfl) ?_
      refine lv_aload_n hx hb dX10_sure_37 rfl (lv_at hl 0 rfl) ?_
      refine r_get C hP 0 rfl fl_X10_50 rfl dX10_sure_38 ?_
      refine lv_iload_n hx hb dX10_sure_41 rfl (lv_at hl 1 rfl) ?_
      obtain ⟨r_42, hc_42, hf⟩ := bd1 hf
      refine r_callVi (ws' := (wX10_sure E h h_reader h_inn h_chosen h_night h_marks h_notes h_casts h_inn_house h_inn_thingIn h_inn_full h_inn_states h_inn_bed h_inn_dreamOf h_inn_listensIn h_casts_trial h_casts_dreams h_casts_plain h_casts_set h_casts_tried h_casts_kin h_casts_fitters h_notes_book h_notes_sort h_notes_one h_notes_other h_casts_plain_rows v_marked v_refusal v_latestFault v_faultPlace v_inn_minutes v_inn_things v_inn_dreams v_inn_sleepers v_inn_listeners v_casts_count v_casts_fitting_23 v_notes_count v_notes_book v_notes_sort v_notes_one v_casts_plain_rows v_notes_other v_casts_fitters_23 v_casts_dreams)) (As := [.int p0]) (rest := [.ref h]) C (ctX0_commonDream l E h_casts h_casts_trial h_inn h_casts_dreams h_casts_plain h_casts_set h_casts_tried h_casts_kin h_casts_fitters v_casts_count v_casts_fitting_23 v_casts_fitters_23 v_casts_dreams N p0 r_42 hc_42) ml_X10_269 ⟨Nat.le_of_ble_eq_true rfl, Nat.le_of_ble_eq_true rfl⟩ hP hD hS 2 rfl rfl rfl [2, 10, 11] rfl rfl rfl rfl rfl hl.1 rfl (Nat.le_of_ble_eq_true rfl) ⟨Nat.zero_le _, Nat.zero_le _⟩ dX10_sure_42 ?_
      clear hP hD hS; intro H locs hP hD hS
      obtain ⟨r_45, v_refusal_45, hc_45, hf⟩ := bd2 hf
      refine r_callVi (ws' := (wX10_sure E h h_reader h_inn h_chosen h_night h_marks h_notes h_casts h_inn_house h_inn_thingIn h_inn_full h_inn_states h_inn_bed h_inn_dreamOf h_inn_listensIn h_casts_trial h_casts_dreams h_casts_plain h_casts_set h_casts_tried h_casts_kin h_casts_fitters h_notes_book h_notes_sort h_notes_one h_notes_other h_casts_plain_rows v_marked v_refusal_45 v_latestFault v_faultPlace v_inn_minutes v_inn_things v_inn_dreams v_inn_sleepers v_inn_listeners v_casts_count v_casts_fitting_23 v_notes_count v_notes_book v_notes_sort v_notes_one v_casts_plain_rows v_notes_other v_casts_fitters_23 v_casts_dreams)) (As := [.int r_42]) (rest := []) C (ctX10_answer l E h h_reader h_inn h_chosen h_night h_marks h_notes h_casts v_marked v_refusal v_latestFault v_faultPlace N r_42 r_45 v_refusal_45 hc_45) ml_X10_95 ⟨Nat.le_of_ble_eq_true rfl, Nat.le_of_ble_eq_true rfl⟩ hP hD hS 0 rfl rfl rfl [0] rfl rfl rfl rfl rfl hl.1 rfl (Nat.le_of_ble_eq_true rfl) ⟨Nat.zero_le _, Nat.zero_le _⟩ dX10_sure_45 ?_
      clear hP hD hS; intro H locs hP hD hS
      cases hf
      rw [hQ]
      exact r_iret C hr hP hD hS rfl dX10_sure_48
    · replace hf := it_t c_26 hf
      refine lv_aload_n hx hb dX10_sure_29 rfl (lv_at hl 0 rfl) ?_
      refine lv_bipush (v := 6) hx hb dX10_sure_30 (by decide) ?_
      obtain ⟨r_32, v_refusal_32, hc_32, hf⟩ := bd2 hf
      refine r_callVi (ws' := (wX10_sure E h h_reader h_inn h_chosen h_night h_marks h_notes h_casts h_inn_house h_inn_thingIn h_inn_full h_inn_states h_inn_bed h_inn_dreamOf h_inn_listensIn h_casts_trial h_casts_dreams h_casts_plain h_casts_set h_casts_tried h_casts_kin h_casts_fitters h_notes_book h_notes_sort h_notes_one h_notes_other h_casts_plain_rows v_marked v_refusal_32 v_latestFault v_faultPlace v_inn_minutes v_inn_things v_inn_dreams v_inn_sleepers v_inn_listeners v_casts_count v_casts_fitting_23 v_notes_count v_notes_book v_notes_sort v_notes_one v_casts_plain_rows v_notes_other v_casts_fitters_23 v_casts_dreams)) (As := [.int 6]) (rest := []) C (ctX10_refuse l E h h_reader h_inn h_chosen h_night h_marks h_notes h_casts v_marked v_refusal v_latestFault v_faultPlace N 6 r_32 v_refusal_32 hc_32) ml_X10_68 ⟨Nat.le_of_ble_eq_true rfl, Nat.le_of_ble_eq_true rfl⟩ hP hD hS 0 rfl rfl rfl [0] rfl rfl rfl rfl rfl hl.1 rfl (Nat.le_of_ble_eq_true rfl) ⟨Nat.zero_le _, Nat.zero_le _⟩ dX10_sure_32 ?_
      clear hP hD hS; intro H locs hP hD hS
      cases hf
      rw [hQ]
      exact r_iret C hr hP hD hS rfl dX10_sure_35
  · replace hf := it_t c_5 hf
    refine lv_aload_n hx hb dX10_sure_8 rfl (lv_at hl 0 rfl) ?_
    refine lv_iconst (v := 1) hx hb dX10_sure_9 (by decide) ?_
    obtain ⟨r_10, v_refusal_10, hc_10, hf⟩ := bd2 hf
    refine r_callVi (ws' := (wX10_sure E h h_reader h_inn h_chosen h_night h_marks h_notes h_casts h_inn_house h_inn_thingIn h_inn_full h_inn_states h_inn_bed h_inn_dreamOf h_inn_listensIn h_casts_trial h_casts_dreams h_casts_plain h_casts_set h_casts_tried h_casts_kin h_casts_fitters h_notes_book h_notes_sort h_notes_one h_notes_other h_casts_plain_rows v_marked v_refusal_10 v_latestFault v_faultPlace v_inn_minutes v_inn_things v_inn_dreams v_inn_sleepers v_inn_listeners v_casts_count v_casts_fitting v_notes_count v_notes_book v_notes_sort v_notes_one v_casts_plain_rows v_notes_other v_casts_fitters v_casts_dreams)) (As := [.int 1]) (rest := []) C (ctX10_refuse l E h h_reader h_inn h_chosen h_night h_marks h_notes h_casts v_marked v_refusal v_latestFault v_faultPlace N 1 r_10 v_refusal_10 hc_10) ml_X10_68 ⟨Nat.le_of_ble_eq_true rfl, Nat.le_of_ble_eq_true rfl⟩ hP hD hS 0 rfl rfl rfl [0] rfl rfl rfl rfl rfl hl.1 rfl (Nat.le_of_ble_eq_true rfl) ⟨Nat.zero_le _, Nat.zero_le _⟩ dX10_sure_10 ?_
    clear hP hD hS; intro H locs hP hD hS
    cases hf
    rw [hQ]
    exact r_iret C hr hP hD hS rfl dX10_sure_13
def wX10_verdict (E : EN) (h h_reader h_inn h_chosen h_night h_marks h_notes h_casts h_inn_house h_inn_thingIn h_inn_full h_inn_states h_inn_bed h_inn_dreamOf h_inn_listensIn h_casts_trial h_casts_dreams h_casts_plain h_casts_set h_casts_tried h_casts_kin h_casts_fitters h_notes_book h_notes_sort h_notes_one h_notes_other h_casts_plain_rows : Nat) (v_marked : Int32) (v_refusal : Int32) (v_latestFault : Int32) (v_faultPlace : Int32) (v_inn_minutes : Int32) (v_inn_things : Int32) (v_inn_dreams : Int32) (v_inn_sleepers : Int32) (v_inn_listeners : Int32) (v_casts_count : Int32) (v_casts_fitting : Int32) (v_notes_count : Int32) (v_notes_book : Nat → Int32) (v_notes_sort : Nat → Int32) (v_notes_one : Nat → Int32) (v_casts_plain_rows : Nat → Int64) (v_notes_other : Nat → Int32) (v_casts_fitters : Nat → Int32) : va_W := [(h, .inr (9, [.ref h_reader, .ref h_inn, .ref h_chosen, .ref h_night, .ref h_marks, .int v_marked, .ref h_notes, .ref h_casts, .int v_refusal, .int v_latestFault, .int v_faultPlace])), (h_inn, .inr (2, [.ref h_inn_house, .int v_inn_minutes, .int v_inn_things, .ref h_inn_thingIn, .ref h_inn_full, .int v_inn_dreams, .ref h_inn_states, .int v_inn_sleepers, .ref h_inn_bed, .ref h_inn_dreamOf, .int v_inn_listeners, .ref h_inn_listensIn])), (h_casts, .inr (0, [.ref h_casts_trial, .ref h_inn, .int v_casts_count, .ref h_casts_dreams, .ref h_casts_plain, .ref h_casts_set, .ref h_casts_tried, .ref h_casts_kin, .int v_casts_fitting, .ref h_casts_fitters])), (h_notes, .inr (5, [.ref h_notes_book, .ref h_notes_sort, .ref h_notes_one, .ref h_notes_other, .int v_notes_count])), (h_notes_book, aI E 20 v_notes_book), (h_notes_sort, aI E 20 v_notes_sort), (h_notes_one, aI E 20 v_notes_one), (h_casts_plain, .inr (3, [.ref h_casts_plain_rows])), (h_casts_plain_rows, aJ E 256 v_casts_plain_rows), (h_notes_other, aI E 20 v_notes_other), (h_casts_fitters, aI E 64 v_casts_fitters)]
def fX10_verdict (N : Nat) (v_inn_minutes : Int32) (v_casts_count : Int32) (v_casts_fitting : Int32) (v_notes_count : Int32) (v_notes_book : Nat → Int32) (v_notes_sort : Nat → Int32) (v_notes_one : Nat → Int32) (v_casts_plain_rows : Nat → Int64) (v_notes_other : Nat → Int32) (v_casts_fitters : Nat → Int32) : Option (Int32 × Int32 × Int32 × (Nat → Int32)) := (fX10_isTold N v_inn_minutes).bind (un1 fun (r_1 : Int32) => if r_1 = 0 then ((fX10_refuse N 1).bind (un2 fun (r_9 : Int32) (v_refusal_9 : Int32) => some (r_9, v_refusal_9, v_casts_fitting, v_casts_fitters))) else ((fX0_gather N 3 v_casts_count v_notes_count v_notes_book v_notes_sort v_notes_one v_casts_plain_rows v_notes_other v_casts_fitters).bind (un3 fun (r_22 : Int32) (v_casts_fitting_22 : Int32) (v_casts_fitters_22 : Nat → Int32) => if r_22 ≤ 0 then ((fX0_gather N 1 v_casts_count v_notes_count v_notes_book v_notes_sort v_notes_one v_casts_plain_rows v_notes_other v_casts_fitters_22).bind (un3 fun (r_43 : Int32) (v_casts_fitting_43 : Int32) (v_casts_fitters_43 : Nat → Int32) => jn (un1 fun (x54_s0 : Int32) => (fX0_gather N 2 v_casts_count v_notes_count v_notes_book v_notes_sort v_notes_one v_casts_plain_rows v_notes_other v_casts_fitters_43).bind (un3 fun (r_64 : Int32) (v_casts_fitting_64 : Int32) (v_casts_fitters_64 : Nat → Int32) => jn (un1 fun (x75_s0 : Int32) => if x54_s0 = 0 then (if x75_s0 = 0 then ((fX10_answer N 4).bind (un2 fun (r_104 : Int32) (v_refusal_104 : Int32) => some (r_104, v_refusal_104, v_casts_fitting_64, v_casts_fitters_64))) else ((fX10_answer N 2).bind (un2 fun (r_104 : Int32) (v_refusal_104 : Int32) => some (r_104, v_refusal_104, v_casts_fitting_64, v_casts_fitters_64)))) else (if x75_s0 = 0 then ((fX10_answer N 1).bind (un2 fun (r_90 : Int32) (v_refusal_90 : Int32) => some (r_90, v_refusal_90, v_casts_fitting_64, v_casts_fitters_64))) else ((fX10_answer N 3).bind (un2 fun (r_90 : Int32) (v_refusal_90 : Int32) => some (r_90, v_refusal_90, v_casts_fitting_64, v_casts_fitters_64))))) (fun j75 => if r_64 ≤ 0 then (j75 0) else (j75 1)))) (fun j54 => if r_43 ≤ 0 then (j54 0) else (j54 1)))) else ((fX10_answer N 0).bind (un2 fun (r_30 : Int32) (v_refusal_30 : Int32) => some (r_30, v_refusal_30, v_casts_fitting_22, v_casts_fitters_22))))))
set_option maxHeartbeats 4000000 in
set_option maxRecDepth 100000 in
theorem ctX10_verdict (l : Launch) (E : EN) (h h_reader h_inn h_chosen h_night h_marks h_notes h_casts h_inn_house h_inn_thingIn h_inn_full h_inn_states h_inn_bed h_inn_dreamOf h_inn_listensIn h_casts_trial h_casts_dreams h_casts_plain h_casts_set h_casts_tried h_casts_kin h_casts_fitters h_notes_book h_notes_sort h_notes_one h_notes_other h_casts_plain_rows : Nat) (v_marked : Int32) (v_refusal : Int32) (v_latestFault : Int32) (v_faultPlace : Int32) (v_inn_minutes : Int32) (v_inn_things : Int32) (v_inn_dreams : Int32) (v_inn_sleepers : Int32) (v_inn_listeners : Int32) (v_casts_count : Int32) (v_casts_fitting : Int32) (v_notes_count : Int32) (v_notes_book : Nat → Int32) (v_notes_sort : Nat → Int32) (v_notes_one : Nat → Int32) (v_casts_plain_rows : Nat → Int64) (v_notes_other : Nat → Int32) (v_casts_fitters : Nat → Int32) (N : Nat) (z0 : Int32) (z1 : Int32) (z2 : Int32) (z3 : Nat → Int32) (hf : fX10_verdict N v_inn_minutes v_casts_count v_casts_fitting v_notes_count v_notes_book v_notes_sort v_notes_one v_casts_plain_rows v_notes_other v_casts_fitters = some (z0, z1, z2, z3)) : CTi l E yX10_verdict cX10_verdict 3 .int 5 115 [.ref h] (wX10_verdict E h h_reader h_inn h_chosen h_night h_marks h_notes h_casts h_inn_house h_inn_thingIn h_inn_full h_inn_states h_inn_bed h_inn_dreamOf h_inn_listensIn h_casts_trial h_casts_dreams h_casts_plain h_casts_set h_casts_tried h_casts_kin h_casts_fitters h_notes_book h_notes_sort h_notes_one h_notes_other h_casts_plain_rows v_marked v_refusal v_latestFault v_faultPlace v_inn_minutes v_inn_things v_inn_dreams v_inn_sleepers v_inn_listeners v_casts_count v_casts_fitting v_notes_count v_notes_book v_notes_sort v_notes_one v_casts_plain_rows v_notes_other v_casts_fitters) z0 (wX10_verdict E h h_reader h_inn h_chosen h_night h_marks h_notes h_casts h_inn_house h_inn_thingIn h_inn_full h_inn_states h_inn_bed h_inn_dreamOf h_inn_listensIn h_casts_trial h_casts_dreams h_casts_plain h_casts_set h_casts_tried h_casts_kin h_casts_fitters h_notes_book h_notes_sort h_notes_one h_notes_other h_casts_plain_rows v_marked z1 v_latestFault v_faultPlace v_inn_minutes v_inn_things v_inn_dreams v_inn_sleepers v_inn_listeners v_casts_count z2 v_notes_count v_notes_book v_notes_sort v_notes_one v_casts_plain_rows v_notes_other z3) := by
  intro sz
  refine ct_body (by decide) (Nat.le_of_ble_eq_true rfl) ?_
  intro p e s m args below meth c A ls hAe C hr hin hP hD hS hl
  have C : CX p s m args meth c cX10_verdict RX10 3 E A := C
  have hl : lv_has ls 3 [(0, .ref h)] := hl
  have hx := C.1
  have hb := C.2.1
  rw [hAe]
  clear hAe
  obtain ⟨Q, hQ⟩ : ∃ Q, Q = MQ below (Qi E A z0 (wX10_verdict E h h_reader h_inn h_chosen h_night h_marks h_notes h_casts h_inn_house h_inn_thingIn h_inn_full h_inn_states h_inn_bed h_inn_dreamOf h_inn_listensIn h_casts_trial h_casts_dreams h_casts_plain h_casts_set h_casts_tried h_casts_kin h_casts_fitters h_notes_book h_notes_sort h_notes_one h_notes_other h_casts_plain_rows v_marked z1 v_latestFault v_faultPlace v_inn_minutes v_inn_things v_inn_dreams v_inn_sleepers v_inn_listeners v_casts_count z2 v_notes_count v_notes_book v_notes_sort v_notes_one v_casts_plain_rows v_notes_other z3)) args s 0 0 A := ⟨_, rfl⟩
  rw [← hQ]
  unfold fX10_verdict at hf
  refine lv_aload_n hx hb dX10_verdict_0 rfl (lv_at hl 0 rfl) ?_
  obtain ⟨r_1, hc_1, hf⟩ := bd1 hf
  refine r_callVi (ws' := (wX10_verdict E h h_reader h_inn h_chosen h_night h_marks h_notes h_casts h_inn_house h_inn_thingIn h_inn_full h_inn_states h_inn_bed h_inn_dreamOf h_inn_listensIn h_casts_trial h_casts_dreams h_casts_plain h_casts_set h_casts_tried h_casts_kin h_casts_fitters h_notes_book h_notes_sort h_notes_one h_notes_other h_casts_plain_rows v_marked v_refusal v_latestFault v_faultPlace v_inn_minutes v_inn_things v_inn_dreams v_inn_sleepers v_inn_listeners v_casts_count v_casts_fitting v_notes_count v_notes_book v_notes_sort v_notes_one v_casts_plain_rows v_notes_other v_casts_fitters)) (As := []) (rest := []) C (ctX10_isTold l E h h_reader h_inn h_chosen h_night h_marks h_notes h_casts h_inn_house h_inn_thingIn h_inn_full h_inn_states h_inn_bed h_inn_dreamOf h_inn_listensIn v_marked v_refusal v_latestFault v_faultPlace v_inn_minutes v_inn_things v_inn_dreams v_inn_sleepers v_inn_listeners N r_1 hc_1) ml_X10_170 ⟨Nat.le_of_ble_eq_true rfl, Nat.le_of_ble_eq_true rfl⟩ hP hD hS 0 rfl rfl rfl [0, 1] rfl rfl rfl rfl rfl hl.1 rfl (Nat.le_of_ble_eq_true rfl) ⟨Nat.zero_le _, Nat.zero_le _⟩ dX10_verdict_1 ?_
  clear hP hD hS; intro H locs hP hD hS
  refine lv_if_ne (tgt := 13) hx hb dX10_verdict_4 (by decide) (fun c_4 => ?_) (fun c_4 => ?_)
  · replace hf := it_f c_4 hf
    refine lv_aload_n hx hb dX10_verdict_13 rfl (lv_at hl 0 rfl) ?_
    refine r_get C hP 0 rfl fl_X10_50 rfl dX10_verdict_14 ?_
    refine lv_aload_n hx hb dX10_verdict_17 rfl (lv_at hl 0 rfl) ?_
    refine r_get C hP 0 rfl fl_X10_43 rfl dX10_verdict_18 ?_
    refine lv_iconst (v := 3) hx hb dX10_verdict_21 (by decide) ?_
    obtain ⟨r_22, v_casts_fitting_22, v_casts_fitters_22, hc_22, hf⟩ := bd3 hf
    refine r_callVi (ws' := (wX10_verdict E h h_reader h_inn h_chosen h_night h_marks h_notes h_casts h_inn_house h_inn_thingIn h_inn_full h_inn_states h_inn_bed h_inn_dreamOf h_inn_listensIn h_casts_trial h_casts_dreams h_casts_plain h_casts_set h_casts_tried h_casts_kin h_casts_fitters h_notes_book h_notes_sort h_notes_one h_notes_other h_casts_plain_rows v_marked v_refusal v_latestFault v_faultPlace v_inn_minutes v_inn_things v_inn_dreams v_inn_sleepers v_inn_listeners v_casts_count v_casts_fitting_22 v_notes_count v_notes_book v_notes_sort v_notes_one v_casts_plain_rows v_notes_other v_casts_fitters_22)) (As := [.ref h_notes, .int 3]) (rest := []) C (ctX0_gather l E h_casts h_casts_trial h_inn h_casts_dreams h_casts_plain h_casts_set h_casts_tried h_casts_kin h_casts_fitters h_notes h_notes_book h_notes_sort h_notes_one h_notes_other h_casts_plain_rows v_casts_count v_casts_fitting v_notes_count v_notes_book v_notes_sort v_notes_one v_casts_plain_rows v_notes_other v_casts_fitters N 3 r_22 v_casts_fitting_22 v_casts_fitters_22 hc_22) ml_X10_262 ⟨Nat.le_of_ble_eq_true rfl, Nat.le_of_ble_eq_true rfl⟩ hP hD hS 2 rfl rfl rfl [2, 3, 4, 5, 6, 7, 8, 9, 10] rfl rfl rfl rfl rfl hl.1 rfl (Nat.le_of_ble_eq_true rfl) ⟨Nat.zero_le _, Nat.zero_le _⟩ dX10_verdict_22 ?_
    clear hP hD hS; intro H locs hP hD hS
    refine lv_if_le (tgt := 34) hx hb dX10_verdict_25 (by decide) (fun c_25 => ?_) (fun c_25 => ?_)
    · replace hf := it_t c_25 hf
      refine lv_aload_n hx hb dX10_verdict_34 rfl (lv_at hl 0 rfl) ?_
      refine r_get C hP 0 rfl fl_X10_50 rfl dX10_verdict_35 ?_
      refine lv_aload_n hx hb dX10_verdict_38 rfl (lv_at hl 0 rfl) ?_
      refine r_get C hP 0 rfl fl_X10_43 rfl dX10_verdict_39 ?_
      refine lv_iconst (v := 1) hx hb dX10_verdict_42 (by decide) ?_
      obtain ⟨r_43, v_casts_fitting_43, v_casts_fitters_43, hc_43, hf⟩ := bd3 hf
      refine r_callVi (ws' := (wX10_verdict E h h_reader h_inn h_chosen h_night h_marks h_notes h_casts h_inn_house h_inn_thingIn h_inn_full h_inn_states h_inn_bed h_inn_dreamOf h_inn_listensIn h_casts_trial h_casts_dreams h_casts_plain h_casts_set h_casts_tried h_casts_kin h_casts_fitters h_notes_book h_notes_sort h_notes_one h_notes_other h_casts_plain_rows v_marked v_refusal v_latestFault v_faultPlace v_inn_minutes v_inn_things v_inn_dreams v_inn_sleepers v_inn_listeners v_casts_count v_casts_fitting_43 v_notes_count v_notes_book v_notes_sort v_notes_one v_casts_plain_rows v_notes_other v_casts_fitters_43)) (As := [.ref h_notes, .int 1]) (rest := []) C (ctX0_gather l E h_casts h_casts_trial h_inn h_casts_dreams h_casts_plain h_casts_set h_casts_tried h_casts_kin h_casts_fitters h_notes h_notes_book h_notes_sort h_notes_one h_notes_other h_casts_plain_rows v_casts_count v_casts_fitting_22 v_notes_count v_notes_book v_notes_sort v_notes_one v_casts_plain_rows v_notes_other v_casts_fitters_22 N 1 r_43 v_casts_fitting_43 v_casts_fitters_43 hc_43) ml_X10_262 ⟨Nat.le_of_ble_eq_true rfl, Nat.le_of_ble_eq_true rfl⟩ hP hD hS 2 rfl rfl rfl [2, 3, 4, 5, 6, 7, 8, 9, 10] rfl rfl rfl rfl rfl hl.1 rfl (Nat.le_of_ble_eq_true rfl) ⟨Nat.zero_le _, Nat.zero_le _⟩ dX10_verdict_43 ?_
      clear hP hD hS; intro H locs hP hD hS
      refine jnK hf (fun j54 ej54 hf => ?_)
      have hj54 : ∀ (x54_s0 : Int32) , j54 x54_s0 = some (z0, z1, z2, z3) → AT p l e (rmOf 5 115) s m args below meth c E A Q 0 0 3 [(0, .ref h)] (wX10_verdict E h h_reader h_inn h_chosen h_night h_marks h_notes h_casts h_inn_house h_inn_thingIn h_inn_full h_inn_states h_inn_bed h_inn_dreamOf h_inn_listensIn h_casts_trial h_casts_dreams h_casts_plain h_casts_set h_casts_tried h_casts_kin h_casts_fitters h_notes_book h_notes_sort h_notes_one h_notes_other h_casts_plain_rows v_marked v_refusal v_latestFault v_faultPlace v_inn_minutes v_inn_things v_inn_dreams v_inn_sleepers v_inn_listeners v_casts_count v_casts_fitting_43 v_notes_count v_notes_book v_notes_sort v_notes_one v_casts_plain_rows v_notes_other v_casts_fitters_43) 54 [.int x54_s0] := by
        intro x54_s0 hf H locs ls hl hP hD hS
        rw [ej54] at hf
        replace hf := un1_s hf
        refine lv_istore_n (lv' := [(1, .int x54_s0), (0, .ref h)]) hx hb dX10_verdict_54 rfl hl (by decide) rfl (fun ls hl => ?_)
        refine lv_aload_n hx hb dX10_verdict_55 rfl (lv_at hl 1 rfl) ?_
        refine r_get C hP 0 rfl fl_X10_50 rfl dX10_verdict_56 ?_
        refine lv_aload_n hx hb dX10_verdict_59 rfl (lv_at hl 1 rfl) ?_
        refine r_get C hP 0 rfl fl_X10_43 rfl dX10_verdict_60 ?_
        refine lv_iconst (v := 2) hx hb dX10_verdict_63 (by decide) ?_
        obtain ⟨r_64, v_casts_fitting_64, v_casts_fitters_64, hc_64, hf⟩ := bd3 hf
        refine r_callVi (ws' := (wX10_verdict E h h_reader h_inn h_chosen h_night h_marks h_notes h_casts h_inn_house h_inn_thingIn h_inn_full h_inn_states h_inn_bed h_inn_dreamOf h_inn_listensIn h_casts_trial h_casts_dreams h_casts_plain h_casts_set h_casts_tried h_casts_kin h_casts_fitters h_notes_book h_notes_sort h_notes_one h_notes_other h_casts_plain_rows v_marked v_refusal v_latestFault v_faultPlace v_inn_minutes v_inn_things v_inn_dreams v_inn_sleepers v_inn_listeners v_casts_count v_casts_fitting_64 v_notes_count v_notes_book v_notes_sort v_notes_one v_casts_plain_rows v_notes_other v_casts_fitters_64)) (As := [.ref h_notes, .int 2]) (rest := []) C (ctX0_gather l E h_casts h_casts_trial h_inn h_casts_dreams h_casts_plain h_casts_set h_casts_tried h_casts_kin h_casts_fitters h_notes h_notes_book h_notes_sort h_notes_one h_notes_other h_casts_plain_rows v_casts_count v_casts_fitting_43 v_notes_count v_notes_book v_notes_sort v_notes_one v_casts_plain_rows v_notes_other v_casts_fitters_43 N 2 r_64 v_casts_fitting_64 v_casts_fitters_64 hc_64) ml_X10_262 ⟨Nat.le_of_ble_eq_true rfl, Nat.le_of_ble_eq_true rfl⟩ hP hD hS 2 rfl rfl rfl [2, 3, 4, 5, 6, 7, 8, 9, 10] rfl rfl rfl rfl rfl hl.1 rfl (Nat.le_of_ble_eq_true rfl) ⟨Nat.zero_le _, Nat.zero_le _⟩ dX10_verdict_64 ?_
        clear hP hD hS; intro H locs hP hD hS
        refine jnK hf (fun j75 ej75 hf => ?_)
        have hj75 : ∀ (x75_s0 : Int32) , j75 x75_s0 = some (z0, z1, z2, z3) → AT p l e (rmOf 5 115) s m args below meth c E A Q 0 0 3 [(0, .ref h), (1, .int x54_s0)] (wX10_verdict E h h_reader h_inn h_chosen h_night h_marks h_notes h_casts h_inn_house h_inn_thingIn h_inn_full h_inn_states h_inn_bed h_inn_dreamOf h_inn_listensIn h_casts_trial h_casts_dreams h_casts_plain h_casts_set h_casts_tried h_casts_kin h_casts_fitters h_notes_book h_notes_sort h_notes_one h_notes_other h_casts_plain_rows v_marked v_refusal v_latestFault v_faultPlace v_inn_minutes v_inn_things v_inn_dreams v_inn_sleepers v_inn_listeners v_casts_count v_casts_fitting_64 v_notes_count v_notes_book v_notes_sort v_notes_one v_casts_plain_rows v_notes_other v_casts_fitters_64) 75 [.int x75_s0] := by
          intro x75_s0 hf H locs ls hl hP hD hS
          rw [ej75] at hf
          replace hf := un1_s hf
          refine lv_istore_n (lv' := [(2, .int x75_s0), (0, .ref h), (1, .int x54_s0)]) hx hb dX10_verdict_75 rfl hl (by decide) rfl (fun ls hl => ?_)
          refine lv_iload_n hx hb dX10_verdict_76 rfl (lv_at hl 2 rfl) ?_
          refine lv_if_eq (tgt := 94) hx hb dX10_verdict_77 (by decide) (fun c_77 => ?_) (fun c_77 => ?_)
          · replace hf := it_t c_77 hf
            refine lv_aload_n hx hb dX10_verdict_94 rfl (lv_at hl 1 rfl) ?_
            refine lv_iload_n hx hb dX10_verdict_95 rfl (lv_at hl 0 rfl) ?_
            refine lv_if_eq (tgt := 103) hx hb dX10_verdict_96 (by decide) (fun c_96 => ?_) (fun c_96 => ?_)
            · replace hf := it_t c_96 hf
              refine lv_iconst (v := 4) hx hb dX10_verdict_103 (by decide) ?_
              obtain ⟨r_104, v_refusal_104, hc_104, hf⟩ := bd2 hf
              refine r_callVi (ws' := (wX10_verdict E h h_reader h_inn h_chosen h_night h_marks h_notes h_casts h_inn_house h_inn_thingIn h_inn_full h_inn_states h_inn_bed h_inn_dreamOf h_inn_listensIn h_casts_trial h_casts_dreams h_casts_plain h_casts_set h_casts_tried h_casts_kin h_casts_fitters h_notes_book h_notes_sort h_notes_one h_notes_other h_casts_plain_rows v_marked v_refusal_104 v_latestFault v_faultPlace v_inn_minutes v_inn_things v_inn_dreams v_inn_sleepers v_inn_listeners v_casts_count v_casts_fitting_64 v_notes_count v_notes_book v_notes_sort v_notes_one v_casts_plain_rows v_notes_other v_casts_fitters_64)) (As := [.int 4]) (rest := []) C (ctX10_answer l E h h_reader h_inn h_chosen h_night h_marks h_notes h_casts v_marked v_refusal v_latestFault v_faultPlace N 4 r_104 v_refusal_104 hc_104) ml_X10_95 ⟨Nat.le_of_ble_eq_true rfl, Nat.le_of_ble_eq_true rfl⟩ hP hD hS 0 rfl rfl rfl [0] rfl rfl rfl rfl rfl hl.1 rfl (Nat.le_of_ble_eq_true rfl) ⟨Nat.zero_le _, Nat.zero_le _⟩ dX10_verdict_104 ?_
              clear hP hD hS; intro H locs hP hD hS
              cases hf
              rw [hQ]
              exact r_iret C hr hP hD hS rfl dX10_verdict_107
            · replace hf := it_f c_96 hf
              refine lv_iconst (v := 2) hx hb dX10_verdict_99 (by decide) ?_
              refine lv_goto (tgt := 104) hx hb dX10_verdict_100 (by decide) ?_
              obtain ⟨r_104, v_refusal_104, hc_104, hf⟩ := bd2 hf
              refine r_callVi (ws' := (wX10_verdict E h h_reader h_inn h_chosen h_night h_marks h_notes h_casts h_inn_house h_inn_thingIn h_inn_full h_inn_states h_inn_bed h_inn_dreamOf h_inn_listensIn h_casts_trial h_casts_dreams h_casts_plain h_casts_set h_casts_tried h_casts_kin h_casts_fitters h_notes_book h_notes_sort h_notes_one h_notes_other h_casts_plain_rows v_marked v_refusal_104 v_latestFault v_faultPlace v_inn_minutes v_inn_things v_inn_dreams v_inn_sleepers v_inn_listeners v_casts_count v_casts_fitting_64 v_notes_count v_notes_book v_notes_sort v_notes_one v_casts_plain_rows v_notes_other v_casts_fitters_64)) (As := [.int 2]) (rest := []) C (ctX10_answer l E h h_reader h_inn h_chosen h_night h_marks h_notes h_casts v_marked v_refusal v_latestFault v_faultPlace N 2 r_104 v_refusal_104 hc_104) ml_X10_95 ⟨Nat.le_of_ble_eq_true rfl, Nat.le_of_ble_eq_true rfl⟩ hP hD hS 0 rfl rfl rfl [0] rfl rfl rfl rfl rfl hl.1 rfl (Nat.le_of_ble_eq_true rfl) ⟨Nat.zero_le _, Nat.zero_le _⟩ dX10_verdict_104 ?_
              clear hP hD hS; intro H locs hP hD hS
              cases hf
              rw [hQ]
              exact r_iret C hr hP hD hS rfl dX10_verdict_107
          · replace hf := it_f c_77 hf
            refine lv_aload_n hx hb dX10_verdict_80 rfl (lv_at hl 1 rfl) ?_
            refine lv_iload_n hx hb dX10_verdict_81 rfl (lv_at hl 0 rfl) ?_
            refine lv_if_eq (tgt := 89) hx hb dX10_verdict_82 (by decide) (fun c_82 => ?_) (fun c_82 => ?_)
            · replace hf := it_t c_82 hf
              refine lv_iconst (v := 1) hx hb dX10_verdict_89 (by decide) ?_
              obtain ⟨r_90, v_refusal_90, hc_90, hf⟩ := bd2 hf
              refine r_callVi (ws' := (wX10_verdict E h h_reader h_inn h_chosen h_night h_marks h_notes h_casts h_inn_house h_inn_thingIn h_inn_full h_inn_states h_inn_bed h_inn_dreamOf h_inn_listensIn h_casts_trial h_casts_dreams h_casts_plain h_casts_set h_casts_tried h_casts_kin h_casts_fitters h_notes_book h_notes_sort h_notes_one h_notes_other h_casts_plain_rows v_marked v_refusal_90 v_latestFault v_faultPlace v_inn_minutes v_inn_things v_inn_dreams v_inn_sleepers v_inn_listeners v_casts_count v_casts_fitting_64 v_notes_count v_notes_book v_notes_sort v_notes_one v_casts_plain_rows v_notes_other v_casts_fitters_64)) (As := [.int 1]) (rest := []) C (ctX10_answer l E h h_reader h_inn h_chosen h_night h_marks h_notes h_casts v_marked v_refusal v_latestFault v_faultPlace N 1 r_90 v_refusal_90 hc_90) ml_X10_95 ⟨Nat.le_of_ble_eq_true rfl, Nat.le_of_ble_eq_true rfl⟩ hP hD hS 0 rfl rfl rfl [0] rfl rfl rfl rfl rfl hl.1 rfl (Nat.le_of_ble_eq_true rfl) ⟨Nat.zero_le _, Nat.zero_le _⟩ dX10_verdict_90 ?_
              clear hP hD hS; intro H locs hP hD hS
              cases hf
              rw [hQ]
              exact r_iret C hr hP hD hS rfl dX10_verdict_93
            · replace hf := it_f c_82 hf
              refine lv_iconst (v := 3) hx hb dX10_verdict_85 (by decide) ?_
              refine lv_goto (tgt := 90) hx hb dX10_verdict_86 (by decide) ?_
              obtain ⟨r_90, v_refusal_90, hc_90, hf⟩ := bd2 hf
              refine r_callVi (ws' := (wX10_verdict E h h_reader h_inn h_chosen h_night h_marks h_notes h_casts h_inn_house h_inn_thingIn h_inn_full h_inn_states h_inn_bed h_inn_dreamOf h_inn_listensIn h_casts_trial h_casts_dreams h_casts_plain h_casts_set h_casts_tried h_casts_kin h_casts_fitters h_notes_book h_notes_sort h_notes_one h_notes_other h_casts_plain_rows v_marked v_refusal_90 v_latestFault v_faultPlace v_inn_minutes v_inn_things v_inn_dreams v_inn_sleepers v_inn_listeners v_casts_count v_casts_fitting_64 v_notes_count v_notes_book v_notes_sort v_notes_one v_casts_plain_rows v_notes_other v_casts_fitters_64)) (As := [.int 3]) (rest := []) C (ctX10_answer l E h h_reader h_inn h_chosen h_night h_marks h_notes h_casts v_marked v_refusal v_latestFault v_faultPlace N 3 r_90 v_refusal_90 hc_90) ml_X10_95 ⟨Nat.le_of_ble_eq_true rfl, Nat.le_of_ble_eq_true rfl⟩ hP hD hS 0 rfl rfl rfl [0] rfl rfl rfl rfl rfl hl.1 rfl (Nat.le_of_ble_eq_true rfl) ⟨Nat.zero_le _, Nat.zero_le _⟩ dX10_verdict_90 ?_
              clear hP hD hS; intro H locs hP hD hS
              cases hf
              rw [hQ]
              exact r_iret C hr hP hD hS rfl dX10_verdict_93
        clear ej75
        refine lv_if_le (tgt := 74) hx hb dX10_verdict_67 (by decide) (fun c_67 => ?_) (fun c_67 => ?_)
        · replace hf := it_t c_67 hf
          refine lv_iconst (v := 0) hx hb dX10_verdict_74 (by decide) ?_
          exact hj75 0 hf _ _ _ (lv_sub hl [1, 0] rfl) hP hD hS
        · replace hf := it_f c_67 hf
          refine lv_iconst (v := 1) hx hb dX10_verdict_70 (by decide) ?_
          refine lv_goto (tgt := 75) hx hb dX10_verdict_71 (by decide) ?_
          exact hj75 1 hf _ _ _ (lv_sub hl [1, 0] rfl) hP hD hS
      clear ej54
      refine lv_if_le (tgt := 53) hx hb dX10_verdict_46 (by decide) (fun c_46 => ?_) (fun c_46 => ?_)
      · replace hf := it_t c_46 hf
        refine lv_iconst (v := 0) hx hb dX10_verdict_53 (by decide) ?_
        exact hj54 0 hf _ _ _ (lv_sub hl [0] rfl) hP hD hS
      · replace hf := it_f c_46 hf
        refine lv_iconst (v := 1) hx hb dX10_verdict_49 (by decide) ?_
        refine lv_goto (tgt := 54) hx hb dX10_verdict_50 (by decide) ?_
        exact hj54 1 hf _ _ _ (lv_sub hl [0] rfl) hP hD hS
    · replace hf := it_f c_25 hf
      refine lv_aload_n hx hb dX10_verdict_28 rfl (lv_at hl 0 rfl) ?_
      refine lv_iconst (v := 0) hx hb dX10_verdict_29 (by decide) ?_
      obtain ⟨r_30, v_refusal_30, hc_30, hf⟩ := bd2 hf
      refine r_callVi (ws' := (wX10_verdict E h h_reader h_inn h_chosen h_night h_marks h_notes h_casts h_inn_house h_inn_thingIn h_inn_full h_inn_states h_inn_bed h_inn_dreamOf h_inn_listensIn h_casts_trial h_casts_dreams h_casts_plain h_casts_set h_casts_tried h_casts_kin h_casts_fitters h_notes_book h_notes_sort h_notes_one h_notes_other h_casts_plain_rows v_marked v_refusal_30 v_latestFault v_faultPlace v_inn_minutes v_inn_things v_inn_dreams v_inn_sleepers v_inn_listeners v_casts_count v_casts_fitting_22 v_notes_count v_notes_book v_notes_sort v_notes_one v_casts_plain_rows v_notes_other v_casts_fitters_22)) (As := [.int 0]) (rest := []) C (ctX10_answer l E h h_reader h_inn h_chosen h_night h_marks h_notes h_casts v_marked v_refusal v_latestFault v_faultPlace N 0 r_30 v_refusal_30 hc_30) ml_X10_95 ⟨Nat.le_of_ble_eq_true rfl, Nat.le_of_ble_eq_true rfl⟩ hP hD hS 0 rfl rfl rfl [0] rfl rfl rfl rfl rfl hl.1 rfl (Nat.le_of_ble_eq_true rfl) ⟨Nat.zero_le _, Nat.zero_le _⟩ dX10_verdict_30 ?_
      clear hP hD hS; intro H locs hP hD hS
      cases hf
      rw [hQ]
      exact r_iret C hr hP hD hS rfl dX10_verdict_33
  · replace hf := it_t c_4 hf
    refine lv_aload_n hx hb dX10_verdict_7 rfl (lv_at hl 0 rfl) ?_
    refine lv_iconst (v := 1) hx hb dX10_verdict_8 (by decide) ?_
    obtain ⟨r_9, v_refusal_9, hc_9, hf⟩ := bd2 hf
    refine r_callVi (ws' := (wX10_verdict E h h_reader h_inn h_chosen h_night h_marks h_notes h_casts h_inn_house h_inn_thingIn h_inn_full h_inn_states h_inn_bed h_inn_dreamOf h_inn_listensIn h_casts_trial h_casts_dreams h_casts_plain h_casts_set h_casts_tried h_casts_kin h_casts_fitters h_notes_book h_notes_sort h_notes_one h_notes_other h_casts_plain_rows v_marked v_refusal_9 v_latestFault v_faultPlace v_inn_minutes v_inn_things v_inn_dreams v_inn_sleepers v_inn_listeners v_casts_count v_casts_fitting v_notes_count v_notes_book v_notes_sort v_notes_one v_casts_plain_rows v_notes_other v_casts_fitters)) (As := [.int 1]) (rest := []) C (ctX10_refuse l E h h_reader h_inn h_chosen h_night h_marks h_notes h_casts v_marked v_refusal v_latestFault v_faultPlace N 1 r_9 v_refusal_9 hc_9) ml_X10_68 ⟨Nat.le_of_ble_eq_true rfl, Nat.le_of_ble_eq_true rfl⟩ hP hD hS 0 rfl rfl rfl [0] rfl rfl rfl rfl rfl hl.1 rfl (Nat.le_of_ble_eq_true rfl) ⟨Nat.zero_le _, Nat.zero_le _⟩ dX10_verdict_9 ?_
    clear hP hD hS; intro H locs hP hD hS
    cases hf
    rw [hQ]
    exact r_iret C hr hP hD hS rfl dX10_verdict_12
def wX0_areSame (E : EN) (h h_trial h_inn h_dreams h_plain h_set h_tried h_kin h_fitters : Nat) (v_count : Int32) (v_fitting : Int32) (v_fitters : Nat → Int32) (v_kin : Nat → Int32) : va_W := [(h, .inr (0, [.ref h_trial, .ref h_inn, .int v_count, .ref h_dreams, .ref h_plain, .ref h_set, .ref h_tried, .ref h_kin, .int v_fitting, .ref h_fitters])), (h_fitters, aI E 64 v_fitters), (h_kin, aI E 1344 v_kin)]
def fX0_areSame (N : Nat) (p0 : Int32) (p1 : Int32) (p2 : Int32) (v_fitters : Nat → Int32) (v_kin : Nat → Int32) : Option Int32 := gd p0 64 (gd ((p2 * 64) + (v_fitters p0.toNatClampNeg)) 1344 (gd p1 64 (gd ((p2 * 64) + (v_fitters p1.toNatClampNeg)) 1344 (if (v_kin ((p2 * 64) + (v_fitters p0.toNatClampNeg)).toNatClampNeg) = (v_kin ((p2 * 64) + (v_fitters p1.toNatClampNeg)).toNatClampNeg) then (some 1) else (some 0)))))
set_option maxHeartbeats 4000000 in
set_option maxRecDepth 100000 in
theorem ctX0_areSame (l : Launch) (E : EN) (h h_trial h_inn h_dreams h_plain h_set h_tried h_kin h_fitters : Nat) (v_count : Int32) (v_fitting : Int32) (v_fitters : Nat → Int32) (v_kin : Nat → Int32) (N : Nat) (p0 : Int32) (p1 : Int32) (p2 : Int32) (z0 : Int32) (hf : fX0_areSame N p0 p1 p2 v_fitters v_kin = some z0) : CTi l E yX0_areSame cX0_areSame 5 .boolean 0 0 [.ref h, .int p0, .int p1, .int p2] (wX0_areSame E h h_trial h_inn h_dreams h_plain h_set h_tried h_kin h_fitters v_count v_fitting v_fitters v_kin) z0 (wX0_areSame E h h_trial h_inn h_dreams h_plain h_set h_tried h_kin h_fitters v_count v_fitting v_fitters v_kin) := by
  intro sz
  refine ct_body (by decide) (Nat.le_of_ble_eq_true rfl) ?_
  intro p e s m args below meth c A ls hAe C hr hin hP hD hS hl
  have C : CX p s m args meth c cX0_areSame RX0 5 E A := C
  have hl : lv_has ls 5 [(0, .ref h), (1, .int p0), (2, .int p1), (3, .int p2)] := hl
  have hx := C.1
  have hb := C.2.1
  rw [hAe]
  clear hAe
  obtain ⟨Q, hQ⟩ : ∃ Q, Q = MQ below (Qi E A z0 (wX0_areSame E h h_trial h_inn h_dreams h_plain h_set h_tried h_kin h_fitters v_count v_fitting v_fitters v_kin)) args s 0 0 A := ⟨_, rfl⟩
  rw [← hQ]
  unfold fX0_areSame at hf
  refine lv_iload_n hx hb dX0_areSame_0 rfl (lv_at hl 3 rfl) ?_
  refine lv_bipush (v := 64) hx hb dX0_areSame_1 (by decide) ?_
  refine lv_imul hx hb dX0_areSame_3 ?_
  refine lv_istore (lv' := [(4, .int (p2 * 64)), (0, .ref h), (1, .int p0), (2, .int p1), (3, .int p2)]) hx hb dX0_areSame_4 hl (by decide) rfl (fun ls hl => ?_)
  refine lv_aload_n hx hb dX0_areSame_6 rfl (lv_at hl 1 rfl) ?_
  refine r_get C hP 0 rfl fl_X0_29 rfl dX0_areSame_7 ?_
  refine lv_iload hx hb dX0_areSame_10 (lv_at hl 0 rfl) ?_
  refine lv_aload_n hx hb dX0_areSame_12 rfl (lv_at hl 1 rfl) ?_
  refine r_get C hP 0 rfl fl_X0_32 rfl dX0_areSame_13 ?_
  refine lv_iload_n hx hb dX0_areSame_16 rfl (lv_at hl 2 rfl) ?_
  obtain ⟨hi_17, hf⟩ := gd_s hf
  refine r_iald C hP 1 rfl hi_17 dX0_areSame_17 ?_
  refine lv_iadd hx hb dX0_areSame_18 ?_
  obtain ⟨hi_19, hf⟩ := gd_s hf
  refine r_iald C hP 2 rfl hi_19 dX0_areSame_19 ?_
  refine lv_aload_n hx hb dX0_areSame_20 rfl (lv_at hl 1 rfl) ?_
  refine r_get C hP 0 rfl fl_X0_29 rfl dX0_areSame_21 ?_
  refine lv_iload hx hb dX0_areSame_24 (lv_at hl 0 rfl) ?_
  refine lv_aload_n hx hb dX0_areSame_26 rfl (lv_at hl 1 rfl) ?_
  refine r_get C hP 0 rfl fl_X0_32 rfl dX0_areSame_27 ?_
  refine lv_iload_n hx hb dX0_areSame_30 rfl (lv_at hl 3 rfl) ?_
  obtain ⟨hi_31, hf⟩ := gd_s hf
  refine r_iald C hP 1 rfl hi_31 dX0_areSame_31 ?_
  refine lv_iadd hx hb dX0_areSame_32 ?_
  obtain ⟨hi_33, hf⟩ := gd_s hf
  refine r_iald C hP 2 rfl hi_33 dX0_areSame_33 ?_
  refine lv_icmp_ne (tgt := 41) hx hb dX0_areSame_34 (by decide) (fun c_34 => ?_) (fun c_34 => ?_)
  · replace hf := it_f c_34 hf
    refine lv_iconst (v := 0) hx hb dX0_areSame_41 (by decide) ?_
    cases hf
    rw [hQ]
    exact r_zret C hr hP hD hS (Or.inl rfl) rfl dX0_areSame_42
  · replace hf := it_t c_34 hf
    refine lv_iconst (v := 1) hx hb dX0_areSame_37 (by decide) ?_
    refine lv_goto (tgt := 42) hx hb dX0_areSame_38 (by decide) ?_
    cases hf
    rw [hQ]
    exact r_zret C hr hP hD hS (Or.inr rfl) rfl dX0_areSame_42
def wX0_mostAlike (E : EN) (h h_trial h_inn h_dreams h_plain h_set h_tried h_kin h_fitters : Nat) (v_count : Int32) (v_fitting : Int32) (v_fitters : Nat → Int32) (v_kin : Nat → Int32) : va_W := [(h, .inr (0, [.ref h_trial, .ref h_inn, .int v_count, .ref h_dreams, .ref h_plain, .ref h_set, .ref h_tried, .ref h_kin, .int v_fitting, .ref h_fitters])), (h_fitters, aI E 64 v_fitters), (h_kin, aI E 1344 v_kin)]
def BX0_mostAlike_20 (v_fitting : Int32) (N : Nat) (x5_4 : Int32) (p0 : Int32) (v_fitters : Nat → Int32) (v_kin : Nat → Int32) (p1 : Int32) (K62 : (Int32) → Option Int32) (rec20 : (Int32 × Int32) → Option Int32) : (Int32 × Int32) → Option Int32 := un2 fun (x20_5 : Int32) (x20_6 : Int32) => if v_fitting ≤ x20_6 then (K62 x20_5) else ((fX0_areSame N x5_4 x20_6 p0 v_fitters v_kin).bind (un1 fun (r_35 : Int32) => jn (un1 fun (x56_5 : Int32) => rec20 (x56_5, x20_6 + 1)) (fun j56 => if r_35 = 0 then (j56 x20_5) else ((fX0_areSame N x5_4 x20_6 p1 v_fitters v_kin).bind (un1 fun (r_47 : Int32) => if r_47 = 0 then (j56 x20_5) else (j56 (x20_5 + 1)))))))
def BX0_mostAlike_5 (v_fitting : Int32) (N : Nat) (p0 : Int32) (v_fitters : Nat → Int32) (v_kin : Nat → Int32) (p1 : Int32) (rec5 : (Int32 × Int32) → Option Int32) : (Int32 × Int32) → Option Int32 := un2 fun (x5_3 : Int32) (x5_4 : Int32) => if v_fitting ≤ x5_4 then (some x5_3) else (lp (BX0_mostAlike_20 v_fitting N x5_4 p0 v_fitters v_kin p1 (un1 fun (x62_5 : Int32) => rec5 (if x5_3 < x62_5 then x62_5 else x5_3, x5_4 + 1))) N (0, 0))
def fX0_mostAlike (N : Nat) (p0 : Int32) (p1 : Int32) (v_fitting : Int32) (v_fitters : Nat → Int32) (v_kin : Nat → Int32) : Option Int32 := lp (BX0_mostAlike_5 v_fitting N p0 v_fitters v_kin p1) N (0, 0)
set_option maxHeartbeats 4000000 in
set_option maxRecDepth 100000 in
theorem ctX0_mostAlike (l : Launch) (E : EN) (h h_trial h_inn h_dreams h_plain h_set h_tried h_kin h_fitters : Nat) (v_count : Int32) (v_fitting : Int32) (v_fitters : Nat → Int32) (v_kin : Nat → Int32) (N : Nat) (p0 : Int32) (p1 : Int32) (z0 : Int32) (hf : fX0_mostAlike N p0 p1 v_fitting v_fitters v_kin = some z0) : CTi l E yX0_mostAlike cX0_mostAlike 7 .int 1 24 [.ref h, .int p0, .int p1] (wX0_mostAlike E h h_trial h_inn h_dreams h_plain h_set h_tried h_kin h_fitters v_count v_fitting v_fitters v_kin) z0 (wX0_mostAlike E h h_trial h_inn h_dreams h_plain h_set h_tried h_kin h_fitters v_count v_fitting v_fitters v_kin) := by
  intro sz
  refine ct_body (by decide) (Nat.le_of_ble_eq_true rfl) ?_
  intro p e s m args below meth c A ls hAe C hr hin hP hD hS hl
  have C : CX p s m args meth c cX0_mostAlike RX0 7 E A := C
  have hl : lv_has ls 7 [(0, .ref h), (1, .int p0), (2, .int p1)] := hl
  have hx := C.1
  have hb := C.2.1
  rw [hAe]
  clear hAe
  obtain ⟨Q, hQ⟩ : ∃ Q, Q = MQ below (Qi E A z0 (wX0_mostAlike E h h_trial h_inn h_dreams h_plain h_set h_tried h_kin h_fitters v_count v_fitting v_fitters v_kin)) args s 0 0 A := ⟨_, rfl⟩
  rw [← hQ]
  unfold fX0_mostAlike at hf
  refine lv_iconst (v := 0) hx hb dX0_mostAlike_0 (by decide) ?_
  refine lv_istore_n (lv' := [(3, .int 0), (0, .ref h), (1, .int p0), (2, .int p1)]) hx hb dX0_mostAlike_1 rfl hl (by decide) rfl (fun ls hl => ?_)
  refine lv_iconst (v := 0) hx hb dX0_mostAlike_2 (by decide) ?_
  refine lv_istore (lv' := [(4, .int 0), (3, .int 0), (0, .ref h), (1, .int p0), (2, .int p1)]) hx hb dX0_mostAlike_3 hl (by decide) rfl (fun ls hl => ?_)
  have key5 : ∀ (n : Nat) (x5_3 : Int32) (x5_4 : Int32) , lp (BX0_mostAlike_5 v_fitting N p0 v_fitters v_kin p1) n (x5_3, x5_4) = some z0 → AT p l e (rmOf 1 24) s m args below meth c E A Q 0 0 7 [(0, .ref h), (1, .int p0), (2, .int p1), (3, .int x5_3), (4, .int x5_4)] (wX0_mostAlike E h h_trial h_inn h_dreams h_plain h_set h_tried h_kin h_fitters v_count v_fitting v_fitters v_kin) 5 [] := by
    intro n
    induction n with
    | zero => intro x5_3 x5_4 hf; exact (lp_0 hf).elim
    | succ n ih5 =>
      intro x5_3 x5_4 hf H locs ls hl hP hD hS
      replace hf := lp_s hf
      generalize lp (BX0_mostAlike_5 v_fitting N p0 v_fitters v_kin p1) n = rec5 at ih5 hf
      unfold BX0_mostAlike_5 at hf
      replace hf := un2_s hf
      refine lv_iload hx hb dX0_mostAlike_5 (lv_at hl 4 rfl) ?_
      refine lv_aload_n hx hb dX0_mostAlike_7 rfl (lv_at hl 0 rfl) ?_
      refine r_get C hP 0 rfl fl_X0_91 rfl dX0_mostAlike_8 ?_
      refine lv_icmp_ge (tgt := 75) hx hb dX0_mostAlike_11 (by decide) (fun c_11 => ?_) (fun c_11 => ?_)
      · replace hf := it_t c_11 hf
        refine lv_iload_n hx hb dX0_mostAlike_75 rfl (lv_at hl 3 rfl) ?_
        cases hf
        rw [hQ]
        exact r_iret C hr hP hD hS rfl dX0_mostAlike_76
      · replace hf := it_f c_11 hf
        refine lv_iconst (v := 0) hx hb dX0_mostAlike_14 (by decide) ?_
        refine lv_istore (lv' := [(5, .int 0), (0, .ref h), (1, .int p0), (2, .int p1), (3, .int x5_3), (4, .int x5_4)]) hx hb dX0_mostAlike_15 hl (by decide) rfl (fun ls hl => ?_)
        refine lv_iconst (v := 0) hx hb dX0_mostAlike_17 (by decide) ?_
        refine lv_istore (lv' := [(6, .int 0), (5, .int 0), (0, .ref h), (1, .int p0), (2, .int p1), (3, .int x5_3), (4, .int x5_4)]) hx hb dX0_mostAlike_18 hl (by decide) rfl (fun ls hl => ?_)
        refine lpK hf (fun K62 eK62 hf => ?_)
        have hK62 : ∀ (x62_5 : Int32) , K62 x62_5 = some z0 → AT p l e (rmOf 1 24) s m args below meth c E A Q 0 0 7 [(0, .ref h), (1, .int p0), (2, .int p1), (3, .int x5_3), (4, .int x5_4), (5, .int x62_5)] (wX0_mostAlike E h h_trial h_inn h_dreams h_plain h_set h_tried h_kin h_fitters v_count v_fitting v_fitters v_kin) 62 [] := by
          intro x62_5 hf H locs ls hl hP hD hS
          rw [eK62] at hf
          replace hf := un1_s hf
          refine lv_iload_n hx hb dX0_mostAlike_62 rfl (lv_at hl 3 rfl) ?_
          refine lv_iload hx hb dX0_mostAlike_63 (lv_at hl 5 rfl) ?_
          refine va_mmax hx hb (by rw [C.2.2.1, hl.1]) C.2.2.2.1 (C.2.2.2.2.1 _ mm_X0_108.1) (C.2.2.2.2.1 _ mm_X0_108.2.1) (C.2.2.2.2.1 _ mm_X0_108.2.2.1) (C.2.2.2.2.1 _ mm_X0_108.2.2.2) (Nat.le_of_ble_eq_true rfl) (Nat.le_of_ble_eq_true rfl) (Nat.zero_le _) (Nat.zero_le _) dX0_mostAlike_65 ?_
          refine lv_istore_n (lv' := [(3, .int (if x5_3 < x62_5 then x62_5 else x5_3)), (0, .ref h), (1, .int p0), (2, .int p1), (4, .int x5_4), (5, .int x62_5)]) hx hb dX0_mostAlike_68 rfl hl (by decide) rfl (fun ls hl => ?_)
          refine lv_iinc (v := x5_4 + 1) (lv' := [(4, .int (x5_4 + 1)), (3, .int (if x5_3 < x62_5 then x62_5 else x5_3)), (0, .ref h), (1, .int p0), (2, .int p1), (5, .int x62_5)]) hx hb dX0_mostAlike_69 hl (k := 4) rfl rfl (by decide) rfl (fun ls hl => ?_)
          refine lv_goto (tgt := 5) hx hb dX0_mostAlike_72 (by decide) ?_
          exact ih5 (if x5_3 < x62_5 then x62_5 else x5_3) (x5_4 + 1) hf _ _ _ (lv_sub hl [2, 3, 4, 1, 0] rfl) hP hD hS
        clear eK62
        have key20 : ∀ (n : Nat) (x20_5 : Int32) (x20_6 : Int32) , lp (BX0_mostAlike_20 v_fitting N x5_4 p0 v_fitters v_kin p1 K62) n (x20_5, x20_6) = some z0 → AT p l e (rmOf 1 24) s m args below meth c E A Q 0 0 7 [(0, .ref h), (1, .int p0), (2, .int p1), (3, .int x5_3), (4, .int x5_4), (5, .int x20_5), (6, .int x20_6)] (wX0_mostAlike E h h_trial h_inn h_dreams h_plain h_set h_tried h_kin h_fitters v_count v_fitting v_fitters v_kin) 20 [] := by
          intro n
          induction n with
          | zero => intro x20_5 x20_6 hf; exact (lp_0 hf).elim
          | succ n ih20 =>
            intro x20_5 x20_6 hf H locs ls hl hP hD hS
            replace hf := lp_s hf
            generalize lp (BX0_mostAlike_20 v_fitting N x5_4 p0 v_fitters v_kin p1 K62) n = rec20 at ih20 hf
            unfold BX0_mostAlike_20 at hf
            replace hf := un2_s hf
            refine lv_iload hx hb dX0_mostAlike_20 (lv_at hl 6 rfl) ?_
            refine lv_aload_n hx hb dX0_mostAlike_22 rfl (lv_at hl 0 rfl) ?_
            refine r_get C hP 0 rfl fl_X0_91 rfl dX0_mostAlike_23 ?_
            refine lv_icmp_ge (tgt := 62) hx hb dX0_mostAlike_26 (by decide) (fun c_26 => ?_) (fun c_26 => ?_)
            · replace hf := it_t c_26 hf
              exact hK62 x20_5 hf _ _ _ (lv_sub hl [0, 1, 2, 3, 4, 5] rfl) hP hD hS
            · replace hf := it_f c_26 hf
              refine lv_aload_n hx hb dX0_mostAlike_29 rfl (lv_at hl 0 rfl) ?_
              refine lv_iload hx hb dX0_mostAlike_30 (lv_at hl 4 rfl) ?_
              refine lv_iload hx hb dX0_mostAlike_32 (lv_at hl 6 rfl) ?_
              refine lv_iload_n hx hb dX0_mostAlike_34 rfl (lv_at hl 1 rfl) ?_
              obtain ⟨r_35, hc_35, hf⟩ := bd1 hf
              refine r_callVi (ws' := (wX0_mostAlike E h h_trial h_inn h_dreams h_plain h_set h_tried h_kin h_fitters v_count v_fitting v_fitters v_kin)) (As := [.int x5_4, .int x20_6, .int p0]) (rest := []) C (ctX0_areSame l E h h_trial h_inn h_dreams h_plain h_set h_tried h_kin h_fitters v_count v_fitting v_fitters v_kin N x5_4 x20_6 p0 r_35 hc_35) ml_X0_104 ⟨Nat.le_of_ble_eq_true rfl, Nat.le_of_ble_eq_true rfl⟩ hP hD hS 0 rfl rfl rfl [0, 1, 2] rfl rfl rfl rfl rfl hl.1 rfl (Nat.le_of_ble_eq_true rfl) ⟨Nat.zero_le _, Nat.zero_le _⟩ dX0_mostAlike_35 ?_
              clear hP hD hS; intro H locs hP hD hS
              refine jnK hf (fun j56 ej56 hf => ?_)
              have hj56 : ∀ (x56_5 : Int32) , j56 x56_5 = some z0 → AT p l e (rmOf 1 24) s m args below meth c E A Q 0 0 7 [(0, .ref h), (1, .int p0), (2, .int p1), (3, .int x5_3), (4, .int x5_4), (5, .int x56_5), (6, .int x20_6)] (wX0_mostAlike E h h_trial h_inn h_dreams h_plain h_set h_tried h_kin h_fitters v_count v_fitting v_fitters v_kin) 56 [] := by
                intro x56_5 hf H locs ls hl hP hD hS
                rw [ej56] at hf
                replace hf := un1_s hf
                refine lv_iinc (v := x20_6 + 1) (lv' := [(6, .int (x20_6 + 1)), (0, .ref h), (1, .int p0), (2, .int p1), (3, .int x5_3), (4, .int x5_4), (5, .int x56_5)]) hx hb dX0_mostAlike_56 hl (k := 6) rfl rfl (by decide) rfl (fun ls hl => ?_)
                refine lv_goto (tgt := 20) hx hb dX0_mostAlike_59 (by decide) ?_
                exact ih20 x56_5 (x20_6 + 1) hf _ _ _ (lv_sub hl [1, 2, 3, 4, 5, 6, 0] rfl) hP hD hS
              clear ej56
              refine lv_if_eq (tgt := 56) hx hb dX0_mostAlike_38 (by decide) (fun c_38 => ?_) (fun c_38 => ?_)
              · replace hf := it_t c_38 hf
                exact hj56 x20_5 hf _ _ _ (lv_sub hl [0, 1, 2, 3, 4, 5, 6] rfl) hP hD hS
              · replace hf := it_f c_38 hf
                refine lv_aload_n hx hb dX0_mostAlike_41 rfl (lv_at hl 0 rfl) ?_
                refine lv_iload hx hb dX0_mostAlike_42 (lv_at hl 4 rfl) ?_
                refine lv_iload hx hb dX0_mostAlike_44 (lv_at hl 6 rfl) ?_
                refine lv_iload_n hx hb dX0_mostAlike_46 rfl (lv_at hl 2 rfl) ?_
                obtain ⟨r_47, hc_47, hf⟩ := bd1 hf
                refine r_callVi (ws' := (wX0_mostAlike E h h_trial h_inn h_dreams h_plain h_set h_tried h_kin h_fitters v_count v_fitting v_fitters v_kin)) (As := [.int x5_4, .int x20_6, .int p1]) (rest := []) C (ctX0_areSame l E h h_trial h_inn h_dreams h_plain h_set h_tried h_kin h_fitters v_count v_fitting v_fitters v_kin N x5_4 x20_6 p1 r_47 hc_47) ml_X0_104 ⟨Nat.le_of_ble_eq_true rfl, Nat.le_of_ble_eq_true rfl⟩ hP hD hS 0 rfl rfl rfl [0, 1, 2] rfl rfl rfl rfl rfl hl.1 rfl (Nat.le_of_ble_eq_true rfl) ⟨Nat.zero_le _, Nat.zero_le _⟩ dX0_mostAlike_47 ?_
                clear hP hD hS; intro H locs hP hD hS
                refine lv_if_eq (tgt := 56) hx hb dX0_mostAlike_50 (by decide) (fun c_50 => ?_) (fun c_50 => ?_)
                · replace hf := it_t c_50 hf
                  exact hj56 x20_5 hf _ _ _ (lv_sub hl [0, 1, 2, 3, 4, 5, 6] rfl) hP hD hS
                · replace hf := it_f c_50 hf
                  refine lv_iinc (v := x20_5 + 1) (lv' := [(5, .int (x20_5 + 1)), (0, .ref h), (1, .int p0), (2, .int p1), (3, .int x5_3), (4, .int x5_4), (6, .int x20_6)]) hx hb dX0_mostAlike_53 hl (k := 5) rfl rfl (by decide) rfl (fun ls hl => ?_)
                  exact hj56 (x20_5 + 1) hf _ _ _ (lv_sub hl [1, 2, 3, 4, 5, 0, 6] rfl) hP hD hS
        exact key20 _ 0 0 hf _ _ _ (lv_sub hl [2, 3, 4, 5, 6, 1, 0] rfl) hP hD hS
  exact key5 _ 0 0 hf _ _ _ (lv_sub hl [2, 3, 4, 1, 0] rfl) hP hD hS
def wX10_parts (E : EN) (h h_reader h_inn h_chosen h_night h_marks h_notes h_casts h_inn_house h_inn_thingIn h_inn_full h_inn_states h_inn_bed h_inn_dreamOf h_inn_listensIn h_inn_house_creak h_inn_house_cold h_inn_house_one h_inn_house_other h_inn_house_how h_inn_house_falls h_inn_house_ways h_casts_trial h_casts_dreams h_casts_plain h_casts_set h_casts_tried h_casts_kin h_casts_fitters h_notes_book h_notes_sort h_notes_one h_notes_other h_casts_plain_rows h_casts_trial_ways h_casts_trial_how h_casts_trial_passed h_casts_trial_dreamOf h_casts_trial_stateOf h_casts_trial_roomOf h_casts_trial_handOf h_casts_trial_awake h_casts_trial_thingIn h_casts_trial_full h_casts_trial_heardBy h_casts_trial_ways_steps h_inn_house_ways_steps h_casts_set_rows : Nat) (v_marked : Int32) (v_refusal : Int32) (v_latestFault : Int32) (v_faultPlace : Int32) (v_inn_minutes : Int32) (v_inn_things : Int32) (v_inn_dreams : Int32) (v_inn_sleepers : Int32) (v_inn_listeners : Int32) (v_inn_house_rooms : Int32) (v_inn_house_doors : Int32) (v_casts_count : Int32) (v_casts_fitting : Int32) (v_notes_count : Int32) (v_notes_book : Nat → Int32) (v_notes_sort : Nat → Int32) (v_notes_one : Nat → Int32) (v_casts_plain_rows : Nat → Int64) (v_notes_other : Nat → Int32) (v_casts_fitters : Nat → Int32) (v_casts_tried : Nat → Int32) (v_casts_trial_setting : Int32) (v_casts_trial_been : Int32) (v_inn_house_how : Nat → Int32) (v_casts_trial_ways_rooms : Int32) (v_casts_trial_ways_steps : Nat → Int32) (v_inn_house_one : Nat → Int32) (v_inn_house_other : Nat → Int32) (v_inn_thingIn : Nat → Int32) (v_casts_trial_thingIn : Nat → Int32) (v_inn_full : Nat → Int32) (v_casts_trial_full : Nat → Int32) (v_casts_trial_heardBy : Nat → Int64) (v_casts_dreams : Nat → Int32) (v_casts_trial_dreamOf : Nat → Int32) (v_casts_trial_stateOf : Nat → Int32) (v_inn_bed : Nat → Int32) (v_casts_trial_roomOf : Nat → Int32) (v_casts_trial_handOf : Nat → Int32) (v_casts_trial_awake : Nat → Int32) (v_casts_trial_how : Nat → Int32) (v_casts_trial_passed : Nat → Int32) (v_inn_states : Nat → Int32) (v_inn_house_creak : Nat → Int32) (v_inn_listensIn : Nat → Int32) (v_inn_house_ways_rooms : Int32) (v_inn_house_ways_steps : Nat → Int32) (v_inn_house_cold : Nat → Int32) (v_inn_house_falls : Nat → Int32) (v_casts_set_rows : Nat → Int64) (v_casts_kin : Nat → Int32) : va_W := [(h, .inr (9, [.ref h_reader, .ref h_inn, .ref h_chosen, .ref h_night, .ref h_marks, .int v_marked, .ref h_notes, .ref h_casts, .int v_refusal, .int v_latestFault, .int v_faultPlace])), (h_inn, .inr (2, [.ref h_inn_house, .int v_inn_minutes, .int v_inn_things, .ref h_inn_thingIn, .ref h_inn_full, .int v_inn_dreams, .ref h_inn_states, .int v_inn_sleepers, .ref h_inn_bed, .ref h_inn_dreamOf, .int v_inn_listeners, .ref h_inn_listensIn])), (h_inn_house, .inr (1, [.int v_inn_house_rooms, .ref h_inn_house_creak, .ref h_inn_house_cold, .int v_inn_house_doors, .ref h_inn_house_one, .ref h_inn_house_other, .ref h_inn_house_how, .ref h_inn_house_falls, .ref h_inn_house_ways])), (h_casts, .inr (0, [.ref h_casts_trial, .ref h_inn, .int v_casts_count, .ref h_casts_dreams, .ref h_casts_plain, .ref h_casts_set, .ref h_casts_tried, .ref h_casts_kin, .int v_casts_fitting, .ref h_casts_fitters])), (h_notes, .inr (5, [.ref h_notes_book, .ref h_notes_sort, .ref h_notes_one, .ref h_notes_other, .int v_notes_count])), (h_notes_book, aI E 20 v_notes_book), (h_notes_sort, aI E 20 v_notes_sort), (h_notes_one, aI E 20 v_notes_one), (h_casts_plain, .inr (3, [.ref h_casts_plain_rows])), (h_casts_plain_rows, aJ E 256 v_casts_plain_rows), (h_notes_other, aI E 20 v_notes_other), (h_casts_fitters, aI E 64 v_casts_fitters), (h_casts_tried, aZ E 21 v_casts_tried), (h_casts_trial, .inr (4, [.ref h_inn, .int v_casts_trial_setting, .int v_casts_trial_been, .ref h_casts_trial_ways, .ref h_casts_trial_how, .ref h_casts_trial_passed, .ref h_casts_trial_dreamOf, .ref h_casts_trial_stateOf, .ref h_casts_trial_roomOf, .ref h_casts_trial_handOf, .ref h_casts_trial_awake, .ref h_casts_trial_thingIn, .ref h_casts_trial_full, .ref h_casts_trial_heardBy])), (h_inn_house_how, aI E 10 v_inn_house_how), (h_casts_trial_ways, .inr (8, [.ref h_casts_trial_ways_steps, .int v_casts_trial_ways_rooms])), (h_casts_trial_ways_steps, aI E 64 v_casts_trial_ways_steps), (h_inn_house_one, aI E 10 v_inn_house_one), (h_inn_house_other, aI E 10 v_inn_house_other), (h_inn_thingIn, aI E 4 v_inn_thingIn), (h_casts_trial_thingIn, aI E 4 v_casts_trial_thingIn), (h_inn_full, aZ E 4 v_inn_full), (h_casts_trial_full, aZ E 4 v_casts_trial_full), (h_casts_trial_heardBy, aJ E 3 v_casts_trial_heardBy), (h_casts_dreams, aI E 192 v_casts_dreams), (h_casts_trial_dreamOf, aI E 3 v_casts_trial_dreamOf), (h_casts_trial_stateOf, aI E 3 v_casts_trial_stateOf), (h_inn_bed, aI E 3 v_inn_bed), (h_casts_trial_roomOf, aI E 3 v_casts_trial_roomOf), (h_casts_trial_handOf, aI E 3 v_casts_trial_handOf), (h_casts_trial_awake, aZ E 3 v_casts_trial_awake), (h_casts_trial_how, aI E 10 v_casts_trial_how), (h_casts_trial_passed, aI E 10 v_casts_trial_passed), (h_inn_states, aI E 64 v_inn_states), (h_inn_house_creak, aI E 8 v_inn_house_creak), (h_inn_listensIn, aI E 3 v_inn_listensIn), (h_inn_house_ways, .inr (8, [.ref h_inn_house_ways_steps, .int v_inn_house_ways_rooms])), (h_inn_house_ways_steps, aI E 64 v_inn_house_ways_steps), (h_inn_house_cold, aZ E 8 v_inn_house_cold), (h_inn_house_falls, aZ E 10 v_inn_house_falls), (h_casts_set, .inr (3, [.ref h_casts_set_rows])), (h_casts_set_rows, aJ E 256 v_casts_set_rows), (h_casts_kin, aI E 1344 v_casts_kin)]
def fX10_parts (N : Nat) (p0 : Int32) (v_inn_minutes : Int32) (v_inn_things : Int32) (v_inn_sleepers : Int32) (v_inn_listeners : Int32) (v_inn_house_rooms : Int32) (v_inn_house_doors : Int32) (v_casts_count : Int32) (v_casts_fitting : Int32) (v_notes_count : Int32) (v_notes_book : Nat → Int32) (v_notes_sort : Nat → Int32) (v_notes_one : Nat → Int32) (v_casts_plain_rows : Nat → Int64) (v_notes_other : Nat → Int32) (v_casts_fitters : Nat → Int32) (v_casts_tried : Nat → Int32) (v_casts_trial_setting : Int32) (v_casts_trial_been : Int32) (v_inn_house_how : Nat → Int32) (v_casts_trial_ways_rooms : Int32) (v_casts_trial_ways_steps : Nat → Int32) (v_inn_house_one : Nat → Int32) (v_inn_house_other : Nat → Int32) (v_inn_thingIn : Nat → Int32) (v_casts_trial_thingIn : Nat → Int32) (v_inn_full : Nat → Int32) (v_casts_trial_full : Nat → Int32) (v_casts_trial_heardBy : Nat → Int64) (v_casts_dreams : Nat → Int32) (v_casts_trial_dreamOf : Nat → Int32) (v_casts_trial_stateOf : Nat → Int32) (v_inn_bed : Nat → Int32) (v_casts_trial_roomOf : Nat → Int32) (v_casts_trial_handOf : Nat → Int32) (v_casts_trial_awake : Nat → Int32) (v_casts_trial_how : Nat → Int32) (v_casts_trial_passed : Nat → Int32) (v_inn_states : Nat → Int32) (v_inn_house_creak : Nat → Int32) (v_inn_listensIn : Nat → Int32) (v_inn_house_ways_steps : Nat → Int32) (v_inn_house_cold : Nat → Int32) (v_inn_house_falls : Nat → Int32) (v_casts_set_rows : Nat → Int64) (v_casts_kin : Nat → Int32) : Option (Int32 × Int32 × Int32 × (Nat → Int64) × (Nat → Int32) × (Nat → Int32) × Int32 × Int32 × Int32 × (Nat → Int32) × (Nat → Int32) × (Nat → Int32) × (Nat → Int64) × (Nat → Int32) × (Nat → Int32) × (Nat → Int32) × (Nat → Int32) × (Nat → Int32) × (Nat → Int32) × (Nat → Int32) × (Nat → Int64) × (Nat → Int32)) := (fX10_isSetting N p0 v_inn_minutes v_inn_house_doors).bind (un1 fun (r_2 : Int32) => if r_2 = 0 then ((fX10_refuse N 1).bind (un2 fun (r_10 : Int32) (v_refusal_10 : Int32) => some (r_10, v_refusal_10, v_casts_fitting, v_casts_plain_rows, v_casts_fitters, v_casts_tried, v_casts_trial_setting, v_casts_trial_been, v_casts_trial_ways_rooms, v_casts_trial_ways_steps, v_casts_trial_thingIn, v_casts_trial_full, v_casts_trial_heardBy, v_casts_trial_dreamOf, v_casts_trial_stateOf, v_casts_trial_roomOf, v_casts_trial_handOf, v_casts_trial_awake, v_casts_trial_how, v_casts_trial_passed, v_casts_set_rows, v_casts_kin))) else ((fX0_gather N 3 v_casts_count v_notes_count v_notes_book v_notes_sort v_notes_one v_casts_plain_rows v_notes_other v_casts_fitters).bind (un3 fun (r_23 : Int32) (v_casts_fitting_23 : Int32) (v_casts_fitters_23 : Nat → Int32) => if r_23 = 0 then ((fX10_refuse N 6).bind (un2 fun (r_32 : Int32) (v_refusal_32 : Int32) => some (r_32, v_refusal_32, v_casts_fitting_23, v_casts_plain_rows, v_casts_fitters_23, v_casts_tried, v_casts_trial_setting, v_casts_trial_been, v_casts_trial_ways_rooms, v_casts_trial_ways_steps, v_casts_trial_thingIn, v_casts_trial_full, v_casts_trial_heardBy, v_casts_trial_dreamOf, v_casts_trial_stateOf, v_casts_trial_roomOf, v_casts_trial_handOf, v_casts_trial_awake, v_casts_trial_how, v_casts_trial_passed, v_casts_set_rows, v_casts_kin))) else ((fX0_tryOuts N p0 p0 v_casts_count v_casts_tried v_casts_trial_setting v_casts_trial_been v_inn_minutes v_inn_things v_inn_sleepers v_inn_listeners v_inn_house_rooms v_inn_house_doors v_inn_house_how v_casts_trial_ways_rooms v_casts_trial_ways_steps v_inn_house_one v_inn_house_other v_inn_thingIn v_casts_trial_thingIn v_inn_full v_casts_trial_full v_casts_trial_heardBy v_casts_dreams v_casts_trial_dreamOf v_casts_trial_stateOf v_inn_bed v_casts_trial_roomOf v_casts_trial_handOf v_casts_trial_awake v_casts_trial_how v_casts_trial_passed v_inn_states v_inn_house_creak v_inn_listensIn v_inn_house_ways_steps v_inn_house_cold v_inn_house_falls v_casts_set_rows v_casts_kin v_casts_plain_rows).bind (un18 fun (v_casts_tried_42 : Nat → Int32) (v_casts_trial_setting_42 : Int32) (v_casts_trial_been_42 : Int32) (v_casts_trial_ways_rooms_42 : Int32) (v_casts_trial_ways_steps_42 : Nat → Int32) (v_casts_trial_thingIn_42 : Nat → Int32) (v_casts_trial_full_42 : Nat → Int32) (v_casts_trial_heardBy_42 : Nat → Int64) (v_casts_trial_dreamOf_42 : Nat → Int32) (v_casts_trial_stateOf_42 : Nat → Int32) (v_casts_trial_roomOf_42 : Nat → Int32) (v_casts_trial_handOf_42 : Nat → Int32) (v_casts_trial_awake_42 : Nat → Int32) (v_casts_trial_how_42 : Nat → Int32) (v_casts_trial_passed_42 : Nat → Int32) (v_casts_set_rows_42 : Nat → Int64) (v_casts_kin_42 : Nat → Int32) (v_casts_plain_rows_42 : Nat → Int64) => (fX0_mostAlike N p0 p0 v_casts_fitting_23 v_casts_fitters_23 v_casts_kin_42).bind (un1 fun (r_52 : Int32) => (fX10_answer N r_52).bind (un2 fun (r_55 : Int32) (v_refusal_55 : Int32) => some (r_55, v_refusal_55, v_casts_fitting_23, v_casts_plain_rows_42, v_casts_fitters_23, v_casts_tried_42, v_casts_trial_setting_42, v_casts_trial_been_42, v_casts_trial_ways_rooms_42, v_casts_trial_ways_steps_42, v_casts_trial_thingIn_42, v_casts_trial_full_42, v_casts_trial_heardBy_42, v_casts_trial_dreamOf_42, v_casts_trial_stateOf_42, v_casts_trial_roomOf_42, v_casts_trial_handOf_42, v_casts_trial_awake_42, v_casts_trial_how_42, v_casts_trial_passed_42, v_casts_set_rows_42, v_casts_kin_42))))))))
set_option maxHeartbeats 4000000 in
set_option maxRecDepth 100000 in
theorem ctX10_parts (l : Launch) (E : EN) (h h_reader h_inn h_chosen h_night h_marks h_notes h_casts h_inn_house h_inn_thingIn h_inn_full h_inn_states h_inn_bed h_inn_dreamOf h_inn_listensIn h_inn_house_creak h_inn_house_cold h_inn_house_one h_inn_house_other h_inn_house_how h_inn_house_falls h_inn_house_ways h_casts_trial h_casts_dreams h_casts_plain h_casts_set h_casts_tried h_casts_kin h_casts_fitters h_notes_book h_notes_sort h_notes_one h_notes_other h_casts_plain_rows h_casts_trial_ways h_casts_trial_how h_casts_trial_passed h_casts_trial_dreamOf h_casts_trial_stateOf h_casts_trial_roomOf h_casts_trial_handOf h_casts_trial_awake h_casts_trial_thingIn h_casts_trial_full h_casts_trial_heardBy h_casts_trial_ways_steps h_inn_house_ways_steps h_casts_set_rows : Nat) (v_marked : Int32) (v_refusal : Int32) (v_latestFault : Int32) (v_faultPlace : Int32) (v_inn_minutes : Int32) (v_inn_things : Int32) (v_inn_dreams : Int32) (v_inn_sleepers : Int32) (v_inn_listeners : Int32) (v_inn_house_rooms : Int32) (v_inn_house_doors : Int32) (v_casts_count : Int32) (v_casts_fitting : Int32) (v_notes_count : Int32) (v_notes_book : Nat → Int32) (v_notes_sort : Nat → Int32) (v_notes_one : Nat → Int32) (v_casts_plain_rows : Nat → Int64) (v_notes_other : Nat → Int32) (v_casts_fitters : Nat → Int32) (v_casts_tried : Nat → Int32) (v_casts_trial_setting : Int32) (v_casts_trial_been : Int32) (v_inn_house_how : Nat → Int32) (v_casts_trial_ways_rooms : Int32) (v_casts_trial_ways_steps : Nat → Int32) (v_inn_house_one : Nat → Int32) (v_inn_house_other : Nat → Int32) (v_inn_thingIn : Nat → Int32) (v_casts_trial_thingIn : Nat → Int32) (v_inn_full : Nat → Int32) (v_casts_trial_full : Nat → Int32) (v_casts_trial_heardBy : Nat → Int64) (v_casts_dreams : Nat → Int32) (v_casts_trial_dreamOf : Nat → Int32) (v_casts_trial_stateOf : Nat → Int32) (v_inn_bed : Nat → Int32) (v_casts_trial_roomOf : Nat → Int32) (v_casts_trial_handOf : Nat → Int32) (v_casts_trial_awake : Nat → Int32) (v_casts_trial_how : Nat → Int32) (v_casts_trial_passed : Nat → Int32) (v_inn_states : Nat → Int32) (v_inn_house_creak : Nat → Int32) (v_inn_listensIn : Nat → Int32) (v_inn_house_ways_rooms : Int32) (v_inn_house_ways_steps : Nat → Int32) (v_inn_house_cold : Nat → Int32) (v_inn_house_falls : Nat → Int32) (v_casts_set_rows : Nat → Int64) (v_casts_kin : Nat → Int32) (N : Nat) (p0 : Int32) (z0 : Int32) (z1 : Int32) (z2 : Int32) (z3 : Nat → Int64) (z4 : Nat → Int32) (z5 : Nat → Int32) (z6 : Int32) (z7 : Int32) (z8 : Int32) (z9 : Nat → Int32) (z10 : Nat → Int32) (z11 : Nat → Int32) (z12 : Nat → Int64) (z13 : Nat → Int32) (z14 : Nat → Int32) (z15 : Nat → Int32) (z16 : Nat → Int32) (z17 : Nat → Int32) (z18 : Nat → Int32) (z19 : Nat → Int32) (z20 : Nat → Int64) (z21 : Nat → Int32) (hf : fX10_parts N p0 v_inn_minutes v_inn_things v_inn_sleepers v_inn_listeners v_inn_house_rooms v_inn_house_doors v_casts_count v_casts_fitting v_notes_count v_notes_book v_notes_sort v_notes_one v_casts_plain_rows v_notes_other v_casts_fitters v_casts_tried v_casts_trial_setting v_casts_trial_been v_inn_house_how v_casts_trial_ways_rooms v_casts_trial_ways_steps v_inn_house_one v_inn_house_other v_inn_thingIn v_casts_trial_thingIn v_inn_full v_casts_trial_full v_casts_trial_heardBy v_casts_dreams v_casts_trial_dreamOf v_casts_trial_stateOf v_inn_bed v_casts_trial_roomOf v_casts_trial_handOf v_casts_trial_awake v_casts_trial_how v_casts_trial_passed v_inn_states v_inn_house_creak v_inn_listensIn v_inn_house_ways_steps v_inn_house_cold v_inn_house_falls v_casts_set_rows v_casts_kin = some (z0, z1, z2, z3, z4, z5, z6, z7, z8, z9, z10, z11, z12, z13, z14, z15, z16, z17, z18, z19, z20, z21)) : CTi l E yX10_parts cX10_parts 2 .int 6 144 [.ref h, .int p0] (wX10_parts E h h_reader h_inn h_chosen h_night h_marks h_notes h_casts h_inn_house h_inn_thingIn h_inn_full h_inn_states h_inn_bed h_inn_dreamOf h_inn_listensIn h_inn_house_creak h_inn_house_cold h_inn_house_one h_inn_house_other h_inn_house_how h_inn_house_falls h_inn_house_ways h_casts_trial h_casts_dreams h_casts_plain h_casts_set h_casts_tried h_casts_kin h_casts_fitters h_notes_book h_notes_sort h_notes_one h_notes_other h_casts_plain_rows h_casts_trial_ways h_casts_trial_how h_casts_trial_passed h_casts_trial_dreamOf h_casts_trial_stateOf h_casts_trial_roomOf h_casts_trial_handOf h_casts_trial_awake h_casts_trial_thingIn h_casts_trial_full h_casts_trial_heardBy h_casts_trial_ways_steps h_inn_house_ways_steps h_casts_set_rows v_marked v_refusal v_latestFault v_faultPlace v_inn_minutes v_inn_things v_inn_dreams v_inn_sleepers v_inn_listeners v_inn_house_rooms v_inn_house_doors v_casts_count v_casts_fitting v_notes_count v_notes_book v_notes_sort v_notes_one v_casts_plain_rows v_notes_other v_casts_fitters v_casts_tried v_casts_trial_setting v_casts_trial_been v_inn_house_how v_casts_trial_ways_rooms v_casts_trial_ways_steps v_inn_house_one v_inn_house_other v_inn_thingIn v_casts_trial_thingIn v_inn_full v_casts_trial_full v_casts_trial_heardBy v_casts_dreams v_casts_trial_dreamOf v_casts_trial_stateOf v_inn_bed v_casts_trial_roomOf v_casts_trial_handOf v_casts_trial_awake v_casts_trial_how v_casts_trial_passed v_inn_states v_inn_house_creak v_inn_listensIn v_inn_house_ways_rooms v_inn_house_ways_steps v_inn_house_cold v_inn_house_falls v_casts_set_rows v_casts_kin) z0 (wX10_parts E h h_reader h_inn h_chosen h_night h_marks h_notes h_casts h_inn_house h_inn_thingIn h_inn_full h_inn_states h_inn_bed h_inn_dreamOf h_inn_listensIn h_inn_house_creak h_inn_house_cold h_inn_house_one h_inn_house_other h_inn_house_how h_inn_house_falls h_inn_house_ways h_casts_trial h_casts_dreams h_casts_plain h_casts_set h_casts_tried h_casts_kin h_casts_fitters h_notes_book h_notes_sort h_notes_one h_notes_other h_casts_plain_rows h_casts_trial_ways h_casts_trial_how h_casts_trial_passed h_casts_trial_dreamOf h_casts_trial_stateOf h_casts_trial_roomOf h_casts_trial_handOf h_casts_trial_awake h_casts_trial_thingIn h_casts_trial_full h_casts_trial_heardBy h_casts_trial_ways_steps h_inn_house_ways_steps h_casts_set_rows v_marked z1 v_latestFault v_faultPlace v_inn_minutes v_inn_things v_inn_dreams v_inn_sleepers v_inn_listeners v_inn_house_rooms v_inn_house_doors v_casts_count z2 v_notes_count v_notes_book v_notes_sort v_notes_one z3 v_notes_other z4 z5 z6 z7 v_inn_house_how z8 z9 v_inn_house_one v_inn_house_other v_inn_thingIn z10 v_inn_full z11 z12 v_casts_dreams z13 z14 v_inn_bed z15 z16 z17 z18 z19 v_inn_states v_inn_house_creak v_inn_listensIn v_inn_house_ways_rooms v_inn_house_ways_steps v_inn_house_cold v_inn_house_falls z20 z21) := by
  intro sz
  refine ct_body (by decide) (Nat.le_of_ble_eq_true rfl) ?_
  intro p e s m args below meth c A ls hAe C hr hin hP hD hS hl
  have C : CX p s m args meth c cX10_parts RX10 2 E A := C
  have hl : lv_has ls 2 [(0, .ref h), (1, .int p0)] := hl
  have hx := C.1
  have hb := C.2.1
  rw [hAe]
  clear hAe
  obtain ⟨Q, hQ⟩ : ∃ Q, Q = MQ below (Qi E A z0 (wX10_parts E h h_reader h_inn h_chosen h_night h_marks h_notes h_casts h_inn_house h_inn_thingIn h_inn_full h_inn_states h_inn_bed h_inn_dreamOf h_inn_listensIn h_inn_house_creak h_inn_house_cold h_inn_house_one h_inn_house_other h_inn_house_how h_inn_house_falls h_inn_house_ways h_casts_trial h_casts_dreams h_casts_plain h_casts_set h_casts_tried h_casts_kin h_casts_fitters h_notes_book h_notes_sort h_notes_one h_notes_other h_casts_plain_rows h_casts_trial_ways h_casts_trial_how h_casts_trial_passed h_casts_trial_dreamOf h_casts_trial_stateOf h_casts_trial_roomOf h_casts_trial_handOf h_casts_trial_awake h_casts_trial_thingIn h_casts_trial_full h_casts_trial_heardBy h_casts_trial_ways_steps h_inn_house_ways_steps h_casts_set_rows v_marked z1 v_latestFault v_faultPlace v_inn_minutes v_inn_things v_inn_dreams v_inn_sleepers v_inn_listeners v_inn_house_rooms v_inn_house_doors v_casts_count z2 v_notes_count v_notes_book v_notes_sort v_notes_one z3 v_notes_other z4 z5 z6 z7 v_inn_house_how z8 z9 v_inn_house_one v_inn_house_other v_inn_thingIn z10 v_inn_full z11 z12 v_casts_dreams z13 z14 v_inn_bed z15 z16 z17 z18 z19 v_inn_states v_inn_house_creak v_inn_listensIn v_inn_house_ways_rooms v_inn_house_ways_steps v_inn_house_cold v_inn_house_falls z20 z21)) args s 0 0 A := ⟨_, rfl⟩
  rw [← hQ]
  unfold fX10_parts at hf
  refine lv_aload_n hx hb dX10_parts_0 rfl (lv_at hl 0 rfl) ?_
  refine lv_iload_n hx hb dX10_parts_1 rfl (lv_at hl 1 rfl) ?_
  obtain ⟨r_2, hc_2, hf⟩ := bd1 hf
  refine r_callVi (ws' := (wX10_parts E h h_reader h_inn h_chosen h_night h_marks h_notes h_casts h_inn_house h_inn_thingIn h_inn_full h_inn_states h_inn_bed h_inn_dreamOf h_inn_listensIn h_inn_house_creak h_inn_house_cold h_inn_house_one h_inn_house_other h_inn_house_how h_inn_house_falls h_inn_house_ways h_casts_trial h_casts_dreams h_casts_plain h_casts_set h_casts_tried h_casts_kin h_casts_fitters h_notes_book h_notes_sort h_notes_one h_notes_other h_casts_plain_rows h_casts_trial_ways h_casts_trial_how h_casts_trial_passed h_casts_trial_dreamOf h_casts_trial_stateOf h_casts_trial_roomOf h_casts_trial_handOf h_casts_trial_awake h_casts_trial_thingIn h_casts_trial_full h_casts_trial_heardBy h_casts_trial_ways_steps h_inn_house_ways_steps h_casts_set_rows v_marked v_refusal v_latestFault v_faultPlace v_inn_minutes v_inn_things v_inn_dreams v_inn_sleepers v_inn_listeners v_inn_house_rooms v_inn_house_doors v_casts_count v_casts_fitting v_notes_count v_notes_book v_notes_sort v_notes_one v_casts_plain_rows v_notes_other v_casts_fitters v_casts_tried v_casts_trial_setting v_casts_trial_been v_inn_house_how v_casts_trial_ways_rooms v_casts_trial_ways_steps v_inn_house_one v_inn_house_other v_inn_thingIn v_casts_trial_thingIn v_inn_full v_casts_trial_full v_casts_trial_heardBy v_casts_dreams v_casts_trial_dreamOf v_casts_trial_stateOf v_inn_bed v_casts_trial_roomOf v_casts_trial_handOf v_casts_trial_awake v_casts_trial_how v_casts_trial_passed v_inn_states v_inn_house_creak v_inn_listensIn v_inn_house_ways_rooms v_inn_house_ways_steps v_inn_house_cold v_inn_house_falls v_casts_set_rows v_casts_kin)) (As := [.int p0]) (rest := []) C (ctX10_isSetting l E h h_reader h_inn h_chosen h_night h_marks h_notes h_casts h_inn_house h_inn_thingIn h_inn_full h_inn_states h_inn_bed h_inn_dreamOf h_inn_listensIn h_inn_house_creak h_inn_house_cold h_inn_house_one h_inn_house_other h_inn_house_how h_inn_house_falls h_inn_house_ways v_marked v_refusal v_latestFault v_faultPlace v_inn_minutes v_inn_things v_inn_dreams v_inn_sleepers v_inn_listeners v_inn_house_rooms v_inn_house_doors N p0 r_2 hc_2) ml_X10_149 ⟨Nat.le_of_ble_eq_true rfl, Nat.le_of_ble_eq_true rfl⟩ hP hD hS 0 rfl rfl rfl [0, 1, 2] rfl rfl rfl rfl rfl hl.1 rfl (Nat.le_of_ble_eq_true rfl) ⟨Nat.zero_le _, Nat.zero_le _⟩ dX10_parts_2 ?_
  clear hP hD hS; intro H locs hP hD hS
  refine lv_if_ne (tgt := 14) hx hb dX10_parts_5 (by decide) (fun c_5 => ?_) (fun c_5 => ?_)
  · replace hf := it_f c_5 hf
    refine lv_aload_n hx hb dX10_parts_14 rfl (lv_at hl 0 rfl) ?_
    refine r_get C hP 0 rfl fl_X10_50 rfl dX10_parts_15 ?_
    refine lv_aload_n hx hb dX10_parts_18 rfl (lv_at hl 0 rfl) ?_
    refine r_get C hP 0 rfl fl_X10_43 rfl dX10_parts_19 ?_
    refine lv_iconst (v := 3) hx hb dX10_parts_22 (by decide) ?_
    obtain ⟨r_23, v_casts_fitting_23, v_casts_fitters_23, hc_23, hf⟩ := bd3 hf
    refine r_callVi (ws' := (wX10_parts E h h_reader h_inn h_chosen h_night h_marks h_notes h_casts h_inn_house h_inn_thingIn h_inn_full h_inn_states h_inn_bed h_inn_dreamOf h_inn_listensIn h_inn_house_creak h_inn_house_cold h_inn_house_one h_inn_house_other h_inn_house_how h_inn_house_falls h_inn_house_ways h_casts_trial h_casts_dreams h_casts_plain h_casts_set h_casts_tried h_casts_kin h_casts_fitters h_notes_book h_notes_sort h_notes_one h_notes_other h_casts_plain_rows h_casts_trial_ways h_casts_trial_how h_casts_trial_passed h_casts_trial_dreamOf h_casts_trial_stateOf h_casts_trial_roomOf h_casts_trial_handOf h_casts_trial_awake h_casts_trial_thingIn h_casts_trial_full h_casts_trial_heardBy h_casts_trial_ways_steps h_inn_house_ways_steps h_casts_set_rows v_marked v_refusal v_latestFault v_faultPlace v_inn_minutes v_inn_things v_inn_dreams v_inn_sleepers v_inn_listeners v_inn_house_rooms v_inn_house_doors v_casts_count v_casts_fitting_23 v_notes_count v_notes_book v_notes_sort v_notes_one v_casts_plain_rows v_notes_other v_casts_fitters_23 v_casts_tried v_casts_trial_setting v_casts_trial_been v_inn_house_how v_casts_trial_ways_rooms v_casts_trial_ways_steps v_inn_house_one v_inn_house_other v_inn_thingIn v_casts_trial_thingIn v_inn_full v_casts_trial_full v_casts_trial_heardBy v_casts_dreams v_casts_trial_dreamOf v_casts_trial_stateOf v_inn_bed v_casts_trial_roomOf v_casts_trial_handOf v_casts_trial_awake v_casts_trial_how v_casts_trial_passed v_inn_states v_inn_house_creak v_inn_listensIn v_inn_house_ways_rooms v_inn_house_ways_steps v_inn_house_cold v_inn_house_falls v_casts_set_rows v_casts_kin)) (As := [.ref h_notes, .int 3]) (rest := []) C (ctX0_gather l E h_casts h_casts_trial h_inn h_casts_dreams h_casts_plain h_casts_set h_casts_tried h_casts_kin h_casts_fitters h_notes h_notes_book h_notes_sort h_notes_one h_notes_other h_casts_plain_rows v_casts_count v_casts_fitting v_notes_count v_notes_book v_notes_sort v_notes_one v_casts_plain_rows v_notes_other v_casts_fitters N 3 r_23 v_casts_fitting_23 v_casts_fitters_23 hc_23) ml_X10_262 ⟨Nat.le_of_ble_eq_true rfl, Nat.le_of_ble_eq_true rfl⟩ hP hD hS 3 rfl rfl rfl [3, 4, 5, 6, 7, 8, 9, 10, 11] rfl rfl rfl rfl rfl hl.1 rfl (Nat.le_of_ble_eq_true rfl) ⟨Nat.zero_le _, Nat.zero_le _⟩ dX10_parts_23 ?_
    clear hP hD hS; intro H locs hP hD hS
    refine lv_if_ne (tgt := 36) hx hb dX10_parts_26 (by decide) (fun c_26 => ?_) (fun c_26 => ?_)
    · replace hf := it_f c_26 hf
      refine lv_aload_n hx hb dX10_parts_36 rfl (lv_at hl 0 rfl) ?_
      refine r_get C hP 0 rfl fl_X10_50 rfl dX10_parts_37 ?_
      refine lv_iload_n hx hb dX10_parts_40 rfl (lv_at hl 1 rfl) ?_
      refine lv_iload_n hx hb dX10_parts_41 rfl (lv_at hl 1 rfl) ?_
      obtain ⟨v_casts_tried_42, v_casts_trial_setting_42, v_casts_trial_been_42, v_casts_trial_ways_rooms_42, v_casts_trial_ways_steps_42, v_casts_trial_thingIn_42, v_casts_trial_full_42, v_casts_trial_heardBy_42, v_casts_trial_dreamOf_42, v_casts_trial_stateOf_42, v_casts_trial_roomOf_42, v_casts_trial_handOf_42, v_casts_trial_awake_42, v_casts_trial_how_42, v_casts_trial_passed_42, v_casts_set_rows_42, v_casts_kin_42, v_casts_plain_rows_42, hc_42, hf⟩ := bd18 hf
      refine r_callVv (ws' := (wX10_parts E h h_reader h_inn h_chosen h_night h_marks h_notes h_casts h_inn_house h_inn_thingIn h_inn_full h_inn_states h_inn_bed h_inn_dreamOf h_inn_listensIn h_inn_house_creak h_inn_house_cold h_inn_house_one h_inn_house_other h_inn_house_how h_inn_house_falls h_inn_house_ways h_casts_trial h_casts_dreams h_casts_plain h_casts_set h_casts_tried h_casts_kin h_casts_fitters h_notes_book h_notes_sort h_notes_one h_notes_other h_casts_plain_rows h_casts_trial_ways h_casts_trial_how h_casts_trial_passed h_casts_trial_dreamOf h_casts_trial_stateOf h_casts_trial_roomOf h_casts_trial_handOf h_casts_trial_awake h_casts_trial_thingIn h_casts_trial_full h_casts_trial_heardBy h_casts_trial_ways_steps h_inn_house_ways_steps h_casts_set_rows v_marked v_refusal v_latestFault v_faultPlace v_inn_minutes v_inn_things v_inn_dreams v_inn_sleepers v_inn_listeners v_inn_house_rooms v_inn_house_doors v_casts_count v_casts_fitting_23 v_notes_count v_notes_book v_notes_sort v_notes_one v_casts_plain_rows_42 v_notes_other v_casts_fitters_23 v_casts_tried_42 v_casts_trial_setting_42 v_casts_trial_been_42 v_inn_house_how v_casts_trial_ways_rooms_42 v_casts_trial_ways_steps_42 v_inn_house_one v_inn_house_other v_inn_thingIn v_casts_trial_thingIn_42 v_inn_full v_casts_trial_full_42 v_casts_trial_heardBy_42 v_casts_dreams v_casts_trial_dreamOf_42 v_casts_trial_stateOf_42 v_inn_bed v_casts_trial_roomOf_42 v_casts_trial_handOf_42 v_casts_trial_awake_42 v_casts_trial_how_42 v_casts_trial_passed_42 v_inn_states v_inn_house_creak v_inn_listensIn v_inn_house_ways_rooms v_inn_house_ways_steps v_inn_house_cold v_inn_house_falls v_casts_set_rows_42 v_casts_kin_42)) (As := [.int p0, .int p0]) (rest := []) C (ctX0_tryOuts l E h_casts h_casts_trial h_inn h_casts_dreams h_casts_plain h_casts_set h_casts_tried h_casts_kin h_casts_fitters h_casts_trial_ways h_casts_trial_how h_casts_trial_passed h_casts_trial_dreamOf h_casts_trial_stateOf h_casts_trial_roomOf h_casts_trial_handOf h_casts_trial_awake h_casts_trial_thingIn h_casts_trial_full h_casts_trial_heardBy h_inn_house h_inn_thingIn h_inn_full h_inn_states h_inn_bed h_inn_dreamOf h_inn_listensIn h_inn_house_creak h_inn_house_cold h_inn_house_one h_inn_house_other h_inn_house_how h_inn_house_falls h_inn_house_ways h_casts_trial_ways_steps h_inn_house_ways_steps h_casts_set_rows h_casts_plain_rows v_casts_count v_casts_fitting_23 v_casts_tried v_casts_trial_setting v_casts_trial_been v_inn_minutes v_inn_things v_inn_dreams v_inn_sleepers v_inn_listeners v_inn_house_rooms v_inn_house_doors v_inn_house_how v_casts_trial_ways_rooms v_casts_trial_ways_steps v_inn_house_one v_inn_house_other v_inn_thingIn v_casts_trial_thingIn v_inn_full v_casts_trial_full v_casts_trial_heardBy v_casts_dreams v_casts_trial_dreamOf v_casts_trial_stateOf v_inn_bed v_casts_trial_roomOf v_casts_trial_handOf v_casts_trial_awake v_casts_trial_how v_casts_trial_passed v_inn_states v_inn_house_creak v_inn_listensIn v_inn_house_ways_rooms v_inn_house_ways_steps v_inn_house_cold v_inn_house_falls v_casts_set_rows v_casts_kin v_casts_plain_rows N p0 p0 v_casts_tried_42 v_casts_trial_setting_42 v_casts_trial_been_42 v_casts_trial_ways_rooms_42 v_casts_trial_ways_steps_42 v_casts_trial_thingIn_42 v_casts_trial_full_42 v_casts_trial_heardBy_42 v_casts_trial_dreamOf_42 v_casts_trial_stateOf_42 v_casts_trial_roomOf_42 v_casts_trial_handOf_42 v_casts_trial_awake_42 v_casts_trial_how_42 v_casts_trial_passed_42 v_casts_set_rows_42 v_casts_kin_42 v_casts_plain_rows_42 hc_42) ml_X10_88 ⟨Nat.le_of_ble_eq_true rfl, Nat.le_of_ble_eq_true rfl⟩ hP hD hS 3 rfl rfl rfl [3, 12, 13, 1, 2, 14, 15, 16, 17, 18, 19, 20, 21, 22, 23, 24, 25, 26, 27, 28, 29, 30, 31, 32, 33, 34, 35, 36, 37, 38, 39, 40, 41, 42, 8, 9] rfl rfl rfl rfl rfl hl.1 rfl (Nat.le_of_ble_eq_true rfl) ⟨Nat.zero_le _, Nat.zero_le _⟩ dX10_parts_42 ?_
      clear hP hD hS; intro H locs hP hD hS
      refine lv_aload_n hx hb dX10_parts_45 rfl (lv_at hl 0 rfl) ?_
      refine lv_aload_n hx hb dX10_parts_46 rfl (lv_at hl 0 rfl) ?_
      refine r_get C hP 0 rfl fl_X10_50 rfl dX10_parts_47 ?_
      refine lv_iload_n hx hb dX10_parts_50 rfl (lv_at hl 1 rfl) ?_
      refine lv_iload_n hx hb dX10_parts_51 rfl (lv_at hl 1 rfl) ?_
      obtain ⟨r_52, hc_52, hf⟩ := bd1 hf
      refine r_callVi (ws' := (wX10_parts E h h_reader h_inn h_chosen h_night h_marks h_notes h_casts h_inn_house h_inn_thingIn h_inn_full h_inn_states h_inn_bed h_inn_dreamOf h_inn_listensIn h_inn_house_creak h_inn_house_cold h_inn_house_one h_inn_house_other h_inn_house_how h_inn_house_falls h_inn_house_ways h_casts_trial h_casts_dreams h_casts_plain h_casts_set h_casts_tried h_casts_kin h_casts_fitters h_notes_book h_notes_sort h_notes_one h_notes_other h_casts_plain_rows h_casts_trial_ways h_casts_trial_how h_casts_trial_passed h_casts_trial_dreamOf h_casts_trial_stateOf h_casts_trial_roomOf h_casts_trial_handOf h_casts_trial_awake h_casts_trial_thingIn h_casts_trial_full h_casts_trial_heardBy h_casts_trial_ways_steps h_inn_house_ways_steps h_casts_set_rows v_marked v_refusal v_latestFault v_faultPlace v_inn_minutes v_inn_things v_inn_dreams v_inn_sleepers v_inn_listeners v_inn_house_rooms v_inn_house_doors v_casts_count v_casts_fitting_23 v_notes_count v_notes_book v_notes_sort v_notes_one v_casts_plain_rows_42 v_notes_other v_casts_fitters_23 v_casts_tried_42 v_casts_trial_setting_42 v_casts_trial_been_42 v_inn_house_how v_casts_trial_ways_rooms_42 v_casts_trial_ways_steps_42 v_inn_house_one v_inn_house_other v_inn_thingIn v_casts_trial_thingIn_42 v_inn_full v_casts_trial_full_42 v_casts_trial_heardBy_42 v_casts_dreams v_casts_trial_dreamOf_42 v_casts_trial_stateOf_42 v_inn_bed v_casts_trial_roomOf_42 v_casts_trial_handOf_42 v_casts_trial_awake_42 v_casts_trial_how_42 v_casts_trial_passed_42 v_inn_states v_inn_house_creak v_inn_listensIn v_inn_house_ways_rooms v_inn_house_ways_steps v_inn_house_cold v_inn_house_falls v_casts_set_rows_42 v_casts_kin_42)) (As := [.int p0, .int p0]) (rest := [.ref h]) C (ctX0_mostAlike l E h_casts h_casts_trial h_inn h_casts_dreams h_casts_plain h_casts_set h_casts_tried h_casts_kin h_casts_fitters v_casts_count v_casts_fitting_23 v_casts_fitters_23 v_casts_kin_42 N p0 p0 r_52 hc_52) ml_X10_272 ⟨Nat.le_of_ble_eq_true rfl, Nat.le_of_ble_eq_true rfl⟩ hP hD hS 3 rfl rfl rfl [3, 11, 42] rfl rfl rfl rfl rfl hl.1 rfl (Nat.le_of_ble_eq_true rfl) ⟨Nat.zero_le _, Nat.zero_le _⟩ dX10_parts_52 ?_
      clear hP hD hS; intro H locs hP hD hS
      obtain ⟨r_55, v_refusal_55, hc_55, hf⟩ := bd2 hf
      refine r_callVi (ws' := (wX10_parts E h h_reader h_inn h_chosen h_night h_marks h_notes h_casts h_inn_house h_inn_thingIn h_inn_full h_inn_states h_inn_bed h_inn_dreamOf h_inn_listensIn h_inn_house_creak h_inn_house_cold h_inn_house_one h_inn_house_other h_inn_house_how h_inn_house_falls h_inn_house_ways h_casts_trial h_casts_dreams h_casts_plain h_casts_set h_casts_tried h_casts_kin h_casts_fitters h_notes_book h_notes_sort h_notes_one h_notes_other h_casts_plain_rows h_casts_trial_ways h_casts_trial_how h_casts_trial_passed h_casts_trial_dreamOf h_casts_trial_stateOf h_casts_trial_roomOf h_casts_trial_handOf h_casts_trial_awake h_casts_trial_thingIn h_casts_trial_full h_casts_trial_heardBy h_casts_trial_ways_steps h_inn_house_ways_steps h_casts_set_rows v_marked v_refusal_55 v_latestFault v_faultPlace v_inn_minutes v_inn_things v_inn_dreams v_inn_sleepers v_inn_listeners v_inn_house_rooms v_inn_house_doors v_casts_count v_casts_fitting_23 v_notes_count v_notes_book v_notes_sort v_notes_one v_casts_plain_rows_42 v_notes_other v_casts_fitters_23 v_casts_tried_42 v_casts_trial_setting_42 v_casts_trial_been_42 v_inn_house_how v_casts_trial_ways_rooms_42 v_casts_trial_ways_steps_42 v_inn_house_one v_inn_house_other v_inn_thingIn v_casts_trial_thingIn_42 v_inn_full v_casts_trial_full_42 v_casts_trial_heardBy_42 v_casts_dreams v_casts_trial_dreamOf_42 v_casts_trial_stateOf_42 v_inn_bed v_casts_trial_roomOf_42 v_casts_trial_handOf_42 v_casts_trial_awake_42 v_casts_trial_how_42 v_casts_trial_passed_42 v_inn_states v_inn_house_creak v_inn_listensIn v_inn_house_ways_rooms v_inn_house_ways_steps v_inn_house_cold v_inn_house_falls v_casts_set_rows_42 v_casts_kin_42)) (As := [.int r_52]) (rest := []) C (ctX10_answer l E h h_reader h_inn h_chosen h_night h_marks h_notes h_casts v_marked v_refusal v_latestFault v_faultPlace N r_52 r_55 v_refusal_55 hc_55) ml_X10_95 ⟨Nat.le_of_ble_eq_true rfl, Nat.le_of_ble_eq_true rfl⟩ hP hD hS 0 rfl rfl rfl [0] rfl rfl rfl rfl rfl hl.1 rfl (Nat.le_of_ble_eq_true rfl) ⟨Nat.zero_le _, Nat.zero_le _⟩ dX10_parts_55 ?_
      clear hP hD hS; intro H locs hP hD hS
      cases hf
      rw [hQ]
      exact r_iret C hr hP hD hS rfl dX10_parts_58
    · replace hf := it_t c_26 hf
      refine lv_aload_n hx hb dX10_parts_29 rfl (lv_at hl 0 rfl) ?_
      refine lv_bipush (v := 6) hx hb dX10_parts_30 (by decide) ?_
      obtain ⟨r_32, v_refusal_32, hc_32, hf⟩ := bd2 hf
      refine r_callVi (ws' := (wX10_parts E h h_reader h_inn h_chosen h_night h_marks h_notes h_casts h_inn_house h_inn_thingIn h_inn_full h_inn_states h_inn_bed h_inn_dreamOf h_inn_listensIn h_inn_house_creak h_inn_house_cold h_inn_house_one h_inn_house_other h_inn_house_how h_inn_house_falls h_inn_house_ways h_casts_trial h_casts_dreams h_casts_plain h_casts_set h_casts_tried h_casts_kin h_casts_fitters h_notes_book h_notes_sort h_notes_one h_notes_other h_casts_plain_rows h_casts_trial_ways h_casts_trial_how h_casts_trial_passed h_casts_trial_dreamOf h_casts_trial_stateOf h_casts_trial_roomOf h_casts_trial_handOf h_casts_trial_awake h_casts_trial_thingIn h_casts_trial_full h_casts_trial_heardBy h_casts_trial_ways_steps h_inn_house_ways_steps h_casts_set_rows v_marked v_refusal_32 v_latestFault v_faultPlace v_inn_minutes v_inn_things v_inn_dreams v_inn_sleepers v_inn_listeners v_inn_house_rooms v_inn_house_doors v_casts_count v_casts_fitting_23 v_notes_count v_notes_book v_notes_sort v_notes_one v_casts_plain_rows v_notes_other v_casts_fitters_23 v_casts_tried v_casts_trial_setting v_casts_trial_been v_inn_house_how v_casts_trial_ways_rooms v_casts_trial_ways_steps v_inn_house_one v_inn_house_other v_inn_thingIn v_casts_trial_thingIn v_inn_full v_casts_trial_full v_casts_trial_heardBy v_casts_dreams v_casts_trial_dreamOf v_casts_trial_stateOf v_inn_bed v_casts_trial_roomOf v_casts_trial_handOf v_casts_trial_awake v_casts_trial_how v_casts_trial_passed v_inn_states v_inn_house_creak v_inn_listensIn v_inn_house_ways_rooms v_inn_house_ways_steps v_inn_house_cold v_inn_house_falls v_casts_set_rows v_casts_kin)) (As := [.int 6]) (rest := []) C (ctX10_refuse l E h h_reader h_inn h_chosen h_night h_marks h_notes h_casts v_marked v_refusal v_latestFault v_faultPlace N 6 r_32 v_refusal_32 hc_32) ml_X10_68 ⟨Nat.le_of_ble_eq_true rfl, Nat.le_of_ble_eq_true rfl⟩ hP hD hS 0 rfl rfl rfl [0] rfl rfl rfl rfl rfl hl.1 rfl (Nat.le_of_ble_eq_true rfl) ⟨Nat.zero_le _, Nat.zero_le _⟩ dX10_parts_32 ?_
      clear hP hD hS; intro H locs hP hD hS
      cases hf
      rw [hQ]
      exact r_iret C hr hP hD hS rfl dX10_parts_35
  · replace hf := it_t c_5 hf
    refine lv_aload_n hx hb dX10_parts_8 rfl (lv_at hl 0 rfl) ?_
    refine lv_iconst (v := 1) hx hb dX10_parts_9 (by decide) ?_
    obtain ⟨r_10, v_refusal_10, hc_10, hf⟩ := bd2 hf
    refine r_callVi (ws' := (wX10_parts E h h_reader h_inn h_chosen h_night h_marks h_notes h_casts h_inn_house h_inn_thingIn h_inn_full h_inn_states h_inn_bed h_inn_dreamOf h_inn_listensIn h_inn_house_creak h_inn_house_cold h_inn_house_one h_inn_house_other h_inn_house_how h_inn_house_falls h_inn_house_ways h_casts_trial h_casts_dreams h_casts_plain h_casts_set h_casts_tried h_casts_kin h_casts_fitters h_notes_book h_notes_sort h_notes_one h_notes_other h_casts_plain_rows h_casts_trial_ways h_casts_trial_how h_casts_trial_passed h_casts_trial_dreamOf h_casts_trial_stateOf h_casts_trial_roomOf h_casts_trial_handOf h_casts_trial_awake h_casts_trial_thingIn h_casts_trial_full h_casts_trial_heardBy h_casts_trial_ways_steps h_inn_house_ways_steps h_casts_set_rows v_marked v_refusal_10 v_latestFault v_faultPlace v_inn_minutes v_inn_things v_inn_dreams v_inn_sleepers v_inn_listeners v_inn_house_rooms v_inn_house_doors v_casts_count v_casts_fitting v_notes_count v_notes_book v_notes_sort v_notes_one v_casts_plain_rows v_notes_other v_casts_fitters v_casts_tried v_casts_trial_setting v_casts_trial_been v_inn_house_how v_casts_trial_ways_rooms v_casts_trial_ways_steps v_inn_house_one v_inn_house_other v_inn_thingIn v_casts_trial_thingIn v_inn_full v_casts_trial_full v_casts_trial_heardBy v_casts_dreams v_casts_trial_dreamOf v_casts_trial_stateOf v_inn_bed v_casts_trial_roomOf v_casts_trial_handOf v_casts_trial_awake v_casts_trial_how v_casts_trial_passed v_inn_states v_inn_house_creak v_inn_listensIn v_inn_house_ways_rooms v_inn_house_ways_steps v_inn_house_cold v_inn_house_falls v_casts_set_rows v_casts_kin)) (As := [.int 1]) (rest := []) C (ctX10_refuse l E h h_reader h_inn h_chosen h_night h_marks h_notes h_casts v_marked v_refusal v_latestFault v_faultPlace N 1 r_10 v_refusal_10 hc_10) ml_X10_68 ⟨Nat.le_of_ble_eq_true rfl, Nat.le_of_ble_eq_true rfl⟩ hP hD hS 0 rfl rfl rfl [0] rfl rfl rfl rfl rfl hl.1 rfl (Nat.le_of_ble_eq_true rfl) ⟨Nat.zero_le _, Nat.zero_le _⟩ dX10_parts_10 ?_
    clear hP hD hS; intro H locs hP hD hS
    cases hf
    rw [hQ]
    exact r_iret C hr hP hD hS rfl dX10_parts_13
def wX0_bestSetting (E : EN) (h h_trial h_inn h_dreams h_plain h_set h_tried h_kin h_fitters h_inn_house h_inn_thingIn h_inn_full h_inn_states h_inn_bed h_inn_dreamOf h_inn_listensIn h_inn_house_creak h_inn_house_cold h_inn_house_one h_inn_house_other h_inn_house_how h_inn_house_falls h_inn_house_ways : Nat) (v_count : Int32) (v_fitting : Int32) (v_fitters : Nat → Int32) (v_kin : Nat → Int32) (v_inn_minutes : Int32) (v_inn_things : Int32) (v_inn_dreams : Int32) (v_inn_sleepers : Int32) (v_inn_listeners : Int32) (v_inn_house_rooms : Int32) (v_inn_house_doors : Int32) : va_W := [(h, .inr (0, [.ref h_trial, .ref h_inn, .int v_count, .ref h_dreams, .ref h_plain, .ref h_set, .ref h_tried, .ref h_kin, .int v_fitting, .ref h_fitters])), (h_fitters, aI E 64 v_fitters), (h_kin, aI E 1344 v_kin), (h_inn, .inr (2, [.ref h_inn_house, .int v_inn_minutes, .int v_inn_things, .ref h_inn_thingIn, .ref h_inn_full, .int v_inn_dreams, .ref h_inn_states, .int v_inn_sleepers, .ref h_inn_bed, .ref h_inn_dreamOf, .int v_inn_listeners, .ref h_inn_listensIn])), (h_inn_house, .inr (1, [.int v_inn_house_rooms, .ref h_inn_house_creak, .ref h_inn_house_cold, .int v_inn_house_doors, .ref h_inn_house_one, .ref h_inn_house_other, .ref h_inn_house_how, .ref h_inn_house_falls, .ref h_inn_house_ways]))]
def BX0_bestSetting_11 (N : Nat) (v_inn_house_doors : Int32) (v_fitting : Int32) (v_fitters : Nat → Int32) (v_kin : Nat → Int32) (rec11 : (Int32 × Int32 × Int32) → Option Int32) : (Int32 × Int32 × Int32) → Option Int32 := un3 fun (x11_1 : Int32) (x11_2 : Int32) (x11_3 : Int32) => (fX2_settings N v_inn_house_doors).bind (un1 fun (r_16 : Int32) => if r_16 ≤ x11_3 then (some x11_1) else ((fX0_mostAlike N x11_3 x11_3 v_fitting v_fitters v_kin).bind (un1 fun (r_25 : Int32) => jn (un2 fun (x41_1 : Int32) (x41_2 : Int32) => rec11 (x41_1, x41_2, x11_3 + 1)) (fun j41 => if x11_2 ≤ r_25 then (j41 (x11_1, x11_2)) else (j41 (x11_3, r_25))))))
def fX0_bestSetting (N : Nat) (v_fitting : Int32) (v_fitters : Nat → Int32) (v_kin : Nat → Int32) (v_inn_house_doors : Int32) : Option Int32 := (fX0_mostAlike N 0 0 v_fitting v_fitters v_kin).bind (un1 fun (r_5 : Int32) => lp (BX0_bestSetting_11 N v_inn_house_doors v_fitting v_fitters v_kin) N (0, r_5, 1))
set_option maxHeartbeats 4000000 in
set_option maxRecDepth 100000 in
theorem ctX0_bestSetting (l : Launch) (E : EN) (h h_trial h_inn h_dreams h_plain h_set h_tried h_kin h_fitters h_inn_house h_inn_thingIn h_inn_full h_inn_states h_inn_bed h_inn_dreamOf h_inn_listensIn h_inn_house_creak h_inn_house_cold h_inn_house_one h_inn_house_other h_inn_house_how h_inn_house_falls h_inn_house_ways : Nat) (v_count : Int32) (v_fitting : Int32) (v_fitters : Nat → Int32) (v_kin : Nat → Int32) (v_inn_minutes : Int32) (v_inn_things : Int32) (v_inn_dreams : Int32) (v_inn_sleepers : Int32) (v_inn_listeners : Int32) (v_inn_house_rooms : Int32) (v_inn_house_doors : Int32) (N : Nat) (z0 : Int32) (hf : fX0_bestSetting N v_fitting v_fitters v_kin v_inn_house_doors = some z0) : CTi l E yX0_bestSetting cX0_bestSetting 5 .int 2 50 [.ref h] (wX0_bestSetting E h h_trial h_inn h_dreams h_plain h_set h_tried h_kin h_fitters h_inn_house h_inn_thingIn h_inn_full h_inn_states h_inn_bed h_inn_dreamOf h_inn_listensIn h_inn_house_creak h_inn_house_cold h_inn_house_one h_inn_house_other h_inn_house_how h_inn_house_falls h_inn_house_ways v_count v_fitting v_fitters v_kin v_inn_minutes v_inn_things v_inn_dreams v_inn_sleepers v_inn_listeners v_inn_house_rooms v_inn_house_doors) z0 (wX0_bestSetting E h h_trial h_inn h_dreams h_plain h_set h_tried h_kin h_fitters h_inn_house h_inn_thingIn h_inn_full h_inn_states h_inn_bed h_inn_dreamOf h_inn_listensIn h_inn_house_creak h_inn_house_cold h_inn_house_one h_inn_house_other h_inn_house_how h_inn_house_falls h_inn_house_ways v_count v_fitting v_fitters v_kin v_inn_minutes v_inn_things v_inn_dreams v_inn_sleepers v_inn_listeners v_inn_house_rooms v_inn_house_doors) := by
  intro sz
  refine ct_body (by decide) (Nat.le_of_ble_eq_true rfl) ?_
  intro p e s m args below meth c A ls hAe C hr hin hP hD hS hl
  have C : CX p s m args meth c cX0_bestSetting RX0 5 E A := C
  have hl : lv_has ls 5 [(0, .ref h)] := hl
  have hx := C.1
  have hb := C.2.1
  rw [hAe]
  clear hAe
  obtain ⟨Q, hQ⟩ : ∃ Q, Q = MQ below (Qi E A z0 (wX0_bestSetting E h h_trial h_inn h_dreams h_plain h_set h_tried h_kin h_fitters h_inn_house h_inn_thingIn h_inn_full h_inn_states h_inn_bed h_inn_dreamOf h_inn_listensIn h_inn_house_creak h_inn_house_cold h_inn_house_one h_inn_house_other h_inn_house_how h_inn_house_falls h_inn_house_ways v_count v_fitting v_fitters v_kin v_inn_minutes v_inn_things v_inn_dreams v_inn_sleepers v_inn_listeners v_inn_house_rooms v_inn_house_doors)) args s 0 0 A := ⟨_, rfl⟩
  rw [← hQ]
  unfold fX0_bestSetting at hf
  refine lv_iconst (v := 0) hx hb dX0_bestSetting_0 (by decide) ?_
  refine lv_istore_n (lv' := [(1, .int 0), (0, .ref h)]) hx hb dX0_bestSetting_1 rfl hl (by decide) rfl (fun ls hl => ?_)
  refine lv_aload_n hx hb dX0_bestSetting_2 rfl (lv_at hl 1 rfl) ?_
  refine lv_iconst (v := 0) hx hb dX0_bestSetting_3 (by decide) ?_
  refine lv_iconst (v := 0) hx hb dX0_bestSetting_4 (by decide) ?_
  obtain ⟨r_5, hc_5, hf⟩ := bd1 hf
  refine r_callVi (ws' := (wX0_bestSetting E h h_trial h_inn h_dreams h_plain h_set h_tried h_kin h_fitters h_inn_house h_inn_thingIn h_inn_full h_inn_states h_inn_bed h_inn_dreamOf h_inn_listensIn h_inn_house_creak h_inn_house_cold h_inn_house_one h_inn_house_other h_inn_house_how h_inn_house_falls h_inn_house_ways v_count v_fitting v_fitters v_kin v_inn_minutes v_inn_things v_inn_dreams v_inn_sleepers v_inn_listeners v_inn_house_rooms v_inn_house_doors)) (As := [.int 0, .int 0]) (rest := []) C (ctX0_mostAlike l E h h_trial h_inn h_dreams h_plain h_set h_tried h_kin h_fitters v_count v_fitting v_fitters v_kin N 0 0 r_5 hc_5) ml_X0_113 ⟨Nat.le_of_ble_eq_true rfl, Nat.le_of_ble_eq_true rfl⟩ hP hD hS 0 rfl rfl rfl [0, 1, 2] rfl rfl rfl rfl rfl hl.1 rfl (Nat.le_of_ble_eq_true rfl) ⟨Nat.zero_le _, Nat.zero_le _⟩ dX0_bestSetting_5 ?_
  clear hP hD hS; intro H locs hP hD hS
  refine lv_istore_n (lv' := [(2, .int r_5), (1, .int 0), (0, .ref h)]) hx hb dX0_bestSetting_8 rfl hl (by decide) rfl (fun ls hl => ?_)
  refine lv_iconst (v := 1) hx hb dX0_bestSetting_9 (by decide) ?_
  refine lv_istore_n (lv' := [(3, .int 1), (2, .int r_5), (1, .int 0), (0, .ref h)]) hx hb dX0_bestSetting_10 rfl hl (by decide) rfl (fun ls hl => ?_)
  have key11 : ∀ (n : Nat) (x11_1 : Int32) (x11_2 : Int32) (x11_3 : Int32) , lp (BX0_bestSetting_11 N v_inn_house_doors v_fitting v_fitters v_kin) n (x11_1, x11_2, x11_3) = some z0 → AT p l e (rmOf 2 50) s m args below meth c E A Q 0 0 5 [(0, .ref h), (1, .int x11_1), (2, .int x11_2), (3, .int x11_3)] (wX0_bestSetting E h h_trial h_inn h_dreams h_plain h_set h_tried h_kin h_fitters h_inn_house h_inn_thingIn h_inn_full h_inn_states h_inn_bed h_inn_dreamOf h_inn_listensIn h_inn_house_creak h_inn_house_cold h_inn_house_one h_inn_house_other h_inn_house_how h_inn_house_falls h_inn_house_ways v_count v_fitting v_fitters v_kin v_inn_minutes v_inn_things v_inn_dreams v_inn_sleepers v_inn_listeners v_inn_house_rooms v_inn_house_doors) 11 [] := by
    intro n
    induction n with
    | zero => intro x11_1 x11_2 x11_3 hf; exact (lp_0 hf).elim
    | succ n ih11 =>
      intro x11_1 x11_2 x11_3 hf H locs ls hl hP hD hS
      replace hf := lp_s hf
      generalize lp (BX0_bestSetting_11 N v_inn_house_doors v_fitting v_fitters v_kin) n = rec11 at ih11 hf
      unfold BX0_bestSetting_11 at hf
      replace hf := un3_s hf
      refine lv_iload_n hx hb dX0_bestSetting_11 rfl (lv_at hl 3 rfl) ?_
      refine lv_aload_n hx hb dX0_bestSetting_12 rfl (lv_at hl 0 rfl) ?_
      refine r_get C hP 0 rfl fl_X0_35 rfl dX0_bestSetting_13 ?_
      obtain ⟨r_16, hc_16, hf⟩ := bd1 hf
      refine r_callVi (ws' := (wX0_bestSetting E h h_trial h_inn h_dreams h_plain h_set h_tried h_kin h_fitters h_inn_house h_inn_thingIn h_inn_full h_inn_states h_inn_bed h_inn_dreamOf h_inn_listensIn h_inn_house_creak h_inn_house_cold h_inn_house_one h_inn_house_other h_inn_house_how h_inn_house_falls h_inn_house_ways v_count v_fitting v_fitters v_kin v_inn_minutes v_inn_things v_inn_dreams v_inn_sleepers v_inn_listeners v_inn_house_rooms v_inn_house_doors)) (As := []) (rest := [.int x11_3]) C (ctX2_settings l E h_inn h_inn_house h_inn_thingIn h_inn_full h_inn_states h_inn_bed h_inn_dreamOf h_inn_listensIn h_inn_house_creak h_inn_house_cold h_inn_house_one h_inn_house_other h_inn_house_how h_inn_house_falls h_inn_house_ways v_inn_minutes v_inn_things v_inn_dreams v_inn_sleepers v_inn_listeners v_inn_house_rooms v_inn_house_doors N r_16 hc_16) ml_X0_116 ⟨Nat.le_of_ble_eq_true rfl, Nat.le_of_ble_eq_true rfl⟩ hP hD hS 3 rfl rfl rfl [3, 4] rfl rfl rfl rfl rfl hl.1 rfl (Nat.le_of_ble_eq_true rfl) ⟨Nat.zero_le _, Nat.zero_le _⟩ dX0_bestSetting_16 ?_
      clear hP hD hS; intro H locs hP hD hS
      refine lv_icmp_ge (tgt := 47) hx hb dX0_bestSetting_19 (by decide) (fun c_19 => ?_) (fun c_19 => ?_)
      · replace hf := it_t c_19 hf
        refine lv_iload_n hx hb dX0_bestSetting_47 rfl (lv_at hl 1 rfl) ?_
        cases hf
        rw [hQ]
        exact r_iret C hr hP hD hS rfl dX0_bestSetting_48
      · replace hf := it_f c_19 hf
        refine lv_aload_n hx hb dX0_bestSetting_22 rfl (lv_at hl 0 rfl) ?_
        refine lv_iload_n hx hb dX0_bestSetting_23 rfl (lv_at hl 3 rfl) ?_
        refine lv_iload_n hx hb dX0_bestSetting_24 rfl (lv_at hl 3 rfl) ?_
        obtain ⟨r_25, hc_25, hf⟩ := bd1 hf
        refine r_callVi (ws' := (wX0_bestSetting E h h_trial h_inn h_dreams h_plain h_set h_tried h_kin h_fitters h_inn_house h_inn_thingIn h_inn_full h_inn_states h_inn_bed h_inn_dreamOf h_inn_listensIn h_inn_house_creak h_inn_house_cold h_inn_house_one h_inn_house_other h_inn_house_how h_inn_house_falls h_inn_house_ways v_count v_fitting v_fitters v_kin v_inn_minutes v_inn_things v_inn_dreams v_inn_sleepers v_inn_listeners v_inn_house_rooms v_inn_house_doors)) (As := [.int x11_3, .int x11_3]) (rest := []) C (ctX0_mostAlike l E h h_trial h_inn h_dreams h_plain h_set h_tried h_kin h_fitters v_count v_fitting v_fitters v_kin N x11_3 x11_3 r_25 hc_25) ml_X0_113 ⟨Nat.le_of_ble_eq_true rfl, Nat.le_of_ble_eq_true rfl⟩ hP hD hS 0 rfl rfl rfl [0, 1, 2] rfl rfl rfl rfl rfl hl.1 rfl (Nat.le_of_ble_eq_true rfl) ⟨Nat.zero_le _, Nat.zero_le _⟩ dX0_bestSetting_25 ?_
        clear hP hD hS; intro H locs hP hD hS
        refine lv_istore (lv' := [(4, .int r_25), (0, .ref h), (1, .int x11_1), (2, .int x11_2), (3, .int x11_3)]) hx hb dX0_bestSetting_28 hl (by decide) rfl (fun ls hl => ?_)
        refine lv_iload hx hb dX0_bestSetting_30 (lv_at hl 0 rfl) ?_
        refine lv_iload_n hx hb dX0_bestSetting_32 rfl (lv_at hl 3 rfl) ?_
        refine jnK hf (fun j41 ej41 hf => ?_)
        have hj41 : ∀ (x41_1 : Int32) (x41_2 : Int32) , j41 (x41_1, x41_2) = some z0 → AT p l e (rmOf 2 50) s m args below meth c E A Q 0 0 5 [(0, .ref h), (1, .int x41_1), (2, .int x41_2), (3, .int x11_3)] (wX0_bestSetting E h h_trial h_inn h_dreams h_plain h_set h_tried h_kin h_fitters h_inn_house h_inn_thingIn h_inn_full h_inn_states h_inn_bed h_inn_dreamOf h_inn_listensIn h_inn_house_creak h_inn_house_cold h_inn_house_one h_inn_house_other h_inn_house_how h_inn_house_falls h_inn_house_ways v_count v_fitting v_fitters v_kin v_inn_minutes v_inn_things v_inn_dreams v_inn_sleepers v_inn_listeners v_inn_house_rooms v_inn_house_doors) 41 [] := by
          intro x41_1 x41_2 hf H locs ls hl hP hD hS
          rw [ej41] at hf
          replace hf := un2_s hf
          refine lv_iinc (v := x11_3 + 1) (lv' := [(3, .int (x11_3 + 1)), (0, .ref h), (1, .int x41_1), (2, .int x41_2)]) hx hb dX0_bestSetting_41 hl (k := 3) rfl rfl (by decide) rfl (fun ls hl => ?_)
          refine lv_goto (tgt := 11) hx hb dX0_bestSetting_44 (by decide) ?_
          exact ih11 x41_1 x41_2 (x11_3 + 1) hf _ _ _ (lv_sub hl [1, 2, 3, 0] rfl) hP hD hS
        clear ej41
        refine lv_icmp_ge (tgt := 41) hx hb dX0_bestSetting_33 (by decide) (fun c_33 => ?_) (fun c_33 => ?_)
        · replace hf := it_t c_33 hf
          exact hj41 x11_1 x11_2 hf _ _ _ (lv_sub hl [1, 2, 3, 4] rfl) hP hD hS
        · replace hf := it_f c_33 hf
          refine lv_iload hx hb dX0_bestSetting_36 (lv_at hl 0 rfl) ?_
          refine lv_istore_n (lv' := [(2, .int r_25), (4, .int r_25), (0, .ref h), (1, .int x11_1), (3, .int x11_3)]) hx hb dX0_bestSetting_38 rfl hl (by decide) rfl (fun ls hl => ?_)
          refine lv_iload_n hx hb dX0_bestSetting_39 rfl (lv_at hl 4 rfl) ?_
          refine lv_istore_n (lv' := [(1, .int x11_3), (2, .int r_25), (4, .int r_25), (0, .ref h), (3, .int x11_3)]) hx hb dX0_bestSetting_40 rfl hl (by decide) rfl (fun ls hl => ?_)
          exact hj41 x11_3 r_25 hf _ _ _ (lv_sub hl [3, 0, 1, 4] rfl) hP hD hS
  exact key11 _ 0 r_5 1 hf _ _ _ (lv_sub hl [3, 2, 1, 0] rfl) hP hD hS
def wX10_best (E : EN) (h h_reader h_inn h_chosen h_night h_marks h_notes h_casts h_inn_house h_inn_thingIn h_inn_full h_inn_states h_inn_bed h_inn_dreamOf h_inn_listensIn h_casts_trial h_casts_dreams h_casts_plain h_casts_set h_casts_tried h_casts_kin h_casts_fitters h_notes_book h_notes_sort h_notes_one h_notes_other h_casts_plain_rows h_inn_house_creak h_inn_house_cold h_inn_house_one h_inn_house_other h_inn_house_how h_inn_house_falls h_inn_house_ways h_casts_trial_ways h_casts_trial_how h_casts_trial_passed h_casts_trial_dreamOf h_casts_trial_stateOf h_casts_trial_roomOf h_casts_trial_handOf h_casts_trial_awake h_casts_trial_thingIn h_casts_trial_full h_casts_trial_heardBy h_casts_trial_ways_steps h_inn_house_ways_steps h_casts_set_rows : Nat) (v_marked : Int32) (v_refusal : Int32) (v_latestFault : Int32) (v_faultPlace : Int32) (v_inn_minutes : Int32) (v_inn_things : Int32) (v_inn_dreams : Int32) (v_inn_sleepers : Int32) (v_inn_listeners : Int32) (v_casts_count : Int32) (v_casts_fitting : Int32) (v_notes_count : Int32) (v_notes_book : Nat → Int32) (v_notes_sort : Nat → Int32) (v_notes_one : Nat → Int32) (v_casts_plain_rows : Nat → Int64) (v_notes_other : Nat → Int32) (v_casts_fitters : Nat → Int32) (v_inn_house_rooms : Int32) (v_inn_house_doors : Int32) (v_casts_tried : Nat → Int32) (v_casts_trial_setting : Int32) (v_casts_trial_been : Int32) (v_inn_house_how : Nat → Int32) (v_casts_trial_ways_rooms : Int32) (v_casts_trial_ways_steps : Nat → Int32) (v_inn_house_one : Nat → Int32) (v_inn_house_other : Nat → Int32) (v_inn_thingIn : Nat → Int32) (v_casts_trial_thingIn : Nat → Int32) (v_inn_full : Nat → Int32) (v_casts_trial_full : Nat → Int32) (v_casts_trial_heardBy : Nat → Int64) (v_casts_dreams : Nat → Int32) (v_casts_trial_dreamOf : Nat → Int32) (v_casts_trial_stateOf : Nat → Int32) (v_inn_bed : Nat → Int32) (v_casts_trial_roomOf : Nat → Int32) (v_casts_trial_handOf : Nat → Int32) (v_casts_trial_awake : Nat → Int32) (v_casts_trial_how : Nat → Int32) (v_casts_trial_passed : Nat → Int32) (v_inn_states : Nat → Int32) (v_inn_house_creak : Nat → Int32) (v_inn_listensIn : Nat → Int32) (v_inn_house_ways_rooms : Int32) (v_inn_house_ways_steps : Nat → Int32) (v_inn_house_cold : Nat → Int32) (v_inn_house_falls : Nat → Int32) (v_casts_set_rows : Nat → Int64) (v_casts_kin : Nat → Int32) : va_W := [(h, .inr (9, [.ref h_reader, .ref h_inn, .ref h_chosen, .ref h_night, .ref h_marks, .int v_marked, .ref h_notes, .ref h_casts, .int v_refusal, .int v_latestFault, .int v_faultPlace])), (h_inn, .inr (2, [.ref h_inn_house, .int v_inn_minutes, .int v_inn_things, .ref h_inn_thingIn, .ref h_inn_full, .int v_inn_dreams, .ref h_inn_states, .int v_inn_sleepers, .ref h_inn_bed, .ref h_inn_dreamOf, .int v_inn_listeners, .ref h_inn_listensIn])), (h_casts, .inr (0, [.ref h_casts_trial, .ref h_inn, .int v_casts_count, .ref h_casts_dreams, .ref h_casts_plain, .ref h_casts_set, .ref h_casts_tried, .ref h_casts_kin, .int v_casts_fitting, .ref h_casts_fitters])), (h_notes, .inr (5, [.ref h_notes_book, .ref h_notes_sort, .ref h_notes_one, .ref h_notes_other, .int v_notes_count])), (h_notes_book, aI E 20 v_notes_book), (h_notes_sort, aI E 20 v_notes_sort), (h_notes_one, aI E 20 v_notes_one), (h_casts_plain, .inr (3, [.ref h_casts_plain_rows])), (h_casts_plain_rows, aJ E 256 v_casts_plain_rows), (h_notes_other, aI E 20 v_notes_other), (h_casts_fitters, aI E 64 v_casts_fitters), (h_inn_house, .inr (1, [.int v_inn_house_rooms, .ref h_inn_house_creak, .ref h_inn_house_cold, .int v_inn_house_doors, .ref h_inn_house_one, .ref h_inn_house_other, .ref h_inn_house_how, .ref h_inn_house_falls, .ref h_inn_house_ways])), (h_casts_tried, aZ E 21 v_casts_tried), (h_casts_trial, .inr (4, [.ref h_inn, .int v_casts_trial_setting, .int v_casts_trial_been, .ref h_casts_trial_ways, .ref h_casts_trial_how, .ref h_casts_trial_passed, .ref h_casts_trial_dreamOf, .ref h_casts_trial_stateOf, .ref h_casts_trial_roomOf, .ref h_casts_trial_handOf, .ref h_casts_trial_awake, .ref h_casts_trial_thingIn, .ref h_casts_trial_full, .ref h_casts_trial_heardBy])), (h_inn_house_how, aI E 10 v_inn_house_how), (h_casts_trial_ways, .inr (8, [.ref h_casts_trial_ways_steps, .int v_casts_trial_ways_rooms])), (h_casts_trial_ways_steps, aI E 64 v_casts_trial_ways_steps), (h_inn_house_one, aI E 10 v_inn_house_one), (h_inn_house_other, aI E 10 v_inn_house_other), (h_inn_thingIn, aI E 4 v_inn_thingIn), (h_casts_trial_thingIn, aI E 4 v_casts_trial_thingIn), (h_inn_full, aZ E 4 v_inn_full), (h_casts_trial_full, aZ E 4 v_casts_trial_full), (h_casts_trial_heardBy, aJ E 3 v_casts_trial_heardBy), (h_casts_dreams, aI E 192 v_casts_dreams), (h_casts_trial_dreamOf, aI E 3 v_casts_trial_dreamOf), (h_casts_trial_stateOf, aI E 3 v_casts_trial_stateOf), (h_inn_bed, aI E 3 v_inn_bed), (h_casts_trial_roomOf, aI E 3 v_casts_trial_roomOf), (h_casts_trial_handOf, aI E 3 v_casts_trial_handOf), (h_casts_trial_awake, aZ E 3 v_casts_trial_awake), (h_casts_trial_how, aI E 10 v_casts_trial_how), (h_casts_trial_passed, aI E 10 v_casts_trial_passed), (h_inn_states, aI E 64 v_inn_states), (h_inn_house_creak, aI E 8 v_inn_house_creak), (h_inn_listensIn, aI E 3 v_inn_listensIn), (h_inn_house_ways, .inr (8, [.ref h_inn_house_ways_steps, .int v_inn_house_ways_rooms])), (h_inn_house_ways_steps, aI E 64 v_inn_house_ways_steps), (h_inn_house_cold, aZ E 8 v_inn_house_cold), (h_inn_house_falls, aZ E 10 v_inn_house_falls), (h_casts_set, .inr (3, [.ref h_casts_set_rows])), (h_casts_set_rows, aJ E 256 v_casts_set_rows), (h_casts_kin, aI E 1344 v_casts_kin)]
def fX10_best (N : Nat) (v_inn_minutes : Int32) (v_inn_things : Int32) (v_inn_sleepers : Int32) (v_inn_listeners : Int32) (v_casts_count : Int32) (v_casts_fitting : Int32) (v_notes_count : Int32) (v_notes_book : Nat → Int32) (v_notes_sort : Nat → Int32) (v_notes_one : Nat → Int32) (v_casts_plain_rows : Nat → Int64) (v_notes_other : Nat → Int32) (v_casts_fitters : Nat → Int32) (v_inn_house_rooms : Int32) (v_inn_house_doors : Int32) (v_casts_tried : Nat → Int32) (v_casts_trial_setting : Int32) (v_casts_trial_been : Int32) (v_inn_house_how : Nat → Int32) (v_casts_trial_ways_rooms : Int32) (v_casts_trial_ways_steps : Nat → Int32) (v_inn_house_one : Nat → Int32) (v_inn_house_other : Nat → Int32) (v_inn_thingIn : Nat → Int32) (v_casts_trial_thingIn : Nat → Int32) (v_inn_full : Nat → Int32) (v_casts_trial_full : Nat → Int32) (v_casts_trial_heardBy : Nat → Int64) (v_casts_dreams : Nat → Int32) (v_casts_trial_dreamOf : Nat → Int32) (v_casts_trial_stateOf : Nat → Int32) (v_inn_bed : Nat → Int32) (v_casts_trial_roomOf : Nat → Int32) (v_casts_trial_handOf : Nat → Int32) (v_casts_trial_awake : Nat → Int32) (v_casts_trial_how : Nat → Int32) (v_casts_trial_passed : Nat → Int32) (v_inn_states : Nat → Int32) (v_inn_house_creak : Nat → Int32) (v_inn_listensIn : Nat → Int32) (v_inn_house_ways_steps : Nat → Int32) (v_inn_house_cold : Nat → Int32) (v_inn_house_falls : Nat → Int32) (v_casts_set_rows : Nat → Int64) (v_casts_kin : Nat → Int32) : Option (Int32 × Int32 × Int32 × (Nat → Int64) × (Nat → Int32) × (Nat → Int32) × Int32 × Int32 × Int32 × (Nat → Int32) × (Nat → Int32) × (Nat → Int32) × (Nat → Int64) × (Nat → Int32) × (Nat → Int32) × (Nat → Int32) × (Nat → Int32) × (Nat → Int32) × (Nat → Int32) × (Nat → Int32) × (Nat → Int64) × (Nat → Int32)) := (fX10_isTold N v_inn_minutes).bind (un1 fun (r_1 : Int32) => if r_1 = 0 then ((fX10_refuse N 1).bind (un2 fun (r_9 : Int32) (v_refusal_9 : Int32) => some (r_9, v_refusal_9, v_casts_fitting, v_casts_plain_rows, v_casts_fitters, v_casts_tried, v_casts_trial_setting, v_casts_trial_been, v_casts_trial_ways_rooms, v_casts_trial_ways_steps, v_casts_trial_thingIn, v_casts_trial_full, v_casts_trial_heardBy, v_casts_trial_dreamOf, v_casts_trial_stateOf, v_casts_trial_roomOf, v_casts_trial_handOf, v_casts_trial_awake, v_casts_trial_how, v_casts_trial_passed, v_casts_set_rows, v_casts_kin))) else ((fX0_gather N 3 v_casts_count v_notes_count v_notes_book v_notes_sort v_notes_one v_casts_plain_rows v_notes_other v_casts_fitters).bind (un3 fun (r_22 : Int32) (v_casts_fitting_22 : Int32) (v_casts_fitters_22 : Nat → Int32) => if r_22 = 0 then ((fX10_refuse N 6).bind (un2 fun (r_31 : Int32) (v_refusal_31 : Int32) => some (r_31, v_refusal_31, v_casts_fitting_22, v_casts_plain_rows, v_casts_fitters_22, v_casts_tried, v_casts_trial_setting, v_casts_trial_been, v_casts_trial_ways_rooms, v_casts_trial_ways_steps, v_casts_trial_thingIn, v_casts_trial_full, v_casts_trial_heardBy, v_casts_trial_dreamOf, v_casts_trial_stateOf, v_casts_trial_roomOf, v_casts_trial_handOf, v_casts_trial_awake, v_casts_trial_how, v_casts_trial_passed, v_casts_set_rows, v_casts_kin))) else ((fX2_settings N v_inn_house_doors).bind (un1 fun (r_44 : Int32) => (fX0_tryOuts N 0 (r_44 - 1) v_casts_count v_casts_tried v_casts_trial_setting v_casts_trial_been v_inn_minutes v_inn_things v_inn_sleepers v_inn_listeners v_inn_house_rooms v_inn_house_doors v_inn_house_how v_casts_trial_ways_rooms v_casts_trial_ways_steps v_inn_house_one v_inn_house_other v_inn_thingIn v_casts_trial_thingIn v_inn_full v_casts_trial_full v_casts_trial_heardBy v_casts_dreams v_casts_trial_dreamOf v_casts_trial_stateOf v_inn_bed v_casts_trial_roomOf v_casts_trial_handOf v_casts_trial_awake v_casts_trial_how v_casts_trial_passed v_inn_states v_inn_house_creak v_inn_listensIn v_inn_house_ways_steps v_inn_house_cold v_inn_house_falls v_casts_set_rows v_casts_kin v_casts_plain_rows).bind (un18 fun (v_casts_tried_49 : Nat → Int32) (v_casts_trial_setting_49 : Int32) (v_casts_trial_been_49 : Int32) (v_casts_trial_ways_rooms_49 : Int32) (v_casts_trial_ways_steps_49 : Nat → Int32) (v_casts_trial_thingIn_49 : Nat → Int32) (v_casts_trial_full_49 : Nat → Int32) (v_casts_trial_heardBy_49 : Nat → Int64) (v_casts_trial_dreamOf_49 : Nat → Int32) (v_casts_trial_stateOf_49 : Nat → Int32) (v_casts_trial_roomOf_49 : Nat → Int32) (v_casts_trial_handOf_49 : Nat → Int32) (v_casts_trial_awake_49 : Nat → Int32) (v_casts_trial_how_49 : Nat → Int32) (v_casts_trial_passed_49 : Nat → Int32) (v_casts_set_rows_49 : Nat → Int64) (v_casts_kin_49 : Nat → Int32) (v_casts_plain_rows_49 : Nat → Int64) => (fX0_bestSetting N v_casts_fitting_22 v_casts_fitters_22 v_casts_kin_49 v_inn_house_doors).bind (un1 fun (r_57 : Int32) => (fX10_answer N r_57).bind (un2 fun (r_60 : Int32) (v_refusal_60 : Int32) => some (r_60, v_refusal_60, v_casts_fitting_22, v_casts_plain_rows_49, v_casts_fitters_22, v_casts_tried_49, v_casts_trial_setting_49, v_casts_trial_been_49, v_casts_trial_ways_rooms_49, v_casts_trial_ways_steps_49, v_casts_trial_thingIn_49, v_casts_trial_full_49, v_casts_trial_heardBy_49, v_casts_trial_dreamOf_49, v_casts_trial_stateOf_49, v_casts_trial_roomOf_49, v_casts_trial_handOf_49, v_casts_trial_awake_49, v_casts_trial_how_49, v_casts_trial_passed_49, v_casts_set_rows_49, v_casts_kin_49)))))))))
set_option maxHeartbeats 4000000 in
set_option maxRecDepth 100000 in
theorem ctX10_best (l : Launch) (E : EN) (h h_reader h_inn h_chosen h_night h_marks h_notes h_casts h_inn_house h_inn_thingIn h_inn_full h_inn_states h_inn_bed h_inn_dreamOf h_inn_listensIn h_casts_trial h_casts_dreams h_casts_plain h_casts_set h_casts_tried h_casts_kin h_casts_fitters h_notes_book h_notes_sort h_notes_one h_notes_other h_casts_plain_rows h_inn_house_creak h_inn_house_cold h_inn_house_one h_inn_house_other h_inn_house_how h_inn_house_falls h_inn_house_ways h_casts_trial_ways h_casts_trial_how h_casts_trial_passed h_casts_trial_dreamOf h_casts_trial_stateOf h_casts_trial_roomOf h_casts_trial_handOf h_casts_trial_awake h_casts_trial_thingIn h_casts_trial_full h_casts_trial_heardBy h_casts_trial_ways_steps h_inn_house_ways_steps h_casts_set_rows : Nat) (v_marked : Int32) (v_refusal : Int32) (v_latestFault : Int32) (v_faultPlace : Int32) (v_inn_minutes : Int32) (v_inn_things : Int32) (v_inn_dreams : Int32) (v_inn_sleepers : Int32) (v_inn_listeners : Int32) (v_casts_count : Int32) (v_casts_fitting : Int32) (v_notes_count : Int32) (v_notes_book : Nat → Int32) (v_notes_sort : Nat → Int32) (v_notes_one : Nat → Int32) (v_casts_plain_rows : Nat → Int64) (v_notes_other : Nat → Int32) (v_casts_fitters : Nat → Int32) (v_inn_house_rooms : Int32) (v_inn_house_doors : Int32) (v_casts_tried : Nat → Int32) (v_casts_trial_setting : Int32) (v_casts_trial_been : Int32) (v_inn_house_how : Nat → Int32) (v_casts_trial_ways_rooms : Int32) (v_casts_trial_ways_steps : Nat → Int32) (v_inn_house_one : Nat → Int32) (v_inn_house_other : Nat → Int32) (v_inn_thingIn : Nat → Int32) (v_casts_trial_thingIn : Nat → Int32) (v_inn_full : Nat → Int32) (v_casts_trial_full : Nat → Int32) (v_casts_trial_heardBy : Nat → Int64) (v_casts_dreams : Nat → Int32) (v_casts_trial_dreamOf : Nat → Int32) (v_casts_trial_stateOf : Nat → Int32) (v_inn_bed : Nat → Int32) (v_casts_trial_roomOf : Nat → Int32) (v_casts_trial_handOf : Nat → Int32) (v_casts_trial_awake : Nat → Int32) (v_casts_trial_how : Nat → Int32) (v_casts_trial_passed : Nat → Int32) (v_inn_states : Nat → Int32) (v_inn_house_creak : Nat → Int32) (v_inn_listensIn : Nat → Int32) (v_inn_house_ways_rooms : Int32) (v_inn_house_ways_steps : Nat → Int32) (v_inn_house_cold : Nat → Int32) (v_inn_house_falls : Nat → Int32) (v_casts_set_rows : Nat → Int64) (v_casts_kin : Nat → Int32) (N : Nat) (z0 : Int32) (z1 : Int32) (z2 : Int32) (z3 : Nat → Int64) (z4 : Nat → Int32) (z5 : Nat → Int32) (z6 : Int32) (z7 : Int32) (z8 : Int32) (z9 : Nat → Int32) (z10 : Nat → Int32) (z11 : Nat → Int32) (z12 : Nat → Int64) (z13 : Nat → Int32) (z14 : Nat → Int32) (z15 : Nat → Int32) (z16 : Nat → Int32) (z17 : Nat → Int32) (z18 : Nat → Int32) (z19 : Nat → Int32) (z20 : Nat → Int64) (z21 : Nat → Int32) (hf : fX10_best N v_inn_minutes v_inn_things v_inn_sleepers v_inn_listeners v_casts_count v_casts_fitting v_notes_count v_notes_book v_notes_sort v_notes_one v_casts_plain_rows v_notes_other v_casts_fitters v_inn_house_rooms v_inn_house_doors v_casts_tried v_casts_trial_setting v_casts_trial_been v_inn_house_how v_casts_trial_ways_rooms v_casts_trial_ways_steps v_inn_house_one v_inn_house_other v_inn_thingIn v_casts_trial_thingIn v_inn_full v_casts_trial_full v_casts_trial_heardBy v_casts_dreams v_casts_trial_dreamOf v_casts_trial_stateOf v_inn_bed v_casts_trial_roomOf v_casts_trial_handOf v_casts_trial_awake v_casts_trial_how v_casts_trial_passed v_inn_states v_inn_house_creak v_inn_listensIn v_inn_house_ways_steps v_inn_house_cold v_inn_house_falls v_casts_set_rows v_casts_kin = some (z0, z1, z2, z3, z4, z5, z6, z7, z8, z9, z10, z11, z12, z13, z14, z15, z16, z17, z18, z19, z20, z21)) : CTi l E yX10_best cX10_best 1 .int 6 144 [.ref h] (wX10_best E h h_reader h_inn h_chosen h_night h_marks h_notes h_casts h_inn_house h_inn_thingIn h_inn_full h_inn_states h_inn_bed h_inn_dreamOf h_inn_listensIn h_casts_trial h_casts_dreams h_casts_plain h_casts_set h_casts_tried h_casts_kin h_casts_fitters h_notes_book h_notes_sort h_notes_one h_notes_other h_casts_plain_rows h_inn_house_creak h_inn_house_cold h_inn_house_one h_inn_house_other h_inn_house_how h_inn_house_falls h_inn_house_ways h_casts_trial_ways h_casts_trial_how h_casts_trial_passed h_casts_trial_dreamOf h_casts_trial_stateOf h_casts_trial_roomOf h_casts_trial_handOf h_casts_trial_awake h_casts_trial_thingIn h_casts_trial_full h_casts_trial_heardBy h_casts_trial_ways_steps h_inn_house_ways_steps h_casts_set_rows v_marked v_refusal v_latestFault v_faultPlace v_inn_minutes v_inn_things v_inn_dreams v_inn_sleepers v_inn_listeners v_casts_count v_casts_fitting v_notes_count v_notes_book v_notes_sort v_notes_one v_casts_plain_rows v_notes_other v_casts_fitters v_inn_house_rooms v_inn_house_doors v_casts_tried v_casts_trial_setting v_casts_trial_been v_inn_house_how v_casts_trial_ways_rooms v_casts_trial_ways_steps v_inn_house_one v_inn_house_other v_inn_thingIn v_casts_trial_thingIn v_inn_full v_casts_trial_full v_casts_trial_heardBy v_casts_dreams v_casts_trial_dreamOf v_casts_trial_stateOf v_inn_bed v_casts_trial_roomOf v_casts_trial_handOf v_casts_trial_awake v_casts_trial_how v_casts_trial_passed v_inn_states v_inn_house_creak v_inn_listensIn v_inn_house_ways_rooms v_inn_house_ways_steps v_inn_house_cold v_inn_house_falls v_casts_set_rows v_casts_kin) z0 (wX10_best E h h_reader h_inn h_chosen h_night h_marks h_notes h_casts h_inn_house h_inn_thingIn h_inn_full h_inn_states h_inn_bed h_inn_dreamOf h_inn_listensIn h_casts_trial h_casts_dreams h_casts_plain h_casts_set h_casts_tried h_casts_kin h_casts_fitters h_notes_book h_notes_sort h_notes_one h_notes_other h_casts_plain_rows h_inn_house_creak h_inn_house_cold h_inn_house_one h_inn_house_other h_inn_house_how h_inn_house_falls h_inn_house_ways h_casts_trial_ways h_casts_trial_how h_casts_trial_passed h_casts_trial_dreamOf h_casts_trial_stateOf h_casts_trial_roomOf h_casts_trial_handOf h_casts_trial_awake h_casts_trial_thingIn h_casts_trial_full h_casts_trial_heardBy h_casts_trial_ways_steps h_inn_house_ways_steps h_casts_set_rows v_marked z1 v_latestFault v_faultPlace v_inn_minutes v_inn_things v_inn_dreams v_inn_sleepers v_inn_listeners v_casts_count z2 v_notes_count v_notes_book v_notes_sort v_notes_one z3 v_notes_other z4 v_inn_house_rooms v_inn_house_doors z5 z6 z7 v_inn_house_how z8 z9 v_inn_house_one v_inn_house_other v_inn_thingIn z10 v_inn_full z11 z12 v_casts_dreams z13 z14 v_inn_bed z15 z16 z17 z18 z19 v_inn_states v_inn_house_creak v_inn_listensIn v_inn_house_ways_rooms v_inn_house_ways_steps v_inn_house_cold v_inn_house_falls z20 z21) := by
  intro sz
  refine ct_body (by decide) (Nat.le_of_ble_eq_true rfl) ?_
  intro p e s m args below meth c A ls hAe C hr hin hP hD hS hl
  have C : CX p s m args meth c cX10_best RX10 1 E A := C
  have hl : lv_has ls 1 [(0, .ref h)] := hl
  have hx := C.1
  have hb := C.2.1
  rw [hAe]
  clear hAe
  obtain ⟨Q, hQ⟩ : ∃ Q, Q = MQ below (Qi E A z0 (wX10_best E h h_reader h_inn h_chosen h_night h_marks h_notes h_casts h_inn_house h_inn_thingIn h_inn_full h_inn_states h_inn_bed h_inn_dreamOf h_inn_listensIn h_casts_trial h_casts_dreams h_casts_plain h_casts_set h_casts_tried h_casts_kin h_casts_fitters h_notes_book h_notes_sort h_notes_one h_notes_other h_casts_plain_rows h_inn_house_creak h_inn_house_cold h_inn_house_one h_inn_house_other h_inn_house_how h_inn_house_falls h_inn_house_ways h_casts_trial_ways h_casts_trial_how h_casts_trial_passed h_casts_trial_dreamOf h_casts_trial_stateOf h_casts_trial_roomOf h_casts_trial_handOf h_casts_trial_awake h_casts_trial_thingIn h_casts_trial_full h_casts_trial_heardBy h_casts_trial_ways_steps h_inn_house_ways_steps h_casts_set_rows v_marked z1 v_latestFault v_faultPlace v_inn_minutes v_inn_things v_inn_dreams v_inn_sleepers v_inn_listeners v_casts_count z2 v_notes_count v_notes_book v_notes_sort v_notes_one z3 v_notes_other z4 v_inn_house_rooms v_inn_house_doors z5 z6 z7 v_inn_house_how z8 z9 v_inn_house_one v_inn_house_other v_inn_thingIn z10 v_inn_full z11 z12 v_casts_dreams z13 z14 v_inn_bed z15 z16 z17 z18 z19 v_inn_states v_inn_house_creak v_inn_listensIn v_inn_house_ways_rooms v_inn_house_ways_steps v_inn_house_cold v_inn_house_falls z20 z21)) args s 0 0 A := ⟨_, rfl⟩
  rw [← hQ]
  unfold fX10_best at hf
  refine lv_aload_n hx hb dX10_best_0 rfl (lv_at hl 0 rfl) ?_
  obtain ⟨r_1, hc_1, hf⟩ := bd1 hf
  refine r_callVi (ws' := (wX10_best E h h_reader h_inn h_chosen h_night h_marks h_notes h_casts h_inn_house h_inn_thingIn h_inn_full h_inn_states h_inn_bed h_inn_dreamOf h_inn_listensIn h_casts_trial h_casts_dreams h_casts_plain h_casts_set h_casts_tried h_casts_kin h_casts_fitters h_notes_book h_notes_sort h_notes_one h_notes_other h_casts_plain_rows h_inn_house_creak h_inn_house_cold h_inn_house_one h_inn_house_other h_inn_house_how h_inn_house_falls h_inn_house_ways h_casts_trial_ways h_casts_trial_how h_casts_trial_passed h_casts_trial_dreamOf h_casts_trial_stateOf h_casts_trial_roomOf h_casts_trial_handOf h_casts_trial_awake h_casts_trial_thingIn h_casts_trial_full h_casts_trial_heardBy h_casts_trial_ways_steps h_inn_house_ways_steps h_casts_set_rows v_marked v_refusal v_latestFault v_faultPlace v_inn_minutes v_inn_things v_inn_dreams v_inn_sleepers v_inn_listeners v_casts_count v_casts_fitting v_notes_count v_notes_book v_notes_sort v_notes_one v_casts_plain_rows v_notes_other v_casts_fitters v_inn_house_rooms v_inn_house_doors v_casts_tried v_casts_trial_setting v_casts_trial_been v_inn_house_how v_casts_trial_ways_rooms v_casts_trial_ways_steps v_inn_house_one v_inn_house_other v_inn_thingIn v_casts_trial_thingIn v_inn_full v_casts_trial_full v_casts_trial_heardBy v_casts_dreams v_casts_trial_dreamOf v_casts_trial_stateOf v_inn_bed v_casts_trial_roomOf v_casts_trial_handOf v_casts_trial_awake v_casts_trial_how v_casts_trial_passed v_inn_states v_inn_house_creak v_inn_listensIn v_inn_house_ways_rooms v_inn_house_ways_steps v_inn_house_cold v_inn_house_falls v_casts_set_rows v_casts_kin)) (As := []) (rest := []) C (ctX10_isTold l E h h_reader h_inn h_chosen h_night h_marks h_notes h_casts h_inn_house h_inn_thingIn h_inn_full h_inn_states h_inn_bed h_inn_dreamOf h_inn_listensIn v_marked v_refusal v_latestFault v_faultPlace v_inn_minutes v_inn_things v_inn_dreams v_inn_sleepers v_inn_listeners N r_1 hc_1) ml_X10_170 ⟨Nat.le_of_ble_eq_true rfl, Nat.le_of_ble_eq_true rfl⟩ hP hD hS 0 rfl rfl rfl [0, 1] rfl rfl rfl rfl rfl hl.1 rfl (Nat.le_of_ble_eq_true rfl) ⟨Nat.zero_le _, Nat.zero_le _⟩ dX10_best_1 ?_
  clear hP hD hS; intro H locs hP hD hS
  refine lv_if_ne (tgt := 13) hx hb dX10_best_4 (by decide) (fun c_4 => ?_) (fun c_4 => ?_)
  · replace hf := it_f c_4 hf
    refine lv_aload_n hx hb dX10_best_13 rfl (lv_at hl 0 rfl) ?_
    refine r_get C hP 0 rfl fl_X10_50 rfl dX10_best_14 ?_
    refine lv_aload_n hx hb dX10_best_17 rfl (lv_at hl 0 rfl) ?_
    refine r_get C hP 0 rfl fl_X10_43 rfl dX10_best_18 ?_
    refine lv_iconst (v := 3) hx hb dX10_best_21 (by decide) ?_
    obtain ⟨r_22, v_casts_fitting_22, v_casts_fitters_22, hc_22, hf⟩ := bd3 hf
    refine r_callVi (ws' := (wX10_best E h h_reader h_inn h_chosen h_night h_marks h_notes h_casts h_inn_house h_inn_thingIn h_inn_full h_inn_states h_inn_bed h_inn_dreamOf h_inn_listensIn h_casts_trial h_casts_dreams h_casts_plain h_casts_set h_casts_tried h_casts_kin h_casts_fitters h_notes_book h_notes_sort h_notes_one h_notes_other h_casts_plain_rows h_inn_house_creak h_inn_house_cold h_inn_house_one h_inn_house_other h_inn_house_how h_inn_house_falls h_inn_house_ways h_casts_trial_ways h_casts_trial_how h_casts_trial_passed h_casts_trial_dreamOf h_casts_trial_stateOf h_casts_trial_roomOf h_casts_trial_handOf h_casts_trial_awake h_casts_trial_thingIn h_casts_trial_full h_casts_trial_heardBy h_casts_trial_ways_steps h_inn_house_ways_steps h_casts_set_rows v_marked v_refusal v_latestFault v_faultPlace v_inn_minutes v_inn_things v_inn_dreams v_inn_sleepers v_inn_listeners v_casts_count v_casts_fitting_22 v_notes_count v_notes_book v_notes_sort v_notes_one v_casts_plain_rows v_notes_other v_casts_fitters_22 v_inn_house_rooms v_inn_house_doors v_casts_tried v_casts_trial_setting v_casts_trial_been v_inn_house_how v_casts_trial_ways_rooms v_casts_trial_ways_steps v_inn_house_one v_inn_house_other v_inn_thingIn v_casts_trial_thingIn v_inn_full v_casts_trial_full v_casts_trial_heardBy v_casts_dreams v_casts_trial_dreamOf v_casts_trial_stateOf v_inn_bed v_casts_trial_roomOf v_casts_trial_handOf v_casts_trial_awake v_casts_trial_how v_casts_trial_passed v_inn_states v_inn_house_creak v_inn_listensIn v_inn_house_ways_rooms v_inn_house_ways_steps v_inn_house_cold v_inn_house_falls v_casts_set_rows v_casts_kin)) (As := [.ref h_notes, .int 3]) (rest := []) C (ctX0_gather l E h_casts h_casts_trial h_inn h_casts_dreams h_casts_plain h_casts_set h_casts_tried h_casts_kin h_casts_fitters h_notes h_notes_book h_notes_sort h_notes_one h_notes_other h_casts_plain_rows v_casts_count v_casts_fitting v_notes_count v_notes_book v_notes_sort v_notes_one v_casts_plain_rows v_notes_other v_casts_fitters N 3 r_22 v_casts_fitting_22 v_casts_fitters_22 hc_22) ml_X10_262 ⟨Nat.le_of_ble_eq_true rfl, Nat.le_of_ble_eq_true rfl⟩ hP hD hS 2 rfl rfl rfl [2, 3, 4, 5, 6, 7, 8, 9, 10] rfl rfl rfl rfl rfl hl.1 rfl (Nat.le_of_ble_eq_true rfl) ⟨Nat.zero_le _, Nat.zero_le _⟩ dX10_best_22 ?_
    clear hP hD hS; intro H locs hP hD hS
    refine lv_if_ne (tgt := 35) hx hb dX10_best_25 (by decide) (fun c_25 => ?_) (fun c_25 => ?_)
    · replace hf := it_f c_25 hf
      refine lv_aload_n hx hb dX10_best_35 rfl (lv_at hl 0 rfl) ?_
      refine r_get C hP 0 rfl fl_X10_50 rfl dX10_best_36 ?_
      refine lv_iconst (v := 0) hx hb dX10_best_39 (by decide) ?_
      refine lv_aload_n hx hb dX10_best_40 rfl (lv_at hl 0 rfl) ?_
      refine r_get C hP 0 rfl fl_X10_19 rfl dX10_best_41 ?_
      obtain ⟨r_44, hc_44, hf⟩ := bd1 hf
      refine r_callVi (ws' := (wX10_best E h h_reader h_inn h_chosen h_night h_marks h_notes h_casts h_inn_house h_inn_thingIn h_inn_full h_inn_states h_inn_bed h_inn_dreamOf h_inn_listensIn h_casts_trial h_casts_dreams h_casts_plain h_casts_set h_casts_tried h_casts_kin h_casts_fitters h_notes_book h_notes_sort h_notes_one h_notes_other h_casts_plain_rows h_inn_house_creak h_inn_house_cold h_inn_house_one h_inn_house_other h_inn_house_how h_inn_house_falls h_inn_house_ways h_casts_trial_ways h_casts_trial_how h_casts_trial_passed h_casts_trial_dreamOf h_casts_trial_stateOf h_casts_trial_roomOf h_casts_trial_handOf h_casts_trial_awake h_casts_trial_thingIn h_casts_trial_full h_casts_trial_heardBy h_casts_trial_ways_steps h_inn_house_ways_steps h_casts_set_rows v_marked v_refusal v_latestFault v_faultPlace v_inn_minutes v_inn_things v_inn_dreams v_inn_sleepers v_inn_listeners v_casts_count v_casts_fitting_22 v_notes_count v_notes_book v_notes_sort v_notes_one v_casts_plain_rows v_notes_other v_casts_fitters_22 v_inn_house_rooms v_inn_house_doors v_casts_tried v_casts_trial_setting v_casts_trial_been v_inn_house_how v_casts_trial_ways_rooms v_casts_trial_ways_steps v_inn_house_one v_inn_house_other v_inn_thingIn v_casts_trial_thingIn v_inn_full v_casts_trial_full v_casts_trial_heardBy v_casts_dreams v_casts_trial_dreamOf v_casts_trial_stateOf v_inn_bed v_casts_trial_roomOf v_casts_trial_handOf v_casts_trial_awake v_casts_trial_how v_casts_trial_passed v_inn_states v_inn_house_creak v_inn_listensIn v_inn_house_ways_rooms v_inn_house_ways_steps v_inn_house_cold v_inn_house_falls v_casts_set_rows v_casts_kin)) (As := []) (rest := [.int 0, .ref h_casts]) C (ctX2_settings l E h_inn h_inn_house h_inn_thingIn h_inn_full h_inn_states h_inn_bed h_inn_dreamOf h_inn_listensIn h_inn_house_creak h_inn_house_cold h_inn_house_one h_inn_house_other h_inn_house_how h_inn_house_falls h_inn_house_ways v_inn_minutes v_inn_things v_inn_dreams v_inn_sleepers v_inn_listeners v_inn_house_rooms v_inn_house_doors N r_44 hc_44) ml_X10_275 ⟨Nat.le_of_ble_eq_true rfl, Nat.le_of_ble_eq_true rfl⟩ hP hD hS 1 rfl rfl rfl [1, 11] rfl rfl rfl rfl rfl hl.1 rfl (Nat.le_of_ble_eq_true rfl) ⟨Nat.zero_le _, Nat.zero_le _⟩ dX10_best_44 ?_
      clear hP hD hS; intro H locs hP hD hS
      refine lv_iconst (v := 1) hx hb dX10_best_47 (by decide) ?_
      refine lv_isub hx hb dX10_best_48 ?_
      obtain ⟨v_casts_tried_49, v_casts_trial_setting_49, v_casts_trial_been_49, v_casts_trial_ways_rooms_49, v_casts_trial_ways_steps_49, v_casts_trial_thingIn_49, v_casts_trial_full_49, v_casts_trial_heardBy_49, v_casts_trial_dreamOf_49, v_casts_trial_stateOf_49, v_casts_trial_roomOf_49, v_casts_trial_handOf_49, v_casts_trial_awake_49, v_casts_trial_how_49, v_casts_trial_passed_49, v_casts_set_rows_49, v_casts_kin_49, v_casts_plain_rows_49, hc_49, hf⟩ := bd18 hf
      refine r_callVv (ws' := (wX10_best E h h_reader h_inn h_chosen h_night h_marks h_notes h_casts h_inn_house h_inn_thingIn h_inn_full h_inn_states h_inn_bed h_inn_dreamOf h_inn_listensIn h_casts_trial h_casts_dreams h_casts_plain h_casts_set h_casts_tried h_casts_kin h_casts_fitters h_notes_book h_notes_sort h_notes_one h_notes_other h_casts_plain_rows h_inn_house_creak h_inn_house_cold h_inn_house_one h_inn_house_other h_inn_house_how h_inn_house_falls h_inn_house_ways h_casts_trial_ways h_casts_trial_how h_casts_trial_passed h_casts_trial_dreamOf h_casts_trial_stateOf h_casts_trial_roomOf h_casts_trial_handOf h_casts_trial_awake h_casts_trial_thingIn h_casts_trial_full h_casts_trial_heardBy h_casts_trial_ways_steps h_inn_house_ways_steps h_casts_set_rows v_marked v_refusal v_latestFault v_faultPlace v_inn_minutes v_inn_things v_inn_dreams v_inn_sleepers v_inn_listeners v_casts_count v_casts_fitting_22 v_notes_count v_notes_book v_notes_sort v_notes_one v_casts_plain_rows_49 v_notes_other v_casts_fitters_22 v_inn_house_rooms v_inn_house_doors v_casts_tried_49 v_casts_trial_setting_49 v_casts_trial_been_49 v_inn_house_how v_casts_trial_ways_rooms_49 v_casts_trial_ways_steps_49 v_inn_house_one v_inn_house_other v_inn_thingIn v_casts_trial_thingIn_49 v_inn_full v_casts_trial_full_49 v_casts_trial_heardBy_49 v_casts_dreams v_casts_trial_dreamOf_49 v_casts_trial_stateOf_49 v_inn_bed v_casts_trial_roomOf_49 v_casts_trial_handOf_49 v_casts_trial_awake_49 v_casts_trial_how_49 v_casts_trial_passed_49 v_inn_states v_inn_house_creak v_inn_listensIn v_inn_house_ways_rooms v_inn_house_ways_steps v_inn_house_cold v_inn_house_falls v_casts_set_rows_49 v_casts_kin_49)) (As := [.int 0, .int (r_44 - 1)]) (rest := []) C (ctX0_tryOuts l E h_casts h_casts_trial h_inn h_casts_dreams h_casts_plain h_casts_set h_casts_tried h_casts_kin h_casts_fitters h_casts_trial_ways h_casts_trial_how h_casts_trial_passed h_casts_trial_dreamOf h_casts_trial_stateOf h_casts_trial_roomOf h_casts_trial_handOf h_casts_trial_awake h_casts_trial_thingIn h_casts_trial_full h_casts_trial_heardBy h_inn_house h_inn_thingIn h_inn_full h_inn_states h_inn_bed h_inn_dreamOf h_inn_listensIn h_inn_house_creak h_inn_house_cold h_inn_house_one h_inn_house_other h_inn_house_how h_inn_house_falls h_inn_house_ways h_casts_trial_ways_steps h_inn_house_ways_steps h_casts_set_rows h_casts_plain_rows v_casts_count v_casts_fitting_22 v_casts_tried v_casts_trial_setting v_casts_trial_been v_inn_minutes v_inn_things v_inn_dreams v_inn_sleepers v_inn_listeners v_inn_house_rooms v_inn_house_doors v_inn_house_how v_casts_trial_ways_rooms v_casts_trial_ways_steps v_inn_house_one v_inn_house_other v_inn_thingIn v_casts_trial_thingIn v_inn_full v_casts_trial_full v_casts_trial_heardBy v_casts_dreams v_casts_trial_dreamOf v_casts_trial_stateOf v_inn_bed v_casts_trial_roomOf v_casts_trial_handOf v_casts_trial_awake v_casts_trial_how v_casts_trial_passed v_inn_states v_inn_house_creak v_inn_listensIn v_inn_house_ways_rooms v_inn_house_ways_steps v_inn_house_cold v_inn_house_falls v_casts_set_rows v_casts_kin v_casts_plain_rows N 0 (r_44 - 1) v_casts_tried_49 v_casts_trial_setting_49 v_casts_trial_been_49 v_casts_trial_ways_rooms_49 v_casts_trial_ways_steps_49 v_casts_trial_thingIn_49 v_casts_trial_full_49 v_casts_trial_heardBy_49 v_casts_trial_dreamOf_49 v_casts_trial_stateOf_49 v_casts_trial_roomOf_49 v_casts_trial_handOf_49 v_casts_trial_awake_49 v_casts_trial_how_49 v_casts_trial_passed_49 v_casts_set_rows_49 v_casts_kin_49 v_casts_plain_rows_49 hc_49) ml_X10_88 ⟨Nat.le_of_ble_eq_true rfl, Nat.le_of_ble_eq_true rfl⟩ hP hD hS 2 rfl rfl rfl [2, 12, 13, 1, 11, 14, 15, 16, 17, 18, 19, 20, 21, 22, 23, 24, 25, 26, 27, 28, 29, 30, 31, 32, 33, 34, 35, 36, 37, 38, 39, 40, 41, 42, 7, 8] rfl rfl rfl rfl rfl hl.1 rfl (Nat.le_of_ble_eq_true rfl) ⟨Nat.zero_le _, Nat.zero_le _⟩ dX10_best_49 ?_
      clear hP hD hS; intro H locs hP hD hS
      refine lv_aload_n hx hb dX10_best_52 rfl (lv_at hl 0 rfl) ?_
      refine lv_aload_n hx hb dX10_best_53 rfl (lv_at hl 0 rfl) ?_
      refine r_get C hP 0 rfl fl_X10_50 rfl dX10_best_54 ?_
      obtain ⟨r_57, hc_57, hf⟩ := bd1 hf
      refine r_callVi (ws' := (wX10_best E h h_reader h_inn h_chosen h_night h_marks h_notes h_casts h_inn_house h_inn_thingIn h_inn_full h_inn_states h_inn_bed h_inn_dreamOf h_inn_listensIn h_casts_trial h_casts_dreams h_casts_plain h_casts_set h_casts_tried h_casts_kin h_casts_fitters h_notes_book h_notes_sort h_notes_one h_notes_other h_casts_plain_rows h_inn_house_creak h_inn_house_cold h_inn_house_one h_inn_house_other h_inn_house_how h_inn_house_falls h_inn_house_ways h_casts_trial_ways h_casts_trial_how h_casts_trial_passed h_casts_trial_dreamOf h_casts_trial_stateOf h_casts_trial_roomOf h_casts_trial_handOf h_casts_trial_awake h_casts_trial_thingIn h_casts_trial_full h_casts_trial_heardBy h_casts_trial_ways_steps h_inn_house_ways_steps h_casts_set_rows v_marked v_refusal v_latestFault v_faultPlace v_inn_minutes v_inn_things v_inn_dreams v_inn_sleepers v_inn_listeners v_casts_count v_casts_fitting_22 v_notes_count v_notes_book v_notes_sort v_notes_one v_casts_plain_rows_49 v_notes_other v_casts_fitters_22 v_inn_house_rooms v_inn_house_doors v_casts_tried_49 v_casts_trial_setting_49 v_casts_trial_been_49 v_inn_house_how v_casts_trial_ways_rooms_49 v_casts_trial_ways_steps_49 v_inn_house_one v_inn_house_other v_inn_thingIn v_casts_trial_thingIn_49 v_inn_full v_casts_trial_full_49 v_casts_trial_heardBy_49 v_casts_dreams v_casts_trial_dreamOf_49 v_casts_trial_stateOf_49 v_inn_bed v_casts_trial_roomOf_49 v_casts_trial_handOf_49 v_casts_trial_awake_49 v_casts_trial_how_49 v_casts_trial_passed_49 v_inn_states v_inn_house_creak v_inn_listensIn v_inn_house_ways_rooms v_inn_house_ways_steps v_inn_house_cold v_inn_house_falls v_casts_set_rows_49 v_casts_kin_49)) (As := []) (rest := [.ref h]) C (ctX0_bestSetting l E h_casts h_casts_trial h_inn h_casts_dreams h_casts_plain h_casts_set h_casts_tried h_casts_kin h_casts_fitters h_inn_house h_inn_thingIn h_inn_full h_inn_states h_inn_bed h_inn_dreamOf h_inn_listensIn h_inn_house_creak h_inn_house_cold h_inn_house_one h_inn_house_other h_inn_house_how h_inn_house_falls h_inn_house_ways v_casts_count v_casts_fitting_22 v_casts_fitters_22 v_casts_kin_49 v_inn_minutes v_inn_things v_inn_dreams v_inn_sleepers v_inn_listeners v_inn_house_rooms v_inn_house_doors N r_57 hc_57) ml_X10_279 ⟨Nat.le_of_ble_eq_true rfl, Nat.le_of_ble_eq_true rfl⟩ hP hD hS 2 rfl rfl rfl [2, 10, 42, 1, 11] rfl rfl rfl rfl rfl hl.1 rfl (Nat.le_of_ble_eq_true rfl) ⟨Nat.zero_le _, Nat.zero_le _⟩ dX10_best_57 ?_
      clear hP hD hS; intro H locs hP hD hS
      obtain ⟨r_60, v_refusal_60, hc_60, hf⟩ := bd2 hf
      refine r_callVi (ws' := (wX10_best E h h_reader h_inn h_chosen h_night h_marks h_notes h_casts h_inn_house h_inn_thingIn h_inn_full h_inn_states h_inn_bed h_inn_dreamOf h_inn_listensIn h_casts_trial h_casts_dreams h_casts_plain h_casts_set h_casts_tried h_casts_kin h_casts_fitters h_notes_book h_notes_sort h_notes_one h_notes_other h_casts_plain_rows h_inn_house_creak h_inn_house_cold h_inn_house_one h_inn_house_other h_inn_house_how h_inn_house_falls h_inn_house_ways h_casts_trial_ways h_casts_trial_how h_casts_trial_passed h_casts_trial_dreamOf h_casts_trial_stateOf h_casts_trial_roomOf h_casts_trial_handOf h_casts_trial_awake h_casts_trial_thingIn h_casts_trial_full h_casts_trial_heardBy h_casts_trial_ways_steps h_inn_house_ways_steps h_casts_set_rows v_marked v_refusal_60 v_latestFault v_faultPlace v_inn_minutes v_inn_things v_inn_dreams v_inn_sleepers v_inn_listeners v_casts_count v_casts_fitting_22 v_notes_count v_notes_book v_notes_sort v_notes_one v_casts_plain_rows_49 v_notes_other v_casts_fitters_22 v_inn_house_rooms v_inn_house_doors v_casts_tried_49 v_casts_trial_setting_49 v_casts_trial_been_49 v_inn_house_how v_casts_trial_ways_rooms_49 v_casts_trial_ways_steps_49 v_inn_house_one v_inn_house_other v_inn_thingIn v_casts_trial_thingIn_49 v_inn_full v_casts_trial_full_49 v_casts_trial_heardBy_49 v_casts_dreams v_casts_trial_dreamOf_49 v_casts_trial_stateOf_49 v_inn_bed v_casts_trial_roomOf_49 v_casts_trial_handOf_49 v_casts_trial_awake_49 v_casts_trial_how_49 v_casts_trial_passed_49 v_inn_states v_inn_house_creak v_inn_listensIn v_inn_house_ways_rooms v_inn_house_ways_steps v_inn_house_cold v_inn_house_falls v_casts_set_rows_49 v_casts_kin_49)) (As := [.int r_57]) (rest := []) C (ctX10_answer l E h h_reader h_inn h_chosen h_night h_marks h_notes h_casts v_marked v_refusal v_latestFault v_faultPlace N r_57 r_60 v_refusal_60 hc_60) ml_X10_95 ⟨Nat.le_of_ble_eq_true rfl, Nat.le_of_ble_eq_true rfl⟩ hP hD hS 0 rfl rfl rfl [0] rfl rfl rfl rfl rfl hl.1 rfl (Nat.le_of_ble_eq_true rfl) ⟨Nat.zero_le _, Nat.zero_le _⟩ dX10_best_60 ?_
      clear hP hD hS; intro H locs hP hD hS
      cases hf
      rw [hQ]
      exact r_iret C hr hP hD hS rfl dX10_best_63
    · replace hf := it_t c_25 hf
      refine lv_aload_n hx hb dX10_best_28 rfl (lv_at hl 0 rfl) ?_
      refine lv_bipush (v := 6) hx hb dX10_best_29 (by decide) ?_
      obtain ⟨r_31, v_refusal_31, hc_31, hf⟩ := bd2 hf
      refine r_callVi (ws' := (wX10_best E h h_reader h_inn h_chosen h_night h_marks h_notes h_casts h_inn_house h_inn_thingIn h_inn_full h_inn_states h_inn_bed h_inn_dreamOf h_inn_listensIn h_casts_trial h_casts_dreams h_casts_plain h_casts_set h_casts_tried h_casts_kin h_casts_fitters h_notes_book h_notes_sort h_notes_one h_notes_other h_casts_plain_rows h_inn_house_creak h_inn_house_cold h_inn_house_one h_inn_house_other h_inn_house_how h_inn_house_falls h_inn_house_ways h_casts_trial_ways h_casts_trial_how h_casts_trial_passed h_casts_trial_dreamOf h_casts_trial_stateOf h_casts_trial_roomOf h_casts_trial_handOf h_casts_trial_awake h_casts_trial_thingIn h_casts_trial_full h_casts_trial_heardBy h_casts_trial_ways_steps h_inn_house_ways_steps h_casts_set_rows v_marked v_refusal_31 v_latestFault v_faultPlace v_inn_minutes v_inn_things v_inn_dreams v_inn_sleepers v_inn_listeners v_casts_count v_casts_fitting_22 v_notes_count v_notes_book v_notes_sort v_notes_one v_casts_plain_rows v_notes_other v_casts_fitters_22 v_inn_house_rooms v_inn_house_doors v_casts_tried v_casts_trial_setting v_casts_trial_been v_inn_house_how v_casts_trial_ways_rooms v_casts_trial_ways_steps v_inn_house_one v_inn_house_other v_inn_thingIn v_casts_trial_thingIn v_inn_full v_casts_trial_full v_casts_trial_heardBy v_casts_dreams v_casts_trial_dreamOf v_casts_trial_stateOf v_inn_bed v_casts_trial_roomOf v_casts_trial_handOf v_casts_trial_awake v_casts_trial_how v_casts_trial_passed v_inn_states v_inn_house_creak v_inn_listensIn v_inn_house_ways_rooms v_inn_house_ways_steps v_inn_house_cold v_inn_house_falls v_casts_set_rows v_casts_kin)) (As := [.int 6]) (rest := []) C (ctX10_refuse l E h h_reader h_inn h_chosen h_night h_marks h_notes h_casts v_marked v_refusal v_latestFault v_faultPlace N 6 r_31 v_refusal_31 hc_31) ml_X10_68 ⟨Nat.le_of_ble_eq_true rfl, Nat.le_of_ble_eq_true rfl⟩ hP hD hS 0 rfl rfl rfl [0] rfl rfl rfl rfl rfl hl.1 rfl (Nat.le_of_ble_eq_true rfl) ⟨Nat.zero_le _, Nat.zero_le _⟩ dX10_best_31 ?_
      clear hP hD hS; intro H locs hP hD hS
      cases hf
      rw [hQ]
      exact r_iret C hr hP hD hS rfl dX10_best_34
  · replace hf := it_t c_4 hf
    refine lv_aload_n hx hb dX10_best_7 rfl (lv_at hl 0 rfl) ?_
    refine lv_iconst (v := 1) hx hb dX10_best_8 (by decide) ?_
    obtain ⟨r_9, v_refusal_9, hc_9, hf⟩ := bd2 hf
    refine r_callVi (ws' := (wX10_best E h h_reader h_inn h_chosen h_night h_marks h_notes h_casts h_inn_house h_inn_thingIn h_inn_full h_inn_states h_inn_bed h_inn_dreamOf h_inn_listensIn h_casts_trial h_casts_dreams h_casts_plain h_casts_set h_casts_tried h_casts_kin h_casts_fitters h_notes_book h_notes_sort h_notes_one h_notes_other h_casts_plain_rows h_inn_house_creak h_inn_house_cold h_inn_house_one h_inn_house_other h_inn_house_how h_inn_house_falls h_inn_house_ways h_casts_trial_ways h_casts_trial_how h_casts_trial_passed h_casts_trial_dreamOf h_casts_trial_stateOf h_casts_trial_roomOf h_casts_trial_handOf h_casts_trial_awake h_casts_trial_thingIn h_casts_trial_full h_casts_trial_heardBy h_casts_trial_ways_steps h_inn_house_ways_steps h_casts_set_rows v_marked v_refusal_9 v_latestFault v_faultPlace v_inn_minutes v_inn_things v_inn_dreams v_inn_sleepers v_inn_listeners v_casts_count v_casts_fitting v_notes_count v_notes_book v_notes_sort v_notes_one v_casts_plain_rows v_notes_other v_casts_fitters v_inn_house_rooms v_inn_house_doors v_casts_tried v_casts_trial_setting v_casts_trial_been v_inn_house_how v_casts_trial_ways_rooms v_casts_trial_ways_steps v_inn_house_one v_inn_house_other v_inn_thingIn v_casts_trial_thingIn v_inn_full v_casts_trial_full v_casts_trial_heardBy v_casts_dreams v_casts_trial_dreamOf v_casts_trial_stateOf v_inn_bed v_casts_trial_roomOf v_casts_trial_handOf v_casts_trial_awake v_casts_trial_how v_casts_trial_passed v_inn_states v_inn_house_creak v_inn_listensIn v_inn_house_ways_rooms v_inn_house_ways_steps v_inn_house_cold v_inn_house_falls v_casts_set_rows v_casts_kin)) (As := [.int 1]) (rest := []) C (ctX10_refuse l E h h_reader h_inn h_chosen h_night h_marks h_notes h_casts v_marked v_refusal v_latestFault v_faultPlace N 1 r_9 v_refusal_9 hc_9) ml_X10_68 ⟨Nat.le_of_ble_eq_true rfl, Nat.le_of_ble_eq_true rfl⟩ hP hD hS 0 rfl rfl rfl [0] rfl rfl rfl rfl rfl hl.1 rfl (Nat.le_of_ble_eq_true rfl) ⟨Nat.zero_le _, Nat.zero_le _⟩ dX10_best_9 ?_
    clear hP hD hS; intro H locs hP hD hS
    cases hf
    rw [hQ]
    exact r_iret C hr hP hD hS rfl dX10_best_12
def wX10_told (E : EN) (h h_reader h_inn h_chosen h_night h_marks h_notes h_casts h_inn_house h_inn_thingIn h_inn_full h_inn_states h_inn_bed h_inn_dreamOf h_inn_listensIn h_inn_house_creak h_inn_house_cold h_inn_house_one h_inn_house_other h_inn_house_how h_inn_house_falls h_inn_house_ways h_casts_trial h_casts_dreams h_casts_plain h_casts_set h_casts_tried h_casts_kin h_casts_fitters h_notes_book h_notes_sort h_notes_one h_notes_other h_casts_plain_rows h_casts_trial_ways h_casts_trial_how h_casts_trial_passed h_casts_trial_dreamOf h_casts_trial_stateOf h_casts_trial_roomOf h_casts_trial_handOf h_casts_trial_awake h_casts_trial_thingIn h_casts_trial_full h_casts_trial_heardBy h_casts_trial_ways_steps h_inn_house_ways_steps h_casts_set_rows : Nat) (v_marked : Int32) (v_refusal : Int32) (v_latestFault : Int32) (v_faultPlace : Int32) (v_inn_minutes : Int32) (v_inn_things : Int32) (v_inn_dreams : Int32) (v_inn_sleepers : Int32) (v_inn_listeners : Int32) (v_inn_house_rooms : Int32) (v_inn_house_doors : Int32) (v_casts_count : Int32) (v_casts_fitting : Int32) (v_notes_count : Int32) (v_notes_book : Nat → Int32) (v_notes_sort : Nat → Int32) (v_notes_one : Nat → Int32) (v_casts_plain_rows : Nat → Int64) (v_notes_other : Nat → Int32) (v_casts_fitters : Nat → Int32) (v_casts_tried : Nat → Int32) (v_casts_trial_setting : Int32) (v_casts_trial_been : Int32) (v_inn_house_how : Nat → Int32) (v_casts_trial_ways_rooms : Int32) (v_casts_trial_ways_steps : Nat → Int32) (v_inn_house_one : Nat → Int32) (v_inn_house_other : Nat → Int32) (v_inn_thingIn : Nat → Int32) (v_casts_trial_thingIn : Nat → Int32) (v_inn_full : Nat → Int32) (v_casts_trial_full : Nat → Int32) (v_casts_trial_heardBy : Nat → Int64) (v_casts_dreams : Nat → Int32) (v_casts_trial_dreamOf : Nat → Int32) (v_casts_trial_stateOf : Nat → Int32) (v_inn_bed : Nat → Int32) (v_casts_trial_roomOf : Nat → Int32) (v_casts_trial_handOf : Nat → Int32) (v_casts_trial_awake : Nat → Int32) (v_casts_trial_how : Nat → Int32) (v_casts_trial_passed : Nat → Int32) (v_inn_states : Nat → Int32) (v_inn_house_creak : Nat → Int32) (v_inn_listensIn : Nat → Int32) (v_inn_house_ways_rooms : Int32) (v_inn_house_ways_steps : Nat → Int32) (v_inn_house_cold : Nat → Int32) (v_inn_house_falls : Nat → Int32) (v_casts_set_rows : Nat → Int64) (v_casts_kin : Nat → Int32) : va_W := [(h, .inr (9, [.ref h_reader, .ref h_inn, .ref h_chosen, .ref h_night, .ref h_marks, .int v_marked, .ref h_notes, .ref h_casts, .int v_refusal, .int v_latestFault, .int v_faultPlace])), (h_inn, .inr (2, [.ref h_inn_house, .int v_inn_minutes, .int v_inn_things, .ref h_inn_thingIn, .ref h_inn_full, .int v_inn_dreams, .ref h_inn_states, .int v_inn_sleepers, .ref h_inn_bed, .ref h_inn_dreamOf, .int v_inn_listeners, .ref h_inn_listensIn])), (h_inn_house, .inr (1, [.int v_inn_house_rooms, .ref h_inn_house_creak, .ref h_inn_house_cold, .int v_inn_house_doors, .ref h_inn_house_one, .ref h_inn_house_other, .ref h_inn_house_how, .ref h_inn_house_falls, .ref h_inn_house_ways])), (h_casts, .inr (0, [.ref h_casts_trial, .ref h_inn, .int v_casts_count, .ref h_casts_dreams, .ref h_casts_plain, .ref h_casts_set, .ref h_casts_tried, .ref h_casts_kin, .int v_casts_fitting, .ref h_casts_fitters])), (h_notes, .inr (5, [.ref h_notes_book, .ref h_notes_sort, .ref h_notes_one, .ref h_notes_other, .int v_notes_count])), (h_notes_book, aI E 20 v_notes_book), (h_notes_sort, aI E 20 v_notes_sort), (h_notes_one, aI E 20 v_notes_one), (h_casts_plain, .inr (3, [.ref h_casts_plain_rows])), (h_casts_plain_rows, aJ E 256 v_casts_plain_rows), (h_notes_other, aI E 20 v_notes_other), (h_casts_fitters, aI E 64 v_casts_fitters), (h_casts_tried, aZ E 21 v_casts_tried), (h_casts_trial, .inr (4, [.ref h_inn, .int v_casts_trial_setting, .int v_casts_trial_been, .ref h_casts_trial_ways, .ref h_casts_trial_how, .ref h_casts_trial_passed, .ref h_casts_trial_dreamOf, .ref h_casts_trial_stateOf, .ref h_casts_trial_roomOf, .ref h_casts_trial_handOf, .ref h_casts_trial_awake, .ref h_casts_trial_thingIn, .ref h_casts_trial_full, .ref h_casts_trial_heardBy])), (h_inn_house_how, aI E 10 v_inn_house_how), (h_casts_trial_ways, .inr (8, [.ref h_casts_trial_ways_steps, .int v_casts_trial_ways_rooms])), (h_casts_trial_ways_steps, aI E 64 v_casts_trial_ways_steps), (h_inn_house_one, aI E 10 v_inn_house_one), (h_inn_house_other, aI E 10 v_inn_house_other), (h_inn_thingIn, aI E 4 v_inn_thingIn), (h_casts_trial_thingIn, aI E 4 v_casts_trial_thingIn), (h_inn_full, aZ E 4 v_inn_full), (h_casts_trial_full, aZ E 4 v_casts_trial_full), (h_casts_trial_heardBy, aJ E 3 v_casts_trial_heardBy), (h_casts_dreams, aI E 192 v_casts_dreams), (h_casts_trial_dreamOf, aI E 3 v_casts_trial_dreamOf), (h_casts_trial_stateOf, aI E 3 v_casts_trial_stateOf), (h_inn_bed, aI E 3 v_inn_bed), (h_casts_trial_roomOf, aI E 3 v_casts_trial_roomOf), (h_casts_trial_handOf, aI E 3 v_casts_trial_handOf), (h_casts_trial_awake, aZ E 3 v_casts_trial_awake), (h_casts_trial_how, aI E 10 v_casts_trial_how), (h_casts_trial_passed, aI E 10 v_casts_trial_passed), (h_inn_states, aI E 64 v_inn_states), (h_inn_house_creak, aI E 8 v_inn_house_creak), (h_inn_listensIn, aI E 3 v_inn_listensIn), (h_inn_house_ways, .inr (8, [.ref h_inn_house_ways_steps, .int v_inn_house_ways_rooms])), (h_inn_house_ways_steps, aI E 64 v_inn_house_ways_steps), (h_inn_house_cold, aZ E 8 v_inn_house_cold), (h_inn_house_falls, aZ E 10 v_inn_house_falls), (h_casts_set, .inr (3, [.ref h_casts_set_rows])), (h_casts_set_rows, aJ E 256 v_casts_set_rows), (h_casts_kin, aI E 1344 v_casts_kin)]
def fX10_told (N : Nat) (p0 : Int32) (p1 : Int32) (v_inn_minutes : Int32) (v_inn_things : Int32) (v_inn_sleepers : Int32) (v_inn_listeners : Int32) (v_inn_house_rooms : Int32) (v_inn_house_doors : Int32) (v_casts_count : Int32) (v_casts_fitting : Int32) (v_notes_count : Int32) (v_notes_book : Nat → Int32) (v_notes_sort : Nat → Int32) (v_notes_one : Nat → Int32) (v_casts_plain_rows : Nat → Int64) (v_notes_other : Nat → Int32) (v_casts_fitters : Nat → Int32) (v_casts_tried : Nat → Int32) (v_casts_trial_setting : Int32) (v_casts_trial_been : Int32) (v_inn_house_how : Nat → Int32) (v_casts_trial_ways_rooms : Int32) (v_casts_trial_ways_steps : Nat → Int32) (v_inn_house_one : Nat → Int32) (v_inn_house_other : Nat → Int32) (v_inn_thingIn : Nat → Int32) (v_casts_trial_thingIn : Nat → Int32) (v_inn_full : Nat → Int32) (v_casts_trial_full : Nat → Int32) (v_casts_trial_heardBy : Nat → Int64) (v_casts_dreams : Nat → Int32) (v_casts_trial_dreamOf : Nat → Int32) (v_casts_trial_stateOf : Nat → Int32) (v_inn_bed : Nat → Int32) (v_casts_trial_roomOf : Nat → Int32) (v_casts_trial_handOf : Nat → Int32) (v_casts_trial_awake : Nat → Int32) (v_casts_trial_how : Nat → Int32) (v_casts_trial_passed : Nat → Int32) (v_inn_states : Nat → Int32) (v_inn_house_creak : Nat → Int32) (v_inn_listensIn : Nat → Int32) (v_inn_house_ways_steps : Nat → Int32) (v_inn_house_cold : Nat → Int32) (v_inn_house_falls : Nat → Int32) (v_casts_set_rows : Nat → Int64) (v_casts_kin : Nat → Int32) : Option (Int32 × Int32 × Int32 × (Nat → Int64) × (Nat → Int32) × (Nat → Int32) × Int32 × Int32 × Int32 × (Nat → Int32) × (Nat → Int32) × (Nat → Int32) × (Nat → Int64) × (Nat → Int32) × (Nat → Int32) × (Nat → Int32) × (Nat → Int32) × (Nat → Int32) × (Nat → Int32) × (Nat → Int32) × (Nat → Int64) × (Nat → Int32)) := (fX10_isSetting N p0 v_inn_minutes v_inn_house_doors).bind (un1 fun (r_2 : Int32) => if r_2 = 0 then ((fX10_refuse N 1).bind (un2 fun (r_18 : Int32) (v_refusal_18 : Int32) => some (r_18, v_refusal_18, v_casts_fitting, v_casts_plain_rows, v_casts_fitters, v_casts_tried, v_casts_trial_setting, v_casts_trial_been, v_casts_trial_ways_rooms, v_casts_trial_ways_steps, v_casts_trial_thingIn, v_casts_trial_full, v_casts_trial_heardBy, v_casts_trial_dreamOf, v_casts_trial_stateOf, v_casts_trial_roomOf, v_casts_trial_handOf, v_casts_trial_awake, v_casts_trial_how, v_casts_trial_passed, v_casts_set_rows, v_casts_kin))) else ((fX10_isSetting N p1 v_inn_minutes v_inn_house_doors).bind (un1 fun (r_10 : Int32) => if r_10 = 0 then ((fX10_refuse N 1).bind (un2 fun (r_18 : Int32) (v_refusal_18 : Int32) => some (r_18, v_refusal_18, v_casts_fitting, v_casts_plain_rows, v_casts_fitters, v_casts_tried, v_casts_trial_setting, v_casts_trial_been, v_casts_trial_ways_rooms, v_casts_trial_ways_steps, v_casts_trial_thingIn, v_casts_trial_full, v_casts_trial_heardBy, v_casts_trial_dreamOf, v_casts_trial_stateOf, v_casts_trial_roomOf, v_casts_trial_handOf, v_casts_trial_awake, v_casts_trial_how, v_casts_trial_passed, v_casts_set_rows, v_casts_kin))) else ((fX0_gather N 3 v_casts_count v_notes_count v_notes_book v_notes_sort v_notes_one v_casts_plain_rows v_notes_other v_casts_fitters).bind (un3 fun (r_31 : Int32) (v_casts_fitting_31 : Int32) (v_casts_fitters_31 : Nat → Int32) => if r_31 = 0 then ((fX10_refuse N 6).bind (un2 fun (r_40 : Int32) (v_refusal_40 : Int32) => some (r_40, v_refusal_40, v_casts_fitting_31, v_casts_plain_rows, v_casts_fitters_31, v_casts_tried, v_casts_trial_setting, v_casts_trial_been, v_casts_trial_ways_rooms, v_casts_trial_ways_steps, v_casts_trial_thingIn, v_casts_trial_full, v_casts_trial_heardBy, v_casts_trial_dreamOf, v_casts_trial_stateOf, v_casts_trial_roomOf, v_casts_trial_handOf, v_casts_trial_awake, v_casts_trial_how, v_casts_trial_passed, v_casts_set_rows, v_casts_kin))) else ((fX0_tryOuts N p0 p0 v_casts_count v_casts_tried v_casts_trial_setting v_casts_trial_been v_inn_minutes v_inn_things v_inn_sleepers v_inn_listeners v_inn_house_rooms v_inn_house_doors v_inn_house_how v_casts_trial_ways_rooms v_casts_trial_ways_steps v_inn_house_one v_inn_house_other v_inn_thingIn v_casts_trial_thingIn v_inn_full v_casts_trial_full v_casts_trial_heardBy v_casts_dreams v_casts_trial_dreamOf v_casts_trial_stateOf v_inn_bed v_casts_trial_roomOf v_casts_trial_handOf v_casts_trial_awake v_casts_trial_how v_casts_trial_passed v_inn_states v_inn_house_creak v_inn_listensIn v_inn_house_ways_steps v_inn_house_cold v_inn_house_falls v_casts_set_rows v_casts_kin v_casts_plain_rows).bind (un18 fun (v_casts_tried_50 : Nat → Int32) (v_casts_trial_setting_50 : Int32) (v_casts_trial_been_50 : Int32) (v_casts_trial_ways_rooms_50 : Int32) (v_casts_trial_ways_steps_50 : Nat → Int32) (v_casts_trial_thingIn_50 : Nat → Int32) (v_casts_trial_full_50 : Nat → Int32) (v_casts_trial_heardBy_50 : Nat → Int64) (v_casts_trial_dreamOf_50 : Nat → Int32) (v_casts_trial_stateOf_50 : Nat → Int32) (v_casts_trial_roomOf_50 : Nat → Int32) (v_casts_trial_handOf_50 : Nat → Int32) (v_casts_trial_awake_50 : Nat → Int32) (v_casts_trial_how_50 : Nat → Int32) (v_casts_trial_passed_50 : Nat → Int32) (v_casts_set_rows_50 : Nat → Int64) (v_casts_kin_50 : Nat → Int32) (v_casts_plain_rows_50 : Nat → Int64) => (fX0_tryOuts N p1 p1 v_casts_count v_casts_tried_50 v_casts_trial_setting_50 v_casts_trial_been_50 v_inn_minutes v_inn_things v_inn_sleepers v_inn_listeners v_inn_house_rooms v_inn_house_doors v_inn_house_how v_casts_trial_ways_rooms_50 v_casts_trial_ways_steps_50 v_inn_house_one v_inn_house_other v_inn_thingIn v_casts_trial_thingIn_50 v_inn_full v_casts_trial_full_50 v_casts_trial_heardBy_50 v_casts_dreams v_casts_trial_dreamOf_50 v_casts_trial_stateOf_50 v_inn_bed v_casts_trial_roomOf_50 v_casts_trial_handOf_50 v_casts_trial_awake_50 v_casts_trial_how_50 v_casts_trial_passed_50 v_inn_states v_inn_house_creak v_inn_listensIn v_inn_house_ways_steps v_inn_house_cold v_inn_house_falls v_casts_set_rows_50 v_casts_kin_50 v_casts_plain_rows_50).bind (un18 fun (v_casts_tried_59 : Nat → Int32) (v_casts_trial_setting_59 : Int32) (v_casts_trial_been_59 : Int32) (v_casts_trial_ways_rooms_59 : Int32) (v_casts_trial_ways_steps_59 : Nat → Int32) (v_casts_trial_thingIn_59 : Nat → Int32) (v_casts_trial_full_59 : Nat → Int32) (v_casts_trial_heardBy_59 : Nat → Int64) (v_casts_trial_dreamOf_59 : Nat → Int32) (v_casts_trial_stateOf_59 : Nat → Int32) (v_casts_trial_roomOf_59 : Nat → Int32) (v_casts_trial_handOf_59 : Nat → Int32) (v_casts_trial_awake_59 : Nat → Int32) (v_casts_trial_how_59 : Nat → Int32) (v_casts_trial_passed_59 : Nat → Int32) (v_casts_set_rows_59 : Nat → Int64) (v_casts_kin_59 : Nat → Int32) (v_casts_plain_rows_59 : Nat → Int64) => (fX0_mostAlike N p0 p1 v_casts_fitting_31 v_casts_fitters_31 v_casts_kin_59).bind (un1 fun (r_69 : Int32) => (fX10_answer N r_69).bind (un2 fun (r_72 : Int32) (v_refusal_72 : Int32) => some (r_72, v_refusal_72, v_casts_fitting_31, v_casts_plain_rows_59, v_casts_fitters_31, v_casts_tried_59, v_casts_trial_setting_59, v_casts_trial_been_59, v_casts_trial_ways_rooms_59, v_casts_trial_ways_steps_59, v_casts_trial_thingIn_59, v_casts_trial_full_59, v_casts_trial_heardBy_59, v_casts_trial_dreamOf_59, v_casts_trial_stateOf_59, v_casts_trial_roomOf_59, v_casts_trial_handOf_59, v_casts_trial_awake_59, v_casts_trial_how_59, v_casts_trial_passed_59, v_casts_set_rows_59, v_casts_kin_59)))))))))))
set_option maxHeartbeats 4000000 in
set_option maxRecDepth 100000 in
theorem ctX10_told (l : Launch) (E : EN) (h h_reader h_inn h_chosen h_night h_marks h_notes h_casts h_inn_house h_inn_thingIn h_inn_full h_inn_states h_inn_bed h_inn_dreamOf h_inn_listensIn h_inn_house_creak h_inn_house_cold h_inn_house_one h_inn_house_other h_inn_house_how h_inn_house_falls h_inn_house_ways h_casts_trial h_casts_dreams h_casts_plain h_casts_set h_casts_tried h_casts_kin h_casts_fitters h_notes_book h_notes_sort h_notes_one h_notes_other h_casts_plain_rows h_casts_trial_ways h_casts_trial_how h_casts_trial_passed h_casts_trial_dreamOf h_casts_trial_stateOf h_casts_trial_roomOf h_casts_trial_handOf h_casts_trial_awake h_casts_trial_thingIn h_casts_trial_full h_casts_trial_heardBy h_casts_trial_ways_steps h_inn_house_ways_steps h_casts_set_rows : Nat) (v_marked : Int32) (v_refusal : Int32) (v_latestFault : Int32) (v_faultPlace : Int32) (v_inn_minutes : Int32) (v_inn_things : Int32) (v_inn_dreams : Int32) (v_inn_sleepers : Int32) (v_inn_listeners : Int32) (v_inn_house_rooms : Int32) (v_inn_house_doors : Int32) (v_casts_count : Int32) (v_casts_fitting : Int32) (v_notes_count : Int32) (v_notes_book : Nat → Int32) (v_notes_sort : Nat → Int32) (v_notes_one : Nat → Int32) (v_casts_plain_rows : Nat → Int64) (v_notes_other : Nat → Int32) (v_casts_fitters : Nat → Int32) (v_casts_tried : Nat → Int32) (v_casts_trial_setting : Int32) (v_casts_trial_been : Int32) (v_inn_house_how : Nat → Int32) (v_casts_trial_ways_rooms : Int32) (v_casts_trial_ways_steps : Nat → Int32) (v_inn_house_one : Nat → Int32) (v_inn_house_other : Nat → Int32) (v_inn_thingIn : Nat → Int32) (v_casts_trial_thingIn : Nat → Int32) (v_inn_full : Nat → Int32) (v_casts_trial_full : Nat → Int32) (v_casts_trial_heardBy : Nat → Int64) (v_casts_dreams : Nat → Int32) (v_casts_trial_dreamOf : Nat → Int32) (v_casts_trial_stateOf : Nat → Int32) (v_inn_bed : Nat → Int32) (v_casts_trial_roomOf : Nat → Int32) (v_casts_trial_handOf : Nat → Int32) (v_casts_trial_awake : Nat → Int32) (v_casts_trial_how : Nat → Int32) (v_casts_trial_passed : Nat → Int32) (v_inn_states : Nat → Int32) (v_inn_house_creak : Nat → Int32) (v_inn_listensIn : Nat → Int32) (v_inn_house_ways_rooms : Int32) (v_inn_house_ways_steps : Nat → Int32) (v_inn_house_cold : Nat → Int32) (v_inn_house_falls : Nat → Int32) (v_casts_set_rows : Nat → Int64) (v_casts_kin : Nat → Int32) (N : Nat) (p0 : Int32) (p1 : Int32) (z0 : Int32) (z1 : Int32) (z2 : Int32) (z3 : Nat → Int64) (z4 : Nat → Int32) (z5 : Nat → Int32) (z6 : Int32) (z7 : Int32) (z8 : Int32) (z9 : Nat → Int32) (z10 : Nat → Int32) (z11 : Nat → Int32) (z12 : Nat → Int64) (z13 : Nat → Int32) (z14 : Nat → Int32) (z15 : Nat → Int32) (z16 : Nat → Int32) (z17 : Nat → Int32) (z18 : Nat → Int32) (z19 : Nat → Int32) (z20 : Nat → Int64) (z21 : Nat → Int32) (hf : fX10_told N p0 p1 v_inn_minutes v_inn_things v_inn_sleepers v_inn_listeners v_inn_house_rooms v_inn_house_doors v_casts_count v_casts_fitting v_notes_count v_notes_book v_notes_sort v_notes_one v_casts_plain_rows v_notes_other v_casts_fitters v_casts_tried v_casts_trial_setting v_casts_trial_been v_inn_house_how v_casts_trial_ways_rooms v_casts_trial_ways_steps v_inn_house_one v_inn_house_other v_inn_thingIn v_casts_trial_thingIn v_inn_full v_casts_trial_full v_casts_trial_heardBy v_casts_dreams v_casts_trial_dreamOf v_casts_trial_stateOf v_inn_bed v_casts_trial_roomOf v_casts_trial_handOf v_casts_trial_awake v_casts_trial_how v_casts_trial_passed v_inn_states v_inn_house_creak v_inn_listensIn v_inn_house_ways_steps v_inn_house_cold v_inn_house_falls v_casts_set_rows v_casts_kin = some (z0, z1, z2, z3, z4, z5, z6, z7, z8, z9, z10, z11, z12, z13, z14, z15, z16, z17, z18, z19, z20, z21)) : CTi l E yX10_told cX10_told 3 .int 6 144 [.ref h, .int p0, .int p1] (wX10_told E h h_reader h_inn h_chosen h_night h_marks h_notes h_casts h_inn_house h_inn_thingIn h_inn_full h_inn_states h_inn_bed h_inn_dreamOf h_inn_listensIn h_inn_house_creak h_inn_house_cold h_inn_house_one h_inn_house_other h_inn_house_how h_inn_house_falls h_inn_house_ways h_casts_trial h_casts_dreams h_casts_plain h_casts_set h_casts_tried h_casts_kin h_casts_fitters h_notes_book h_notes_sort h_notes_one h_notes_other h_casts_plain_rows h_casts_trial_ways h_casts_trial_how h_casts_trial_passed h_casts_trial_dreamOf h_casts_trial_stateOf h_casts_trial_roomOf h_casts_trial_handOf h_casts_trial_awake h_casts_trial_thingIn h_casts_trial_full h_casts_trial_heardBy h_casts_trial_ways_steps h_inn_house_ways_steps h_casts_set_rows v_marked v_refusal v_latestFault v_faultPlace v_inn_minutes v_inn_things v_inn_dreams v_inn_sleepers v_inn_listeners v_inn_house_rooms v_inn_house_doors v_casts_count v_casts_fitting v_notes_count v_notes_book v_notes_sort v_notes_one v_casts_plain_rows v_notes_other v_casts_fitters v_casts_tried v_casts_trial_setting v_casts_trial_been v_inn_house_how v_casts_trial_ways_rooms v_casts_trial_ways_steps v_inn_house_one v_inn_house_other v_inn_thingIn v_casts_trial_thingIn v_inn_full v_casts_trial_full v_casts_trial_heardBy v_casts_dreams v_casts_trial_dreamOf v_casts_trial_stateOf v_inn_bed v_casts_trial_roomOf v_casts_trial_handOf v_casts_trial_awake v_casts_trial_how v_casts_trial_passed v_inn_states v_inn_house_creak v_inn_listensIn v_inn_house_ways_rooms v_inn_house_ways_steps v_inn_house_cold v_inn_house_falls v_casts_set_rows v_casts_kin) z0 (wX10_told E h h_reader h_inn h_chosen h_night h_marks h_notes h_casts h_inn_house h_inn_thingIn h_inn_full h_inn_states h_inn_bed h_inn_dreamOf h_inn_listensIn h_inn_house_creak h_inn_house_cold h_inn_house_one h_inn_house_other h_inn_house_how h_inn_house_falls h_inn_house_ways h_casts_trial h_casts_dreams h_casts_plain h_casts_set h_casts_tried h_casts_kin h_casts_fitters h_notes_book h_notes_sort h_notes_one h_notes_other h_casts_plain_rows h_casts_trial_ways h_casts_trial_how h_casts_trial_passed h_casts_trial_dreamOf h_casts_trial_stateOf h_casts_trial_roomOf h_casts_trial_handOf h_casts_trial_awake h_casts_trial_thingIn h_casts_trial_full h_casts_trial_heardBy h_casts_trial_ways_steps h_inn_house_ways_steps h_casts_set_rows v_marked z1 v_latestFault v_faultPlace v_inn_minutes v_inn_things v_inn_dreams v_inn_sleepers v_inn_listeners v_inn_house_rooms v_inn_house_doors v_casts_count z2 v_notes_count v_notes_book v_notes_sort v_notes_one z3 v_notes_other z4 z5 z6 z7 v_inn_house_how z8 z9 v_inn_house_one v_inn_house_other v_inn_thingIn z10 v_inn_full z11 z12 v_casts_dreams z13 z14 v_inn_bed z15 z16 z17 z18 z19 v_inn_states v_inn_house_creak v_inn_listensIn v_inn_house_ways_rooms v_inn_house_ways_steps v_inn_house_cold v_inn_house_falls z20 z21) := by
  intro sz
  refine ct_body (by decide) (Nat.le_of_ble_eq_true rfl) ?_
  intro p e s m args below meth c A ls hAe C hr hin hP hD hS hl
  have C : CX p s m args meth c cX10_told RX10 3 E A := C
  have hl : lv_has ls 3 [(0, .ref h), (1, .int p0), (2, .int p1)] := hl
  have hx := C.1
  have hb := C.2.1
  rw [hAe]
  clear hAe
  obtain ⟨Q, hQ⟩ : ∃ Q, Q = MQ below (Qi E A z0 (wX10_told E h h_reader h_inn h_chosen h_night h_marks h_notes h_casts h_inn_house h_inn_thingIn h_inn_full h_inn_states h_inn_bed h_inn_dreamOf h_inn_listensIn h_inn_house_creak h_inn_house_cold h_inn_house_one h_inn_house_other h_inn_house_how h_inn_house_falls h_inn_house_ways h_casts_trial h_casts_dreams h_casts_plain h_casts_set h_casts_tried h_casts_kin h_casts_fitters h_notes_book h_notes_sort h_notes_one h_notes_other h_casts_plain_rows h_casts_trial_ways h_casts_trial_how h_casts_trial_passed h_casts_trial_dreamOf h_casts_trial_stateOf h_casts_trial_roomOf h_casts_trial_handOf h_casts_trial_awake h_casts_trial_thingIn h_casts_trial_full h_casts_trial_heardBy h_casts_trial_ways_steps h_inn_house_ways_steps h_casts_set_rows v_marked z1 v_latestFault v_faultPlace v_inn_minutes v_inn_things v_inn_dreams v_inn_sleepers v_inn_listeners v_inn_house_rooms v_inn_house_doors v_casts_count z2 v_notes_count v_notes_book v_notes_sort v_notes_one z3 v_notes_other z4 z5 z6 z7 v_inn_house_how z8 z9 v_inn_house_one v_inn_house_other v_inn_thingIn z10 v_inn_full z11 z12 v_casts_dreams z13 z14 v_inn_bed z15 z16 z17 z18 z19 v_inn_states v_inn_house_creak v_inn_listensIn v_inn_house_ways_rooms v_inn_house_ways_steps v_inn_house_cold v_inn_house_falls z20 z21)) args s 0 0 A := ⟨_, rfl⟩
  rw [← hQ]
  unfold fX10_told at hf
  refine lv_aload_n hx hb dX10_told_0 rfl (lv_at hl 0 rfl) ?_
  refine lv_iload_n hx hb dX10_told_1 rfl (lv_at hl 1 rfl) ?_
  obtain ⟨r_2, hc_2, hf⟩ := bd1 hf
  refine r_callVi (ws' := (wX10_told E h h_reader h_inn h_chosen h_night h_marks h_notes h_casts h_inn_house h_inn_thingIn h_inn_full h_inn_states h_inn_bed h_inn_dreamOf h_inn_listensIn h_inn_house_creak h_inn_house_cold h_inn_house_one h_inn_house_other h_inn_house_how h_inn_house_falls h_inn_house_ways h_casts_trial h_casts_dreams h_casts_plain h_casts_set h_casts_tried h_casts_kin h_casts_fitters h_notes_book h_notes_sort h_notes_one h_notes_other h_casts_plain_rows h_casts_trial_ways h_casts_trial_how h_casts_trial_passed h_casts_trial_dreamOf h_casts_trial_stateOf h_casts_trial_roomOf h_casts_trial_handOf h_casts_trial_awake h_casts_trial_thingIn h_casts_trial_full h_casts_trial_heardBy h_casts_trial_ways_steps h_inn_house_ways_steps h_casts_set_rows v_marked v_refusal v_latestFault v_faultPlace v_inn_minutes v_inn_things v_inn_dreams v_inn_sleepers v_inn_listeners v_inn_house_rooms v_inn_house_doors v_casts_count v_casts_fitting v_notes_count v_notes_book v_notes_sort v_notes_one v_casts_plain_rows v_notes_other v_casts_fitters v_casts_tried v_casts_trial_setting v_casts_trial_been v_inn_house_how v_casts_trial_ways_rooms v_casts_trial_ways_steps v_inn_house_one v_inn_house_other v_inn_thingIn v_casts_trial_thingIn v_inn_full v_casts_trial_full v_casts_trial_heardBy v_casts_dreams v_casts_trial_dreamOf v_casts_trial_stateOf v_inn_bed v_casts_trial_roomOf v_casts_trial_handOf v_casts_trial_awake v_casts_trial_how v_casts_trial_passed v_inn_states v_inn_house_creak v_inn_listensIn v_inn_house_ways_rooms v_inn_house_ways_steps v_inn_house_cold v_inn_house_falls v_casts_set_rows v_casts_kin)) (As := [.int p0]) (rest := []) C (ctX10_isSetting l E h h_reader h_inn h_chosen h_night h_marks h_notes h_casts h_inn_house h_inn_thingIn h_inn_full h_inn_states h_inn_bed h_inn_dreamOf h_inn_listensIn h_inn_house_creak h_inn_house_cold h_inn_house_one h_inn_house_other h_inn_house_how h_inn_house_falls h_inn_house_ways v_marked v_refusal v_latestFault v_faultPlace v_inn_minutes v_inn_things v_inn_dreams v_inn_sleepers v_inn_listeners v_inn_house_rooms v_inn_house_doors N p0 r_2 hc_2) ml_X10_149 ⟨Nat.le_of_ble_eq_true rfl, Nat.le_of_ble_eq_true rfl⟩ hP hD hS 0 rfl rfl rfl [0, 1, 2] rfl rfl rfl rfl rfl hl.1 rfl (Nat.le_of_ble_eq_true rfl) ⟨Nat.zero_le _, Nat.zero_le _⟩ dX10_told_2 ?_
  clear hP hD hS; intro H locs hP hD hS
  refine lv_if_eq (tgt := 16) hx hb dX10_told_5 (by decide) (fun c_5 => ?_) (fun c_5 => ?_)
  · replace hf := it_t c_5 hf
    refine lv_aload_n hx hb dX10_told_16 rfl (lv_at hl 0 rfl) ?_
    refine lv_iconst (v := 1) hx hb dX10_told_17 (by decide) ?_
    obtain ⟨r_18, v_refusal_18, hc_18, hf⟩ := bd2 hf
    refine r_callVi (ws' := (wX10_told E h h_reader h_inn h_chosen h_night h_marks h_notes h_casts h_inn_house h_inn_thingIn h_inn_full h_inn_states h_inn_bed h_inn_dreamOf h_inn_listensIn h_inn_house_creak h_inn_house_cold h_inn_house_one h_inn_house_other h_inn_house_how h_inn_house_falls h_inn_house_ways h_casts_trial h_casts_dreams h_casts_plain h_casts_set h_casts_tried h_casts_kin h_casts_fitters h_notes_book h_notes_sort h_notes_one h_notes_other h_casts_plain_rows h_casts_trial_ways h_casts_trial_how h_casts_trial_passed h_casts_trial_dreamOf h_casts_trial_stateOf h_casts_trial_roomOf h_casts_trial_handOf h_casts_trial_awake h_casts_trial_thingIn h_casts_trial_full h_casts_trial_heardBy h_casts_trial_ways_steps h_inn_house_ways_steps h_casts_set_rows v_marked v_refusal_18 v_latestFault v_faultPlace v_inn_minutes v_inn_things v_inn_dreams v_inn_sleepers v_inn_listeners v_inn_house_rooms v_inn_house_doors v_casts_count v_casts_fitting v_notes_count v_notes_book v_notes_sort v_notes_one v_casts_plain_rows v_notes_other v_casts_fitters v_casts_tried v_casts_trial_setting v_casts_trial_been v_inn_house_how v_casts_trial_ways_rooms v_casts_trial_ways_steps v_inn_house_one v_inn_house_other v_inn_thingIn v_casts_trial_thingIn v_inn_full v_casts_trial_full v_casts_trial_heardBy v_casts_dreams v_casts_trial_dreamOf v_casts_trial_stateOf v_inn_bed v_casts_trial_roomOf v_casts_trial_handOf v_casts_trial_awake v_casts_trial_how v_casts_trial_passed v_inn_states v_inn_house_creak v_inn_listensIn v_inn_house_ways_rooms v_inn_house_ways_steps v_inn_house_cold v_inn_house_falls v_casts_set_rows v_casts_kin)) (As := [.int 1]) (rest := []) C (ctX10_refuse l E h h_reader h_inn h_chosen h_night h_marks h_notes h_casts v_marked v_refusal v_latestFault v_faultPlace N 1 r_18 v_refusal_18 hc_18) ml_X10_68 ⟨Nat.le_of_ble_eq_true rfl, Nat.le_of_ble_eq_true rfl⟩ hP hD hS 0 rfl rfl rfl [0] rfl rfl rfl rfl rfl hl.1 rfl (Nat.le_of_ble_eq_true rfl) ⟨Nat.zero_le _, Nat.zero_le _⟩ dX10_told_18 ?_
    clear hP hD hS; intro H locs hP hD hS
    cases hf
    rw [hQ]
    exact r_iret C hr hP hD hS rfl dX10_told_21
  · replace hf := it_f c_5 hf
    refine lv_aload_n hx hb dX10_told_8 rfl (lv_at hl 0 rfl) ?_
    refine lv_iload_n hx hb dX10_told_9 rfl (lv_at hl 2 rfl) ?_
    obtain ⟨r_10, hc_10, hf⟩ := bd1 hf
    refine r_callVi (ws' := (wX10_told E h h_reader h_inn h_chosen h_night h_marks h_notes h_casts h_inn_house h_inn_thingIn h_inn_full h_inn_states h_inn_bed h_inn_dreamOf h_inn_listensIn h_inn_house_creak h_inn_house_cold h_inn_house_one h_inn_house_other h_inn_house_how h_inn_house_falls h_inn_house_ways h_casts_trial h_casts_dreams h_casts_plain h_casts_set h_casts_tried h_casts_kin h_casts_fitters h_notes_book h_notes_sort h_notes_one h_notes_other h_casts_plain_rows h_casts_trial_ways h_casts_trial_how h_casts_trial_passed h_casts_trial_dreamOf h_casts_trial_stateOf h_casts_trial_roomOf h_casts_trial_handOf h_casts_trial_awake h_casts_trial_thingIn h_casts_trial_full h_casts_trial_heardBy h_casts_trial_ways_steps h_inn_house_ways_steps h_casts_set_rows v_marked v_refusal v_latestFault v_faultPlace v_inn_minutes v_inn_things v_inn_dreams v_inn_sleepers v_inn_listeners v_inn_house_rooms v_inn_house_doors v_casts_count v_casts_fitting v_notes_count v_notes_book v_notes_sort v_notes_one v_casts_plain_rows v_notes_other v_casts_fitters v_casts_tried v_casts_trial_setting v_casts_trial_been v_inn_house_how v_casts_trial_ways_rooms v_casts_trial_ways_steps v_inn_house_one v_inn_house_other v_inn_thingIn v_casts_trial_thingIn v_inn_full v_casts_trial_full v_casts_trial_heardBy v_casts_dreams v_casts_trial_dreamOf v_casts_trial_stateOf v_inn_bed v_casts_trial_roomOf v_casts_trial_handOf v_casts_trial_awake v_casts_trial_how v_casts_trial_passed v_inn_states v_inn_house_creak v_inn_listensIn v_inn_house_ways_rooms v_inn_house_ways_steps v_inn_house_cold v_inn_house_falls v_casts_set_rows v_casts_kin)) (As := [.int p1]) (rest := []) C (ctX10_isSetting l E h h_reader h_inn h_chosen h_night h_marks h_notes h_casts h_inn_house h_inn_thingIn h_inn_full h_inn_states h_inn_bed h_inn_dreamOf h_inn_listensIn h_inn_house_creak h_inn_house_cold h_inn_house_one h_inn_house_other h_inn_house_how h_inn_house_falls h_inn_house_ways v_marked v_refusal v_latestFault v_faultPlace v_inn_minutes v_inn_things v_inn_dreams v_inn_sleepers v_inn_listeners v_inn_house_rooms v_inn_house_doors N p1 r_10 hc_10) ml_X10_149 ⟨Nat.le_of_ble_eq_true rfl, Nat.le_of_ble_eq_true rfl⟩ hP hD hS 0 rfl rfl rfl [0, 1, 2] rfl rfl rfl rfl rfl hl.1 rfl (Nat.le_of_ble_eq_true rfl) ⟨Nat.zero_le _, Nat.zero_le _⟩ dX10_told_10 ?_
    clear hP hD hS; intro H locs hP hD hS
    refine lv_if_ne (tgt := 22) hx hb dX10_told_13 (by decide) (fun c_13 => ?_) (fun c_13 => ?_)
    · replace hf := it_f c_13 hf
      refine lv_aload_n hx hb dX10_told_22 rfl (lv_at hl 0 rfl) ?_
      refine r_get C hP 0 rfl fl_X10_50 rfl dX10_told_23 ?_
      refine lv_aload_n hx hb dX10_told_26 rfl (lv_at hl 0 rfl) ?_
      refine r_get C hP 0 rfl fl_X10_43 rfl dX10_told_27 ?_
      refine lv_iconst (v := 3) hx hb dX10_told_30 (by decide) ?_
      obtain ⟨r_31, v_casts_fitting_31, v_casts_fitters_31, hc_31, hf⟩ := bd3 hf
      refine r_callVi (ws' := (wX10_told E h h_reader h_inn h_chosen h_night h_marks h_notes h_casts h_inn_house h_inn_thingIn h_inn_full h_inn_states h_inn_bed h_inn_dreamOf h_inn_listensIn h_inn_house_creak h_inn_house_cold h_inn_house_one h_inn_house_other h_inn_house_how h_inn_house_falls h_inn_house_ways h_casts_trial h_casts_dreams h_casts_plain h_casts_set h_casts_tried h_casts_kin h_casts_fitters h_notes_book h_notes_sort h_notes_one h_notes_other h_casts_plain_rows h_casts_trial_ways h_casts_trial_how h_casts_trial_passed h_casts_trial_dreamOf h_casts_trial_stateOf h_casts_trial_roomOf h_casts_trial_handOf h_casts_trial_awake h_casts_trial_thingIn h_casts_trial_full h_casts_trial_heardBy h_casts_trial_ways_steps h_inn_house_ways_steps h_casts_set_rows v_marked v_refusal v_latestFault v_faultPlace v_inn_minutes v_inn_things v_inn_dreams v_inn_sleepers v_inn_listeners v_inn_house_rooms v_inn_house_doors v_casts_count v_casts_fitting_31 v_notes_count v_notes_book v_notes_sort v_notes_one v_casts_plain_rows v_notes_other v_casts_fitters_31 v_casts_tried v_casts_trial_setting v_casts_trial_been v_inn_house_how v_casts_trial_ways_rooms v_casts_trial_ways_steps v_inn_house_one v_inn_house_other v_inn_thingIn v_casts_trial_thingIn v_inn_full v_casts_trial_full v_casts_trial_heardBy v_casts_dreams v_casts_trial_dreamOf v_casts_trial_stateOf v_inn_bed v_casts_trial_roomOf v_casts_trial_handOf v_casts_trial_awake v_casts_trial_how v_casts_trial_passed v_inn_states v_inn_house_creak v_inn_listensIn v_inn_house_ways_rooms v_inn_house_ways_steps v_inn_house_cold v_inn_house_falls v_casts_set_rows v_casts_kin)) (As := [.ref h_notes, .int 3]) (rest := []) C (ctX0_gather l E h_casts h_casts_trial h_inn h_casts_dreams h_casts_plain h_casts_set h_casts_tried h_casts_kin h_casts_fitters h_notes h_notes_book h_notes_sort h_notes_one h_notes_other h_casts_plain_rows v_casts_count v_casts_fitting v_notes_count v_notes_book v_notes_sort v_notes_one v_casts_plain_rows v_notes_other v_casts_fitters N 3 r_31 v_casts_fitting_31 v_casts_fitters_31 hc_31) ml_X10_262 ⟨Nat.le_of_ble_eq_true rfl, Nat.le_of_ble_eq_true rfl⟩ hP hD hS 3 rfl rfl rfl [3, 4, 5, 6, 7, 8, 9, 10, 11] rfl rfl rfl rfl rfl hl.1 rfl (Nat.le_of_ble_eq_true rfl) ⟨Nat.zero_le _, Nat.zero_le _⟩ dX10_told_31 ?_
      clear hP hD hS; intro H locs hP hD hS
      refine lv_if_ne (tgt := 44) hx hb dX10_told_34 (by decide) (fun c_34 => ?_) (fun c_34 => ?_)
      · replace hf := it_f c_34 hf
        refine lv_aload_n hx hb dX10_told_44 rfl (lv_at hl 0 rfl) ?_
        refine r_get C hP 0 rfl fl_X10_50 rfl dX10_told_45 ?_
        refine lv_iload_n hx hb dX10_told_48 rfl (lv_at hl 1 rfl) ?_
        refine lv_iload_n hx hb dX10_told_49 rfl (lv_at hl 1 rfl) ?_
        obtain ⟨v_casts_tried_50, v_casts_trial_setting_50, v_casts_trial_been_50, v_casts_trial_ways_rooms_50, v_casts_trial_ways_steps_50, v_casts_trial_thingIn_50, v_casts_trial_full_50, v_casts_trial_heardBy_50, v_casts_trial_dreamOf_50, v_casts_trial_stateOf_50, v_casts_trial_roomOf_50, v_casts_trial_handOf_50, v_casts_trial_awake_50, v_casts_trial_how_50, v_casts_trial_passed_50, v_casts_set_rows_50, v_casts_kin_50, v_casts_plain_rows_50, hc_50, hf⟩ := bd18 hf
        refine r_callVv (ws' := (wX10_told E h h_reader h_inn h_chosen h_night h_marks h_notes h_casts h_inn_house h_inn_thingIn h_inn_full h_inn_states h_inn_bed h_inn_dreamOf h_inn_listensIn h_inn_house_creak h_inn_house_cold h_inn_house_one h_inn_house_other h_inn_house_how h_inn_house_falls h_inn_house_ways h_casts_trial h_casts_dreams h_casts_plain h_casts_set h_casts_tried h_casts_kin h_casts_fitters h_notes_book h_notes_sort h_notes_one h_notes_other h_casts_plain_rows h_casts_trial_ways h_casts_trial_how h_casts_trial_passed h_casts_trial_dreamOf h_casts_trial_stateOf h_casts_trial_roomOf h_casts_trial_handOf h_casts_trial_awake h_casts_trial_thingIn h_casts_trial_full h_casts_trial_heardBy h_casts_trial_ways_steps h_inn_house_ways_steps h_casts_set_rows v_marked v_refusal v_latestFault v_faultPlace v_inn_minutes v_inn_things v_inn_dreams v_inn_sleepers v_inn_listeners v_inn_house_rooms v_inn_house_doors v_casts_count v_casts_fitting_31 v_notes_count v_notes_book v_notes_sort v_notes_one v_casts_plain_rows_50 v_notes_other v_casts_fitters_31 v_casts_tried_50 v_casts_trial_setting_50 v_casts_trial_been_50 v_inn_house_how v_casts_trial_ways_rooms_50 v_casts_trial_ways_steps_50 v_inn_house_one v_inn_house_other v_inn_thingIn v_casts_trial_thingIn_50 v_inn_full v_casts_trial_full_50 v_casts_trial_heardBy_50 v_casts_dreams v_casts_trial_dreamOf_50 v_casts_trial_stateOf_50 v_inn_bed v_casts_trial_roomOf_50 v_casts_trial_handOf_50 v_casts_trial_awake_50 v_casts_trial_how_50 v_casts_trial_passed_50 v_inn_states v_inn_house_creak v_inn_listensIn v_inn_house_ways_rooms v_inn_house_ways_steps v_inn_house_cold v_inn_house_falls v_casts_set_rows_50 v_casts_kin_50)) (As := [.int p0, .int p0]) (rest := []) C (ctX0_tryOuts l E h_casts h_casts_trial h_inn h_casts_dreams h_casts_plain h_casts_set h_casts_tried h_casts_kin h_casts_fitters h_casts_trial_ways h_casts_trial_how h_casts_trial_passed h_casts_trial_dreamOf h_casts_trial_stateOf h_casts_trial_roomOf h_casts_trial_handOf h_casts_trial_awake h_casts_trial_thingIn h_casts_trial_full h_casts_trial_heardBy h_inn_house h_inn_thingIn h_inn_full h_inn_states h_inn_bed h_inn_dreamOf h_inn_listensIn h_inn_house_creak h_inn_house_cold h_inn_house_one h_inn_house_other h_inn_house_how h_inn_house_falls h_inn_house_ways h_casts_trial_ways_steps h_inn_house_ways_steps h_casts_set_rows h_casts_plain_rows v_casts_count v_casts_fitting_31 v_casts_tried v_casts_trial_setting v_casts_trial_been v_inn_minutes v_inn_things v_inn_dreams v_inn_sleepers v_inn_listeners v_inn_house_rooms v_inn_house_doors v_inn_house_how v_casts_trial_ways_rooms v_casts_trial_ways_steps v_inn_house_one v_inn_house_other v_inn_thingIn v_casts_trial_thingIn v_inn_full v_casts_trial_full v_casts_trial_heardBy v_casts_dreams v_casts_trial_dreamOf v_casts_trial_stateOf v_inn_bed v_casts_trial_roomOf v_casts_trial_handOf v_casts_trial_awake v_casts_trial_how v_casts_trial_passed v_inn_states v_inn_house_creak v_inn_listensIn v_inn_house_ways_rooms v_inn_house_ways_steps v_inn_house_cold v_inn_house_falls v_casts_set_rows v_casts_kin v_casts_plain_rows N p0 p0 v_casts_tried_50 v_casts_trial_setting_50 v_casts_trial_been_50 v_casts_trial_ways_rooms_50 v_casts_trial_ways_steps_50 v_casts_trial_thingIn_50 v_casts_trial_full_50 v_casts_trial_heardBy_50 v_casts_trial_dreamOf_50 v_casts_trial_stateOf_50 v_casts_trial_roomOf_50 v_casts_trial_handOf_50 v_casts_trial_awake_50 v_casts_trial_how_50 v_casts_trial_passed_50 v_casts_set_rows_50 v_casts_kin_50 v_casts_plain_rows_50 hc_50) ml_X10_88 ⟨Nat.le_of_ble_eq_true rfl, Nat.le_of_ble_eq_true rfl⟩ hP hD hS 3 rfl rfl rfl [3, 12, 13, 1, 2, 14, 15, 16, 17, 18, 19, 20, 21, 22, 23, 24, 25, 26, 27, 28, 29, 30, 31, 32, 33, 34, 35, 36, 37, 38, 39, 40, 41, 42, 8, 9] rfl rfl rfl rfl rfl hl.1 rfl (Nat.le_of_ble_eq_true rfl) ⟨Nat.zero_le _, Nat.zero_le _⟩ dX10_told_50 ?_
        clear hP hD hS; intro H locs hP hD hS
        refine lv_aload_n hx hb dX10_told_53 rfl (lv_at hl 0 rfl) ?_
        refine r_get C hP 0 rfl fl_X10_50 rfl dX10_told_54 ?_
        refine lv_iload_n hx hb dX10_told_57 rfl (lv_at hl 2 rfl) ?_
        refine lv_iload_n hx hb dX10_told_58 rfl (lv_at hl 2 rfl) ?_
        obtain ⟨v_casts_tried_59, v_casts_trial_setting_59, v_casts_trial_been_59, v_casts_trial_ways_rooms_59, v_casts_trial_ways_steps_59, v_casts_trial_thingIn_59, v_casts_trial_full_59, v_casts_trial_heardBy_59, v_casts_trial_dreamOf_59, v_casts_trial_stateOf_59, v_casts_trial_roomOf_59, v_casts_trial_handOf_59, v_casts_trial_awake_59, v_casts_trial_how_59, v_casts_trial_passed_59, v_casts_set_rows_59, v_casts_kin_59, v_casts_plain_rows_59, hc_59, hf⟩ := bd18 hf
        refine r_callVv (ws' := (wX10_told E h h_reader h_inn h_chosen h_night h_marks h_notes h_casts h_inn_house h_inn_thingIn h_inn_full h_inn_states h_inn_bed h_inn_dreamOf h_inn_listensIn h_inn_house_creak h_inn_house_cold h_inn_house_one h_inn_house_other h_inn_house_how h_inn_house_falls h_inn_house_ways h_casts_trial h_casts_dreams h_casts_plain h_casts_set h_casts_tried h_casts_kin h_casts_fitters h_notes_book h_notes_sort h_notes_one h_notes_other h_casts_plain_rows h_casts_trial_ways h_casts_trial_how h_casts_trial_passed h_casts_trial_dreamOf h_casts_trial_stateOf h_casts_trial_roomOf h_casts_trial_handOf h_casts_trial_awake h_casts_trial_thingIn h_casts_trial_full h_casts_trial_heardBy h_casts_trial_ways_steps h_inn_house_ways_steps h_casts_set_rows v_marked v_refusal v_latestFault v_faultPlace v_inn_minutes v_inn_things v_inn_dreams v_inn_sleepers v_inn_listeners v_inn_house_rooms v_inn_house_doors v_casts_count v_casts_fitting_31 v_notes_count v_notes_book v_notes_sort v_notes_one v_casts_plain_rows_59 v_notes_other v_casts_fitters_31 v_casts_tried_59 v_casts_trial_setting_59 v_casts_trial_been_59 v_inn_house_how v_casts_trial_ways_rooms_59 v_casts_trial_ways_steps_59 v_inn_house_one v_inn_house_other v_inn_thingIn v_casts_trial_thingIn_59 v_inn_full v_casts_trial_full_59 v_casts_trial_heardBy_59 v_casts_dreams v_casts_trial_dreamOf_59 v_casts_trial_stateOf_59 v_inn_bed v_casts_trial_roomOf_59 v_casts_trial_handOf_59 v_casts_trial_awake_59 v_casts_trial_how_59 v_casts_trial_passed_59 v_inn_states v_inn_house_creak v_inn_listensIn v_inn_house_ways_rooms v_inn_house_ways_steps v_inn_house_cold v_inn_house_falls v_casts_set_rows_59 v_casts_kin_59)) (As := [.int p1, .int p1]) (rest := []) C (ctX0_tryOuts l E h_casts h_casts_trial h_inn h_casts_dreams h_casts_plain h_casts_set h_casts_tried h_casts_kin h_casts_fitters h_casts_trial_ways h_casts_trial_how h_casts_trial_passed h_casts_trial_dreamOf h_casts_trial_stateOf h_casts_trial_roomOf h_casts_trial_handOf h_casts_trial_awake h_casts_trial_thingIn h_casts_trial_full h_casts_trial_heardBy h_inn_house h_inn_thingIn h_inn_full h_inn_states h_inn_bed h_inn_dreamOf h_inn_listensIn h_inn_house_creak h_inn_house_cold h_inn_house_one h_inn_house_other h_inn_house_how h_inn_house_falls h_inn_house_ways h_casts_trial_ways_steps h_inn_house_ways_steps h_casts_set_rows h_casts_plain_rows v_casts_count v_casts_fitting_31 v_casts_tried_50 v_casts_trial_setting_50 v_casts_trial_been_50 v_inn_minutes v_inn_things v_inn_dreams v_inn_sleepers v_inn_listeners v_inn_house_rooms v_inn_house_doors v_inn_house_how v_casts_trial_ways_rooms_50 v_casts_trial_ways_steps_50 v_inn_house_one v_inn_house_other v_inn_thingIn v_casts_trial_thingIn_50 v_inn_full v_casts_trial_full_50 v_casts_trial_heardBy_50 v_casts_dreams v_casts_trial_dreamOf_50 v_casts_trial_stateOf_50 v_inn_bed v_casts_trial_roomOf_50 v_casts_trial_handOf_50 v_casts_trial_awake_50 v_casts_trial_how_50 v_casts_trial_passed_50 v_inn_states v_inn_house_creak v_inn_listensIn v_inn_house_ways_rooms v_inn_house_ways_steps v_inn_house_cold v_inn_house_falls v_casts_set_rows_50 v_casts_kin_50 v_casts_plain_rows_50 N p1 p1 v_casts_tried_59 v_casts_trial_setting_59 v_casts_trial_been_59 v_casts_trial_ways_rooms_59 v_casts_trial_ways_steps_59 v_casts_trial_thingIn_59 v_casts_trial_full_59 v_casts_trial_heardBy_59 v_casts_trial_dreamOf_59 v_casts_trial_stateOf_59 v_casts_trial_roomOf_59 v_casts_trial_handOf_59 v_casts_trial_awake_59 v_casts_trial_how_59 v_casts_trial_passed_59 v_casts_set_rows_59 v_casts_kin_59 v_casts_plain_rows_59 hc_59) ml_X10_88 ⟨Nat.le_of_ble_eq_true rfl, Nat.le_of_ble_eq_true rfl⟩ hP hD hS 3 rfl rfl rfl [3, 12, 13, 1, 2, 14, 15, 16, 17, 18, 19, 20, 21, 22, 23, 24, 25, 26, 27, 28, 29, 30, 31, 32, 33, 34, 35, 36, 37, 38, 39, 40, 41, 42, 8, 9] rfl rfl rfl rfl rfl hl.1 rfl (Nat.le_of_ble_eq_true rfl) ⟨Nat.zero_le _, Nat.zero_le _⟩ dX10_told_59 ?_
        clear hP hD hS; intro H locs hP hD hS
        refine lv_aload_n hx hb dX10_told_62 rfl (lv_at hl 0 rfl) ?_
        refine lv_aload_n hx hb dX10_told_63 rfl (lv_at hl 0 rfl) ?_
        refine r_get C hP 0 rfl fl_X10_50 rfl dX10_told_64 ?_
        refine lv_iload_n hx hb dX10_told_67 rfl (lv_at hl 1 rfl) ?_
        refine lv_iload_n hx hb dX10_told_68 rfl (lv_at hl 2 rfl) ?_
        obtain ⟨r_69, hc_69, hf⟩ := bd1 hf
        refine r_callVi (ws' := (wX10_told E h h_reader h_inn h_chosen h_night h_marks h_notes h_casts h_inn_house h_inn_thingIn h_inn_full h_inn_states h_inn_bed h_inn_dreamOf h_inn_listensIn h_inn_house_creak h_inn_house_cold h_inn_house_one h_inn_house_other h_inn_house_how h_inn_house_falls h_inn_house_ways h_casts_trial h_casts_dreams h_casts_plain h_casts_set h_casts_tried h_casts_kin h_casts_fitters h_notes_book h_notes_sort h_notes_one h_notes_other h_casts_plain_rows h_casts_trial_ways h_casts_trial_how h_casts_trial_passed h_casts_trial_dreamOf h_casts_trial_stateOf h_casts_trial_roomOf h_casts_trial_handOf h_casts_trial_awake h_casts_trial_thingIn h_casts_trial_full h_casts_trial_heardBy h_casts_trial_ways_steps h_inn_house_ways_steps h_casts_set_rows v_marked v_refusal v_latestFault v_faultPlace v_inn_minutes v_inn_things v_inn_dreams v_inn_sleepers v_inn_listeners v_inn_house_rooms v_inn_house_doors v_casts_count v_casts_fitting_31 v_notes_count v_notes_book v_notes_sort v_notes_one v_casts_plain_rows_59 v_notes_other v_casts_fitters_31 v_casts_tried_59 v_casts_trial_setting_59 v_casts_trial_been_59 v_inn_house_how v_casts_trial_ways_rooms_59 v_casts_trial_ways_steps_59 v_inn_house_one v_inn_house_other v_inn_thingIn v_casts_trial_thingIn_59 v_inn_full v_casts_trial_full_59 v_casts_trial_heardBy_59 v_casts_dreams v_casts_trial_dreamOf_59 v_casts_trial_stateOf_59 v_inn_bed v_casts_trial_roomOf_59 v_casts_trial_handOf_59 v_casts_trial_awake_59 v_casts_trial_how_59 v_casts_trial_passed_59 v_inn_states v_inn_house_creak v_inn_listensIn v_inn_house_ways_rooms v_inn_house_ways_steps v_inn_house_cold v_inn_house_falls v_casts_set_rows_59 v_casts_kin_59)) (As := [.int p0, .int p1]) (rest := [.ref h]) C (ctX0_mostAlike l E h_casts h_casts_trial h_inn h_casts_dreams h_casts_plain h_casts_set h_casts_tried h_casts_kin h_casts_fitters v_casts_count v_casts_fitting_31 v_casts_fitters_31 v_casts_kin_59 N p0 p1 r_69 hc_69) ml_X10_272 ⟨Nat.le_of_ble_eq_true rfl, Nat.le_of_ble_eq_true rfl⟩ hP hD hS 3 rfl rfl rfl [3, 11, 42] rfl rfl rfl rfl rfl hl.1 rfl (Nat.le_of_ble_eq_true rfl) ⟨Nat.zero_le _, Nat.zero_le _⟩ dX10_told_69 ?_
        clear hP hD hS; intro H locs hP hD hS
        obtain ⟨r_72, v_refusal_72, hc_72, hf⟩ := bd2 hf
        refine r_callVi (ws' := (wX10_told E h h_reader h_inn h_chosen h_night h_marks h_notes h_casts h_inn_house h_inn_thingIn h_inn_full h_inn_states h_inn_bed h_inn_dreamOf h_inn_listensIn h_inn_house_creak h_inn_house_cold h_inn_house_one h_inn_house_other h_inn_house_how h_inn_house_falls h_inn_house_ways h_casts_trial h_casts_dreams h_casts_plain h_casts_set h_casts_tried h_casts_kin h_casts_fitters h_notes_book h_notes_sort h_notes_one h_notes_other h_casts_plain_rows h_casts_trial_ways h_casts_trial_how h_casts_trial_passed h_casts_trial_dreamOf h_casts_trial_stateOf h_casts_trial_roomOf h_casts_trial_handOf h_casts_trial_awake h_casts_trial_thingIn h_casts_trial_full h_casts_trial_heardBy h_casts_trial_ways_steps h_inn_house_ways_steps h_casts_set_rows v_marked v_refusal_72 v_latestFault v_faultPlace v_inn_minutes v_inn_things v_inn_dreams v_inn_sleepers v_inn_listeners v_inn_house_rooms v_inn_house_doors v_casts_count v_casts_fitting_31 v_notes_count v_notes_book v_notes_sort v_notes_one v_casts_plain_rows_59 v_notes_other v_casts_fitters_31 v_casts_tried_59 v_casts_trial_setting_59 v_casts_trial_been_59 v_inn_house_how v_casts_trial_ways_rooms_59 v_casts_trial_ways_steps_59 v_inn_house_one v_inn_house_other v_inn_thingIn v_casts_trial_thingIn_59 v_inn_full v_casts_trial_full_59 v_casts_trial_heardBy_59 v_casts_dreams v_casts_trial_dreamOf_59 v_casts_trial_stateOf_59 v_inn_bed v_casts_trial_roomOf_59 v_casts_trial_handOf_59 v_casts_trial_awake_59 v_casts_trial_how_59 v_casts_trial_passed_59 v_inn_states v_inn_house_creak v_inn_listensIn v_inn_house_ways_rooms v_inn_house_ways_steps v_inn_house_cold v_inn_house_falls v_casts_set_rows_59 v_casts_kin_59)) (As := [.int r_69]) (rest := []) C (ctX10_answer l E h h_reader h_inn h_chosen h_night h_marks h_notes h_casts v_marked v_refusal v_latestFault v_faultPlace N r_69 r_72 v_refusal_72 hc_72) ml_X10_95 ⟨Nat.le_of_ble_eq_true rfl, Nat.le_of_ble_eq_true rfl⟩ hP hD hS 0 rfl rfl rfl [0] rfl rfl rfl rfl rfl hl.1 rfl (Nat.le_of_ble_eq_true rfl) ⟨Nat.zero_le _, Nat.zero_le _⟩ dX10_told_72 ?_
        clear hP hD hS; intro H locs hP hD hS
        cases hf
        rw [hQ]
        exact r_iret C hr hP hD hS rfl dX10_told_75
      · replace hf := it_t c_34 hf
        refine lv_aload_n hx hb dX10_told_37 rfl (lv_at hl 0 rfl) ?_
        refine lv_bipush (v := 6) hx hb dX10_told_38 (by decide) ?_
        obtain ⟨r_40, v_refusal_40, hc_40, hf⟩ := bd2 hf
        refine r_callVi (ws' := (wX10_told E h h_reader h_inn h_chosen h_night h_marks h_notes h_casts h_inn_house h_inn_thingIn h_inn_full h_inn_states h_inn_bed h_inn_dreamOf h_inn_listensIn h_inn_house_creak h_inn_house_cold h_inn_house_one h_inn_house_other h_inn_house_how h_inn_house_falls h_inn_house_ways h_casts_trial h_casts_dreams h_casts_plain h_casts_set h_casts_tried h_casts_kin h_casts_fitters h_notes_book h_notes_sort h_notes_one h_notes_other h_casts_plain_rows h_casts_trial_ways h_casts_trial_how h_casts_trial_passed h_casts_trial_dreamOf h_casts_trial_stateOf h_casts_trial_roomOf h_casts_trial_handOf h_casts_trial_awake h_casts_trial_thingIn h_casts_trial_full h_casts_trial_heardBy h_casts_trial_ways_steps h_inn_house_ways_steps h_casts_set_rows v_marked v_refusal_40 v_latestFault v_faultPlace v_inn_minutes v_inn_things v_inn_dreams v_inn_sleepers v_inn_listeners v_inn_house_rooms v_inn_house_doors v_casts_count v_casts_fitting_31 v_notes_count v_notes_book v_notes_sort v_notes_one v_casts_plain_rows v_notes_other v_casts_fitters_31 v_casts_tried v_casts_trial_setting v_casts_trial_been v_inn_house_how v_casts_trial_ways_rooms v_casts_trial_ways_steps v_inn_house_one v_inn_house_other v_inn_thingIn v_casts_trial_thingIn v_inn_full v_casts_trial_full v_casts_trial_heardBy v_casts_dreams v_casts_trial_dreamOf v_casts_trial_stateOf v_inn_bed v_casts_trial_roomOf v_casts_trial_handOf v_casts_trial_awake v_casts_trial_how v_casts_trial_passed v_inn_states v_inn_house_creak v_inn_listensIn v_inn_house_ways_rooms v_inn_house_ways_steps v_inn_house_cold v_inn_house_falls v_casts_set_rows v_casts_kin)) (As := [.int 6]) (rest := []) C (ctX10_refuse l E h h_reader h_inn h_chosen h_night h_marks h_notes h_casts v_marked v_refusal v_latestFault v_faultPlace N 6 r_40 v_refusal_40 hc_40) ml_X10_68 ⟨Nat.le_of_ble_eq_true rfl, Nat.le_of_ble_eq_true rfl⟩ hP hD hS 0 rfl rfl rfl [0] rfl rfl rfl rfl rfl hl.1 rfl (Nat.le_of_ble_eq_true rfl) ⟨Nat.zero_le _, Nat.zero_le _⟩ dX10_told_40 ?_
        clear hP hD hS; intro H locs hP hD hS
        cases hf
        rw [hQ]
        exact r_iret C hr hP hD hS rfl dX10_told_43
    · replace hf := it_t c_13 hf
      refine lv_aload_n hx hb dX10_told_16 rfl (lv_at hl 0 rfl) ?_
      refine lv_iconst (v := 1) hx hb dX10_told_17 (by decide) ?_
      obtain ⟨r_18, v_refusal_18, hc_18, hf⟩ := bd2 hf
      refine r_callVi (ws' := (wX10_told E h h_reader h_inn h_chosen h_night h_marks h_notes h_casts h_inn_house h_inn_thingIn h_inn_full h_inn_states h_inn_bed h_inn_dreamOf h_inn_listensIn h_inn_house_creak h_inn_house_cold h_inn_house_one h_inn_house_other h_inn_house_how h_inn_house_falls h_inn_house_ways h_casts_trial h_casts_dreams h_casts_plain h_casts_set h_casts_tried h_casts_kin h_casts_fitters h_notes_book h_notes_sort h_notes_one h_notes_other h_casts_plain_rows h_casts_trial_ways h_casts_trial_how h_casts_trial_passed h_casts_trial_dreamOf h_casts_trial_stateOf h_casts_trial_roomOf h_casts_trial_handOf h_casts_trial_awake h_casts_trial_thingIn h_casts_trial_full h_casts_trial_heardBy h_casts_trial_ways_steps h_inn_house_ways_steps h_casts_set_rows v_marked v_refusal_18 v_latestFault v_faultPlace v_inn_minutes v_inn_things v_inn_dreams v_inn_sleepers v_inn_listeners v_inn_house_rooms v_inn_house_doors v_casts_count v_casts_fitting v_notes_count v_notes_book v_notes_sort v_notes_one v_casts_plain_rows v_notes_other v_casts_fitters v_casts_tried v_casts_trial_setting v_casts_trial_been v_inn_house_how v_casts_trial_ways_rooms v_casts_trial_ways_steps v_inn_house_one v_inn_house_other v_inn_thingIn v_casts_trial_thingIn v_inn_full v_casts_trial_full v_casts_trial_heardBy v_casts_dreams v_casts_trial_dreamOf v_casts_trial_stateOf v_inn_bed v_casts_trial_roomOf v_casts_trial_handOf v_casts_trial_awake v_casts_trial_how v_casts_trial_passed v_inn_states v_inn_house_creak v_inn_listensIn v_inn_house_ways_rooms v_inn_house_ways_steps v_inn_house_cold v_inn_house_falls v_casts_set_rows v_casts_kin)) (As := [.int 1]) (rest := []) C (ctX10_refuse l E h h_reader h_inn h_chosen h_night h_marks h_notes h_casts v_marked v_refusal v_latestFault v_faultPlace N 1 r_18 v_refusal_18 hc_18) ml_X10_68 ⟨Nat.le_of_ble_eq_true rfl, Nat.le_of_ble_eq_true rfl⟩ hP hD hS 0 rfl rfl rfl [0] rfl rfl rfl rfl rfl hl.1 rfl (Nat.le_of_ble_eq_true rfl) ⟨Nat.zero_le _, Nat.zero_le _⟩ dX10_told_18 ?_
      clear hP hD hS; intro H locs hP hD hS
      cases hf
      rw [hQ]
      exact r_iret C hr hP hD hS rfl dX10_told_21
def wX0_areAlike (E : EN) (h h_trial h_inn h_dreams h_plain h_set h_tried h_kin h_fitters h_inn_house h_inn_thingIn h_inn_full h_inn_states h_inn_bed h_inn_dreamOf h_inn_listensIn h_inn_house_creak h_inn_house_cold h_inn_house_one h_inn_house_other h_inn_house_how h_inn_house_falls h_inn_house_ways : Nat) (v_count : Int32) (v_fitting : Int32) (v_inn_minutes : Int32) (v_inn_things : Int32) (v_inn_dreams : Int32) (v_inn_sleepers : Int32) (v_inn_listeners : Int32) (v_inn_house_rooms : Int32) (v_inn_house_doors : Int32) (v_fitters : Nat → Int32) (v_kin : Nat → Int32) : va_W := [(h, .inr (0, [.ref h_trial, .ref h_inn, .int v_count, .ref h_dreams, .ref h_plain, .ref h_set, .ref h_tried, .ref h_kin, .int v_fitting, .ref h_fitters])), (h_inn, .inr (2, [.ref h_inn_house, .int v_inn_minutes, .int v_inn_things, .ref h_inn_thingIn, .ref h_inn_full, .int v_inn_dreams, .ref h_inn_states, .int v_inn_sleepers, .ref h_inn_bed, .ref h_inn_dreamOf, .int v_inn_listeners, .ref h_inn_listensIn])), (h_inn_house, .inr (1, [.int v_inn_house_rooms, .ref h_inn_house_creak, .ref h_inn_house_cold, .int v_inn_house_doors, .ref h_inn_house_one, .ref h_inn_house_other, .ref h_inn_house_how, .ref h_inn_house_falls, .ref h_inn_house_ways])), (h_fitters, aI E 64 v_fitters), (h_kin, aI E 1344 v_kin)]
def BX0_areAlike_2 (N : Nat) (v_inn_house_doors : Int32) (p0 : Int32) (p1 : Int32) (v_fitters : Nat → Int32) (v_kin : Nat → Int32) (rec2 : (Int32) → Option Int32) : (Int32) → Option Int32 := un1 fun (x2_3 : Int32) => (fX2_settings N v_inn_house_doors).bind (un1 fun (r_7 : Int32) => if r_7 ≤ x2_3 then (some 1) else ((fX0_areSame N p0 p1 x2_3 v_fitters v_kin).bind (un1 fun (r_17 : Int32) => if r_17 = 0 then (some 0) else (rec2 (x2_3 + 1)))))
def fX0_areAlike (N : Nat) (p0 : Int32) (p1 : Int32) (v_inn_house_doors : Int32) (v_fitters : Nat → Int32) (v_kin : Nat → Int32) : Option Int32 := lp (BX0_areAlike_2 N v_inn_house_doors p0 p1 v_fitters v_kin) N 0
set_option maxHeartbeats 4000000 in
set_option maxRecDepth 100000 in
theorem ctX0_areAlike (l : Launch) (E : EN) (h h_trial h_inn h_dreams h_plain h_set h_tried h_kin h_fitters h_inn_house h_inn_thingIn h_inn_full h_inn_states h_inn_bed h_inn_dreamOf h_inn_listensIn h_inn_house_creak h_inn_house_cold h_inn_house_one h_inn_house_other h_inn_house_how h_inn_house_falls h_inn_house_ways : Nat) (v_count : Int32) (v_fitting : Int32) (v_inn_minutes : Int32) (v_inn_things : Int32) (v_inn_dreams : Int32) (v_inn_sleepers : Int32) (v_inn_listeners : Int32) (v_inn_house_rooms : Int32) (v_inn_house_doors : Int32) (v_fitters : Nat → Int32) (v_kin : Nat → Int32) (N : Nat) (p0 : Int32) (p1 : Int32) (z0 : Int32) (hf : fX0_areAlike N p0 p1 v_inn_house_doors v_fitters v_kin = some z0) : CTi l E yX0_areAlike cX0_areAlike 4 .boolean 1 24 [.ref h, .int p0, .int p1] (wX0_areAlike E h h_trial h_inn h_dreams h_plain h_set h_tried h_kin h_fitters h_inn_house h_inn_thingIn h_inn_full h_inn_states h_inn_bed h_inn_dreamOf h_inn_listensIn h_inn_house_creak h_inn_house_cold h_inn_house_one h_inn_house_other h_inn_house_how h_inn_house_falls h_inn_house_ways v_count v_fitting v_inn_minutes v_inn_things v_inn_dreams v_inn_sleepers v_inn_listeners v_inn_house_rooms v_inn_house_doors v_fitters v_kin) z0 (wX0_areAlike E h h_trial h_inn h_dreams h_plain h_set h_tried h_kin h_fitters h_inn_house h_inn_thingIn h_inn_full h_inn_states h_inn_bed h_inn_dreamOf h_inn_listensIn h_inn_house_creak h_inn_house_cold h_inn_house_one h_inn_house_other h_inn_house_how h_inn_house_falls h_inn_house_ways v_count v_fitting v_inn_minutes v_inn_things v_inn_dreams v_inn_sleepers v_inn_listeners v_inn_house_rooms v_inn_house_doors v_fitters v_kin) := by
  intro sz
  refine ct_body (by decide) (Nat.le_of_ble_eq_true rfl) ?_
  intro p e s m args below meth c A ls hAe C hr hin hP hD hS hl
  have C : CX p s m args meth c cX0_areAlike RX0 4 E A := C
  have hl : lv_has ls 4 [(0, .ref h), (1, .int p0), (2, .int p1)] := hl
  have hx := C.1
  have hb := C.2.1
  rw [hAe]
  clear hAe
  obtain ⟨Q, hQ⟩ : ∃ Q, Q = MQ below (Qi E A z0 (wX0_areAlike E h h_trial h_inn h_dreams h_plain h_set h_tried h_kin h_fitters h_inn_house h_inn_thingIn h_inn_full h_inn_states h_inn_bed h_inn_dreamOf h_inn_listensIn h_inn_house_creak h_inn_house_cold h_inn_house_one h_inn_house_other h_inn_house_how h_inn_house_falls h_inn_house_ways v_count v_fitting v_inn_minutes v_inn_things v_inn_dreams v_inn_sleepers v_inn_listeners v_inn_house_rooms v_inn_house_doors v_fitters v_kin)) args s 0 0 A := ⟨_, rfl⟩
  rw [← hQ]
  unfold fX0_areAlike at hf
  refine lv_iconst (v := 0) hx hb dX0_areAlike_0 (by decide) ?_
  refine lv_istore_n (lv' := [(3, .int 0), (0, .ref h), (1, .int p0), (2, .int p1)]) hx hb dX0_areAlike_1 rfl hl (by decide) rfl (fun ls hl => ?_)
  have key2 : ∀ (n : Nat) (x2_3 : Int32) , lp (BX0_areAlike_2 N v_inn_house_doors p0 p1 v_fitters v_kin) n x2_3 = some z0 → AT p l e (rmOf 1 24) s m args below meth c E A Q 0 0 4 [(0, .ref h), (1, .int p0), (2, .int p1), (3, .int x2_3)] (wX0_areAlike E h h_trial h_inn h_dreams h_plain h_set h_tried h_kin h_fitters h_inn_house h_inn_thingIn h_inn_full h_inn_states h_inn_bed h_inn_dreamOf h_inn_listensIn h_inn_house_creak h_inn_house_cold h_inn_house_one h_inn_house_other h_inn_house_how h_inn_house_falls h_inn_house_ways v_count v_fitting v_inn_minutes v_inn_things v_inn_dreams v_inn_sleepers v_inn_listeners v_inn_house_rooms v_inn_house_doors v_fitters v_kin) 2 [] := by
    intro n
    induction n with
    | zero => intro x2_3 hf; exact (lp_0 hf).elim
    | succ n ih2 =>
      intro x2_3 hf H locs ls hl hP hD hS
      replace hf := lp_s hf
      generalize lp (BX0_areAlike_2 N v_inn_house_doors p0 p1 v_fitters v_kin) n = rec2 at ih2 hf
      unfold BX0_areAlike_2 at hf
      replace hf := un1_s hf
      refine lv_iload_n hx hb dX0_areAlike_2 rfl (lv_at hl 3 rfl) ?_
      refine lv_aload_n hx hb dX0_areAlike_3 rfl (lv_at hl 0 rfl) ?_
      refine r_get C hP 0 rfl fl_X0_35 rfl dX0_areAlike_4 ?_
      obtain ⟨r_7, hc_7, hf⟩ := bd1 hf
      refine r_callVi (ws' := (wX0_areAlike E h h_trial h_inn h_dreams h_plain h_set h_tried h_kin h_fitters h_inn_house h_inn_thingIn h_inn_full h_inn_states h_inn_bed h_inn_dreamOf h_inn_listensIn h_inn_house_creak h_inn_house_cold h_inn_house_one h_inn_house_other h_inn_house_how h_inn_house_falls h_inn_house_ways v_count v_fitting v_inn_minutes v_inn_things v_inn_dreams v_inn_sleepers v_inn_listeners v_inn_house_rooms v_inn_house_doors v_fitters v_kin)) (As := []) (rest := [.int x2_3]) C (ctX2_settings l E h_inn h_inn_house h_inn_thingIn h_inn_full h_inn_states h_inn_bed h_inn_dreamOf h_inn_listensIn h_inn_house_creak h_inn_house_cold h_inn_house_one h_inn_house_other h_inn_house_how h_inn_house_falls h_inn_house_ways v_inn_minutes v_inn_things v_inn_dreams v_inn_sleepers v_inn_listeners v_inn_house_rooms v_inn_house_doors N r_7 hc_7) ml_X0_116 ⟨Nat.le_of_ble_eq_true rfl, Nat.le_of_ble_eq_true rfl⟩ hP hD hS 1 rfl rfl rfl [1, 2] rfl rfl rfl rfl rfl hl.1 rfl (Nat.le_of_ble_eq_true rfl) ⟨Nat.zero_le _, Nat.zero_le _⟩ dX0_areAlike_7 ?_
      clear hP hD hS; intro H locs hP hD hS
      refine lv_icmp_ge (tgt := 31) hx hb dX0_areAlike_10 (by decide) (fun c_10 => ?_) (fun c_10 => ?_)
      · replace hf := it_t c_10 hf
        refine lv_iconst (v := 1) hx hb dX0_areAlike_31 (by decide) ?_
        cases hf
        rw [hQ]
        exact r_zret C hr hP hD hS (Or.inr rfl) rfl dX0_areAlike_32
      · replace hf := it_f c_10 hf
        refine lv_aload_n hx hb dX0_areAlike_13 rfl (lv_at hl 0 rfl) ?_
        refine lv_iload_n hx hb dX0_areAlike_14 rfl (lv_at hl 1 rfl) ?_
        refine lv_iload_n hx hb dX0_areAlike_15 rfl (lv_at hl 2 rfl) ?_
        refine lv_iload_n hx hb dX0_areAlike_16 rfl (lv_at hl 3 rfl) ?_
        obtain ⟨r_17, hc_17, hf⟩ := bd1 hf
        refine r_callVi (ws' := (wX0_areAlike E h h_trial h_inn h_dreams h_plain h_set h_tried h_kin h_fitters h_inn_house h_inn_thingIn h_inn_full h_inn_states h_inn_bed h_inn_dreamOf h_inn_listensIn h_inn_house_creak h_inn_house_cold h_inn_house_one h_inn_house_other h_inn_house_how h_inn_house_falls h_inn_house_ways v_count v_fitting v_inn_minutes v_inn_things v_inn_dreams v_inn_sleepers v_inn_listeners v_inn_house_rooms v_inn_house_doors v_fitters v_kin)) (As := [.int p0, .int p1, .int x2_3]) (rest := []) C (ctX0_areSame l E h h_trial h_inn h_dreams h_plain h_set h_tried h_kin h_fitters v_count v_fitting v_fitters v_kin N p0 p1 x2_3 r_17 hc_17) ml_X0_104 ⟨Nat.le_of_ble_eq_true rfl, Nat.le_of_ble_eq_true rfl⟩ hP hD hS 0 rfl rfl rfl [0, 3, 4] rfl rfl rfl rfl rfl hl.1 rfl (Nat.le_of_ble_eq_true rfl) ⟨Nat.zero_le _, Nat.zero_le _⟩ dX0_areAlike_17 ?_
        clear hP hD hS; intro H locs hP hD hS
        refine lv_if_ne (tgt := 25) hx hb dX0_areAlike_20 (by decide) (fun c_20 => ?_) (fun c_20 => ?_)
        · replace hf := it_f c_20 hf
          refine lv_iinc (v := x2_3 + 1) (lv' := [(3, .int (x2_3 + 1)), (0, .ref h), (1, .int p0), (2, .int p1)]) hx hb dX0_areAlike_25 hl (k := 3) rfl rfl (by decide) rfl (fun ls hl => ?_)
          refine lv_goto (tgt := 2) hx hb dX0_areAlike_28 (by decide) ?_
          exact ih2 (x2_3 + 1) hf _ _ _ (lv_sub hl [1, 2, 3, 0] rfl) hP hD hS
        · replace hf := it_t c_20 hf
          refine lv_iconst (v := 0) hx hb dX0_areAlike_23 (by decide) ?_
          cases hf
          rw [hQ]
          exact r_zret C hr hP hD hS (Or.inl rfl) rfl dX0_areAlike_24
  exact key2 _ 0 hf _ _ _ (lv_sub hl [1, 2, 3, 0] rfl) hP hD hS
def wX10_alike (E : EN) (h h_reader h_inn h_chosen h_night h_marks h_notes h_casts h_casts_trial h_casts_dreams h_casts_plain h_casts_set h_casts_tried h_casts_kin h_casts_fitters h_notes_book h_notes_sort h_notes_one h_notes_other h_casts_plain_rows h_inn_house h_inn_thingIn h_inn_full h_inn_states h_inn_bed h_inn_dreamOf h_inn_listensIn h_inn_house_creak h_inn_house_cold h_inn_house_one h_inn_house_other h_inn_house_how h_inn_house_falls h_inn_house_ways h_casts_trial_ways h_casts_trial_how h_casts_trial_passed h_casts_trial_dreamOf h_casts_trial_stateOf h_casts_trial_roomOf h_casts_trial_handOf h_casts_trial_awake h_casts_trial_thingIn h_casts_trial_full h_casts_trial_heardBy h_casts_trial_ways_steps h_inn_house_ways_steps h_casts_set_rows : Nat) (v_marked : Int32) (v_refusal : Int32) (v_latestFault : Int32) (v_faultPlace : Int32) (v_casts_count : Int32) (v_casts_fitting : Int32) (v_notes_count : Int32) (v_notes_book : Nat → Int32) (v_notes_sort : Nat → Int32) (v_notes_one : Nat → Int32) (v_casts_plain_rows : Nat → Int64) (v_notes_other : Nat → Int32) (v_casts_fitters : Nat → Int32) (v_inn_minutes : Int32) (v_inn_things : Int32) (v_inn_dreams : Int32) (v_inn_sleepers : Int32) (v_inn_listeners : Int32) (v_inn_house_rooms : Int32) (v_inn_house_doors : Int32) (v_casts_tried : Nat → Int32) (v_casts_trial_setting : Int32) (v_casts_trial_been : Int32) (v_inn_house_how : Nat → Int32) (v_casts_trial_ways_rooms : Int32) (v_casts_trial_ways_steps : Nat → Int32) (v_inn_house_one : Nat → Int32) (v_inn_house_other : Nat → Int32) (v_inn_thingIn : Nat → Int32) (v_casts_trial_thingIn : Nat → Int32) (v_inn_full : Nat → Int32) (v_casts_trial_full : Nat → Int32) (v_casts_trial_heardBy : Nat → Int64) (v_casts_dreams : Nat → Int32) (v_casts_trial_dreamOf : Nat → Int32) (v_casts_trial_stateOf : Nat → Int32) (v_inn_bed : Nat → Int32) (v_casts_trial_roomOf : Nat → Int32) (v_casts_trial_handOf : Nat → Int32) (v_casts_trial_awake : Nat → Int32) (v_casts_trial_how : Nat → Int32) (v_casts_trial_passed : Nat → Int32) (v_inn_states : Nat → Int32) (v_inn_house_creak : Nat → Int32) (v_inn_listensIn : Nat → Int32) (v_inn_house_ways_rooms : Int32) (v_inn_house_ways_steps : Nat → Int32) (v_inn_house_cold : Nat → Int32) (v_inn_house_falls : Nat → Int32) (v_casts_set_rows : Nat → Int64) (v_casts_kin : Nat → Int32) : va_W := [(h, .inr (9, [.ref h_reader, .ref h_inn, .ref h_chosen, .ref h_night, .ref h_marks, .int v_marked, .ref h_notes, .ref h_casts, .int v_refusal, .int v_latestFault, .int v_faultPlace])), (h_casts, .inr (0, [.ref h_casts_trial, .ref h_inn, .int v_casts_count, .ref h_casts_dreams, .ref h_casts_plain, .ref h_casts_set, .ref h_casts_tried, .ref h_casts_kin, .int v_casts_fitting, .ref h_casts_fitters])), (h_notes, .inr (5, [.ref h_notes_book, .ref h_notes_sort, .ref h_notes_one, .ref h_notes_other, .int v_notes_count])), (h_notes_book, aI E 20 v_notes_book), (h_notes_sort, aI E 20 v_notes_sort), (h_notes_one, aI E 20 v_notes_one), (h_casts_plain, .inr (3, [.ref h_casts_plain_rows])), (h_casts_plain_rows, aJ E 256 v_casts_plain_rows), (h_notes_other, aI E 20 v_notes_other), (h_casts_fitters, aI E 64 v_casts_fitters), (h_inn, .inr (2, [.ref h_inn_house, .int v_inn_minutes, .int v_inn_things, .ref h_inn_thingIn, .ref h_inn_full, .int v_inn_dreams, .ref h_inn_states, .int v_inn_sleepers, .ref h_inn_bed, .ref h_inn_dreamOf, .int v_inn_listeners, .ref h_inn_listensIn])), (h_inn_house, .inr (1, [.int v_inn_house_rooms, .ref h_inn_house_creak, .ref h_inn_house_cold, .int v_inn_house_doors, .ref h_inn_house_one, .ref h_inn_house_other, .ref h_inn_house_how, .ref h_inn_house_falls, .ref h_inn_house_ways])), (h_casts_tried, aZ E 21 v_casts_tried), (h_casts_trial, .inr (4, [.ref h_inn, .int v_casts_trial_setting, .int v_casts_trial_been, .ref h_casts_trial_ways, .ref h_casts_trial_how, .ref h_casts_trial_passed, .ref h_casts_trial_dreamOf, .ref h_casts_trial_stateOf, .ref h_casts_trial_roomOf, .ref h_casts_trial_handOf, .ref h_casts_trial_awake, .ref h_casts_trial_thingIn, .ref h_casts_trial_full, .ref h_casts_trial_heardBy])), (h_inn_house_how, aI E 10 v_inn_house_how), (h_casts_trial_ways, .inr (8, [.ref h_casts_trial_ways_steps, .int v_casts_trial_ways_rooms])), (h_casts_trial_ways_steps, aI E 64 v_casts_trial_ways_steps), (h_inn_house_one, aI E 10 v_inn_house_one), (h_inn_house_other, aI E 10 v_inn_house_other), (h_inn_thingIn, aI E 4 v_inn_thingIn), (h_casts_trial_thingIn, aI E 4 v_casts_trial_thingIn), (h_inn_full, aZ E 4 v_inn_full), (h_casts_trial_full, aZ E 4 v_casts_trial_full), (h_casts_trial_heardBy, aJ E 3 v_casts_trial_heardBy), (h_casts_dreams, aI E 192 v_casts_dreams), (h_casts_trial_dreamOf, aI E 3 v_casts_trial_dreamOf), (h_casts_trial_stateOf, aI E 3 v_casts_trial_stateOf), (h_inn_bed, aI E 3 v_inn_bed), (h_casts_trial_roomOf, aI E 3 v_casts_trial_roomOf), (h_casts_trial_handOf, aI E 3 v_casts_trial_handOf), (h_casts_trial_awake, aZ E 3 v_casts_trial_awake), (h_casts_trial_how, aI E 10 v_casts_trial_how), (h_casts_trial_passed, aI E 10 v_casts_trial_passed), (h_inn_states, aI E 64 v_inn_states), (h_inn_house_creak, aI E 8 v_inn_house_creak), (h_inn_listensIn, aI E 3 v_inn_listensIn), (h_inn_house_ways, .inr (8, [.ref h_inn_house_ways_steps, .int v_inn_house_ways_rooms])), (h_inn_house_ways_steps, aI E 64 v_inn_house_ways_steps), (h_inn_house_cold, aZ E 8 v_inn_house_cold), (h_inn_house_falls, aZ E 10 v_inn_house_falls), (h_casts_set, .inr (3, [.ref h_casts_set_rows])), (h_casts_set_rows, aJ E 256 v_casts_set_rows), (h_casts_kin, aI E 1344 v_casts_kin)]
def fX10_alike (N : Nat) (p0 : Int32) (p1 : Int32) (v_casts_count : Int32) (v_notes_count : Int32) (v_notes_book : Nat → Int32) (v_notes_sort : Nat → Int32) (v_notes_one : Nat → Int32) (v_casts_plain_rows : Nat → Int64) (v_notes_other : Nat → Int32) (v_casts_fitters : Nat → Int32) (v_inn_minutes : Int32) (v_inn_things : Int32) (v_inn_sleepers : Int32) (v_inn_listeners : Int32) (v_inn_house_rooms : Int32) (v_inn_house_doors : Int32) (v_casts_tried : Nat → Int32) (v_casts_trial_setting : Int32) (v_casts_trial_been : Int32) (v_inn_house_how : Nat → Int32) (v_casts_trial_ways_rooms : Int32) (v_casts_trial_ways_steps : Nat → Int32) (v_inn_house_one : Nat → Int32) (v_inn_house_other : Nat → Int32) (v_inn_thingIn : Nat → Int32) (v_casts_trial_thingIn : Nat → Int32) (v_inn_full : Nat → Int32) (v_casts_trial_full : Nat → Int32) (v_casts_trial_heardBy : Nat → Int64) (v_casts_dreams : Nat → Int32) (v_casts_trial_dreamOf : Nat → Int32) (v_casts_trial_stateOf : Nat → Int32) (v_inn_bed : Nat → Int32) (v_casts_trial_roomOf : Nat → Int32) (v_casts_trial_handOf : Nat → Int32) (v_casts_trial_awake : Nat → Int32) (v_casts_trial_how : Nat → Int32) (v_casts_trial_passed : Nat → Int32) (v_inn_states : Nat → Int32) (v_inn_house_creak : Nat → Int32) (v_inn_listensIn : Nat → Int32) (v_inn_house_ways_steps : Nat → Int32) (v_inn_house_cold : Nat → Int32) (v_inn_house_falls : Nat → Int32) (v_casts_set_rows : Nat → Int64) (v_casts_kin : Nat → Int32) : Option (Int32 × Int32 × Int32 × (Nat → Int64) × (Nat → Int32) × (Nat → Int32) × Int32 × Int32 × Int32 × (Nat → Int32) × (Nat → Int32) × (Nat → Int32) × (Nat → Int64) × (Nat → Int32) × (Nat → Int32) × (Nat → Int32) × (Nat → Int32) × (Nat → Int32) × (Nat → Int32) × (Nat → Int32) × (Nat → Int64) × (Nat → Int32)) := (fX0_gather N 3 v_casts_count v_notes_count v_notes_book v_notes_sort v_notes_one v_casts_plain_rows v_notes_other v_casts_fitters).bind (un3 fun (r_9 : Int32) (v_casts_fitting_9 : Int32) (v_casts_fitters_9 : Nat → Int32) => (fX10_isBelow N p0 r_9).bind (un1 fun (r_15 : Int32) => if r_15 = 0 then ((fX10_refuse N 1).bind (un2 fun (r_36 : Int32) (v_refusal_36 : Int32) => some (r_36, v_refusal_36, v_casts_fitting_9, v_casts_plain_rows, v_casts_fitters_9, v_casts_tried, v_casts_trial_setting, v_casts_trial_been, v_casts_trial_ways_rooms, v_casts_trial_ways_steps, v_casts_trial_thingIn, v_casts_trial_full, v_casts_trial_heardBy, v_casts_trial_dreamOf, v_casts_trial_stateOf, v_casts_trial_roomOf, v_casts_trial_handOf, v_casts_trial_awake, v_casts_trial_how, v_casts_trial_passed, v_casts_set_rows, v_casts_kin))) else ((fX10_isBelow N p1 r_9).bind (un1 fun (r_23 : Int32) => if r_23 = 0 then ((fX10_refuse N 1).bind (un2 fun (r_36 : Int32) (v_refusal_36 : Int32) => some (r_36, v_refusal_36, v_casts_fitting_9, v_casts_plain_rows, v_casts_fitters_9, v_casts_tried, v_casts_trial_setting, v_casts_trial_been, v_casts_trial_ways_rooms, v_casts_trial_ways_steps, v_casts_trial_thingIn, v_casts_trial_full, v_casts_trial_heardBy, v_casts_trial_dreamOf, v_casts_trial_stateOf, v_casts_trial_roomOf, v_casts_trial_handOf, v_casts_trial_awake, v_casts_trial_how, v_casts_trial_passed, v_casts_set_rows, v_casts_kin))) else (if p0 = p1 then ((fX10_refuse N 1).bind (un2 fun (r_36 : Int32) (v_refusal_36 : Int32) => some (r_36, v_refusal_36, v_casts_fitting_9, v_casts_plain_rows, v_casts_fitters_9, v_casts_tried, v_casts_trial_setting, v_casts_trial_been, v_casts_trial_ways_rooms, v_casts_trial_ways_steps, v_casts_trial_thingIn, v_casts_trial_full, v_casts_trial_heardBy, v_casts_trial_dreamOf, v_casts_trial_stateOf, v_casts_trial_roomOf, v_casts_trial_handOf, v_casts_trial_awake, v_casts_trial_how, v_casts_trial_passed, v_casts_set_rows, v_casts_kin))) else ((fX2_settings N v_inn_house_doors).bind (un1 fun (r_49 : Int32) => (fX0_tryOuts N 0 (r_49 - 1) v_casts_count v_casts_tried v_casts_trial_setting v_casts_trial_been v_inn_minutes v_inn_things v_inn_sleepers v_inn_listeners v_inn_house_rooms v_inn_house_doors v_inn_house_how v_casts_trial_ways_rooms v_casts_trial_ways_steps v_inn_house_one v_inn_house_other v_inn_thingIn v_casts_trial_thingIn v_inn_full v_casts_trial_full v_casts_trial_heardBy v_casts_dreams v_casts_trial_dreamOf v_casts_trial_stateOf v_inn_bed v_casts_trial_roomOf v_casts_trial_handOf v_casts_trial_awake v_casts_trial_how v_casts_trial_passed v_inn_states v_inn_house_creak v_inn_listensIn v_inn_house_ways_steps v_inn_house_cold v_inn_house_falls v_casts_set_rows v_casts_kin v_casts_plain_rows).bind (un18 fun (v_casts_tried_54 : Nat → Int32) (v_casts_trial_setting_54 : Int32) (v_casts_trial_been_54 : Int32) (v_casts_trial_ways_rooms_54 : Int32) (v_casts_trial_ways_steps_54 : Nat → Int32) (v_casts_trial_thingIn_54 : Nat → Int32) (v_casts_trial_full_54 : Nat → Int32) (v_casts_trial_heardBy_54 : Nat → Int64) (v_casts_trial_dreamOf_54 : Nat → Int32) (v_casts_trial_stateOf_54 : Nat → Int32) (v_casts_trial_roomOf_54 : Nat → Int32) (v_casts_trial_handOf_54 : Nat → Int32) (v_casts_trial_awake_54 : Nat → Int32) (v_casts_trial_how_54 : Nat → Int32) (v_casts_trial_passed_54 : Nat → Int32) (v_casts_set_rows_54 : Nat → Int64) (v_casts_kin_54 : Nat → Int32) (v_casts_plain_rows_54 : Nat → Int64) => (fX0_areAlike N p0 p1 v_inn_house_doors v_casts_fitters_9 v_casts_kin_54).bind (un1 fun (r_64 : Int32) => (fX10_bit N r_64).bind (un1 fun (r_67 : Int32) => (fX10_answer N r_67).bind (un2 fun (r_70 : Int32) (v_refusal_70 : Int32) => some (r_70, v_refusal_70, v_casts_fitting_9, v_casts_plain_rows_54, v_casts_fitters_9, v_casts_tried_54, v_casts_trial_setting_54, v_casts_trial_been_54, v_casts_trial_ways_rooms_54, v_casts_trial_ways_steps_54, v_casts_trial_thingIn_54, v_casts_trial_full_54, v_casts_trial_heardBy_54, v_casts_trial_dreamOf_54, v_casts_trial_stateOf_54, v_casts_trial_roomOf_54, v_casts_trial_handOf_54, v_casts_trial_awake_54, v_casts_trial_how_54, v_casts_trial_passed_54, v_casts_set_rows_54, v_casts_kin_54))))))))))))
set_option maxHeartbeats 4000000 in
set_option maxRecDepth 100000 in
theorem ctX10_alike (l : Launch) (E : EN) (h h_reader h_inn h_chosen h_night h_marks h_notes h_casts h_casts_trial h_casts_dreams h_casts_plain h_casts_set h_casts_tried h_casts_kin h_casts_fitters h_notes_book h_notes_sort h_notes_one h_notes_other h_casts_plain_rows h_inn_house h_inn_thingIn h_inn_full h_inn_states h_inn_bed h_inn_dreamOf h_inn_listensIn h_inn_house_creak h_inn_house_cold h_inn_house_one h_inn_house_other h_inn_house_how h_inn_house_falls h_inn_house_ways h_casts_trial_ways h_casts_trial_how h_casts_trial_passed h_casts_trial_dreamOf h_casts_trial_stateOf h_casts_trial_roomOf h_casts_trial_handOf h_casts_trial_awake h_casts_trial_thingIn h_casts_trial_full h_casts_trial_heardBy h_casts_trial_ways_steps h_inn_house_ways_steps h_casts_set_rows : Nat) (v_marked : Int32) (v_refusal : Int32) (v_latestFault : Int32) (v_faultPlace : Int32) (v_casts_count : Int32) (v_casts_fitting : Int32) (v_notes_count : Int32) (v_notes_book : Nat → Int32) (v_notes_sort : Nat → Int32) (v_notes_one : Nat → Int32) (v_casts_plain_rows : Nat → Int64) (v_notes_other : Nat → Int32) (v_casts_fitters : Nat → Int32) (v_inn_minutes : Int32) (v_inn_things : Int32) (v_inn_dreams : Int32) (v_inn_sleepers : Int32) (v_inn_listeners : Int32) (v_inn_house_rooms : Int32) (v_inn_house_doors : Int32) (v_casts_tried : Nat → Int32) (v_casts_trial_setting : Int32) (v_casts_trial_been : Int32) (v_inn_house_how : Nat → Int32) (v_casts_trial_ways_rooms : Int32) (v_casts_trial_ways_steps : Nat → Int32) (v_inn_house_one : Nat → Int32) (v_inn_house_other : Nat → Int32) (v_inn_thingIn : Nat → Int32) (v_casts_trial_thingIn : Nat → Int32) (v_inn_full : Nat → Int32) (v_casts_trial_full : Nat → Int32) (v_casts_trial_heardBy : Nat → Int64) (v_casts_dreams : Nat → Int32) (v_casts_trial_dreamOf : Nat → Int32) (v_casts_trial_stateOf : Nat → Int32) (v_inn_bed : Nat → Int32) (v_casts_trial_roomOf : Nat → Int32) (v_casts_trial_handOf : Nat → Int32) (v_casts_trial_awake : Nat → Int32) (v_casts_trial_how : Nat → Int32) (v_casts_trial_passed : Nat → Int32) (v_inn_states : Nat → Int32) (v_inn_house_creak : Nat → Int32) (v_inn_listensIn : Nat → Int32) (v_inn_house_ways_rooms : Int32) (v_inn_house_ways_steps : Nat → Int32) (v_inn_house_cold : Nat → Int32) (v_inn_house_falls : Nat → Int32) (v_casts_set_rows : Nat → Int64) (v_casts_kin : Nat → Int32) (N : Nat) (p0 : Int32) (p1 : Int32) (z0 : Int32) (z1 : Int32) (z2 : Int32) (z3 : Nat → Int64) (z4 : Nat → Int32) (z5 : Nat → Int32) (z6 : Int32) (z7 : Int32) (z8 : Int32) (z9 : Nat → Int32) (z10 : Nat → Int32) (z11 : Nat → Int32) (z12 : Nat → Int64) (z13 : Nat → Int32) (z14 : Nat → Int32) (z15 : Nat → Int32) (z16 : Nat → Int32) (z17 : Nat → Int32) (z18 : Nat → Int32) (z19 : Nat → Int32) (z20 : Nat → Int64) (z21 : Nat → Int32) (hf : fX10_alike N p0 p1 v_casts_count v_notes_count v_notes_book v_notes_sort v_notes_one v_casts_plain_rows v_notes_other v_casts_fitters v_inn_minutes v_inn_things v_inn_sleepers v_inn_listeners v_inn_house_rooms v_inn_house_doors v_casts_tried v_casts_trial_setting v_casts_trial_been v_inn_house_how v_casts_trial_ways_rooms v_casts_trial_ways_steps v_inn_house_one v_inn_house_other v_inn_thingIn v_casts_trial_thingIn v_inn_full v_casts_trial_full v_casts_trial_heardBy v_casts_dreams v_casts_trial_dreamOf v_casts_trial_stateOf v_inn_bed v_casts_trial_roomOf v_casts_trial_handOf v_casts_trial_awake v_casts_trial_how v_casts_trial_passed v_inn_states v_inn_house_creak v_inn_listensIn v_inn_house_ways_steps v_inn_house_cold v_inn_house_falls v_casts_set_rows v_casts_kin = some (z0, z1, z2, z3, z4, z5, z6, z7, z8, z9, z10, z11, z12, z13, z14, z15, z16, z17, z18, z19, z20, z21)) : CTi l E yX10_alike cX10_alike 4 .int 6 144 [.ref h, .int p0, .int p1] (wX10_alike E h h_reader h_inn h_chosen h_night h_marks h_notes h_casts h_casts_trial h_casts_dreams h_casts_plain h_casts_set h_casts_tried h_casts_kin h_casts_fitters h_notes_book h_notes_sort h_notes_one h_notes_other h_casts_plain_rows h_inn_house h_inn_thingIn h_inn_full h_inn_states h_inn_bed h_inn_dreamOf h_inn_listensIn h_inn_house_creak h_inn_house_cold h_inn_house_one h_inn_house_other h_inn_house_how h_inn_house_falls h_inn_house_ways h_casts_trial_ways h_casts_trial_how h_casts_trial_passed h_casts_trial_dreamOf h_casts_trial_stateOf h_casts_trial_roomOf h_casts_trial_handOf h_casts_trial_awake h_casts_trial_thingIn h_casts_trial_full h_casts_trial_heardBy h_casts_trial_ways_steps h_inn_house_ways_steps h_casts_set_rows v_marked v_refusal v_latestFault v_faultPlace v_casts_count v_casts_fitting v_notes_count v_notes_book v_notes_sort v_notes_one v_casts_plain_rows v_notes_other v_casts_fitters v_inn_minutes v_inn_things v_inn_dreams v_inn_sleepers v_inn_listeners v_inn_house_rooms v_inn_house_doors v_casts_tried v_casts_trial_setting v_casts_trial_been v_inn_house_how v_casts_trial_ways_rooms v_casts_trial_ways_steps v_inn_house_one v_inn_house_other v_inn_thingIn v_casts_trial_thingIn v_inn_full v_casts_trial_full v_casts_trial_heardBy v_casts_dreams v_casts_trial_dreamOf v_casts_trial_stateOf v_inn_bed v_casts_trial_roomOf v_casts_trial_handOf v_casts_trial_awake v_casts_trial_how v_casts_trial_passed v_inn_states v_inn_house_creak v_inn_listensIn v_inn_house_ways_rooms v_inn_house_ways_steps v_inn_house_cold v_inn_house_falls v_casts_set_rows v_casts_kin) z0 (wX10_alike E h h_reader h_inn h_chosen h_night h_marks h_notes h_casts h_casts_trial h_casts_dreams h_casts_plain h_casts_set h_casts_tried h_casts_kin h_casts_fitters h_notes_book h_notes_sort h_notes_one h_notes_other h_casts_plain_rows h_inn_house h_inn_thingIn h_inn_full h_inn_states h_inn_bed h_inn_dreamOf h_inn_listensIn h_inn_house_creak h_inn_house_cold h_inn_house_one h_inn_house_other h_inn_house_how h_inn_house_falls h_inn_house_ways h_casts_trial_ways h_casts_trial_how h_casts_trial_passed h_casts_trial_dreamOf h_casts_trial_stateOf h_casts_trial_roomOf h_casts_trial_handOf h_casts_trial_awake h_casts_trial_thingIn h_casts_trial_full h_casts_trial_heardBy h_casts_trial_ways_steps h_inn_house_ways_steps h_casts_set_rows v_marked z1 v_latestFault v_faultPlace v_casts_count z2 v_notes_count v_notes_book v_notes_sort v_notes_one z3 v_notes_other z4 v_inn_minutes v_inn_things v_inn_dreams v_inn_sleepers v_inn_listeners v_inn_house_rooms v_inn_house_doors z5 z6 z7 v_inn_house_how z8 z9 v_inn_house_one v_inn_house_other v_inn_thingIn z10 v_inn_full z11 z12 v_casts_dreams z13 z14 v_inn_bed z15 z16 z17 z18 z19 v_inn_states v_inn_house_creak v_inn_listensIn v_inn_house_ways_rooms v_inn_house_ways_steps v_inn_house_cold v_inn_house_falls z20 z21) := by
  intro sz
  refine ct_body (by decide) (Nat.le_of_ble_eq_true rfl) ?_
  intro p e s m args below meth c A ls hAe C hr hin hP hD hS hl
  have C : CX p s m args meth c cX10_alike RX10 4 E A := C
  have hl : lv_has ls 4 [(0, .ref h), (1, .int p0), (2, .int p1)] := hl
  have hx := C.1
  have hb := C.2.1
  rw [hAe]
  clear hAe
  obtain ⟨Q, hQ⟩ : ∃ Q, Q = MQ below (Qi E A z0 (wX10_alike E h h_reader h_inn h_chosen h_night h_marks h_notes h_casts h_casts_trial h_casts_dreams h_casts_plain h_casts_set h_casts_tried h_casts_kin h_casts_fitters h_notes_book h_notes_sort h_notes_one h_notes_other h_casts_plain_rows h_inn_house h_inn_thingIn h_inn_full h_inn_states h_inn_bed h_inn_dreamOf h_inn_listensIn h_inn_house_creak h_inn_house_cold h_inn_house_one h_inn_house_other h_inn_house_how h_inn_house_falls h_inn_house_ways h_casts_trial_ways h_casts_trial_how h_casts_trial_passed h_casts_trial_dreamOf h_casts_trial_stateOf h_casts_trial_roomOf h_casts_trial_handOf h_casts_trial_awake h_casts_trial_thingIn h_casts_trial_full h_casts_trial_heardBy h_casts_trial_ways_steps h_inn_house_ways_steps h_casts_set_rows v_marked z1 v_latestFault v_faultPlace v_casts_count z2 v_notes_count v_notes_book v_notes_sort v_notes_one z3 v_notes_other z4 v_inn_minutes v_inn_things v_inn_dreams v_inn_sleepers v_inn_listeners v_inn_house_rooms v_inn_house_doors z5 z6 z7 v_inn_house_how z8 z9 v_inn_house_one v_inn_house_other v_inn_thingIn z10 v_inn_full z11 z12 v_casts_dreams z13 z14 v_inn_bed z15 z16 z17 z18 z19 v_inn_states v_inn_house_creak v_inn_listensIn v_inn_house_ways_rooms v_inn_house_ways_steps v_inn_house_cold v_inn_house_falls z20 z21)) args s 0 0 A := ⟨_, rfl⟩
  rw [← hQ]
  unfold fX10_alike at hf
  refine lv_aload_n hx hb dX10_alike_0 rfl (lv_at hl 0 rfl) ?_
  refine r_get C hP 0 rfl fl_X10_50 rfl dX10_alike_1 ?_
  refine lv_aload_n hx hb dX10_alike_4 rfl (lv_at hl 0 rfl) ?_
  refine r_get C hP 0 rfl fl_X10_43 rfl dX10_alike_5 ?_
  refine lv_iconst (v := 3) hx hb dX10_alike_8 (by decide) ?_
  obtain ⟨r_9, v_casts_fitting_9, v_casts_fitters_9, hc_9, hf⟩ := bd3 hf
  refine r_callVi (ws' := (wX10_alike E h h_reader h_inn h_chosen h_night h_marks h_notes h_casts h_casts_trial h_casts_dreams h_casts_plain h_casts_set h_casts_tried h_casts_kin h_casts_fitters h_notes_book h_notes_sort h_notes_one h_notes_other h_casts_plain_rows h_inn_house h_inn_thingIn h_inn_full h_inn_states h_inn_bed h_inn_dreamOf h_inn_listensIn h_inn_house_creak h_inn_house_cold h_inn_house_one h_inn_house_other h_inn_house_how h_inn_house_falls h_inn_house_ways h_casts_trial_ways h_casts_trial_how h_casts_trial_passed h_casts_trial_dreamOf h_casts_trial_stateOf h_casts_trial_roomOf h_casts_trial_handOf h_casts_trial_awake h_casts_trial_thingIn h_casts_trial_full h_casts_trial_heardBy h_casts_trial_ways_steps h_inn_house_ways_steps h_casts_set_rows v_marked v_refusal v_latestFault v_faultPlace v_casts_count v_casts_fitting_9 v_notes_count v_notes_book v_notes_sort v_notes_one v_casts_plain_rows v_notes_other v_casts_fitters_9 v_inn_minutes v_inn_things v_inn_dreams v_inn_sleepers v_inn_listeners v_inn_house_rooms v_inn_house_doors v_casts_tried v_casts_trial_setting v_casts_trial_been v_inn_house_how v_casts_trial_ways_rooms v_casts_trial_ways_steps v_inn_house_one v_inn_house_other v_inn_thingIn v_casts_trial_thingIn v_inn_full v_casts_trial_full v_casts_trial_heardBy v_casts_dreams v_casts_trial_dreamOf v_casts_trial_stateOf v_inn_bed v_casts_trial_roomOf v_casts_trial_handOf v_casts_trial_awake v_casts_trial_how v_casts_trial_passed v_inn_states v_inn_house_creak v_inn_listensIn v_inn_house_ways_rooms v_inn_house_ways_steps v_inn_house_cold v_inn_house_falls v_casts_set_rows v_casts_kin)) (As := [.ref h_notes, .int 3]) (rest := []) C (ctX0_gather l E h_casts h_casts_trial h_inn h_casts_dreams h_casts_plain h_casts_set h_casts_tried h_casts_kin h_casts_fitters h_notes h_notes_book h_notes_sort h_notes_one h_notes_other h_casts_plain_rows v_casts_count v_casts_fitting v_notes_count v_notes_book v_notes_sort v_notes_one v_casts_plain_rows v_notes_other v_casts_fitters N 3 r_9 v_casts_fitting_9 v_casts_fitters_9 hc_9) ml_X10_262 ⟨Nat.le_of_ble_eq_true rfl, Nat.le_of_ble_eq_true rfl⟩ hP hD hS 1 rfl rfl rfl [1, 2, 3, 4, 5, 6, 7, 8, 9] rfl rfl rfl rfl rfl hl.1 rfl (Nat.le_of_ble_eq_true rfl) ⟨Nat.zero_le _, Nat.zero_le _⟩ dX10_alike_9 ?_
  clear hP hD hS; intro H locs hP hD hS
  refine lv_istore_n (lv' := [(3, .int r_9), (0, .ref h), (1, .int p0), (2, .int p1)]) hx hb dX10_alike_12 rfl hl (by decide) rfl (fun ls hl => ?_)
  refine lv_iload_n hx hb dX10_alike_13 rfl (lv_at hl 2 rfl) ?_
  refine lv_iload_n hx hb dX10_alike_14 rfl (lv_at hl 0 rfl) ?_
  obtain ⟨r_15, hc_15, hf⟩ := bd1 hf
  refine r_callSi (ws' := (wX10_alike E h h_reader h_inn h_chosen h_night h_marks h_notes h_casts h_casts_trial h_casts_dreams h_casts_plain h_casts_set h_casts_tried h_casts_kin h_casts_fitters h_notes_book h_notes_sort h_notes_one h_notes_other h_casts_plain_rows h_inn_house h_inn_thingIn h_inn_full h_inn_states h_inn_bed h_inn_dreamOf h_inn_listensIn h_inn_house_creak h_inn_house_cold h_inn_house_one h_inn_house_other h_inn_house_how h_inn_house_falls h_inn_house_ways h_casts_trial_ways h_casts_trial_how h_casts_trial_passed h_casts_trial_dreamOf h_casts_trial_stateOf h_casts_trial_roomOf h_casts_trial_handOf h_casts_trial_awake h_casts_trial_thingIn h_casts_trial_full h_casts_trial_heardBy h_casts_trial_ways_steps h_inn_house_ways_steps h_casts_set_rows v_marked v_refusal v_latestFault v_faultPlace v_casts_count v_casts_fitting_9 v_notes_count v_notes_book v_notes_sort v_notes_one v_casts_plain_rows v_notes_other v_casts_fitters_9 v_inn_minutes v_inn_things v_inn_dreams v_inn_sleepers v_inn_listeners v_inn_house_rooms v_inn_house_doors v_casts_tried v_casts_trial_setting v_casts_trial_been v_inn_house_how v_casts_trial_ways_rooms v_casts_trial_ways_steps v_inn_house_one v_inn_house_other v_inn_thingIn v_casts_trial_thingIn v_inn_full v_casts_trial_full v_casts_trial_heardBy v_casts_dreams v_casts_trial_dreamOf v_casts_trial_stateOf v_inn_bed v_casts_trial_roomOf v_casts_trial_handOf v_casts_trial_awake v_casts_trial_how v_casts_trial_passed v_inn_states v_inn_house_creak v_inn_listensIn v_inn_house_ways_rooms v_inn_house_ways_steps v_inn_house_cold v_inn_house_falls v_casts_set_rows v_casts_kin)) (As := [.int p0, .int r_9]) (rest := []) C (ctX10_isBelow l E N p0 r_9 r_15 hc_15) ml_X10_121 ⟨Nat.le_of_ble_eq_true rfl, Nat.le_of_ble_eq_true rfl⟩ hP hD hS [] rfl rfl rfl rfl rfl hl.1 rfl (Nat.le_of_ble_eq_true rfl) ⟨Nat.zero_le _, Nat.zero_le _⟩ dX10_alike_15 ?_
  clear hP hD hS; intro H locs hP hD hS
  refine lv_if_eq (tgt := 34) hx hb dX10_alike_18 (by decide) (fun c_18 => ?_) (fun c_18 => ?_)
  · replace hf := it_t c_18 hf
    refine lv_aload_n hx hb dX10_alike_34 rfl (lv_at hl 1 rfl) ?_
    refine lv_iconst (v := 1) hx hb dX10_alike_35 (by decide) ?_
    obtain ⟨r_36, v_refusal_36, hc_36, hf⟩ := bd2 hf
    refine r_callVi (ws' := (wX10_alike E h h_reader h_inn h_chosen h_night h_marks h_notes h_casts h_casts_trial h_casts_dreams h_casts_plain h_casts_set h_casts_tried h_casts_kin h_casts_fitters h_notes_book h_notes_sort h_notes_one h_notes_other h_casts_plain_rows h_inn_house h_inn_thingIn h_inn_full h_inn_states h_inn_bed h_inn_dreamOf h_inn_listensIn h_inn_house_creak h_inn_house_cold h_inn_house_one h_inn_house_other h_inn_house_how h_inn_house_falls h_inn_house_ways h_casts_trial_ways h_casts_trial_how h_casts_trial_passed h_casts_trial_dreamOf h_casts_trial_stateOf h_casts_trial_roomOf h_casts_trial_handOf h_casts_trial_awake h_casts_trial_thingIn h_casts_trial_full h_casts_trial_heardBy h_casts_trial_ways_steps h_inn_house_ways_steps h_casts_set_rows v_marked v_refusal_36 v_latestFault v_faultPlace v_casts_count v_casts_fitting_9 v_notes_count v_notes_book v_notes_sort v_notes_one v_casts_plain_rows v_notes_other v_casts_fitters_9 v_inn_minutes v_inn_things v_inn_dreams v_inn_sleepers v_inn_listeners v_inn_house_rooms v_inn_house_doors v_casts_tried v_casts_trial_setting v_casts_trial_been v_inn_house_how v_casts_trial_ways_rooms v_casts_trial_ways_steps v_inn_house_one v_inn_house_other v_inn_thingIn v_casts_trial_thingIn v_inn_full v_casts_trial_full v_casts_trial_heardBy v_casts_dreams v_casts_trial_dreamOf v_casts_trial_stateOf v_inn_bed v_casts_trial_roomOf v_casts_trial_handOf v_casts_trial_awake v_casts_trial_how v_casts_trial_passed v_inn_states v_inn_house_creak v_inn_listensIn v_inn_house_ways_rooms v_inn_house_ways_steps v_inn_house_cold v_inn_house_falls v_casts_set_rows v_casts_kin)) (As := [.int 1]) (rest := []) C (ctX10_refuse l E h h_reader h_inn h_chosen h_night h_marks h_notes h_casts v_marked v_refusal v_latestFault v_faultPlace N 1 r_36 v_refusal_36 hc_36) ml_X10_68 ⟨Nat.le_of_ble_eq_true rfl, Nat.le_of_ble_eq_true rfl⟩ hP hD hS 0 rfl rfl rfl [0] rfl rfl rfl rfl rfl hl.1 rfl (Nat.le_of_ble_eq_true rfl) ⟨Nat.zero_le _, Nat.zero_le _⟩ dX10_alike_36 ?_
    clear hP hD hS; intro H locs hP hD hS
    cases hf
    rw [hQ]
    exact r_iret C hr hP hD hS rfl dX10_alike_39
  · replace hf := it_f c_18 hf
    refine lv_iload_n hx hb dX10_alike_21 rfl (lv_at hl 3 rfl) ?_
    refine lv_iload_n hx hb dX10_alike_22 rfl (lv_at hl 0 rfl) ?_
    obtain ⟨r_23, hc_23, hf⟩ := bd1 hf
    refine r_callSi (ws' := (wX10_alike E h h_reader h_inn h_chosen h_night h_marks h_notes h_casts h_casts_trial h_casts_dreams h_casts_plain h_casts_set h_casts_tried h_casts_kin h_casts_fitters h_notes_book h_notes_sort h_notes_one h_notes_other h_casts_plain_rows h_inn_house h_inn_thingIn h_inn_full h_inn_states h_inn_bed h_inn_dreamOf h_inn_listensIn h_inn_house_creak h_inn_house_cold h_inn_house_one h_inn_house_other h_inn_house_how h_inn_house_falls h_inn_house_ways h_casts_trial_ways h_casts_trial_how h_casts_trial_passed h_casts_trial_dreamOf h_casts_trial_stateOf h_casts_trial_roomOf h_casts_trial_handOf h_casts_trial_awake h_casts_trial_thingIn h_casts_trial_full h_casts_trial_heardBy h_casts_trial_ways_steps h_inn_house_ways_steps h_casts_set_rows v_marked v_refusal v_latestFault v_faultPlace v_casts_count v_casts_fitting_9 v_notes_count v_notes_book v_notes_sort v_notes_one v_casts_plain_rows v_notes_other v_casts_fitters_9 v_inn_minutes v_inn_things v_inn_dreams v_inn_sleepers v_inn_listeners v_inn_house_rooms v_inn_house_doors v_casts_tried v_casts_trial_setting v_casts_trial_been v_inn_house_how v_casts_trial_ways_rooms v_casts_trial_ways_steps v_inn_house_one v_inn_house_other v_inn_thingIn v_casts_trial_thingIn v_inn_full v_casts_trial_full v_casts_trial_heardBy v_casts_dreams v_casts_trial_dreamOf v_casts_trial_stateOf v_inn_bed v_casts_trial_roomOf v_casts_trial_handOf v_casts_trial_awake v_casts_trial_how v_casts_trial_passed v_inn_states v_inn_house_creak v_inn_listensIn v_inn_house_ways_rooms v_inn_house_ways_steps v_inn_house_cold v_inn_house_falls v_casts_set_rows v_casts_kin)) (As := [.int p1, .int r_9]) (rest := []) C (ctX10_isBelow l E N p1 r_9 r_23 hc_23) ml_X10_121 ⟨Nat.le_of_ble_eq_true rfl, Nat.le_of_ble_eq_true rfl⟩ hP hD hS [] rfl rfl rfl rfl rfl hl.1 rfl (Nat.le_of_ble_eq_true rfl) ⟨Nat.zero_le _, Nat.zero_le _⟩ dX10_alike_23 ?_
    clear hP hD hS; intro H locs hP hD hS
    refine lv_if_eq (tgt := 34) hx hb dX10_alike_26 (by decide) (fun c_26 => ?_) (fun c_26 => ?_)
    · replace hf := it_t c_26 hf
      refine lv_aload_n hx hb dX10_alike_34 rfl (lv_at hl 1 rfl) ?_
      refine lv_iconst (v := 1) hx hb dX10_alike_35 (by decide) ?_
      obtain ⟨r_36, v_refusal_36, hc_36, hf⟩ := bd2 hf
      refine r_callVi (ws' := (wX10_alike E h h_reader h_inn h_chosen h_night h_marks h_notes h_casts h_casts_trial h_casts_dreams h_casts_plain h_casts_set h_casts_tried h_casts_kin h_casts_fitters h_notes_book h_notes_sort h_notes_one h_notes_other h_casts_plain_rows h_inn_house h_inn_thingIn h_inn_full h_inn_states h_inn_bed h_inn_dreamOf h_inn_listensIn h_inn_house_creak h_inn_house_cold h_inn_house_one h_inn_house_other h_inn_house_how h_inn_house_falls h_inn_house_ways h_casts_trial_ways h_casts_trial_how h_casts_trial_passed h_casts_trial_dreamOf h_casts_trial_stateOf h_casts_trial_roomOf h_casts_trial_handOf h_casts_trial_awake h_casts_trial_thingIn h_casts_trial_full h_casts_trial_heardBy h_casts_trial_ways_steps h_inn_house_ways_steps h_casts_set_rows v_marked v_refusal_36 v_latestFault v_faultPlace v_casts_count v_casts_fitting_9 v_notes_count v_notes_book v_notes_sort v_notes_one v_casts_plain_rows v_notes_other v_casts_fitters_9 v_inn_minutes v_inn_things v_inn_dreams v_inn_sleepers v_inn_listeners v_inn_house_rooms v_inn_house_doors v_casts_tried v_casts_trial_setting v_casts_trial_been v_inn_house_how v_casts_trial_ways_rooms v_casts_trial_ways_steps v_inn_house_one v_inn_house_other v_inn_thingIn v_casts_trial_thingIn v_inn_full v_casts_trial_full v_casts_trial_heardBy v_casts_dreams v_casts_trial_dreamOf v_casts_trial_stateOf v_inn_bed v_casts_trial_roomOf v_casts_trial_handOf v_casts_trial_awake v_casts_trial_how v_casts_trial_passed v_inn_states v_inn_house_creak v_inn_listensIn v_inn_house_ways_rooms v_inn_house_ways_steps v_inn_house_cold v_inn_house_falls v_casts_set_rows v_casts_kin)) (As := [.int 1]) (rest := []) C (ctX10_refuse l E h h_reader h_inn h_chosen h_night h_marks h_notes h_casts v_marked v_refusal v_latestFault v_faultPlace N 1 r_36 v_refusal_36 hc_36) ml_X10_68 ⟨Nat.le_of_ble_eq_true rfl, Nat.le_of_ble_eq_true rfl⟩ hP hD hS 0 rfl rfl rfl [0] rfl rfl rfl rfl rfl hl.1 rfl (Nat.le_of_ble_eq_true rfl) ⟨Nat.zero_le _, Nat.zero_le _⟩ dX10_alike_36 ?_
      clear hP hD hS; intro H locs hP hD hS
      cases hf
      rw [hQ]
      exact r_iret C hr hP hD hS rfl dX10_alike_39
    · replace hf := it_f c_26 hf
      refine lv_iload_n hx hb dX10_alike_29 rfl (lv_at hl 2 rfl) ?_
      refine lv_iload_n hx hb dX10_alike_30 rfl (lv_at hl 3 rfl) ?_
      refine lv_icmp_ne (tgt := 40) hx hb dX10_alike_31 (by decide) (fun c_31 => ?_) (fun c_31 => ?_)
      · replace hf := it_f c_31 hf
        refine lv_aload_n hx hb dX10_alike_40 rfl (lv_at hl 1 rfl) ?_
        refine r_get C hP 0 rfl fl_X10_50 rfl dX10_alike_41 ?_
        refine lv_iconst (v := 0) hx hb dX10_alike_44 (by decide) ?_
        refine lv_aload_n hx hb dX10_alike_45 rfl (lv_at hl 1 rfl) ?_
        refine r_get C hP 0 rfl fl_X10_19 rfl dX10_alike_46 ?_
        obtain ⟨r_49, hc_49, hf⟩ := bd1 hf
        refine r_callVi (ws' := (wX10_alike E h h_reader h_inn h_chosen h_night h_marks h_notes h_casts h_casts_trial h_casts_dreams h_casts_plain h_casts_set h_casts_tried h_casts_kin h_casts_fitters h_notes_book h_notes_sort h_notes_one h_notes_other h_casts_plain_rows h_inn_house h_inn_thingIn h_inn_full h_inn_states h_inn_bed h_inn_dreamOf h_inn_listensIn h_inn_house_creak h_inn_house_cold h_inn_house_one h_inn_house_other h_inn_house_how h_inn_house_falls h_inn_house_ways h_casts_trial_ways h_casts_trial_how h_casts_trial_passed h_casts_trial_dreamOf h_casts_trial_stateOf h_casts_trial_roomOf h_casts_trial_handOf h_casts_trial_awake h_casts_trial_thingIn h_casts_trial_full h_casts_trial_heardBy h_casts_trial_ways_steps h_inn_house_ways_steps h_casts_set_rows v_marked v_refusal v_latestFault v_faultPlace v_casts_count v_casts_fitting_9 v_notes_count v_notes_book v_notes_sort v_notes_one v_casts_plain_rows v_notes_other v_casts_fitters_9 v_inn_minutes v_inn_things v_inn_dreams v_inn_sleepers v_inn_listeners v_inn_house_rooms v_inn_house_doors v_casts_tried v_casts_trial_setting v_casts_trial_been v_inn_house_how v_casts_trial_ways_rooms v_casts_trial_ways_steps v_inn_house_one v_inn_house_other v_inn_thingIn v_casts_trial_thingIn v_inn_full v_casts_trial_full v_casts_trial_heardBy v_casts_dreams v_casts_trial_dreamOf v_casts_trial_stateOf v_inn_bed v_casts_trial_roomOf v_casts_trial_handOf v_casts_trial_awake v_casts_trial_how v_casts_trial_passed v_inn_states v_inn_house_creak v_inn_listensIn v_inn_house_ways_rooms v_inn_house_ways_steps v_inn_house_cold v_inn_house_falls v_casts_set_rows v_casts_kin)) (As := []) (rest := [.int 0, .ref h_casts]) C (ctX2_settings l E h_inn h_inn_house h_inn_thingIn h_inn_full h_inn_states h_inn_bed h_inn_dreamOf h_inn_listensIn h_inn_house_creak h_inn_house_cold h_inn_house_one h_inn_house_other h_inn_house_how h_inn_house_falls h_inn_house_ways v_inn_minutes v_inn_things v_inn_dreams v_inn_sleepers v_inn_listeners v_inn_house_rooms v_inn_house_doors N r_49 hc_49) ml_X10_275 ⟨Nat.le_of_ble_eq_true rfl, Nat.le_of_ble_eq_true rfl⟩ hP hD hS 10 rfl rfl rfl [10, 11] rfl rfl rfl rfl rfl hl.1 rfl (Nat.le_of_ble_eq_true rfl) ⟨Nat.zero_le _, Nat.zero_le _⟩ dX10_alike_49 ?_
        clear hP hD hS; intro H locs hP hD hS
        refine lv_iconst (v := 1) hx hb dX10_alike_52 (by decide) ?_
        refine lv_isub hx hb dX10_alike_53 ?_
        obtain ⟨v_casts_tried_54, v_casts_trial_setting_54, v_casts_trial_been_54, v_casts_trial_ways_rooms_54, v_casts_trial_ways_steps_54, v_casts_trial_thingIn_54, v_casts_trial_full_54, v_casts_trial_heardBy_54, v_casts_trial_dreamOf_54, v_casts_trial_stateOf_54, v_casts_trial_roomOf_54, v_casts_trial_handOf_54, v_casts_trial_awake_54, v_casts_trial_how_54, v_casts_trial_passed_54, v_casts_set_rows_54, v_casts_kin_54, v_casts_plain_rows_54, hc_54, hf⟩ := bd18 hf
        refine r_callVv (ws' := (wX10_alike E h h_reader h_inn h_chosen h_night h_marks h_notes h_casts h_casts_trial h_casts_dreams h_casts_plain h_casts_set h_casts_tried h_casts_kin h_casts_fitters h_notes_book h_notes_sort h_notes_one h_notes_other h_casts_plain_rows h_inn_house h_inn_thingIn h_inn_full h_inn_states h_inn_bed h_inn_dreamOf h_inn_listensIn h_inn_house_creak h_inn_house_cold h_inn_house_one h_inn_house_other h_inn_house_how h_inn_house_falls h_inn_house_ways h_casts_trial_ways h_casts_trial_how h_casts_trial_passed h_casts_trial_dreamOf h_casts_trial_stateOf h_casts_trial_roomOf h_casts_trial_handOf h_casts_trial_awake h_casts_trial_thingIn h_casts_trial_full h_casts_trial_heardBy h_casts_trial_ways_steps h_inn_house_ways_steps h_casts_set_rows v_marked v_refusal v_latestFault v_faultPlace v_casts_count v_casts_fitting_9 v_notes_count v_notes_book v_notes_sort v_notes_one v_casts_plain_rows_54 v_notes_other v_casts_fitters_9 v_inn_minutes v_inn_things v_inn_dreams v_inn_sleepers v_inn_listeners v_inn_house_rooms v_inn_house_doors v_casts_tried_54 v_casts_trial_setting_54 v_casts_trial_been_54 v_inn_house_how v_casts_trial_ways_rooms_54 v_casts_trial_ways_steps_54 v_inn_house_one v_inn_house_other v_inn_thingIn v_casts_trial_thingIn_54 v_inn_full v_casts_trial_full_54 v_casts_trial_heardBy_54 v_casts_dreams v_casts_trial_dreamOf_54 v_casts_trial_stateOf_54 v_inn_bed v_casts_trial_roomOf_54 v_casts_trial_handOf_54 v_casts_trial_awake_54 v_casts_trial_how_54 v_casts_trial_passed_54 v_inn_states v_inn_house_creak v_inn_listensIn v_inn_house_ways_rooms v_inn_house_ways_steps v_inn_house_cold v_inn_house_falls v_casts_set_rows_54 v_casts_kin_54)) (As := [.int 0, .int (r_49 - 1)]) (rest := []) C (ctX0_tryOuts l E h_casts h_casts_trial h_inn h_casts_dreams h_casts_plain h_casts_set h_casts_tried h_casts_kin h_casts_fitters h_casts_trial_ways h_casts_trial_how h_casts_trial_passed h_casts_trial_dreamOf h_casts_trial_stateOf h_casts_trial_roomOf h_casts_trial_handOf h_casts_trial_awake h_casts_trial_thingIn h_casts_trial_full h_casts_trial_heardBy h_inn_house h_inn_thingIn h_inn_full h_inn_states h_inn_bed h_inn_dreamOf h_inn_listensIn h_inn_house_creak h_inn_house_cold h_inn_house_one h_inn_house_other h_inn_house_how h_inn_house_falls h_inn_house_ways h_casts_trial_ways_steps h_inn_house_ways_steps h_casts_set_rows h_casts_plain_rows v_casts_count v_casts_fitting_9 v_casts_tried v_casts_trial_setting v_casts_trial_been v_inn_minutes v_inn_things v_inn_dreams v_inn_sleepers v_inn_listeners v_inn_house_rooms v_inn_house_doors v_inn_house_how v_casts_trial_ways_rooms v_casts_trial_ways_steps v_inn_house_one v_inn_house_other v_inn_thingIn v_casts_trial_thingIn v_inn_full v_casts_trial_full v_casts_trial_heardBy v_casts_dreams v_casts_trial_dreamOf v_casts_trial_stateOf v_inn_bed v_casts_trial_roomOf v_casts_trial_handOf v_casts_trial_awake v_casts_trial_how v_casts_trial_passed v_inn_states v_inn_house_creak v_inn_listensIn v_inn_house_ways_rooms v_inn_house_ways_steps v_inn_house_cold v_inn_house_falls v_casts_set_rows v_casts_kin v_casts_plain_rows N 0 (r_49 - 1) v_casts_tried_54 v_casts_trial_setting_54 v_casts_trial_been_54 v_casts_trial_ways_rooms_54 v_casts_trial_ways_steps_54 v_casts_trial_thingIn_54 v_casts_trial_full_54 v_casts_trial_heardBy_54 v_casts_trial_dreamOf_54 v_casts_trial_stateOf_54 v_casts_trial_roomOf_54 v_casts_trial_handOf_54 v_casts_trial_awake_54 v_casts_trial_how_54 v_casts_trial_passed_54 v_casts_set_rows_54 v_casts_kin_54 v_casts_plain_rows_54 hc_54) ml_X10_88 ⟨Nat.le_of_ble_eq_true rfl, Nat.le_of_ble_eq_true rfl⟩ hP hD hS 1 rfl rfl rfl [1, 12, 13, 10, 11, 14, 15, 16, 17, 18, 19, 20, 21, 22, 23, 24, 25, 26, 27, 28, 29, 30, 31, 32, 33, 34, 35, 36, 37, 38, 39, 40, 41, 42, 6, 7] rfl rfl rfl rfl rfl hl.1 rfl (Nat.le_of_ble_eq_true rfl) ⟨Nat.zero_le _, Nat.zero_le _⟩ dX10_alike_54 ?_
        clear hP hD hS; intro H locs hP hD hS
        refine lv_aload_n hx hb dX10_alike_57 rfl (lv_at hl 1 rfl) ?_
        refine lv_aload_n hx hb dX10_alike_58 rfl (lv_at hl 1 rfl) ?_
        refine r_get C hP 0 rfl fl_X10_50 rfl dX10_alike_59 ?_
        refine lv_iload_n hx hb dX10_alike_62 rfl (lv_at hl 2 rfl) ?_
        refine lv_iload_n hx hb dX10_alike_63 rfl (lv_at hl 3 rfl) ?_
        obtain ⟨r_64, hc_64, hf⟩ := bd1 hf
        refine r_callVi (ws' := (wX10_alike E h h_reader h_inn h_chosen h_night h_marks h_notes h_casts h_casts_trial h_casts_dreams h_casts_plain h_casts_set h_casts_tried h_casts_kin h_casts_fitters h_notes_book h_notes_sort h_notes_one h_notes_other h_casts_plain_rows h_inn_house h_inn_thingIn h_inn_full h_inn_states h_inn_bed h_inn_dreamOf h_inn_listensIn h_inn_house_creak h_inn_house_cold h_inn_house_one h_inn_house_other h_inn_house_how h_inn_house_falls h_inn_house_ways h_casts_trial_ways h_casts_trial_how h_casts_trial_passed h_casts_trial_dreamOf h_casts_trial_stateOf h_casts_trial_roomOf h_casts_trial_handOf h_casts_trial_awake h_casts_trial_thingIn h_casts_trial_full h_casts_trial_heardBy h_casts_trial_ways_steps h_inn_house_ways_steps h_casts_set_rows v_marked v_refusal v_latestFault v_faultPlace v_casts_count v_casts_fitting_9 v_notes_count v_notes_book v_notes_sort v_notes_one v_casts_plain_rows_54 v_notes_other v_casts_fitters_9 v_inn_minutes v_inn_things v_inn_dreams v_inn_sleepers v_inn_listeners v_inn_house_rooms v_inn_house_doors v_casts_tried_54 v_casts_trial_setting_54 v_casts_trial_been_54 v_inn_house_how v_casts_trial_ways_rooms_54 v_casts_trial_ways_steps_54 v_inn_house_one v_inn_house_other v_inn_thingIn v_casts_trial_thingIn_54 v_inn_full v_casts_trial_full_54 v_casts_trial_heardBy_54 v_casts_dreams v_casts_trial_dreamOf_54 v_casts_trial_stateOf_54 v_inn_bed v_casts_trial_roomOf_54 v_casts_trial_handOf_54 v_casts_trial_awake_54 v_casts_trial_how_54 v_casts_trial_passed_54 v_inn_states v_inn_house_creak v_inn_listensIn v_inn_house_ways_rooms v_inn_house_ways_steps v_inn_house_cold v_inn_house_falls v_casts_set_rows_54 v_casts_kin_54)) (As := [.int p0, .int p1]) (rest := [.ref h]) C (ctX0_areAlike l E h_casts h_casts_trial h_inn h_casts_dreams h_casts_plain h_casts_set h_casts_tried h_casts_kin h_casts_fitters h_inn_house h_inn_thingIn h_inn_full h_inn_states h_inn_bed h_inn_dreamOf h_inn_listensIn h_inn_house_creak h_inn_house_cold h_inn_house_one h_inn_house_other h_inn_house_how h_inn_house_falls h_inn_house_ways v_casts_count v_casts_fitting_9 v_inn_minutes v_inn_things v_inn_dreams v_inn_sleepers v_inn_listeners v_inn_house_rooms v_inn_house_doors v_casts_fitters_9 v_casts_kin_54 N p0 p1 r_64 hc_64) ml_X10_282 ⟨Nat.le_of_ble_eq_true rfl, Nat.le_of_ble_eq_true rfl⟩ hP hD hS 1 rfl rfl rfl [1, 10, 11, 9, 42] rfl rfl rfl rfl rfl hl.1 rfl (Nat.le_of_ble_eq_true rfl) ⟨Nat.zero_le _, Nat.zero_le _⟩ dX10_alike_64 ?_
        clear hP hD hS; intro H locs hP hD hS
        obtain ⟨r_67, hc_67, hf⟩ := bd1 hf
        refine r_callSi (ws' := (wX10_alike E h h_reader h_inn h_chosen h_night h_marks h_notes h_casts h_casts_trial h_casts_dreams h_casts_plain h_casts_set h_casts_tried h_casts_kin h_casts_fitters h_notes_book h_notes_sort h_notes_one h_notes_other h_casts_plain_rows h_inn_house h_inn_thingIn h_inn_full h_inn_states h_inn_bed h_inn_dreamOf h_inn_listensIn h_inn_house_creak h_inn_house_cold h_inn_house_one h_inn_house_other h_inn_house_how h_inn_house_falls h_inn_house_ways h_casts_trial_ways h_casts_trial_how h_casts_trial_passed h_casts_trial_dreamOf h_casts_trial_stateOf h_casts_trial_roomOf h_casts_trial_handOf h_casts_trial_awake h_casts_trial_thingIn h_casts_trial_full h_casts_trial_heardBy h_casts_trial_ways_steps h_inn_house_ways_steps h_casts_set_rows v_marked v_refusal v_latestFault v_faultPlace v_casts_count v_casts_fitting_9 v_notes_count v_notes_book v_notes_sort v_notes_one v_casts_plain_rows_54 v_notes_other v_casts_fitters_9 v_inn_minutes v_inn_things v_inn_dreams v_inn_sleepers v_inn_listeners v_inn_house_rooms v_inn_house_doors v_casts_tried_54 v_casts_trial_setting_54 v_casts_trial_been_54 v_inn_house_how v_casts_trial_ways_rooms_54 v_casts_trial_ways_steps_54 v_inn_house_one v_inn_house_other v_inn_thingIn v_casts_trial_thingIn_54 v_inn_full v_casts_trial_full_54 v_casts_trial_heardBy_54 v_casts_dreams v_casts_trial_dreamOf_54 v_casts_trial_stateOf_54 v_inn_bed v_casts_trial_roomOf_54 v_casts_trial_handOf_54 v_casts_trial_awake_54 v_casts_trial_how_54 v_casts_trial_passed_54 v_inn_states v_inn_house_creak v_inn_listensIn v_inn_house_ways_rooms v_inn_house_ways_steps v_inn_house_cold v_inn_house_falls v_casts_set_rows_54 v_casts_kin_54)) (As := [.int r_64]) (rest := [.ref h]) C (ctX10_bit l E N r_64 r_67 hc_67) ml_X10_132 ⟨Nat.le_of_ble_eq_true rfl, Nat.le_of_ble_eq_true rfl⟩ hP hD hS [] rfl rfl rfl rfl rfl hl.1 rfl (Nat.le_of_ble_eq_true rfl) ⟨Nat.zero_le _, Nat.zero_le _⟩ dX10_alike_67 ?_
        clear hP hD hS; intro H locs hP hD hS
        obtain ⟨r_70, v_refusal_70, hc_70, hf⟩ := bd2 hf
        refine r_callVi (ws' := (wX10_alike E h h_reader h_inn h_chosen h_night h_marks h_notes h_casts h_casts_trial h_casts_dreams h_casts_plain h_casts_set h_casts_tried h_casts_kin h_casts_fitters h_notes_book h_notes_sort h_notes_one h_notes_other h_casts_plain_rows h_inn_house h_inn_thingIn h_inn_full h_inn_states h_inn_bed h_inn_dreamOf h_inn_listensIn h_inn_house_creak h_inn_house_cold h_inn_house_one h_inn_house_other h_inn_house_how h_inn_house_falls h_inn_house_ways h_casts_trial_ways h_casts_trial_how h_casts_trial_passed h_casts_trial_dreamOf h_casts_trial_stateOf h_casts_trial_roomOf h_casts_trial_handOf h_casts_trial_awake h_casts_trial_thingIn h_casts_trial_full h_casts_trial_heardBy h_casts_trial_ways_steps h_inn_house_ways_steps h_casts_set_rows v_marked v_refusal_70 v_latestFault v_faultPlace v_casts_count v_casts_fitting_9 v_notes_count v_notes_book v_notes_sort v_notes_one v_casts_plain_rows_54 v_notes_other v_casts_fitters_9 v_inn_minutes v_inn_things v_inn_dreams v_inn_sleepers v_inn_listeners v_inn_house_rooms v_inn_house_doors v_casts_tried_54 v_casts_trial_setting_54 v_casts_trial_been_54 v_inn_house_how v_casts_trial_ways_rooms_54 v_casts_trial_ways_steps_54 v_inn_house_one v_inn_house_other v_inn_thingIn v_casts_trial_thingIn_54 v_inn_full v_casts_trial_full_54 v_casts_trial_heardBy_54 v_casts_dreams v_casts_trial_dreamOf_54 v_casts_trial_stateOf_54 v_inn_bed v_casts_trial_roomOf_54 v_casts_trial_handOf_54 v_casts_trial_awake_54 v_casts_trial_how_54 v_casts_trial_passed_54 v_inn_states v_inn_house_creak v_inn_listensIn v_inn_house_ways_rooms v_inn_house_ways_steps v_inn_house_cold v_inn_house_falls v_casts_set_rows_54 v_casts_kin_54)) (As := [.int r_67]) (rest := []) C (ctX10_answer l E h h_reader h_inn h_chosen h_night h_marks h_notes h_casts v_marked v_refusal v_latestFault v_faultPlace N r_67 r_70 v_refusal_70 hc_70) ml_X10_95 ⟨Nat.le_of_ble_eq_true rfl, Nat.le_of_ble_eq_true rfl⟩ hP hD hS 0 rfl rfl rfl [0] rfl rfl rfl rfl rfl hl.1 rfl (Nat.le_of_ble_eq_true rfl) ⟨Nat.zero_le _, Nat.zero_le _⟩ dX10_alike_70 ?_
        clear hP hD hS; intro H locs hP hD hS
        cases hf
        rw [hQ]
        exact r_iret C hr hP hD hS rfl dX10_alike_73
      · replace hf := it_t c_31 hf
        refine lv_aload_n hx hb dX10_alike_34 rfl (lv_at hl 1 rfl) ?_
        refine lv_iconst (v := 1) hx hb dX10_alike_35 (by decide) ?_
        obtain ⟨r_36, v_refusal_36, hc_36, hf⟩ := bd2 hf
        refine r_callVi (ws' := (wX10_alike E h h_reader h_inn h_chosen h_night h_marks h_notes h_casts h_casts_trial h_casts_dreams h_casts_plain h_casts_set h_casts_tried h_casts_kin h_casts_fitters h_notes_book h_notes_sort h_notes_one h_notes_other h_casts_plain_rows h_inn_house h_inn_thingIn h_inn_full h_inn_states h_inn_bed h_inn_dreamOf h_inn_listensIn h_inn_house_creak h_inn_house_cold h_inn_house_one h_inn_house_other h_inn_house_how h_inn_house_falls h_inn_house_ways h_casts_trial_ways h_casts_trial_how h_casts_trial_passed h_casts_trial_dreamOf h_casts_trial_stateOf h_casts_trial_roomOf h_casts_trial_handOf h_casts_trial_awake h_casts_trial_thingIn h_casts_trial_full h_casts_trial_heardBy h_casts_trial_ways_steps h_inn_house_ways_steps h_casts_set_rows v_marked v_refusal_36 v_latestFault v_faultPlace v_casts_count v_casts_fitting_9 v_notes_count v_notes_book v_notes_sort v_notes_one v_casts_plain_rows v_notes_other v_casts_fitters_9 v_inn_minutes v_inn_things v_inn_dreams v_inn_sleepers v_inn_listeners v_inn_house_rooms v_inn_house_doors v_casts_tried v_casts_trial_setting v_casts_trial_been v_inn_house_how v_casts_trial_ways_rooms v_casts_trial_ways_steps v_inn_house_one v_inn_house_other v_inn_thingIn v_casts_trial_thingIn v_inn_full v_casts_trial_full v_casts_trial_heardBy v_casts_dreams v_casts_trial_dreamOf v_casts_trial_stateOf v_inn_bed v_casts_trial_roomOf v_casts_trial_handOf v_casts_trial_awake v_casts_trial_how v_casts_trial_passed v_inn_states v_inn_house_creak v_inn_listensIn v_inn_house_ways_rooms v_inn_house_ways_steps v_inn_house_cold v_inn_house_falls v_casts_set_rows v_casts_kin)) (As := [.int 1]) (rest := []) C (ctX10_refuse l E h h_reader h_inn h_chosen h_night h_marks h_notes h_casts v_marked v_refusal v_latestFault v_faultPlace N 1 r_36 v_refusal_36 hc_36) ml_X10_68 ⟨Nat.le_of_ble_eq_true rfl, Nat.le_of_ble_eq_true rfl⟩ hP hD hS 0 rfl rfl rfl [0] rfl rfl rfl rfl rfl hl.1 rfl (Nat.le_of_ble_eq_true rfl) ⟨Nat.zero_le _, Nat.zero_le _⟩ dX10_alike_36 ?_
        clear hP hD hS; intro H locs hP hD hS
        cases hf
        rw [hQ]
        exact r_iret C hr hP hD hS rfl dX10_alike_39
def wX0_alikePairs (E : EN) (h h_trial h_inn h_dreams h_plain h_set h_tried h_kin h_fitters h_inn_house h_inn_thingIn h_inn_full h_inn_states h_inn_bed h_inn_dreamOf h_inn_listensIn h_inn_house_creak h_inn_house_cold h_inn_house_one h_inn_house_other h_inn_house_how h_inn_house_falls h_inn_house_ways : Nat) (v_count : Int32) (v_fitting : Int32) (v_inn_minutes : Int32) (v_inn_things : Int32) (v_inn_dreams : Int32) (v_inn_sleepers : Int32) (v_inn_listeners : Int32) (v_inn_house_rooms : Int32) (v_inn_house_doors : Int32) (v_fitters : Nat → Int32) (v_kin : Nat → Int32) : va_W := [(h, .inr (0, [.ref h_trial, .ref h_inn, .int v_count, .ref h_dreams, .ref h_plain, .ref h_set, .ref h_tried, .ref h_kin, .int v_fitting, .ref h_fitters])), (h_inn, .inr (2, [.ref h_inn_house, .int v_inn_minutes, .int v_inn_things, .ref h_inn_thingIn, .ref h_inn_full, .int v_inn_dreams, .ref h_inn_states, .int v_inn_sleepers, .ref h_inn_bed, .ref h_inn_dreamOf, .int v_inn_listeners, .ref h_inn_listensIn])), (h_inn_house, .inr (1, [.int v_inn_house_rooms, .ref h_inn_house_creak, .ref h_inn_house_cold, .int v_inn_house_doors, .ref h_inn_house_one, .ref h_inn_house_other, .ref h_inn_house_how, .ref h_inn_house_falls, .ref h_inn_house_ways])), (h_fitters, aI E 64 v_fitters), (h_kin, aI E 1344 v_kin)]
def BX0_alikePairs_16 (v_fitting : Int32) (N : Nat) (x4_2 : Int32) (v_inn_house_doors : Int32) (v_fitters : Nat → Int32) (v_kin : Nat → Int32) (K42 : (Int32) → Option Int32) (rec16 : (Int32 × Int32) → Option Int32) : (Int32 × Int32) → Option Int32 := un2 fun (x16_1 : Int32) (x16_3 : Int32) => if v_fitting ≤ x16_3 then (K42 x16_1) else ((fX0_areAlike N x4_2 x16_3 v_inn_house_doors v_fitters v_kin).bind (un1 fun (r_27 : Int32) => jn (un1 fun (x36_1 : Int32) => rec16 (x36_1, x16_3 + 1)) (fun j36 => if r_27 = 0 then (j36 x16_1) else (j36 (x16_1 + 1)))))
def BX0_alikePairs_4 (v_fitting : Int32) (N : Nat) (v_inn_house_doors : Int32) (v_fitters : Nat → Int32) (v_kin : Nat → Int32) (rec4 : (Int32 × Int32) → Option Int32) : (Int32 × Int32) → Option Int32 := un2 fun (x4_1 : Int32) (x4_2 : Int32) => if v_fitting ≤ x4_2 then (some x4_1) else (lp (BX0_alikePairs_16 v_fitting N x4_2 v_inn_house_doors v_fitters v_kin (un1 fun (x42_1 : Int32) => rec4 (x42_1, x4_2 + 1))) N (x4_1, x4_2 + 1))
def fX0_alikePairs (N : Nat) (v_fitting : Int32) (v_inn_house_doors : Int32) (v_fitters : Nat → Int32) (v_kin : Nat → Int32) : Option Int32 := lp (BX0_alikePairs_4 v_fitting N v_inn_house_doors v_fitters v_kin) N (0, 0)
set_option maxHeartbeats 4000000 in
set_option maxRecDepth 100000 in
theorem ctX0_alikePairs (l : Launch) (E : EN) (h h_trial h_inn h_dreams h_plain h_set h_tried h_kin h_fitters h_inn_house h_inn_thingIn h_inn_full h_inn_states h_inn_bed h_inn_dreamOf h_inn_listensIn h_inn_house_creak h_inn_house_cold h_inn_house_one h_inn_house_other h_inn_house_how h_inn_house_falls h_inn_house_ways : Nat) (v_count : Int32) (v_fitting : Int32) (v_inn_minutes : Int32) (v_inn_things : Int32) (v_inn_dreams : Int32) (v_inn_sleepers : Int32) (v_inn_listeners : Int32) (v_inn_house_rooms : Int32) (v_inn_house_doors : Int32) (v_fitters : Nat → Int32) (v_kin : Nat → Int32) (N : Nat) (z0 : Int32) (hf : fX0_alikePairs N v_fitting v_inn_house_doors v_fitters v_kin = some z0) : CTi l E yX0_alikePairs cX0_alikePairs 4 .int 2 47 [.ref h] (wX0_alikePairs E h h_trial h_inn h_dreams h_plain h_set h_tried h_kin h_fitters h_inn_house h_inn_thingIn h_inn_full h_inn_states h_inn_bed h_inn_dreamOf h_inn_listensIn h_inn_house_creak h_inn_house_cold h_inn_house_one h_inn_house_other h_inn_house_how h_inn_house_falls h_inn_house_ways v_count v_fitting v_inn_minutes v_inn_things v_inn_dreams v_inn_sleepers v_inn_listeners v_inn_house_rooms v_inn_house_doors v_fitters v_kin) z0 (wX0_alikePairs E h h_trial h_inn h_dreams h_plain h_set h_tried h_kin h_fitters h_inn_house h_inn_thingIn h_inn_full h_inn_states h_inn_bed h_inn_dreamOf h_inn_listensIn h_inn_house_creak h_inn_house_cold h_inn_house_one h_inn_house_other h_inn_house_how h_inn_house_falls h_inn_house_ways v_count v_fitting v_inn_minutes v_inn_things v_inn_dreams v_inn_sleepers v_inn_listeners v_inn_house_rooms v_inn_house_doors v_fitters v_kin) := by
  intro sz
  refine ct_body (by decide) (Nat.le_of_ble_eq_true rfl) ?_
  intro p e s m args below meth c A ls hAe C hr hin hP hD hS hl
  have C : CX p s m args meth c cX0_alikePairs RX0 4 E A := C
  have hl : lv_has ls 4 [(0, .ref h)] := hl
  have hx := C.1
  have hb := C.2.1
  rw [hAe]
  clear hAe
  obtain ⟨Q, hQ⟩ : ∃ Q, Q = MQ below (Qi E A z0 (wX0_alikePairs E h h_trial h_inn h_dreams h_plain h_set h_tried h_kin h_fitters h_inn_house h_inn_thingIn h_inn_full h_inn_states h_inn_bed h_inn_dreamOf h_inn_listensIn h_inn_house_creak h_inn_house_cold h_inn_house_one h_inn_house_other h_inn_house_how h_inn_house_falls h_inn_house_ways v_count v_fitting v_inn_minutes v_inn_things v_inn_dreams v_inn_sleepers v_inn_listeners v_inn_house_rooms v_inn_house_doors v_fitters v_kin)) args s 0 0 A := ⟨_, rfl⟩
  rw [← hQ]
  unfold fX0_alikePairs at hf
  refine lv_iconst (v := 0) hx hb dX0_alikePairs_0 (by decide) ?_
  refine lv_istore_n (lv' := [(1, .int 0), (0, .ref h)]) hx hb dX0_alikePairs_1 rfl hl (by decide) rfl (fun ls hl => ?_)
  refine lv_iconst (v := 0) hx hb dX0_alikePairs_2 (by decide) ?_
  refine lv_istore_n (lv' := [(2, .int 0), (1, .int 0), (0, .ref h)]) hx hb dX0_alikePairs_3 rfl hl (by decide) rfl (fun ls hl => ?_)
  have key4 : ∀ (n : Nat) (x4_1 : Int32) (x4_2 : Int32) , lp (BX0_alikePairs_4 v_fitting N v_inn_house_doors v_fitters v_kin) n (x4_1, x4_2) = some z0 → AT p l e (rmOf 2 47) s m args below meth c E A Q 0 0 4 [(0, .ref h), (1, .int x4_1), (2, .int x4_2)] (wX0_alikePairs E h h_trial h_inn h_dreams h_plain h_set h_tried h_kin h_fitters h_inn_house h_inn_thingIn h_inn_full h_inn_states h_inn_bed h_inn_dreamOf h_inn_listensIn h_inn_house_creak h_inn_house_cold h_inn_house_one h_inn_house_other h_inn_house_how h_inn_house_falls h_inn_house_ways v_count v_fitting v_inn_minutes v_inn_things v_inn_dreams v_inn_sleepers v_inn_listeners v_inn_house_rooms v_inn_house_doors v_fitters v_kin) 4 [] := by
    intro n
    induction n with
    | zero => intro x4_1 x4_2 hf; exact (lp_0 hf).elim
    | succ n ih4 =>
      intro x4_1 x4_2 hf H locs ls hl hP hD hS
      replace hf := lp_s hf
      generalize lp (BX0_alikePairs_4 v_fitting N v_inn_house_doors v_fitters v_kin) n = rec4 at ih4 hf
      unfold BX0_alikePairs_4 at hf
      replace hf := un2_s hf
      refine lv_iload_n hx hb dX0_alikePairs_4 rfl (lv_at hl 2 rfl) ?_
      refine lv_aload_n hx hb dX0_alikePairs_5 rfl (lv_at hl 0 rfl) ?_
      refine r_get C hP 0 rfl fl_X0_91 rfl dX0_alikePairs_6 ?_
      refine lv_icmp_ge (tgt := 48) hx hb dX0_alikePairs_9 (by decide) (fun c_9 => ?_) (fun c_9 => ?_)
      · replace hf := it_t c_9 hf
        refine lv_iload_n hx hb dX0_alikePairs_48 rfl (lv_at hl 1 rfl) ?_
        cases hf
        rw [hQ]
        exact r_iret C hr hP hD hS rfl dX0_alikePairs_49
      · replace hf := it_f c_9 hf
        refine lv_iload_n hx hb dX0_alikePairs_12 rfl (lv_at hl 2 rfl) ?_
        refine lv_iconst (v := 1) hx hb dX0_alikePairs_13 (by decide) ?_
        refine lv_iadd hx hb dX0_alikePairs_14 ?_
        refine lv_istore_n (lv' := [(3, .int (x4_2 + 1)), (0, .ref h), (1, .int x4_1), (2, .int x4_2)]) hx hb dX0_alikePairs_15 rfl hl (by decide) rfl (fun ls hl => ?_)
        refine lpK hf (fun K42 eK42 hf => ?_)
        have hK42 : ∀ (x42_1 : Int32) , K42 x42_1 = some z0 → AT p l e (rmOf 2 47) s m args below meth c E A Q 0 0 4 [(0, .ref h), (1, .int x42_1), (2, .int x4_2)] (wX0_alikePairs E h h_trial h_inn h_dreams h_plain h_set h_tried h_kin h_fitters h_inn_house h_inn_thingIn h_inn_full h_inn_states h_inn_bed h_inn_dreamOf h_inn_listensIn h_inn_house_creak h_inn_house_cold h_inn_house_one h_inn_house_other h_inn_house_how h_inn_house_falls h_inn_house_ways v_count v_fitting v_inn_minutes v_inn_things v_inn_dreams v_inn_sleepers v_inn_listeners v_inn_house_rooms v_inn_house_doors v_fitters v_kin) 42 [] := by
          intro x42_1 hf H locs ls hl hP hD hS
          rw [eK42] at hf
          replace hf := un1_s hf
          refine lv_iinc (v := x4_2 + 1) (lv' := [(2, .int (x4_2 + 1)), (0, .ref h), (1, .int x42_1)]) hx hb dX0_alikePairs_42 hl (k := 2) rfl rfl (by decide) rfl (fun ls hl => ?_)
          refine lv_goto (tgt := 4) hx hb dX0_alikePairs_45 (by decide) ?_
          exact ih4 x42_1 (x4_2 + 1) hf _ _ _ (lv_sub hl [1, 2, 0] rfl) hP hD hS
        clear eK42
        have key16 : ∀ (n : Nat) (x16_1 : Int32) (x16_3 : Int32) , lp (BX0_alikePairs_16 v_fitting N x4_2 v_inn_house_doors v_fitters v_kin K42) n (x16_1, x16_3) = some z0 → AT p l e (rmOf 2 47) s m args below meth c E A Q 0 0 4 [(0, .ref h), (1, .int x16_1), (2, .int x4_2), (3, .int x16_3)] (wX0_alikePairs E h h_trial h_inn h_dreams h_plain h_set h_tried h_kin h_fitters h_inn_house h_inn_thingIn h_inn_full h_inn_states h_inn_bed h_inn_dreamOf h_inn_listensIn h_inn_house_creak h_inn_house_cold h_inn_house_one h_inn_house_other h_inn_house_how h_inn_house_falls h_inn_house_ways v_count v_fitting v_inn_minutes v_inn_things v_inn_dreams v_inn_sleepers v_inn_listeners v_inn_house_rooms v_inn_house_doors v_fitters v_kin) 16 [] := by
          intro n
          induction n with
          | zero => intro x16_1 x16_3 hf; exact (lp_0 hf).elim
          | succ n ih16 =>
            intro x16_1 x16_3 hf H locs ls hl hP hD hS
            replace hf := lp_s hf
            generalize lp (BX0_alikePairs_16 v_fitting N x4_2 v_inn_house_doors v_fitters v_kin K42) n = rec16 at ih16 hf
            unfold BX0_alikePairs_16 at hf
            replace hf := un2_s hf
            refine lv_iload_n hx hb dX0_alikePairs_16 rfl (lv_at hl 3 rfl) ?_
            refine lv_aload_n hx hb dX0_alikePairs_17 rfl (lv_at hl 0 rfl) ?_
            refine r_get C hP 0 rfl fl_X0_91 rfl dX0_alikePairs_18 ?_
            refine lv_icmp_ge (tgt := 42) hx hb dX0_alikePairs_21 (by decide) (fun c_21 => ?_) (fun c_21 => ?_)
            · replace hf := it_t c_21 hf
              exact hK42 x16_1 hf _ _ _ (lv_sub hl [0, 1, 2] rfl) hP hD hS
            · replace hf := it_f c_21 hf
              refine lv_aload_n hx hb dX0_alikePairs_24 rfl (lv_at hl 0 rfl) ?_
              refine lv_iload_n hx hb dX0_alikePairs_25 rfl (lv_at hl 2 rfl) ?_
              refine lv_iload_n hx hb dX0_alikePairs_26 rfl (lv_at hl 3 rfl) ?_
              obtain ⟨r_27, hc_27, hf⟩ := bd1 hf
              refine r_callVi (ws' := (wX0_alikePairs E h h_trial h_inn h_dreams h_plain h_set h_tried h_kin h_fitters h_inn_house h_inn_thingIn h_inn_full h_inn_states h_inn_bed h_inn_dreamOf h_inn_listensIn h_inn_house_creak h_inn_house_cold h_inn_house_one h_inn_house_other h_inn_house_how h_inn_house_falls h_inn_house_ways v_count v_fitting v_inn_minutes v_inn_things v_inn_dreams v_inn_sleepers v_inn_listeners v_inn_house_rooms v_inn_house_doors v_fitters v_kin)) (As := [.int x4_2, .int x16_3]) (rest := []) C (ctX0_areAlike l E h h_trial h_inn h_dreams h_plain h_set h_tried h_kin h_fitters h_inn_house h_inn_thingIn h_inn_full h_inn_states h_inn_bed h_inn_dreamOf h_inn_listensIn h_inn_house_creak h_inn_house_cold h_inn_house_one h_inn_house_other h_inn_house_how h_inn_house_falls h_inn_house_ways v_count v_fitting v_inn_minutes v_inn_things v_inn_dreams v_inn_sleepers v_inn_listeners v_inn_house_rooms v_inn_house_doors v_fitters v_kin N x4_2 x16_3 r_27 hc_27) ml_X0_120 ⟨Nat.le_of_ble_eq_true rfl, Nat.le_of_ble_eq_true rfl⟩ hP hD hS 0 rfl rfl rfl [0, 1, 2, 3, 4] rfl rfl rfl rfl rfl hl.1 rfl (Nat.le_of_ble_eq_true rfl) ⟨Nat.zero_le _, Nat.zero_le _⟩ dX0_alikePairs_27 ?_
              clear hP hD hS; intro H locs hP hD hS
              refine jnK hf (fun j36 ej36 hf => ?_)
              have hj36 : ∀ (x36_1 : Int32) , j36 x36_1 = some z0 → AT p l e (rmOf 2 47) s m args below meth c E A Q 0 0 4 [(0, .ref h), (1, .int x36_1), (2, .int x4_2), (3, .int x16_3)] (wX0_alikePairs E h h_trial h_inn h_dreams h_plain h_set h_tried h_kin h_fitters h_inn_house h_inn_thingIn h_inn_full h_inn_states h_inn_bed h_inn_dreamOf h_inn_listensIn h_inn_house_creak h_inn_house_cold h_inn_house_one h_inn_house_other h_inn_house_how h_inn_house_falls h_inn_house_ways v_count v_fitting v_inn_minutes v_inn_things v_inn_dreams v_inn_sleepers v_inn_listeners v_inn_house_rooms v_inn_house_doors v_fitters v_kin) 36 [] := by
                intro x36_1 hf H locs ls hl hP hD hS
                rw [ej36] at hf
                replace hf := un1_s hf
                refine lv_iinc (v := x16_3 + 1) (lv' := [(3, .int (x16_3 + 1)), (0, .ref h), (1, .int x36_1), (2, .int x4_2)]) hx hb dX0_alikePairs_36 hl (k := 3) rfl rfl (by decide) rfl (fun ls hl => ?_)
                refine lv_goto (tgt := 16) hx hb dX0_alikePairs_39 (by decide) ?_
                exact ih16 x36_1 (x16_3 + 1) hf _ _ _ (lv_sub hl [1, 2, 3, 0] rfl) hP hD hS
              clear ej36
              refine lv_if_eq (tgt := 36) hx hb dX0_alikePairs_30 (by decide) (fun c_30 => ?_) (fun c_30 => ?_)
              · replace hf := it_t c_30 hf
                exact hj36 x16_1 hf _ _ _ (lv_sub hl [0, 1, 2, 3] rfl) hP hD hS
              · replace hf := it_f c_30 hf
                refine lv_iinc (v := x16_1 + 1) (lv' := [(1, .int (x16_1 + 1)), (0, .ref h), (2, .int x4_2), (3, .int x16_3)]) hx hb dX0_alikePairs_33 hl (k := 1) rfl rfl (by decide) rfl (fun ls hl => ?_)
                exact hj36 (x16_1 + 1) hf _ _ _ (lv_sub hl [1, 0, 2, 3] rfl) hP hD hS
        exact key16 _ x4_1 (x4_2 + 1) hf _ _ _ (lv_sub hl [1, 2, 3, 0] rfl) hP hD hS
  exact key4 _ 0 0 hf _ _ _ (lv_sub hl [2, 1, 0] rfl) hP hD hS
def wX10_never (E : EN) (h h_reader h_inn h_chosen h_night h_marks h_notes h_casts h_inn_house h_inn_thingIn h_inn_full h_inn_states h_inn_bed h_inn_dreamOf h_inn_listensIn h_casts_trial h_casts_dreams h_casts_plain h_casts_set h_casts_tried h_casts_kin h_casts_fitters h_notes_book h_notes_sort h_notes_one h_notes_other h_casts_plain_rows h_inn_house_creak h_inn_house_cold h_inn_house_one h_inn_house_other h_inn_house_how h_inn_house_falls h_inn_house_ways h_casts_trial_ways h_casts_trial_how h_casts_trial_passed h_casts_trial_dreamOf h_casts_trial_stateOf h_casts_trial_roomOf h_casts_trial_handOf h_casts_trial_awake h_casts_trial_thingIn h_casts_trial_full h_casts_trial_heardBy h_casts_trial_ways_steps h_inn_house_ways_steps h_casts_set_rows : Nat) (v_marked : Int32) (v_refusal : Int32) (v_latestFault : Int32) (v_faultPlace : Int32) (v_inn_minutes : Int32) (v_inn_things : Int32) (v_inn_dreams : Int32) (v_inn_sleepers : Int32) (v_inn_listeners : Int32) (v_casts_count : Int32) (v_casts_fitting : Int32) (v_notes_count : Int32) (v_notes_book : Nat → Int32) (v_notes_sort : Nat → Int32) (v_notes_one : Nat → Int32) (v_casts_plain_rows : Nat → Int64) (v_notes_other : Nat → Int32) (v_casts_fitters : Nat → Int32) (v_inn_house_rooms : Int32) (v_inn_house_doors : Int32) (v_casts_tried : Nat → Int32) (v_casts_trial_setting : Int32) (v_casts_trial_been : Int32) (v_inn_house_how : Nat → Int32) (v_casts_trial_ways_rooms : Int32) (v_casts_trial_ways_steps : Nat → Int32) (v_inn_house_one : Nat → Int32) (v_inn_house_other : Nat → Int32) (v_inn_thingIn : Nat → Int32) (v_casts_trial_thingIn : Nat → Int32) (v_inn_full : Nat → Int32) (v_casts_trial_full : Nat → Int32) (v_casts_trial_heardBy : Nat → Int64) (v_casts_dreams : Nat → Int32) (v_casts_trial_dreamOf : Nat → Int32) (v_casts_trial_stateOf : Nat → Int32) (v_inn_bed : Nat → Int32) (v_casts_trial_roomOf : Nat → Int32) (v_casts_trial_handOf : Nat → Int32) (v_casts_trial_awake : Nat → Int32) (v_casts_trial_how : Nat → Int32) (v_casts_trial_passed : Nat → Int32) (v_inn_states : Nat → Int32) (v_inn_house_creak : Nat → Int32) (v_inn_listensIn : Nat → Int32) (v_inn_house_ways_rooms : Int32) (v_inn_house_ways_steps : Nat → Int32) (v_inn_house_cold : Nat → Int32) (v_inn_house_falls : Nat → Int32) (v_casts_set_rows : Nat → Int64) (v_casts_kin : Nat → Int32) : va_W := [(h, .inr (9, [.ref h_reader, .ref h_inn, .ref h_chosen, .ref h_night, .ref h_marks, .int v_marked, .ref h_notes, .ref h_casts, .int v_refusal, .int v_latestFault, .int v_faultPlace])), (h_inn, .inr (2, [.ref h_inn_house, .int v_inn_minutes, .int v_inn_things, .ref h_inn_thingIn, .ref h_inn_full, .int v_inn_dreams, .ref h_inn_states, .int v_inn_sleepers, .ref h_inn_bed, .ref h_inn_dreamOf, .int v_inn_listeners, .ref h_inn_listensIn])), (h_casts, .inr (0, [.ref h_casts_trial, .ref h_inn, .int v_casts_count, .ref h_casts_dreams, .ref h_casts_plain, .ref h_casts_set, .ref h_casts_tried, .ref h_casts_kin, .int v_casts_fitting, .ref h_casts_fitters])), (h_notes, .inr (5, [.ref h_notes_book, .ref h_notes_sort, .ref h_notes_one, .ref h_notes_other, .int v_notes_count])), (h_notes_book, aI E 20 v_notes_book), (h_notes_sort, aI E 20 v_notes_sort), (h_notes_one, aI E 20 v_notes_one), (h_casts_plain, .inr (3, [.ref h_casts_plain_rows])), (h_casts_plain_rows, aJ E 256 v_casts_plain_rows), (h_notes_other, aI E 20 v_notes_other), (h_casts_fitters, aI E 64 v_casts_fitters), (h_inn_house, .inr (1, [.int v_inn_house_rooms, .ref h_inn_house_creak, .ref h_inn_house_cold, .int v_inn_house_doors, .ref h_inn_house_one, .ref h_inn_house_other, .ref h_inn_house_how, .ref h_inn_house_falls, .ref h_inn_house_ways])), (h_casts_tried, aZ E 21 v_casts_tried), (h_casts_trial, .inr (4, [.ref h_inn, .int v_casts_trial_setting, .int v_casts_trial_been, .ref h_casts_trial_ways, .ref h_casts_trial_how, .ref h_casts_trial_passed, .ref h_casts_trial_dreamOf, .ref h_casts_trial_stateOf, .ref h_casts_trial_roomOf, .ref h_casts_trial_handOf, .ref h_casts_trial_awake, .ref h_casts_trial_thingIn, .ref h_casts_trial_full, .ref h_casts_trial_heardBy])), (h_inn_house_how, aI E 10 v_inn_house_how), (h_casts_trial_ways, .inr (8, [.ref h_casts_trial_ways_steps, .int v_casts_trial_ways_rooms])), (h_casts_trial_ways_steps, aI E 64 v_casts_trial_ways_steps), (h_inn_house_one, aI E 10 v_inn_house_one), (h_inn_house_other, aI E 10 v_inn_house_other), (h_inn_thingIn, aI E 4 v_inn_thingIn), (h_casts_trial_thingIn, aI E 4 v_casts_trial_thingIn), (h_inn_full, aZ E 4 v_inn_full), (h_casts_trial_full, aZ E 4 v_casts_trial_full), (h_casts_trial_heardBy, aJ E 3 v_casts_trial_heardBy), (h_casts_dreams, aI E 192 v_casts_dreams), (h_casts_trial_dreamOf, aI E 3 v_casts_trial_dreamOf), (h_casts_trial_stateOf, aI E 3 v_casts_trial_stateOf), (h_inn_bed, aI E 3 v_inn_bed), (h_casts_trial_roomOf, aI E 3 v_casts_trial_roomOf), (h_casts_trial_handOf, aI E 3 v_casts_trial_handOf), (h_casts_trial_awake, aZ E 3 v_casts_trial_awake), (h_casts_trial_how, aI E 10 v_casts_trial_how), (h_casts_trial_passed, aI E 10 v_casts_trial_passed), (h_inn_states, aI E 64 v_inn_states), (h_inn_house_creak, aI E 8 v_inn_house_creak), (h_inn_listensIn, aI E 3 v_inn_listensIn), (h_inn_house_ways, .inr (8, [.ref h_inn_house_ways_steps, .int v_inn_house_ways_rooms])), (h_inn_house_ways_steps, aI E 64 v_inn_house_ways_steps), (h_inn_house_cold, aZ E 8 v_inn_house_cold), (h_inn_house_falls, aZ E 10 v_inn_house_falls), (h_casts_set, .inr (3, [.ref h_casts_set_rows])), (h_casts_set_rows, aJ E 256 v_casts_set_rows), (h_casts_kin, aI E 1344 v_casts_kin)]
def fX10_never (N : Nat) (v_inn_minutes : Int32) (v_inn_things : Int32) (v_inn_sleepers : Int32) (v_inn_listeners : Int32) (v_casts_count : Int32) (v_casts_fitting : Int32) (v_notes_count : Int32) (v_notes_book : Nat → Int32) (v_notes_sort : Nat → Int32) (v_notes_one : Nat → Int32) (v_casts_plain_rows : Nat → Int64) (v_notes_other : Nat → Int32) (v_casts_fitters : Nat → Int32) (v_inn_house_rooms : Int32) (v_inn_house_doors : Int32) (v_casts_tried : Nat → Int32) (v_casts_trial_setting : Int32) (v_casts_trial_been : Int32) (v_inn_house_how : Nat → Int32) (v_casts_trial_ways_rooms : Int32) (v_casts_trial_ways_steps : Nat → Int32) (v_inn_house_one : Nat → Int32) (v_inn_house_other : Nat → Int32) (v_inn_thingIn : Nat → Int32) (v_casts_trial_thingIn : Nat → Int32) (v_inn_full : Nat → Int32) (v_casts_trial_full : Nat → Int32) (v_casts_trial_heardBy : Nat → Int64) (v_casts_dreams : Nat → Int32) (v_casts_trial_dreamOf : Nat → Int32) (v_casts_trial_stateOf : Nat → Int32) (v_inn_bed : Nat → Int32) (v_casts_trial_roomOf : Nat → Int32) (v_casts_trial_handOf : Nat → Int32) (v_casts_trial_awake : Nat → Int32) (v_casts_trial_how : Nat → Int32) (v_casts_trial_passed : Nat → Int32) (v_inn_states : Nat → Int32) (v_inn_house_creak : Nat → Int32) (v_inn_listensIn : Nat → Int32) (v_inn_house_ways_steps : Nat → Int32) (v_inn_house_cold : Nat → Int32) (v_inn_house_falls : Nat → Int32) (v_casts_set_rows : Nat → Int64) (v_casts_kin : Nat → Int32) : Option (Int32 × Int32 × Int32 × (Nat → Int64) × (Nat → Int32) × (Nat → Int32) × Int32 × Int32 × Int32 × (Nat → Int32) × (Nat → Int32) × (Nat → Int32) × (Nat → Int64) × (Nat → Int32) × (Nat → Int32) × (Nat → Int32) × (Nat → Int32) × (Nat → Int32) × (Nat → Int32) × (Nat → Int32) × (Nat → Int64) × (Nat → Int32)) := (fX10_isTold N v_inn_minutes).bind (un1 fun (r_1 : Int32) => if r_1 = 0 then ((fX10_refuse N 1).bind (un2 fun (r_9 : Int32) (v_refusal_9 : Int32) => some (r_9, v_refusal_9, v_casts_fitting, v_casts_plain_rows, v_casts_fitters, v_casts_tried, v_casts_trial_setting, v_casts_trial_been, v_casts_trial_ways_rooms, v_casts_trial_ways_steps, v_casts_trial_thingIn, v_casts_trial_full, v_casts_trial_heardBy, v_casts_trial_dreamOf, v_casts_trial_stateOf, v_casts_trial_roomOf, v_casts_trial_handOf, v_casts_trial_awake, v_casts_trial_how, v_casts_trial_passed, v_casts_set_rows, v_casts_kin))) else ((fX0_gather N 3 v_casts_count v_notes_count v_notes_book v_notes_sort v_notes_one v_casts_plain_rows v_notes_other v_casts_fitters).bind (un3 fun (r_22 : Int32) (v_casts_fitting_22 : Int32) (v_casts_fitters_22 : Nat → Int32) => (fX2_settings N v_inn_house_doors).bind (un1 fun (r_35 : Int32) => (fX0_tryOuts N 0 (r_35 - 1) v_casts_count v_casts_tried v_casts_trial_setting v_casts_trial_been v_inn_minutes v_inn_things v_inn_sleepers v_inn_listeners v_inn_house_rooms v_inn_house_doors v_inn_house_how v_casts_trial_ways_rooms v_casts_trial_ways_steps v_inn_house_one v_inn_house_other v_inn_thingIn v_casts_trial_thingIn v_inn_full v_casts_trial_full v_casts_trial_heardBy v_casts_dreams v_casts_trial_dreamOf v_casts_trial_stateOf v_inn_bed v_casts_trial_roomOf v_casts_trial_handOf v_casts_trial_awake v_casts_trial_how v_casts_trial_passed v_inn_states v_inn_house_creak v_inn_listensIn v_inn_house_ways_steps v_inn_house_cold v_inn_house_falls v_casts_set_rows v_casts_kin v_casts_plain_rows).bind (un18 fun (v_casts_tried_40 : Nat → Int32) (v_casts_trial_setting_40 : Int32) (v_casts_trial_been_40 : Int32) (v_casts_trial_ways_rooms_40 : Int32) (v_casts_trial_ways_steps_40 : Nat → Int32) (v_casts_trial_thingIn_40 : Nat → Int32) (v_casts_trial_full_40 : Nat → Int32) (v_casts_trial_heardBy_40 : Nat → Int64) (v_casts_trial_dreamOf_40 : Nat → Int32) (v_casts_trial_stateOf_40 : Nat → Int32) (v_casts_trial_roomOf_40 : Nat → Int32) (v_casts_trial_handOf_40 : Nat → Int32) (v_casts_trial_awake_40 : Nat → Int32) (v_casts_trial_how_40 : Nat → Int32) (v_casts_trial_passed_40 : Nat → Int32) (v_casts_set_rows_40 : Nat → Int64) (v_casts_kin_40 : Nat → Int32) (v_casts_plain_rows_40 : Nat → Int64) => (fX0_alikePairs N v_casts_fitting_22 v_inn_house_doors v_casts_fitters_22 v_casts_kin_40).bind (un1 fun (r_48 : Int32) => (fX10_answer N r_48).bind (un2 fun (r_51 : Int32) (v_refusal_51 : Int32) => some (r_51, v_refusal_51, v_casts_fitting_22, v_casts_plain_rows_40, v_casts_fitters_22, v_casts_tried_40, v_casts_trial_setting_40, v_casts_trial_been_40, v_casts_trial_ways_rooms_40, v_casts_trial_ways_steps_40, v_casts_trial_thingIn_40, v_casts_trial_full_40, v_casts_trial_heardBy_40, v_casts_trial_dreamOf_40, v_casts_trial_stateOf_40, v_casts_trial_roomOf_40, v_casts_trial_handOf_40, v_casts_trial_awake_40, v_casts_trial_how_40, v_casts_trial_passed_40, v_casts_set_rows_40, v_casts_kin_40))))))))
set_option maxHeartbeats 4000000 in
set_option maxRecDepth 100000 in
theorem ctX10_never (l : Launch) (E : EN) (h h_reader h_inn h_chosen h_night h_marks h_notes h_casts h_inn_house h_inn_thingIn h_inn_full h_inn_states h_inn_bed h_inn_dreamOf h_inn_listensIn h_casts_trial h_casts_dreams h_casts_plain h_casts_set h_casts_tried h_casts_kin h_casts_fitters h_notes_book h_notes_sort h_notes_one h_notes_other h_casts_plain_rows h_inn_house_creak h_inn_house_cold h_inn_house_one h_inn_house_other h_inn_house_how h_inn_house_falls h_inn_house_ways h_casts_trial_ways h_casts_trial_how h_casts_trial_passed h_casts_trial_dreamOf h_casts_trial_stateOf h_casts_trial_roomOf h_casts_trial_handOf h_casts_trial_awake h_casts_trial_thingIn h_casts_trial_full h_casts_trial_heardBy h_casts_trial_ways_steps h_inn_house_ways_steps h_casts_set_rows : Nat) (v_marked : Int32) (v_refusal : Int32) (v_latestFault : Int32) (v_faultPlace : Int32) (v_inn_minutes : Int32) (v_inn_things : Int32) (v_inn_dreams : Int32) (v_inn_sleepers : Int32) (v_inn_listeners : Int32) (v_casts_count : Int32) (v_casts_fitting : Int32) (v_notes_count : Int32) (v_notes_book : Nat → Int32) (v_notes_sort : Nat → Int32) (v_notes_one : Nat → Int32) (v_casts_plain_rows : Nat → Int64) (v_notes_other : Nat → Int32) (v_casts_fitters : Nat → Int32) (v_inn_house_rooms : Int32) (v_inn_house_doors : Int32) (v_casts_tried : Nat → Int32) (v_casts_trial_setting : Int32) (v_casts_trial_been : Int32) (v_inn_house_how : Nat → Int32) (v_casts_trial_ways_rooms : Int32) (v_casts_trial_ways_steps : Nat → Int32) (v_inn_house_one : Nat → Int32) (v_inn_house_other : Nat → Int32) (v_inn_thingIn : Nat → Int32) (v_casts_trial_thingIn : Nat → Int32) (v_inn_full : Nat → Int32) (v_casts_trial_full : Nat → Int32) (v_casts_trial_heardBy : Nat → Int64) (v_casts_dreams : Nat → Int32) (v_casts_trial_dreamOf : Nat → Int32) (v_casts_trial_stateOf : Nat → Int32) (v_inn_bed : Nat → Int32) (v_casts_trial_roomOf : Nat → Int32) (v_casts_trial_handOf : Nat → Int32) (v_casts_trial_awake : Nat → Int32) (v_casts_trial_how : Nat → Int32) (v_casts_trial_passed : Nat → Int32) (v_inn_states : Nat → Int32) (v_inn_house_creak : Nat → Int32) (v_inn_listensIn : Nat → Int32) (v_inn_house_ways_rooms : Int32) (v_inn_house_ways_steps : Nat → Int32) (v_inn_house_cold : Nat → Int32) (v_inn_house_falls : Nat → Int32) (v_casts_set_rows : Nat → Int64) (v_casts_kin : Nat → Int32) (N : Nat) (z0 : Int32) (z1 : Int32) (z2 : Int32) (z3 : Nat → Int64) (z4 : Nat → Int32) (z5 : Nat → Int32) (z6 : Int32) (z7 : Int32) (z8 : Int32) (z9 : Nat → Int32) (z10 : Nat → Int32) (z11 : Nat → Int32) (z12 : Nat → Int64) (z13 : Nat → Int32) (z14 : Nat → Int32) (z15 : Nat → Int32) (z16 : Nat → Int32) (z17 : Nat → Int32) (z18 : Nat → Int32) (z19 : Nat → Int32) (z20 : Nat → Int64) (z21 : Nat → Int32) (hf : fX10_never N v_inn_minutes v_inn_things v_inn_sleepers v_inn_listeners v_casts_count v_casts_fitting v_notes_count v_notes_book v_notes_sort v_notes_one v_casts_plain_rows v_notes_other v_casts_fitters v_inn_house_rooms v_inn_house_doors v_casts_tried v_casts_trial_setting v_casts_trial_been v_inn_house_how v_casts_trial_ways_rooms v_casts_trial_ways_steps v_inn_house_one v_inn_house_other v_inn_thingIn v_casts_trial_thingIn v_inn_full v_casts_trial_full v_casts_trial_heardBy v_casts_dreams v_casts_trial_dreamOf v_casts_trial_stateOf v_inn_bed v_casts_trial_roomOf v_casts_trial_handOf v_casts_trial_awake v_casts_trial_how v_casts_trial_passed v_inn_states v_inn_house_creak v_inn_listensIn v_inn_house_ways_steps v_inn_house_cold v_inn_house_falls v_casts_set_rows v_casts_kin = some (z0, z1, z2, z3, z4, z5, z6, z7, z8, z9, z10, z11, z12, z13, z14, z15, z16, z17, z18, z19, z20, z21)) : CTi l E yX10_never cX10_never 1 .int 6 144 [.ref h] (wX10_never E h h_reader h_inn h_chosen h_night h_marks h_notes h_casts h_inn_house h_inn_thingIn h_inn_full h_inn_states h_inn_bed h_inn_dreamOf h_inn_listensIn h_casts_trial h_casts_dreams h_casts_plain h_casts_set h_casts_tried h_casts_kin h_casts_fitters h_notes_book h_notes_sort h_notes_one h_notes_other h_casts_plain_rows h_inn_house_creak h_inn_house_cold h_inn_house_one h_inn_house_other h_inn_house_how h_inn_house_falls h_inn_house_ways h_casts_trial_ways h_casts_trial_how h_casts_trial_passed h_casts_trial_dreamOf h_casts_trial_stateOf h_casts_trial_roomOf h_casts_trial_handOf h_casts_trial_awake h_casts_trial_thingIn h_casts_trial_full h_casts_trial_heardBy h_casts_trial_ways_steps h_inn_house_ways_steps h_casts_set_rows v_marked v_refusal v_latestFault v_faultPlace v_inn_minutes v_inn_things v_inn_dreams v_inn_sleepers v_inn_listeners v_casts_count v_casts_fitting v_notes_count v_notes_book v_notes_sort v_notes_one v_casts_plain_rows v_notes_other v_casts_fitters v_inn_house_rooms v_inn_house_doors v_casts_tried v_casts_trial_setting v_casts_trial_been v_inn_house_how v_casts_trial_ways_rooms v_casts_trial_ways_steps v_inn_house_one v_inn_house_other v_inn_thingIn v_casts_trial_thingIn v_inn_full v_casts_trial_full v_casts_trial_heardBy v_casts_dreams v_casts_trial_dreamOf v_casts_trial_stateOf v_inn_bed v_casts_trial_roomOf v_casts_trial_handOf v_casts_trial_awake v_casts_trial_how v_casts_trial_passed v_inn_states v_inn_house_creak v_inn_listensIn v_inn_house_ways_rooms v_inn_house_ways_steps v_inn_house_cold v_inn_house_falls v_casts_set_rows v_casts_kin) z0 (wX10_never E h h_reader h_inn h_chosen h_night h_marks h_notes h_casts h_inn_house h_inn_thingIn h_inn_full h_inn_states h_inn_bed h_inn_dreamOf h_inn_listensIn h_casts_trial h_casts_dreams h_casts_plain h_casts_set h_casts_tried h_casts_kin h_casts_fitters h_notes_book h_notes_sort h_notes_one h_notes_other h_casts_plain_rows h_inn_house_creak h_inn_house_cold h_inn_house_one h_inn_house_other h_inn_house_how h_inn_house_falls h_inn_house_ways h_casts_trial_ways h_casts_trial_how h_casts_trial_passed h_casts_trial_dreamOf h_casts_trial_stateOf h_casts_trial_roomOf h_casts_trial_handOf h_casts_trial_awake h_casts_trial_thingIn h_casts_trial_full h_casts_trial_heardBy h_casts_trial_ways_steps h_inn_house_ways_steps h_casts_set_rows v_marked z1 v_latestFault v_faultPlace v_inn_minutes v_inn_things v_inn_dreams v_inn_sleepers v_inn_listeners v_casts_count z2 v_notes_count v_notes_book v_notes_sort v_notes_one z3 v_notes_other z4 v_inn_house_rooms v_inn_house_doors z5 z6 z7 v_inn_house_how z8 z9 v_inn_house_one v_inn_house_other v_inn_thingIn z10 v_inn_full z11 z12 v_casts_dreams z13 z14 v_inn_bed z15 z16 z17 z18 z19 v_inn_states v_inn_house_creak v_inn_listensIn v_inn_house_ways_rooms v_inn_house_ways_steps v_inn_house_cold v_inn_house_falls z20 z21) := by
  intro sz
  refine ct_body (by decide) (Nat.le_of_ble_eq_true rfl) ?_
  intro p e s m args below meth c A ls hAe C hr hin hP hD hS hl
  have C : CX p s m args meth c cX10_never RX10 1 E A := C
  have hl : lv_has ls 1 [(0, .ref h)] := hl
  have hx := C.1
  have hb := C.2.1
  rw [hAe]
  clear hAe
  obtain ⟨Q, hQ⟩ : ∃ Q, Q = MQ below (Qi E A z0 (wX10_never E h h_reader h_inn h_chosen h_night h_marks h_notes h_casts h_inn_house h_inn_thingIn h_inn_full h_inn_states h_inn_bed h_inn_dreamOf h_inn_listensIn h_casts_trial h_casts_dreams h_casts_plain h_casts_set h_casts_tried h_casts_kin h_casts_fitters h_notes_book h_notes_sort h_notes_one h_notes_other h_casts_plain_rows h_inn_house_creak h_inn_house_cold h_inn_house_one h_inn_house_other h_inn_house_how h_inn_house_falls h_inn_house_ways h_casts_trial_ways h_casts_trial_how h_casts_trial_passed h_casts_trial_dreamOf h_casts_trial_stateOf h_casts_trial_roomOf h_casts_trial_handOf h_casts_trial_awake h_casts_trial_thingIn h_casts_trial_full h_casts_trial_heardBy h_casts_trial_ways_steps h_inn_house_ways_steps h_casts_set_rows v_marked z1 v_latestFault v_faultPlace v_inn_minutes v_inn_things v_inn_dreams v_inn_sleepers v_inn_listeners v_casts_count z2 v_notes_count v_notes_book v_notes_sort v_notes_one z3 v_notes_other z4 v_inn_house_rooms v_inn_house_doors z5 z6 z7 v_inn_house_how z8 z9 v_inn_house_one v_inn_house_other v_inn_thingIn z10 v_inn_full z11 z12 v_casts_dreams z13 z14 v_inn_bed z15 z16 z17 z18 z19 v_inn_states v_inn_house_creak v_inn_listensIn v_inn_house_ways_rooms v_inn_house_ways_steps v_inn_house_cold v_inn_house_falls z20 z21)) args s 0 0 A := ⟨_, rfl⟩
  rw [← hQ]
  unfold fX10_never at hf
  refine lv_aload_n hx hb dX10_never_0 rfl (lv_at hl 0 rfl) ?_
  obtain ⟨r_1, hc_1, hf⟩ := bd1 hf
  refine r_callVi (ws' := (wX10_never E h h_reader h_inn h_chosen h_night h_marks h_notes h_casts h_inn_house h_inn_thingIn h_inn_full h_inn_states h_inn_bed h_inn_dreamOf h_inn_listensIn h_casts_trial h_casts_dreams h_casts_plain h_casts_set h_casts_tried h_casts_kin h_casts_fitters h_notes_book h_notes_sort h_notes_one h_notes_other h_casts_plain_rows h_inn_house_creak h_inn_house_cold h_inn_house_one h_inn_house_other h_inn_house_how h_inn_house_falls h_inn_house_ways h_casts_trial_ways h_casts_trial_how h_casts_trial_passed h_casts_trial_dreamOf h_casts_trial_stateOf h_casts_trial_roomOf h_casts_trial_handOf h_casts_trial_awake h_casts_trial_thingIn h_casts_trial_full h_casts_trial_heardBy h_casts_trial_ways_steps h_inn_house_ways_steps h_casts_set_rows v_marked v_refusal v_latestFault v_faultPlace v_inn_minutes v_inn_things v_inn_dreams v_inn_sleepers v_inn_listeners v_casts_count v_casts_fitting v_notes_count v_notes_book v_notes_sort v_notes_one v_casts_plain_rows v_notes_other v_casts_fitters v_inn_house_rooms v_inn_house_doors v_casts_tried v_casts_trial_setting v_casts_trial_been v_inn_house_how v_casts_trial_ways_rooms v_casts_trial_ways_steps v_inn_house_one v_inn_house_other v_inn_thingIn v_casts_trial_thingIn v_inn_full v_casts_trial_full v_casts_trial_heardBy v_casts_dreams v_casts_trial_dreamOf v_casts_trial_stateOf v_inn_bed v_casts_trial_roomOf v_casts_trial_handOf v_casts_trial_awake v_casts_trial_how v_casts_trial_passed v_inn_states v_inn_house_creak v_inn_listensIn v_inn_house_ways_rooms v_inn_house_ways_steps v_inn_house_cold v_inn_house_falls v_casts_set_rows v_casts_kin)) (As := []) (rest := []) C (ctX10_isTold l E h h_reader h_inn h_chosen h_night h_marks h_notes h_casts h_inn_house h_inn_thingIn h_inn_full h_inn_states h_inn_bed h_inn_dreamOf h_inn_listensIn v_marked v_refusal v_latestFault v_faultPlace v_inn_minutes v_inn_things v_inn_dreams v_inn_sleepers v_inn_listeners N r_1 hc_1) ml_X10_170 ⟨Nat.le_of_ble_eq_true rfl, Nat.le_of_ble_eq_true rfl⟩ hP hD hS 0 rfl rfl rfl [0, 1] rfl rfl rfl rfl rfl hl.1 rfl (Nat.le_of_ble_eq_true rfl) ⟨Nat.zero_le _, Nat.zero_le _⟩ dX10_never_1 ?_
  clear hP hD hS; intro H locs hP hD hS
  refine lv_if_ne (tgt := 13) hx hb dX10_never_4 (by decide) (fun c_4 => ?_) (fun c_4 => ?_)
  · replace hf := it_f c_4 hf
    refine lv_aload_n hx hb dX10_never_13 rfl (lv_at hl 0 rfl) ?_
    refine r_get C hP 0 rfl fl_X10_50 rfl dX10_never_14 ?_
    refine lv_aload_n hx hb dX10_never_17 rfl (lv_at hl 0 rfl) ?_
    refine r_get C hP 0 rfl fl_X10_43 rfl dX10_never_18 ?_
    refine lv_iconst (v := 3) hx hb dX10_never_21 (by decide) ?_
    obtain ⟨r_22, v_casts_fitting_22, v_casts_fitters_22, hc_22, hf⟩ := bd3 hf
    refine r_callVi (ws' := (wX10_never E h h_reader h_inn h_chosen h_night h_marks h_notes h_casts h_inn_house h_inn_thingIn h_inn_full h_inn_states h_inn_bed h_inn_dreamOf h_inn_listensIn h_casts_trial h_casts_dreams h_casts_plain h_casts_set h_casts_tried h_casts_kin h_casts_fitters h_notes_book h_notes_sort h_notes_one h_notes_other h_casts_plain_rows h_inn_house_creak h_inn_house_cold h_inn_house_one h_inn_house_other h_inn_house_how h_inn_house_falls h_inn_house_ways h_casts_trial_ways h_casts_trial_how h_casts_trial_passed h_casts_trial_dreamOf h_casts_trial_stateOf h_casts_trial_roomOf h_casts_trial_handOf h_casts_trial_awake h_casts_trial_thingIn h_casts_trial_full h_casts_trial_heardBy h_casts_trial_ways_steps h_inn_house_ways_steps h_casts_set_rows v_marked v_refusal v_latestFault v_faultPlace v_inn_minutes v_inn_things v_inn_dreams v_inn_sleepers v_inn_listeners v_casts_count v_casts_fitting_22 v_notes_count v_notes_book v_notes_sort v_notes_one v_casts_plain_rows v_notes_other v_casts_fitters_22 v_inn_house_rooms v_inn_house_doors v_casts_tried v_casts_trial_setting v_casts_trial_been v_inn_house_how v_casts_trial_ways_rooms v_casts_trial_ways_steps v_inn_house_one v_inn_house_other v_inn_thingIn v_casts_trial_thingIn v_inn_full v_casts_trial_full v_casts_trial_heardBy v_casts_dreams v_casts_trial_dreamOf v_casts_trial_stateOf v_inn_bed v_casts_trial_roomOf v_casts_trial_handOf v_casts_trial_awake v_casts_trial_how v_casts_trial_passed v_inn_states v_inn_house_creak v_inn_listensIn v_inn_house_ways_rooms v_inn_house_ways_steps v_inn_house_cold v_inn_house_falls v_casts_set_rows v_casts_kin)) (As := [.ref h_notes, .int 3]) (rest := []) C (ctX0_gather l E h_casts h_casts_trial h_inn h_casts_dreams h_casts_plain h_casts_set h_casts_tried h_casts_kin h_casts_fitters h_notes h_notes_book h_notes_sort h_notes_one h_notes_other h_casts_plain_rows v_casts_count v_casts_fitting v_notes_count v_notes_book v_notes_sort v_notes_one v_casts_plain_rows v_notes_other v_casts_fitters N 3 r_22 v_casts_fitting_22 v_casts_fitters_22 hc_22) ml_X10_262 ⟨Nat.le_of_ble_eq_true rfl, Nat.le_of_ble_eq_true rfl⟩ hP hD hS 2 rfl rfl rfl [2, 3, 4, 5, 6, 7, 8, 9, 10] rfl rfl rfl rfl rfl hl.1 rfl (Nat.le_of_ble_eq_true rfl) ⟨Nat.zero_le _, Nat.zero_le _⟩ dX10_never_22 ?_
    clear hP hD hS; intro H locs hP hD hS
    refine lv_pop hx hb dX10_never_25 rfl ?_
    refine lv_aload_n hx hb dX10_never_26 rfl (lv_at hl 0 rfl) ?_
    refine r_get C hP 0 rfl fl_X10_50 rfl dX10_never_27 ?_
    refine lv_iconst (v := 0) hx hb dX10_never_30 (by decide) ?_
    refine lv_aload_n hx hb dX10_never_31 rfl (lv_at hl 0 rfl) ?_
    refine r_get C hP 0 rfl fl_X10_19 rfl dX10_never_32 ?_
    obtain ⟨r_35, hc_35, hf⟩ := bd1 hf
    refine r_callVi (ws' := (wX10_never E h h_reader h_inn h_chosen h_night h_marks h_notes h_casts h_inn_house h_inn_thingIn h_inn_full h_inn_states h_inn_bed h_inn_dreamOf h_inn_listensIn h_casts_trial h_casts_dreams h_casts_plain h_casts_set h_casts_tried h_casts_kin h_casts_fitters h_notes_book h_notes_sort h_notes_one h_notes_other h_casts_plain_rows h_inn_house_creak h_inn_house_cold h_inn_house_one h_inn_house_other h_inn_house_how h_inn_house_falls h_inn_house_ways h_casts_trial_ways h_casts_trial_how h_casts_trial_passed h_casts_trial_dreamOf h_casts_trial_stateOf h_casts_trial_roomOf h_casts_trial_handOf h_casts_trial_awake h_casts_trial_thingIn h_casts_trial_full h_casts_trial_heardBy h_casts_trial_ways_steps h_inn_house_ways_steps h_casts_set_rows v_marked v_refusal v_latestFault v_faultPlace v_inn_minutes v_inn_things v_inn_dreams v_inn_sleepers v_inn_listeners v_casts_count v_casts_fitting_22 v_notes_count v_notes_book v_notes_sort v_notes_one v_casts_plain_rows v_notes_other v_casts_fitters_22 v_inn_house_rooms v_inn_house_doors v_casts_tried v_casts_trial_setting v_casts_trial_been v_inn_house_how v_casts_trial_ways_rooms v_casts_trial_ways_steps v_inn_house_one v_inn_house_other v_inn_thingIn v_casts_trial_thingIn v_inn_full v_casts_trial_full v_casts_trial_heardBy v_casts_dreams v_casts_trial_dreamOf v_casts_trial_stateOf v_inn_bed v_casts_trial_roomOf v_casts_trial_handOf v_casts_trial_awake v_casts_trial_how v_casts_trial_passed v_inn_states v_inn_house_creak v_inn_listensIn v_inn_house_ways_rooms v_inn_house_ways_steps v_inn_house_cold v_inn_house_falls v_casts_set_rows v_casts_kin)) (As := []) (rest := [.int 0, .ref h_casts]) C (ctX2_settings l E h_inn h_inn_house h_inn_thingIn h_inn_full h_inn_states h_inn_bed h_inn_dreamOf h_inn_listensIn h_inn_house_creak h_inn_house_cold h_inn_house_one h_inn_house_other h_inn_house_how h_inn_house_falls h_inn_house_ways v_inn_minutes v_inn_things v_inn_dreams v_inn_sleepers v_inn_listeners v_inn_house_rooms v_inn_house_doors N r_35 hc_35) ml_X10_275 ⟨Nat.le_of_ble_eq_true rfl, Nat.le_of_ble_eq_true rfl⟩ hP hD hS 1 rfl rfl rfl [1, 11] rfl rfl rfl rfl rfl hl.1 rfl (Nat.le_of_ble_eq_true rfl) ⟨Nat.zero_le _, Nat.zero_le _⟩ dX10_never_35 ?_
    clear hP hD hS; intro H locs hP hD hS
    refine lv_iconst (v := 1) hx hb dX10_never_38 (by decide) ?_
    refine lv_isub hx hb dX10_never_39 ?_
    obtain ⟨v_casts_tried_40, v_casts_trial_setting_40, v_casts_trial_been_40, v_casts_trial_ways_rooms_40, v_casts_trial_ways_steps_40, v_casts_trial_thingIn_40, v_casts_trial_full_40, v_casts_trial_heardBy_40, v_casts_trial_dreamOf_40, v_casts_trial_stateOf_40, v_casts_trial_roomOf_40, v_casts_trial_handOf_40, v_casts_trial_awake_40, v_casts_trial_how_40, v_casts_trial_passed_40, v_casts_set_rows_40, v_casts_kin_40, v_casts_plain_rows_40, hc_40, hf⟩ := bd18 hf
    refine r_callVv (ws' := (wX10_never E h h_reader h_inn h_chosen h_night h_marks h_notes h_casts h_inn_house h_inn_thingIn h_inn_full h_inn_states h_inn_bed h_inn_dreamOf h_inn_listensIn h_casts_trial h_casts_dreams h_casts_plain h_casts_set h_casts_tried h_casts_kin h_casts_fitters h_notes_book h_notes_sort h_notes_one h_notes_other h_casts_plain_rows h_inn_house_creak h_inn_house_cold h_inn_house_one h_inn_house_other h_inn_house_how h_inn_house_falls h_inn_house_ways h_casts_trial_ways h_casts_trial_how h_casts_trial_passed h_casts_trial_dreamOf h_casts_trial_stateOf h_casts_trial_roomOf h_casts_trial_handOf h_casts_trial_awake h_casts_trial_thingIn h_casts_trial_full h_casts_trial_heardBy h_casts_trial_ways_steps h_inn_house_ways_steps h_casts_set_rows v_marked v_refusal v_latestFault v_faultPlace v_inn_minutes v_inn_things v_inn_dreams v_inn_sleepers v_inn_listeners v_casts_count v_casts_fitting_22 v_notes_count v_notes_book v_notes_sort v_notes_one v_casts_plain_rows_40 v_notes_other v_casts_fitters_22 v_inn_house_rooms v_inn_house_doors v_casts_tried_40 v_casts_trial_setting_40 v_casts_trial_been_40 v_inn_house_how v_casts_trial_ways_rooms_40 v_casts_trial_ways_steps_40 v_inn_house_one v_inn_house_other v_inn_thingIn v_casts_trial_thingIn_40 v_inn_full v_casts_trial_full_40 v_casts_trial_heardBy_40 v_casts_dreams v_casts_trial_dreamOf_40 v_casts_trial_stateOf_40 v_inn_bed v_casts_trial_roomOf_40 v_casts_trial_handOf_40 v_casts_trial_awake_40 v_casts_trial_how_40 v_casts_trial_passed_40 v_inn_states v_inn_house_creak v_inn_listensIn v_inn_house_ways_rooms v_inn_house_ways_steps v_inn_house_cold v_inn_house_falls v_casts_set_rows_40 v_casts_kin_40)) (As := [.int 0, .int (r_35 - 1)]) (rest := []) C (ctX0_tryOuts l E h_casts h_casts_trial h_inn h_casts_dreams h_casts_plain h_casts_set h_casts_tried h_casts_kin h_casts_fitters h_casts_trial_ways h_casts_trial_how h_casts_trial_passed h_casts_trial_dreamOf h_casts_trial_stateOf h_casts_trial_roomOf h_casts_trial_handOf h_casts_trial_awake h_casts_trial_thingIn h_casts_trial_full h_casts_trial_heardBy h_inn_house h_inn_thingIn h_inn_full h_inn_states h_inn_bed h_inn_dreamOf h_inn_listensIn h_inn_house_creak h_inn_house_cold h_inn_house_one h_inn_house_other h_inn_house_how h_inn_house_falls h_inn_house_ways h_casts_trial_ways_steps h_inn_house_ways_steps h_casts_set_rows h_casts_plain_rows v_casts_count v_casts_fitting_22 v_casts_tried v_casts_trial_setting v_casts_trial_been v_inn_minutes v_inn_things v_inn_dreams v_inn_sleepers v_inn_listeners v_inn_house_rooms v_inn_house_doors v_inn_house_how v_casts_trial_ways_rooms v_casts_trial_ways_steps v_inn_house_one v_inn_house_other v_inn_thingIn v_casts_trial_thingIn v_inn_full v_casts_trial_full v_casts_trial_heardBy v_casts_dreams v_casts_trial_dreamOf v_casts_trial_stateOf v_inn_bed v_casts_trial_roomOf v_casts_trial_handOf v_casts_trial_awake v_casts_trial_how v_casts_trial_passed v_inn_states v_inn_house_creak v_inn_listensIn v_inn_house_ways_rooms v_inn_house_ways_steps v_inn_house_cold v_inn_house_falls v_casts_set_rows v_casts_kin v_casts_plain_rows N 0 (r_35 - 1) v_casts_tried_40 v_casts_trial_setting_40 v_casts_trial_been_40 v_casts_trial_ways_rooms_40 v_casts_trial_ways_steps_40 v_casts_trial_thingIn_40 v_casts_trial_full_40 v_casts_trial_heardBy_40 v_casts_trial_dreamOf_40 v_casts_trial_stateOf_40 v_casts_trial_roomOf_40 v_casts_trial_handOf_40 v_casts_trial_awake_40 v_casts_trial_how_40 v_casts_trial_passed_40 v_casts_set_rows_40 v_casts_kin_40 v_casts_plain_rows_40 hc_40) ml_X10_88 ⟨Nat.le_of_ble_eq_true rfl, Nat.le_of_ble_eq_true rfl⟩ hP hD hS 2 rfl rfl rfl [2, 12, 13, 1, 11, 14, 15, 16, 17, 18, 19, 20, 21, 22, 23, 24, 25, 26, 27, 28, 29, 30, 31, 32, 33, 34, 35, 36, 37, 38, 39, 40, 41, 42, 7, 8] rfl rfl rfl rfl rfl hl.1 rfl (Nat.le_of_ble_eq_true rfl) ⟨Nat.zero_le _, Nat.zero_le _⟩ dX10_never_40 ?_
    clear hP hD hS; intro H locs hP hD hS
    refine lv_aload_n hx hb dX10_never_43 rfl (lv_at hl 0 rfl) ?_
    refine lv_aload_n hx hb dX10_never_44 rfl (lv_at hl 0 rfl) ?_
    refine r_get C hP 0 rfl fl_X10_50 rfl dX10_never_45 ?_
    obtain ⟨r_48, hc_48, hf⟩ := bd1 hf
    refine r_callVi (ws' := (wX10_never E h h_reader h_inn h_chosen h_night h_marks h_notes h_casts h_inn_house h_inn_thingIn h_inn_full h_inn_states h_inn_bed h_inn_dreamOf h_inn_listensIn h_casts_trial h_casts_dreams h_casts_plain h_casts_set h_casts_tried h_casts_kin h_casts_fitters h_notes_book h_notes_sort h_notes_one h_notes_other h_casts_plain_rows h_inn_house_creak h_inn_house_cold h_inn_house_one h_inn_house_other h_inn_house_how h_inn_house_falls h_inn_house_ways h_casts_trial_ways h_casts_trial_how h_casts_trial_passed h_casts_trial_dreamOf h_casts_trial_stateOf h_casts_trial_roomOf h_casts_trial_handOf h_casts_trial_awake h_casts_trial_thingIn h_casts_trial_full h_casts_trial_heardBy h_casts_trial_ways_steps h_inn_house_ways_steps h_casts_set_rows v_marked v_refusal v_latestFault v_faultPlace v_inn_minutes v_inn_things v_inn_dreams v_inn_sleepers v_inn_listeners v_casts_count v_casts_fitting_22 v_notes_count v_notes_book v_notes_sort v_notes_one v_casts_plain_rows_40 v_notes_other v_casts_fitters_22 v_inn_house_rooms v_inn_house_doors v_casts_tried_40 v_casts_trial_setting_40 v_casts_trial_been_40 v_inn_house_how v_casts_trial_ways_rooms_40 v_casts_trial_ways_steps_40 v_inn_house_one v_inn_house_other v_inn_thingIn v_casts_trial_thingIn_40 v_inn_full v_casts_trial_full_40 v_casts_trial_heardBy_40 v_casts_dreams v_casts_trial_dreamOf_40 v_casts_trial_stateOf_40 v_inn_bed v_casts_trial_roomOf_40 v_casts_trial_handOf_40 v_casts_trial_awake_40 v_casts_trial_how_40 v_casts_trial_passed_40 v_inn_states v_inn_house_creak v_inn_listensIn v_inn_house_ways_rooms v_inn_house_ways_steps v_inn_house_cold v_inn_house_falls v_casts_set_rows_40 v_casts_kin_40)) (As := []) (rest := [.ref h]) C (ctX0_alikePairs l E h_casts h_casts_trial h_inn h_casts_dreams h_casts_plain h_casts_set h_casts_tried h_casts_kin h_casts_fitters h_inn_house h_inn_thingIn h_inn_full h_inn_states h_inn_bed h_inn_dreamOf h_inn_listensIn h_inn_house_creak h_inn_house_cold h_inn_house_one h_inn_house_other h_inn_house_how h_inn_house_falls h_inn_house_ways v_casts_count v_casts_fitting_22 v_inn_minutes v_inn_things v_inn_dreams v_inn_sleepers v_inn_listeners v_inn_house_rooms v_inn_house_doors v_casts_fitters_22 v_casts_kin_40 N r_48 hc_48) ml_X10_285 ⟨Nat.le_of_ble_eq_true rfl, Nat.le_of_ble_eq_true rfl⟩ hP hD hS 2 rfl rfl rfl [2, 1, 11, 10, 42] rfl rfl rfl rfl rfl hl.1 rfl (Nat.le_of_ble_eq_true rfl) ⟨Nat.zero_le _, Nat.zero_le _⟩ dX10_never_48 ?_
    clear hP hD hS; intro H locs hP hD hS
    obtain ⟨r_51, v_refusal_51, hc_51, hf⟩ := bd2 hf
    refine r_callVi (ws' := (wX10_never E h h_reader h_inn h_chosen h_night h_marks h_notes h_casts h_inn_house h_inn_thingIn h_inn_full h_inn_states h_inn_bed h_inn_dreamOf h_inn_listensIn h_casts_trial h_casts_dreams h_casts_plain h_casts_set h_casts_tried h_casts_kin h_casts_fitters h_notes_book h_notes_sort h_notes_one h_notes_other h_casts_plain_rows h_inn_house_creak h_inn_house_cold h_inn_house_one h_inn_house_other h_inn_house_how h_inn_house_falls h_inn_house_ways h_casts_trial_ways h_casts_trial_how h_casts_trial_passed h_casts_trial_dreamOf h_casts_trial_stateOf h_casts_trial_roomOf h_casts_trial_handOf h_casts_trial_awake h_casts_trial_thingIn h_casts_trial_full h_casts_trial_heardBy h_casts_trial_ways_steps h_inn_house_ways_steps h_casts_set_rows v_marked v_refusal_51 v_latestFault v_faultPlace v_inn_minutes v_inn_things v_inn_dreams v_inn_sleepers v_inn_listeners v_casts_count v_casts_fitting_22 v_notes_count v_notes_book v_notes_sort v_notes_one v_casts_plain_rows_40 v_notes_other v_casts_fitters_22 v_inn_house_rooms v_inn_house_doors v_casts_tried_40 v_casts_trial_setting_40 v_casts_trial_been_40 v_inn_house_how v_casts_trial_ways_rooms_40 v_casts_trial_ways_steps_40 v_inn_house_one v_inn_house_other v_inn_thingIn v_casts_trial_thingIn_40 v_inn_full v_casts_trial_full_40 v_casts_trial_heardBy_40 v_casts_dreams v_casts_trial_dreamOf_40 v_casts_trial_stateOf_40 v_inn_bed v_casts_trial_roomOf_40 v_casts_trial_handOf_40 v_casts_trial_awake_40 v_casts_trial_how_40 v_casts_trial_passed_40 v_inn_states v_inn_house_creak v_inn_listensIn v_inn_house_ways_rooms v_inn_house_ways_steps v_inn_house_cold v_inn_house_falls v_casts_set_rows_40 v_casts_kin_40)) (As := [.int r_48]) (rest := []) C (ctX10_answer l E h h_reader h_inn h_chosen h_night h_marks h_notes h_casts v_marked v_refusal v_latestFault v_faultPlace N r_48 r_51 v_refusal_51 hc_51) ml_X10_95 ⟨Nat.le_of_ble_eq_true rfl, Nat.le_of_ble_eq_true rfl⟩ hP hD hS 0 rfl rfl rfl [0] rfl rfl rfl rfl rfl hl.1 rfl (Nat.le_of_ble_eq_true rfl) ⟨Nat.zero_le _, Nat.zero_le _⟩ dX10_never_51 ?_
    clear hP hD hS; intro H locs hP hD hS
    cases hf
    rw [hQ]
    exact r_iret C hr hP hD hS rfl dX10_never_54
  · replace hf := it_t c_4 hf
    refine lv_aload_n hx hb dX10_never_7 rfl (lv_at hl 0 rfl) ?_
    refine lv_iconst (v := 1) hx hb dX10_never_8 (by decide) ?_
    obtain ⟨r_9, v_refusal_9, hc_9, hf⟩ := bd2 hf
    refine r_callVi (ws' := (wX10_never E h h_reader h_inn h_chosen h_night h_marks h_notes h_casts h_inn_house h_inn_thingIn h_inn_full h_inn_states h_inn_bed h_inn_dreamOf h_inn_listensIn h_casts_trial h_casts_dreams h_casts_plain h_casts_set h_casts_tried h_casts_kin h_casts_fitters h_notes_book h_notes_sort h_notes_one h_notes_other h_casts_plain_rows h_inn_house_creak h_inn_house_cold h_inn_house_one h_inn_house_other h_inn_house_how h_inn_house_falls h_inn_house_ways h_casts_trial_ways h_casts_trial_how h_casts_trial_passed h_casts_trial_dreamOf h_casts_trial_stateOf h_casts_trial_roomOf h_casts_trial_handOf h_casts_trial_awake h_casts_trial_thingIn h_casts_trial_full h_casts_trial_heardBy h_casts_trial_ways_steps h_inn_house_ways_steps h_casts_set_rows v_marked v_refusal_9 v_latestFault v_faultPlace v_inn_minutes v_inn_things v_inn_dreams v_inn_sleepers v_inn_listeners v_casts_count v_casts_fitting v_notes_count v_notes_book v_notes_sort v_notes_one v_casts_plain_rows v_notes_other v_casts_fitters v_inn_house_rooms v_inn_house_doors v_casts_tried v_casts_trial_setting v_casts_trial_been v_inn_house_how v_casts_trial_ways_rooms v_casts_trial_ways_steps v_inn_house_one v_inn_house_other v_inn_thingIn v_casts_trial_thingIn v_inn_full v_casts_trial_full v_casts_trial_heardBy v_casts_dreams v_casts_trial_dreamOf v_casts_trial_stateOf v_inn_bed v_casts_trial_roomOf v_casts_trial_handOf v_casts_trial_awake v_casts_trial_how v_casts_trial_passed v_inn_states v_inn_house_creak v_inn_listensIn v_inn_house_ways_rooms v_inn_house_ways_steps v_inn_house_cold v_inn_house_falls v_casts_set_rows v_casts_kin)) (As := [.int 1]) (rest := []) C (ctX10_refuse l E h h_reader h_inn h_chosen h_night h_marks h_notes h_casts v_marked v_refusal v_latestFault v_faultPlace N 1 r_9 v_refusal_9 hc_9) ml_X10_68 ⟨Nat.le_of_ble_eq_true rfl, Nat.le_of_ble_eq_true rfl⟩ hP hD hS 0 rfl rfl rfl [0] rfl rfl rfl rfl rfl hl.1 rfl (Nat.le_of_ble_eq_true rfl) ⟨Nat.zero_le _, Nat.zero_le _⟩ dX10_never_9 ?_
    clear hP hD hS; intro H locs hP hD hS
    cases hf
    rw [hQ]
    exact r_iret C hr hP hD hS rfl dX10_never_12
def wJ6_bitCount_0f7a4 (E : EN) : va_W := []
def fJ6_bitCount_0f7a4 (N : Nat) (p0 : Int32) : Option Int32 := some ((((((((p0 - (((p0.toUInt32 >>> ((1 : Int32).toUInt32 &&& Int32.toUInt32 31)).toInt32) &&& 1431655765)) &&& 858993459) + ((((p0 - (((p0.toUInt32 >>> ((1 : Int32).toUInt32 &&& Int32.toUInt32 31)).toInt32) &&& 1431655765)).toUInt32 >>> ((2 : Int32).toUInt32 &&& Int32.toUInt32 31)).toInt32) &&& 858993459)) + (((((p0 - (((p0.toUInt32 >>> ((1 : Int32).toUInt32 &&& Int32.toUInt32 31)).toInt32) &&& 1431655765)) &&& 858993459) + ((((p0 - (((p0.toUInt32 >>> ((1 : Int32).toUInt32 &&& Int32.toUInt32 31)).toInt32) &&& 1431655765)).toUInt32 >>> ((2 : Int32).toUInt32 &&& Int32.toUInt32 31)).toInt32) &&& 858993459)).toUInt32 >>> ((4 : Int32).toUInt32 &&& Int32.toUInt32 31)).toInt32)) &&& 252645135) + (((((((p0 - (((p0.toUInt32 >>> ((1 : Int32).toUInt32 &&& Int32.toUInt32 31)).toInt32) &&& 1431655765)) &&& 858993459) + ((((p0 - (((p0.toUInt32 >>> ((1 : Int32).toUInt32 &&& Int32.toUInt32 31)).toInt32) &&& 1431655765)).toUInt32 >>> ((2 : Int32).toUInt32 &&& Int32.toUInt32 31)).toInt32) &&& 858993459)) + (((((p0 - (((p0.toUInt32 >>> ((1 : Int32).toUInt32 &&& Int32.toUInt32 31)).toInt32) &&& 1431655765)) &&& 858993459) + ((((p0 - (((p0.toUInt32 >>> ((1 : Int32).toUInt32 &&& Int32.toUInt32 31)).toInt32) &&& 1431655765)).toUInt32 >>> ((2 : Int32).toUInt32 &&& Int32.toUInt32 31)).toInt32) &&& 858993459)).toUInt32 >>> ((4 : Int32).toUInt32 &&& Int32.toUInt32 31)).toInt32)) &&& 252645135).toUInt32 >>> ((8 : Int32).toUInt32 &&& Int32.toUInt32 31)).toInt32)) + ((((((((p0 - (((p0.toUInt32 >>> ((1 : Int32).toUInt32 &&& Int32.toUInt32 31)).toInt32) &&& 1431655765)) &&& 858993459) + ((((p0 - (((p0.toUInt32 >>> ((1 : Int32).toUInt32 &&& Int32.toUInt32 31)).toInt32) &&& 1431655765)).toUInt32 >>> ((2 : Int32).toUInt32 &&& Int32.toUInt32 31)).toInt32) &&& 858993459)) + (((((p0 - (((p0.toUInt32 >>> ((1 : Int32).toUInt32 &&& Int32.toUInt32 31)).toInt32) &&& 1431655765)) &&& 858993459) + ((((p0 - (((p0.toUInt32 >>> ((1 : Int32).toUInt32 &&& Int32.toUInt32 31)).toInt32) &&& 1431655765)).toUInt32 >>> ((2 : Int32).toUInt32 &&& Int32.toUInt32 31)).toInt32) &&& 858993459)).toUInt32 >>> ((4 : Int32).toUInt32 &&& Int32.toUInt32 31)).toInt32)) &&& 252645135) + (((((((p0 - (((p0.toUInt32 >>> ((1 : Int32).toUInt32 &&& Int32.toUInt32 31)).toInt32) &&& 1431655765)) &&& 858993459) + ((((p0 - (((p0.toUInt32 >>> ((1 : Int32).toUInt32 &&& Int32.toUInt32 31)).toInt32) &&& 1431655765)).toUInt32 >>> ((2 : Int32).toUInt32 &&& Int32.toUInt32 31)).toInt32) &&& 858993459)) + (((((p0 - (((p0.toUInt32 >>> ((1 : Int32).toUInt32 &&& Int32.toUInt32 31)).toInt32) &&& 1431655765)) &&& 858993459) + ((((p0 - (((p0.toUInt32 >>> ((1 : Int32).toUInt32 &&& Int32.toUInt32 31)).toInt32) &&& 1431655765)).toUInt32 >>> ((2 : Int32).toUInt32 &&& Int32.toUInt32 31)).toInt32) &&& 858993459)).toUInt32 >>> ((4 : Int32).toUInt32 &&& Int32.toUInt32 31)).toInt32)) &&& 252645135).toUInt32 >>> ((8 : Int32).toUInt32 &&& Int32.toUInt32 31)).toInt32)).toUInt32 >>> ((16 : Int32).toUInt32 &&& Int32.toUInt32 31)).toInt32)) &&& 63)
set_option maxHeartbeats 4000000 in
set_option maxRecDepth 100000 in
theorem ctJ6_bitCount_0f7a4 (l : Launch) (E : EN) (N : Nat) (p0 : Int32) (z0 : Int32) (hf : fJ6_bitCount_0f7a4 N p0 = some z0) : CTi l E yJ6_bitCount_0f7a4 cJ6_bitCount_0f7a4 1 .int 0 0 [.int p0] (wJ6_bitCount_0f7a4 E) z0 (wJ6_bitCount_0f7a4 E) := by
  intro sz
  refine ct_body (by decide) (Nat.le_of_ble_eq_true rfl) ?_
  intro p e s m args below meth c A ls hAe C hr hin hP hD hS hl
  have C : CX p s m args meth c cJ6_bitCount_0f7a4 RJ6 1 E A := C
  have hl : lv_has ls 1 [(0, .int p0)] := hl
  have hx := C.1
  have hb := C.2.1
  rw [hAe]
  clear hAe
  obtain ⟨Q, hQ⟩ : ∃ Q, Q = MQ below (Qi E A z0 (wJ6_bitCount_0f7a4 E)) args s 0 0 A := ⟨_, rfl⟩
  rw [← hQ]
  unfold fJ6_bitCount_0f7a4 at hf
  refine lv_iload_n hx hb dJ6_bitCount_0f7a4_0 rfl (lv_at hl 0 rfl) ?_
  refine lv_iload_n hx hb dJ6_bitCount_0f7a4_1 rfl (lv_at hl 0 rfl) ?_
  refine lv_iconst (v := 1) hx hb dJ6_bitCount_0f7a4_2 (by decide) ?_
  refine lv_iushr (v := (p0.toUInt32 >>> ((1 : Int32).toUInt32 &&& Int32.toUInt32 31)).toInt32) hx hb dJ6_bitCount_0f7a4_3 rfl ?_
  refine r_ldcw (v := 1431655765) C kc_J6_265 dJ6_bitCount_0f7a4_4 ?_
  refine lv_iand hx hb dJ6_bitCount_0f7a4_7 ?_
  refine lv_isub hx hb dJ6_bitCount_0f7a4_8 ?_
  refine lv_istore_n (lv' := [(0, .int (p0 - (((p0.toUInt32 >>> ((1 : Int32).toUInt32 &&& Int32.toUInt32 31)).toInt32) &&& 1431655765)))]) hx hb dJ6_bitCount_0f7a4_9 rfl hl (by decide) rfl (fun ls hl => ?_)
  refine lv_iload_n hx hb dJ6_bitCount_0f7a4_10 rfl (lv_at hl 0 rfl) ?_
  refine r_ldcw (v := 858993459) C kc_J6_266 dJ6_bitCount_0f7a4_11 ?_
  refine lv_iand hx hb dJ6_bitCount_0f7a4_14 ?_
  refine lv_iload_n hx hb dJ6_bitCount_0f7a4_15 rfl (lv_at hl 0 rfl) ?_
  refine lv_iconst (v := 2) hx hb dJ6_bitCount_0f7a4_16 (by decide) ?_
  refine lv_iushr (v := ((p0 - (((p0.toUInt32 >>> ((1 : Int32).toUInt32 &&& Int32.toUInt32 31)).toInt32) &&& 1431655765)).toUInt32 >>> ((2 : Int32).toUInt32 &&& Int32.toUInt32 31)).toInt32) hx hb dJ6_bitCount_0f7a4_17 rfl ?_
  refine r_ldcw (v := 858993459) C kc_J6_266 dJ6_bitCount_0f7a4_18 ?_
  refine lv_iand hx hb dJ6_bitCount_0f7a4_21 ?_
  refine lv_iadd hx hb dJ6_bitCount_0f7a4_22 ?_
  refine lv_istore_n (lv' := [(0, .int (((p0 - (((p0.toUInt32 >>> ((1 : Int32).toUInt32 &&& Int32.toUInt32 31)).toInt32) &&& 1431655765)) &&& 858993459) + ((((p0 - (((p0.toUInt32 >>> ((1 : Int32).toUInt32 &&& Int32.toUInt32 31)).toInt32) &&& 1431655765)).toUInt32 >>> ((2 : Int32).toUInt32 &&& Int32.toUInt32 31)).toInt32) &&& 858993459)))]) hx hb dJ6_bitCount_0f7a4_23 rfl hl (by decide) rfl (fun ls hl => ?_)
  refine lv_iload_n hx hb dJ6_bitCount_0f7a4_24 rfl (lv_at hl 0 rfl) ?_
  refine lv_iload_n hx hb dJ6_bitCount_0f7a4_25 rfl (lv_at hl 0 rfl) ?_
  refine lv_iconst (v := 4) hx hb dJ6_bitCount_0f7a4_26 (by decide) ?_
  refine lv_iushr (v := ((((p0 - (((p0.toUInt32 >>> ((1 : Int32).toUInt32 &&& Int32.toUInt32 31)).toInt32) &&& 1431655765)) &&& 858993459) + ((((p0 - (((p0.toUInt32 >>> ((1 : Int32).toUInt32 &&& Int32.toUInt32 31)).toInt32) &&& 1431655765)).toUInt32 >>> ((2 : Int32).toUInt32 &&& Int32.toUInt32 31)).toInt32) &&& 858993459)).toUInt32 >>> ((4 : Int32).toUInt32 &&& Int32.toUInt32 31)).toInt32) hx hb dJ6_bitCount_0f7a4_27 rfl ?_
  refine lv_iadd hx hb dJ6_bitCount_0f7a4_28 ?_
  refine r_ldcw (v := 252645135) C kc_J6_267 dJ6_bitCount_0f7a4_29 ?_
  refine lv_iand hx hb dJ6_bitCount_0f7a4_32 ?_
  refine lv_istore_n (lv' := [(0, .int (((((p0 - (((p0.toUInt32 >>> ((1 : Int32).toUInt32 &&& Int32.toUInt32 31)).toInt32) &&& 1431655765)) &&& 858993459) + ((((p0 - (((p0.toUInt32 >>> ((1 : Int32).toUInt32 &&& Int32.toUInt32 31)).toInt32) &&& 1431655765)).toUInt32 >>> ((2 : Int32).toUInt32 &&& Int32.toUInt32 31)).toInt32) &&& 858993459)) + (((((p0 - (((p0.toUInt32 >>> ((1 : Int32).toUInt32 &&& Int32.toUInt32 31)).toInt32) &&& 1431655765)) &&& 858993459) + ((((p0 - (((p0.toUInt32 >>> ((1 : Int32).toUInt32 &&& Int32.toUInt32 31)).toInt32) &&& 1431655765)).toUInt32 >>> ((2 : Int32).toUInt32 &&& Int32.toUInt32 31)).toInt32) &&& 858993459)).toUInt32 >>> ((4 : Int32).toUInt32 &&& Int32.toUInt32 31)).toInt32)) &&& 252645135))]) hx hb dJ6_bitCount_0f7a4_33 rfl hl (by decide) rfl (fun ls hl => ?_)
  refine lv_iload_n hx hb dJ6_bitCount_0f7a4_34 rfl (lv_at hl 0 rfl) ?_
  refine lv_iload_n hx hb dJ6_bitCount_0f7a4_35 rfl (lv_at hl 0 rfl) ?_
  refine lv_bipush (v := 8) hx hb dJ6_bitCount_0f7a4_36 (by decide) ?_
  refine lv_iushr (v := ((((((p0 - (((p0.toUInt32 >>> ((1 : Int32).toUInt32 &&& Int32.toUInt32 31)).toInt32) &&& 1431655765)) &&& 858993459) + ((((p0 - (((p0.toUInt32 >>> ((1 : Int32).toUInt32 &&& Int32.toUInt32 31)).toInt32) &&& 1431655765)).toUInt32 >>> ((2 : Int32).toUInt32 &&& Int32.toUInt32 31)).toInt32) &&& 858993459)) + (((((p0 - (((p0.toUInt32 >>> ((1 : Int32).toUInt32 &&& Int32.toUInt32 31)).toInt32) &&& 1431655765)) &&& 858993459) + ((((p0 - (((p0.toUInt32 >>> ((1 : Int32).toUInt32 &&& Int32.toUInt32 31)).toInt32) &&& 1431655765)).toUInt32 >>> ((2 : Int32).toUInt32 &&& Int32.toUInt32 31)).toInt32) &&& 858993459)).toUInt32 >>> ((4 : Int32).toUInt32 &&& Int32.toUInt32 31)).toInt32)) &&& 252645135).toUInt32 >>> ((8 : Int32).toUInt32 &&& Int32.toUInt32 31)).toInt32) hx hb dJ6_bitCount_0f7a4_38 rfl ?_
  refine lv_iadd hx hb dJ6_bitCount_0f7a4_39 ?_
  refine lv_istore_n (lv' := [(0, .int ((((((p0 - (((p0.toUInt32 >>> ((1 : Int32).toUInt32 &&& Int32.toUInt32 31)).toInt32) &&& 1431655765)) &&& 858993459) + ((((p0 - (((p0.toUInt32 >>> ((1 : Int32).toUInt32 &&& Int32.toUInt32 31)).toInt32) &&& 1431655765)).toUInt32 >>> ((2 : Int32).toUInt32 &&& Int32.toUInt32 31)).toInt32) &&& 858993459)) + (((((p0 - (((p0.toUInt32 >>> ((1 : Int32).toUInt32 &&& Int32.toUInt32 31)).toInt32) &&& 1431655765)) &&& 858993459) + ((((p0 - (((p0.toUInt32 >>> ((1 : Int32).toUInt32 &&& Int32.toUInt32 31)).toInt32) &&& 1431655765)).toUInt32 >>> ((2 : Int32).toUInt32 &&& Int32.toUInt32 31)).toInt32) &&& 858993459)).toUInt32 >>> ((4 : Int32).toUInt32 &&& Int32.toUInt32 31)).toInt32)) &&& 252645135) + (((((((p0 - (((p0.toUInt32 >>> ((1 : Int32).toUInt32 &&& Int32.toUInt32 31)).toInt32) &&& 1431655765)) &&& 858993459) + ((((p0 - (((p0.toUInt32 >>> ((1 : Int32).toUInt32 &&& Int32.toUInt32 31)).toInt32) &&& 1431655765)).toUInt32 >>> ((2 : Int32).toUInt32 &&& Int32.toUInt32 31)).toInt32) &&& 858993459)) + (((((p0 - (((p0.toUInt32 >>> ((1 : Int32).toUInt32 &&& Int32.toUInt32 31)).toInt32) &&& 1431655765)) &&& 858993459) + ((((p0 - (((p0.toUInt32 >>> ((1 : Int32).toUInt32 &&& Int32.toUInt32 31)).toInt32) &&& 1431655765)).toUInt32 >>> ((2 : Int32).toUInt32 &&& Int32.toUInt32 31)).toInt32) &&& 858993459)).toUInt32 >>> ((4 : Int32).toUInt32 &&& Int32.toUInt32 31)).toInt32)) &&& 252645135).toUInt32 >>> ((8 : Int32).toUInt32 &&& Int32.toUInt32 31)).toInt32)))]) hx hb dJ6_bitCount_0f7a4_40 rfl hl (by decide) rfl (fun ls hl => ?_)
  refine lv_iload_n hx hb dJ6_bitCount_0f7a4_41 rfl (lv_at hl 0 rfl) ?_
  refine lv_iload_n hx hb dJ6_bitCount_0f7a4_42 rfl (lv_at hl 0 rfl) ?_
  refine lv_bipush (v := 16) hx hb dJ6_bitCount_0f7a4_43 (by decide) ?_
  refine lv_iushr (v := (((((((p0 - (((p0.toUInt32 >>> ((1 : Int32).toUInt32 &&& Int32.toUInt32 31)).toInt32) &&& 1431655765)) &&& 858993459) + ((((p0 - (((p0.toUInt32 >>> ((1 : Int32).toUInt32 &&& Int32.toUInt32 31)).toInt32) &&& 1431655765)).toUInt32 >>> ((2 : Int32).toUInt32 &&& Int32.toUInt32 31)).toInt32) &&& 858993459)) + (((((p0 - (((p0.toUInt32 >>> ((1 : Int32).toUInt32 &&& Int32.toUInt32 31)).toInt32) &&& 1431655765)) &&& 858993459) + ((((p0 - (((p0.toUInt32 >>> ((1 : Int32).toUInt32 &&& Int32.toUInt32 31)).toInt32) &&& 1431655765)).toUInt32 >>> ((2 : Int32).toUInt32 &&& Int32.toUInt32 31)).toInt32) &&& 858993459)).toUInt32 >>> ((4 : Int32).toUInt32 &&& Int32.toUInt32 31)).toInt32)) &&& 252645135) + (((((((p0 - (((p0.toUInt32 >>> ((1 : Int32).toUInt32 &&& Int32.toUInt32 31)).toInt32) &&& 1431655765)) &&& 858993459) + ((((p0 - (((p0.toUInt32 >>> ((1 : Int32).toUInt32 &&& Int32.toUInt32 31)).toInt32) &&& 1431655765)).toUInt32 >>> ((2 : Int32).toUInt32 &&& Int32.toUInt32 31)).toInt32) &&& 858993459)) + (((((p0 - (((p0.toUInt32 >>> ((1 : Int32).toUInt32 &&& Int32.toUInt32 31)).toInt32) &&& 1431655765)) &&& 858993459) + ((((p0 - (((p0.toUInt32 >>> ((1 : Int32).toUInt32 &&& Int32.toUInt32 31)).toInt32) &&& 1431655765)).toUInt32 >>> ((2 : Int32).toUInt32 &&& Int32.toUInt32 31)).toInt32) &&& 858993459)).toUInt32 >>> ((4 : Int32).toUInt32 &&& Int32.toUInt32 31)).toInt32)) &&& 252645135).toUInt32 >>> ((8 : Int32).toUInt32 &&& Int32.toUInt32 31)).toInt32)).toUInt32 >>> ((16 : Int32).toUInt32 &&& Int32.toUInt32 31)).toInt32) hx hb dJ6_bitCount_0f7a4_45 rfl ?_
  refine lv_iadd hx hb dJ6_bitCount_0f7a4_46 ?_
  refine lv_istore_n (lv' := [(0, .int (((((((p0 - (((p0.toUInt32 >>> ((1 : Int32).toUInt32 &&& Int32.toUInt32 31)).toInt32) &&& 1431655765)) &&& 858993459) + ((((p0 - (((p0.toUInt32 >>> ((1 : Int32).toUInt32 &&& Int32.toUInt32 31)).toInt32) &&& 1431655765)).toUInt32 >>> ((2 : Int32).toUInt32 &&& Int32.toUInt32 31)).toInt32) &&& 858993459)) + (((((p0 - (((p0.toUInt32 >>> ((1 : Int32).toUInt32 &&& Int32.toUInt32 31)).toInt32) &&& 1431655765)) &&& 858993459) + ((((p0 - (((p0.toUInt32 >>> ((1 : Int32).toUInt32 &&& Int32.toUInt32 31)).toInt32) &&& 1431655765)).toUInt32 >>> ((2 : Int32).toUInt32 &&& Int32.toUInt32 31)).toInt32) &&& 858993459)).toUInt32 >>> ((4 : Int32).toUInt32 &&& Int32.toUInt32 31)).toInt32)) &&& 252645135) + (((((((p0 - (((p0.toUInt32 >>> ((1 : Int32).toUInt32 &&& Int32.toUInt32 31)).toInt32) &&& 1431655765)) &&& 858993459) + ((((p0 - (((p0.toUInt32 >>> ((1 : Int32).toUInt32 &&& Int32.toUInt32 31)).toInt32) &&& 1431655765)).toUInt32 >>> ((2 : Int32).toUInt32 &&& Int32.toUInt32 31)).toInt32) &&& 858993459)) + (((((p0 - (((p0.toUInt32 >>> ((1 : Int32).toUInt32 &&& Int32.toUInt32 31)).toInt32) &&& 1431655765)) &&& 858993459) + ((((p0 - (((p0.toUInt32 >>> ((1 : Int32).toUInt32 &&& Int32.toUInt32 31)).toInt32) &&& 1431655765)).toUInt32 >>> ((2 : Int32).toUInt32 &&& Int32.toUInt32 31)).toInt32) &&& 858993459)).toUInt32 >>> ((4 : Int32).toUInt32 &&& Int32.toUInt32 31)).toInt32)) &&& 252645135).toUInt32 >>> ((8 : Int32).toUInt32 &&& Int32.toUInt32 31)).toInt32)) + ((((((((p0 - (((p0.toUInt32 >>> ((1 : Int32).toUInt32 &&& Int32.toUInt32 31)).toInt32) &&& 1431655765)) &&& 858993459) + ((((p0 - (((p0.toUInt32 >>> ((1 : Int32).toUInt32 &&& Int32.toUInt32 31)).toInt32) &&& 1431655765)).toUInt32 >>> ((2 : Int32).toUInt32 &&& Int32.toUInt32 31)).toInt32) &&& 858993459)) + (((((p0 - (((p0.toUInt32 >>> ((1 : Int32).toUInt32 &&& Int32.toUInt32 31)).toInt32) &&& 1431655765)) &&& 858993459) + ((((p0 - (((p0.toUInt32 >>> ((1 : Int32).toUInt32 &&& Int32.toUInt32 31)).toInt32) &&& 1431655765)).toUInt32 >>> ((2 : Int32).toUInt32 &&& Int32.toUInt32 31)).toInt32) &&& 858993459)).toUInt32 >>> ((4 : Int32).toUInt32 &&& Int32.toUInt32 31)).toInt32)) &&& 252645135) + (((((((p0 - (((p0.toUInt32 >>> ((1 : Int32).toUInt32 &&& Int32.toUInt32 31)).toInt32) &&& 1431655765)) &&& 858993459) + ((((p0 - (((p0.toUInt32 >>> ((1 : Int32).toUInt32 &&& Int32.toUInt32 31)).toInt32) &&& 1431655765)).toUInt32 >>> ((2 : Int32).toUInt32 &&& Int32.toUInt32 31)).toInt32) &&& 858993459)) + (((((p0 - (((p0.toUInt32 >>> ((1 : Int32).toUInt32 &&& Int32.toUInt32 31)).toInt32) &&& 1431655765)) &&& 858993459) + ((((p0 - (((p0.toUInt32 >>> ((1 : Int32).toUInt32 &&& Int32.toUInt32 31)).toInt32) &&& 1431655765)).toUInt32 >>> ((2 : Int32).toUInt32 &&& Int32.toUInt32 31)).toInt32) &&& 858993459)).toUInt32 >>> ((4 : Int32).toUInt32 &&& Int32.toUInt32 31)).toInt32)) &&& 252645135).toUInt32 >>> ((8 : Int32).toUInt32 &&& Int32.toUInt32 31)).toInt32)).toUInt32 >>> ((16 : Int32).toUInt32 &&& Int32.toUInt32 31)).toInt32)))]) hx hb dJ6_bitCount_0f7a4_47 rfl hl (by decide) rfl (fun ls hl => ?_)
  refine lv_iload_n hx hb dJ6_bitCount_0f7a4_48 rfl (lv_at hl 0 rfl) ?_
  refine lv_bipush (v := 63) hx hb dJ6_bitCount_0f7a4_49 (by decide) ?_
  refine lv_iand hx hb dJ6_bitCount_0f7a4_51 ?_
  cases hf
  rw [hQ]
  exact r_iret C hr hP hD hS rfl dJ6_bitCount_0f7a4_52
def wX1_reachedFrom (E : EN) (h h_creak h_cold h_one h_other h_how h_falls h_ways : Nat) (v_rooms : Int32) (v_doors : Int32) (v_one : Nat → Int32) (v_other : Nat → Int32) : va_W := [(h, .inr (1, [.int v_rooms, .ref h_creak, .ref h_cold, .int v_doors, .ref h_one, .ref h_other, .ref h_how, .ref h_falls, .ref h_ways])), (h_one, aI E 10 v_one), (h_other, aI E 10 v_other)]
def BX1_reachedFrom_17 (v_doors : Int32) (N : Nat) (p1 : Int32) (v_one : Nat → Int32) (v_other : Nat → Int32) (K75 : (Int32) → Option Int32) (rec17 : (Int32 × Int32) → Option Int32) : (Int32 × Int32) → Option Int32 := un2 fun (x17_3 : Int32) (x17_5 : Int32) => if v_doors ≤ x17_5 then (K75 x17_3) else (gd x17_5 10 (gd x17_5 10 ((fX10_isBitSet N p1.toInt64 x17_5).bind (un1 fun (r_51 : Int32) => jn (un1 fun (x69_3 : Int32) => rec17 (x69_3, x17_5 + 1)) (fun j69 => if r_51 = 0 then (if (x17_3 &&& ((1 <<< ((v_one x17_5.toNatClampNeg) &&& 31)) ||| (1 <<< ((v_other x17_5.toNatClampNeg) &&& 31)))) = 0 then (j69 x17_3) else (j69 (x17_3 ||| ((1 <<< ((v_one x17_5.toNatClampNeg) &&& 31)) ||| (1 <<< ((v_other x17_5.toNatClampNeg) &&& 31)))))) else (j69 x17_3))))))
def BX1_reachedFrom_5 (v_rooms : Int32) (v_doors : Int32) (N : Nat) (p1 : Int32) (v_one : Nat → Int32) (v_other : Nat → Int32) (rec5 : (Int32 × Int32) → Option Int32) : (Int32 × Int32) → Option Int32 := un2 fun (x5_3 : Int32) (x5_4 : Int32) => if v_rooms ≤ x5_4 then (some x5_3) else (lp (BX1_reachedFrom_17 v_doors N p1 v_one v_other (un1 fun (x75_3 : Int32) => rec5 (x75_3, x5_4 + 1))) N (x5_3, 0))
def fX1_reachedFrom (N : Nat) (p0 : Int32) (p1 : Int32) (v_rooms : Int32) (v_doors : Int32) (v_one : Nat → Int32) (v_other : Nat → Int32) : Option Int32 := lp (BX1_reachedFrom_5 v_rooms v_doors N p1 v_one v_other) N (p0, 0)
set_option maxHeartbeats 4000000 in
set_option maxRecDepth 100000 in
theorem ctX1_reachedFrom (l : Launch) (E : EN) (h h_creak h_cold h_one h_other h_how h_falls h_ways : Nat) (v_rooms : Int32) (v_doors : Int32) (v_one : Nat → Int32) (v_other : Nat → Int32) (N : Nat) (p0 : Int32) (p1 : Int32) (z0 : Int32) (hf : fX1_reachedFrom N p0 p1 v_rooms v_doors v_one v_other = some z0) : CTi l E yX1_reachedFrom cX1_reachedFrom 7 .int 1 22 [.ref h, .int p0, .int p1] (wX1_reachedFrom E h h_creak h_cold h_one h_other h_how h_falls h_ways v_rooms v_doors v_one v_other) z0 (wX1_reachedFrom E h h_creak h_cold h_one h_other h_how h_falls h_ways v_rooms v_doors v_one v_other) := by
  intro sz
  refine ct_body (by decide) (Nat.le_of_ble_eq_true rfl) ?_
  intro p e s m args below meth c A ls hAe C hr hin hP hD hS hl
  have C : CX p s m args meth c cX1_reachedFrom RX1 7 E A := C
  have hl : lv_has ls 7 [(0, .ref h), (1, .int p0), (2, .int p1)] := hl
  have hx := C.1
  have hb := C.2.1
  rw [hAe]
  clear hAe
  obtain ⟨Q, hQ⟩ : ∃ Q, Q = MQ below (Qi E A z0 (wX1_reachedFrom E h h_creak h_cold h_one h_other h_how h_falls h_ways v_rooms v_doors v_one v_other)) args s 0 0 A := ⟨_, rfl⟩
  rw [← hQ]
  unfold fX1_reachedFrom at hf
  refine lv_iload_n hx hb dX1_reachedFrom_0 rfl (lv_at hl 1 rfl) ?_
  refine lv_istore_n (lv' := [(3, .int p0), (0, .ref h), (1, .int p0), (2, .int p1)]) hx hb dX1_reachedFrom_1 rfl hl (by decide) rfl (fun ls hl => ?_)
  refine lv_iconst (v := 0) hx hb dX1_reachedFrom_2 (by decide) ?_
  refine lv_istore (lv' := [(4, .int 0), (3, .int p0), (0, .ref h), (1, .int p0), (2, .int p1)]) hx hb dX1_reachedFrom_3 hl (by decide) rfl (fun ls hl => ?_)
  have key5 : ∀ (n : Nat) (x5_3 : Int32) (x5_4 : Int32) , lp (BX1_reachedFrom_5 v_rooms v_doors N p1 v_one v_other) n (x5_3, x5_4) = some z0 → AT p l e (rmOf 1 22) s m args below meth c E A Q 0 0 7 [(0, .ref h), (2, .int p1), (3, .int x5_3), (4, .int x5_4)] (wX1_reachedFrom E h h_creak h_cold h_one h_other h_how h_falls h_ways v_rooms v_doors v_one v_other) 5 [] := by
    intro n
    induction n with
    | zero => intro x5_3 x5_4 hf; exact (lp_0 hf).elim
    | succ n ih5 =>
      intro x5_3 x5_4 hf H locs ls hl hP hD hS
      replace hf := lp_s hf
      generalize lp (BX1_reachedFrom_5 v_rooms v_doors N p1 v_one v_other) n = rec5 at ih5 hf
      unfold BX1_reachedFrom_5 at hf
      replace hf := un2_s hf
      refine lv_iload hx hb dX1_reachedFrom_5 (lv_at hl 3 rfl) ?_
      refine lv_aload_n hx hb dX1_reachedFrom_7 rfl (lv_at hl 0 rfl) ?_
      refine r_get C hP 0 rfl fl_X1_38 rfl dX1_reachedFrom_8 ?_
      refine lv_icmp_ge (tgt := 81) hx hb dX1_reachedFrom_11 (by decide) (fun c_11 => ?_) (fun c_11 => ?_)
      · replace hf := it_t c_11 hf
        refine lv_iload_n hx hb dX1_reachedFrom_81 rfl (lv_at hl 2 rfl) ?_
        cases hf
        rw [hQ]
        exact r_iret C hr hP hD hS rfl dX1_reachedFrom_82
      · replace hf := it_f c_11 hf
        refine lv_iconst (v := 0) hx hb dX1_reachedFrom_14 (by decide) ?_
        refine lv_istore (lv' := [(5, .int 0), (0, .ref h), (2, .int p1), (3, .int x5_3), (4, .int x5_4)]) hx hb dX1_reachedFrom_15 hl (by decide) rfl (fun ls hl => ?_)
        refine lpK hf (fun K75 eK75 hf => ?_)
        have hK75 : ∀ (x75_3 : Int32) , K75 x75_3 = some z0 → AT p l e (rmOf 1 22) s m args below meth c E A Q 0 0 7 [(0, .ref h), (2, .int p1), (3, .int x75_3), (4, .int x5_4)] (wX1_reachedFrom E h h_creak h_cold h_one h_other h_how h_falls h_ways v_rooms v_doors v_one v_other) 75 [] := by
          intro x75_3 hf H locs ls hl hP hD hS
          rw [eK75] at hf
          replace hf := un1_s hf
          refine lv_iinc (v := x5_4 + 1) (lv' := [(4, .int (x5_4 + 1)), (0, .ref h), (2, .int p1), (3, .int x75_3)]) hx hb dX1_reachedFrom_75 hl (k := 3) rfl rfl (by decide) rfl (fun ls hl => ?_)
          refine lv_goto (tgt := 5) hx hb dX1_reachedFrom_78 (by decide) ?_
          exact ih5 x75_3 (x5_4 + 1) hf _ _ _ (lv_sub hl [1, 2, 3, 0] rfl) hP hD hS
        clear eK75
        have key17 : ∀ (n : Nat) (x17_3 : Int32) (x17_5 : Int32) , lp (BX1_reachedFrom_17 v_doors N p1 v_one v_other K75) n (x17_3, x17_5) = some z0 → AT p l e (rmOf 1 22) s m args below meth c E A Q 0 0 7 [(0, .ref h), (2, .int p1), (3, .int x17_3), (4, .int x5_4), (5, .int x17_5)] (wX1_reachedFrom E h h_creak h_cold h_one h_other h_how h_falls h_ways v_rooms v_doors v_one v_other) 17 [] := by
          intro n
          induction n with
          | zero => intro x17_3 x17_5 hf; exact (lp_0 hf).elim
          | succ n ih17 =>
            intro x17_3 x17_5 hf H locs ls hl hP hD hS
            replace hf := lp_s hf
            generalize lp (BX1_reachedFrom_17 v_doors N p1 v_one v_other K75) n = rec17 at ih17 hf
            unfold BX1_reachedFrom_17 at hf
            replace hf := un2_s hf
            refine lv_iload hx hb dX1_reachedFrom_17 (lv_at hl 4 rfl) ?_
            refine lv_aload_n hx hb dX1_reachedFrom_19 rfl (lv_at hl 0 rfl) ?_
            refine r_get C hP 0 rfl fl_X1_42 rfl dX1_reachedFrom_20 ?_
            refine lv_icmp_ge (tgt := 75) hx hb dX1_reachedFrom_23 (by decide) (fun c_23 => ?_) (fun c_23 => ?_)
            · replace hf := it_t c_23 hf
              exact hK75 x17_3 hf _ _ _ (lv_sub hl [0, 1, 2, 3] rfl) hP hD hS
            · replace hf := it_f c_23 hf
              refine lv_iconst (v := 1) hx hb dX1_reachedFrom_26 (by decide) ?_
              refine lv_aload_n hx hb dX1_reachedFrom_27 rfl (lv_at hl 0 rfl) ?_
              refine r_get C hP 0 rfl fl_X1_19 rfl dX1_reachedFrom_28 ?_
              refine lv_iload hx hb dX1_reachedFrom_31 (lv_at hl 4 rfl) ?_
              obtain ⟨hi_33, hf⟩ := gd_s hf
              refine r_iald C hP 1 rfl hi_33 dX1_reachedFrom_33 ?_
              refine lv_ishl hx hb dX1_reachedFrom_34 ?_
              refine lv_iconst (v := 1) hx hb dX1_reachedFrom_35 (by decide) ?_
              refine lv_aload_n hx hb dX1_reachedFrom_36 rfl (lv_at hl 0 rfl) ?_
              refine r_get C hP 0 rfl fl_X1_22 rfl dX1_reachedFrom_37 ?_
              refine lv_iload hx hb dX1_reachedFrom_40 (lv_at hl 4 rfl) ?_
              obtain ⟨hi_42, hf⟩ := gd_s hf
              refine r_iald C hP 2 rfl hi_42 dX1_reachedFrom_42 ?_
              refine lv_ishl hx hb dX1_reachedFrom_43 ?_
              refine lv_ior hx hb dX1_reachedFrom_44 ?_
              refine lv_istore (lv' := [(6, .int ((1 <<< ((v_one x17_5.toNatClampNeg) &&& 31)) ||| (1 <<< ((v_other x17_5.toNatClampNeg) &&& 31)))), (0, .ref h), (2, .int p1), (3, .int x17_3), (4, .int x5_4), (5, .int x17_5)]) hx hb dX1_reachedFrom_45 hl (by decide) rfl (fun ls hl => ?_)
              refine lv_iload_n hx hb dX1_reachedFrom_47 rfl (lv_at hl 2 rfl) ?_
              refine lv_i2l (v := p1.toInt64) hx hb dX1_reachedFrom_48 rfl ?_
              refine lv_iload hx hb dX1_reachedFrom_49 (lv_at hl 5 rfl) ?_
              obtain ⟨r_51, hc_51, hf⟩ := bd1 hf
              refine r_callSi (ws' := (wX1_reachedFrom E h h_creak h_cold h_one h_other h_how h_falls h_ways v_rooms v_doors v_one v_other)) (As := [.long p1.toInt64, .int x17_5]) (rest := []) C (ctX10_isBitSet l E N p1.toInt64 x17_5 r_51 hc_51) ml_X1_45 ⟨Nat.le_of_ble_eq_true rfl, Nat.le_of_ble_eq_true rfl⟩ hP hD hS [] rfl rfl rfl rfl rfl hl.1 rfl (Nat.le_of_ble_eq_true rfl) ⟨Nat.zero_le _, Nat.zero_le _⟩ dX1_reachedFrom_51 ?_
              clear hP hD hS; intro H locs hP hD hS
              refine jnK hf (fun j69 ej69 hf => ?_)
              have hj69 : ∀ (x69_3 : Int32) , j69 x69_3 = some z0 → AT p l e (rmOf 1 22) s m args below meth c E A Q 0 0 7 [(0, .ref h), (2, .int p1), (3, .int x69_3), (4, .int x5_4), (5, .int x17_5)] (wX1_reachedFrom E h h_creak h_cold h_one h_other h_how h_falls h_ways v_rooms v_doors v_one v_other) 69 [] := by
                intro x69_3 hf H locs ls hl hP hD hS
                rw [ej69] at hf
                replace hf := un1_s hf
                refine lv_iinc (v := x17_5 + 1) (lv' := [(5, .int (x17_5 + 1)), (0, .ref h), (2, .int p1), (3, .int x69_3), (4, .int x5_4)]) hx hb dX1_reachedFrom_69 hl (k := 4) rfl rfl (by decide) rfl (fun ls hl => ?_)
                refine lv_goto (tgt := 17) hx hb dX1_reachedFrom_72 (by decide) ?_
                exact ih17 x69_3 (x17_5 + 1) hf _ _ _ (lv_sub hl [1, 2, 3, 4, 0] rfl) hP hD hS
              clear ej69
              refine lv_if_ne (tgt := 69) hx hb dX1_reachedFrom_54 (by decide) (fun c_54 => ?_) (fun c_54 => ?_)
              · replace hf := it_f c_54 hf
                exact hj69 x17_3 hf _ _ _ (lv_sub hl [1, 2, 3, 4, 5] rfl) hP hD hS
              · replace hf := it_t c_54 hf
                refine lv_iload_n hx hb dX1_reachedFrom_57 rfl (lv_at hl 3 rfl) ?_
                refine lv_iload hx hb dX1_reachedFrom_58 (lv_at hl 0 rfl) ?_
                refine lv_iand hx hb dX1_reachedFrom_60 ?_
                refine lv_if_eq (tgt := 69) hx hb dX1_reachedFrom_61 (by decide) (fun c_61 => ?_) (fun c_61 => ?_)
                · replace hf := it_t c_61 hf
                  exact hj69 x17_3 hf _ _ _ (lv_sub hl [1, 2, 3, 4, 5] rfl) hP hD hS
                · replace hf := it_f c_61 hf
                  refine lv_iload_n hx hb dX1_reachedFrom_64 rfl (lv_at hl 3 rfl) ?_
                  refine lv_iload hx hb dX1_reachedFrom_65 (lv_at hl 0 rfl) ?_
                  refine lv_ior hx hb dX1_reachedFrom_67 ?_
                  refine lv_istore_n (lv' := [(3, .int (x17_3 ||| ((1 <<< ((v_one x17_5.toNatClampNeg) &&& 31)) ||| (1 <<< ((v_other x17_5.toNatClampNeg) &&& 31))))), (6, .int ((1 <<< ((v_one x17_5.toNatClampNeg) &&& 31)) ||| (1 <<< ((v_other x17_5.toNatClampNeg) &&& 31)))), (0, .ref h), (2, .int p1), (4, .int x5_4), (5, .int x17_5)]) hx hb dX1_reachedFrom_68 rfl hl (by decide) rfl (fun ls hl => ?_)
                  exact hj69 (x17_3 ||| ((1 <<< ((v_one x17_5.toNatClampNeg) &&& 31)) ||| (1 <<< ((v_other x17_5.toNatClampNeg) &&& 31)))) hf _ _ _ (lv_sub hl [2, 3, 0, 4, 5] rfl) hP hD hS
        exact key17 _ x5_3 0 hf _ _ _ (lv_sub hl [1, 2, 3, 4, 0] rfl) hP hD hS
  exact key5 _ p0 0 hf _ _ _ (lv_sub hl [2, 4, 1, 0] rfl) hP hD hS
def wX2_leastLocks (E : EN) (h h_house h_thingIn h_full h_states h_bed h_dreamOf h_listensIn h_house_creak h_house_cold h_house_one h_house_other h_house_how h_house_falls h_house_ways : Nat) (v_minutes : Int32) (v_things : Int32) (v_dreams : Int32) (v_sleepers : Int32) (v_listeners : Int32) (v_house_rooms : Int32) (v_house_doors : Int32) (v_house_how : Nat → Int32) (v_house_one : Nat → Int32) (v_house_other : Nat → Int32) (v_bed : Nat → Int32) : va_W := [(h, .inr (2, [.ref h_house, .int v_minutes, .int v_things, .ref h_thingIn, .ref h_full, .int v_dreams, .ref h_states, .int v_sleepers, .ref h_bed, .ref h_dreamOf, .int v_listeners, .ref h_listensIn])), (h_house, .inr (1, [.int v_house_rooms, .ref h_house_creak, .ref h_house_cold, .int v_house_doors, .ref h_house_one, .ref h_house_other, .ref h_house_how, .ref h_house_falls, .ref h_house_ways])), (h_house_how, aI E 10 v_house_how), (h_house_one, aI E 10 v_house_one), (h_house_other, aI E 10 v_house_other), (h_bed, aI E 3 v_bed)]
def BX2_leastLocks_63 (v_house_doors : Int32) (N : Nat) (x29_2 : Int32) (r_43 : Int32) (v_house_rooms : Int32) (v_house_one : Nat → Int32) (v_house_other : Nat → Int32) (p0 : Int32) (rec63 : (Int32 × Int32) → Option Int32) : (Int32 × Int32) → Option Int32 := un2 fun (x63_4 : Int32) (x63_5 : Int32) => if (1 <<< (v_house_doors &&& 31)) ≤ x63_5 then (some x63_4) else ((fJ6_bitCount_0f7a4 N x63_5).bind (un1 fun (r_79 : Int32) => (fJ6_bitCount_0f7a4 N x63_4).bind (un1 fun (r_84 : Int32) => jn (un1 fun (x114_4 : Int32) => rec63 (x114_4, x63_5 + 1)) (fun j114 => if r_84 ≤ r_79 then (j114 x63_4) else ((fX1_reachedFrom N x29_2 (r_43 ||| x63_5) v_house_rooms v_house_doors v_house_one v_house_other).bind (un1 fun (r_99 : Int32) => (fX10_isBitSet N r_99.toInt64 p0).bind (un1 fun (r_104 : Int32) => if r_104 = 0 then (j114 x63_5) else (j114 x63_4))))))))
def BX2_leastLocks_4 (v_sleepers : Int32) (v_bed : Nat → Int32) (K29 : (Int32) → Option Int32) (rec4 : (Int32 × Int32) → Option Int32) : (Int32 × Int32) → Option Int32 := un2 fun (x4_2 : Int32) (x4_3 : Int32) => if v_sleepers ≤ x4_3 then (K29 x4_2) else (gd x4_3 3 (rec4 (x4_2 ||| (1 <<< ((v_bed x4_3.toNatClampNeg) &&& 31)), x4_3 + 1)))
def fX2_leastLocks (N : Nat) (p0 : Int32) (v_sleepers : Int32) (v_house_rooms : Int32) (v_house_doors : Int32) (v_house_how : Nat → Int32) (v_house_one : Nat → Int32) (v_house_other : Nat → Int32) (v_bed : Nat → Int32) : Option Int32 := lp (BX2_leastLocks_4 v_sleepers v_bed (un1 fun (x29_2 : Int32) => (fX10_isBitSet N x29_2.toInt64 p0).bind (un1 fun (r_32 : Int32) => if r_32 = 0 then ((fX2_lockedAtNightfall N 0 v_house_doors v_house_how).bind (un1 fun (r_43 : Int32) => lp (BX2_leastLocks_63 v_house_doors N x29_2 r_43 v_house_rooms v_house_one v_house_other p0) N ((1 <<< (v_house_doors &&& 31)) - 1, 0))) else (some (-2))))) N (0, 0)
set_option maxHeartbeats 4000000 in
set_option maxRecDepth 100000 in
theorem ctX2_leastLocks (l : Launch) (E : EN) (h h_house h_thingIn h_full h_states h_bed h_dreamOf h_listensIn h_house_creak h_house_cold h_house_one h_house_other h_house_how h_house_falls h_house_ways : Nat) (v_minutes : Int32) (v_things : Int32) (v_dreams : Int32) (v_sleepers : Int32) (v_listeners : Int32) (v_house_rooms : Int32) (v_house_doors : Int32) (v_house_how : Nat → Int32) (v_house_one : Nat → Int32) (v_house_other : Nat → Int32) (v_bed : Nat → Int32) (N : Nat) (p0 : Int32) (z0 : Int32) (hf : fX2_leastLocks N p0 v_sleepers v_house_rooms v_house_doors v_house_how v_house_one v_house_other v_bed = some z0) : CTi l E yX2_leastLocks cX2_leastLocks 6 .int 2 48 [.ref h, .int p0] (wX2_leastLocks E h h_house h_thingIn h_full h_states h_bed h_dreamOf h_listensIn h_house_creak h_house_cold h_house_one h_house_other h_house_how h_house_falls h_house_ways v_minutes v_things v_dreams v_sleepers v_listeners v_house_rooms v_house_doors v_house_how v_house_one v_house_other v_bed) z0 (wX2_leastLocks E h h_house h_thingIn h_full h_states h_bed h_dreamOf h_listensIn h_house_creak h_house_cold h_house_one h_house_other h_house_how h_house_falls h_house_ways v_minutes v_things v_dreams v_sleepers v_listeners v_house_rooms v_house_doors v_house_how v_house_one v_house_other v_bed) := by
  intro sz
  refine ct_body (by decide) (Nat.le_of_ble_eq_true rfl) ?_
  intro p e s m args below meth c A ls hAe C hr hin hP hD hS hl
  have C : CX p s m args meth c cX2_leastLocks RX2 6 E A := C
  have hl : lv_has ls 6 [(0, .ref h), (1, .int p0)] := hl
  have hx := C.1
  have hb := C.2.1
  rw [hAe]
  clear hAe
  obtain ⟨Q, hQ⟩ : ∃ Q, Q = MQ below (Qi E A z0 (wX2_leastLocks E h h_house h_thingIn h_full h_states h_bed h_dreamOf h_listensIn h_house_creak h_house_cold h_house_one h_house_other h_house_how h_house_falls h_house_ways v_minutes v_things v_dreams v_sleepers v_listeners v_house_rooms v_house_doors v_house_how v_house_one v_house_other v_bed)) args s 0 0 A := ⟨_, rfl⟩
  rw [← hQ]
  unfold fX2_leastLocks at hf
  refine lv_iconst (v := 0) hx hb dX2_leastLocks_0 (by decide) ?_
  refine lv_istore_n (lv' := [(2, .int 0), (0, .ref h), (1, .int p0)]) hx hb dX2_leastLocks_1 rfl hl (by decide) rfl (fun ls hl => ?_)
  refine lv_iconst (v := 0) hx hb dX2_leastLocks_2 (by decide) ?_
  refine lv_istore_n (lv' := [(3, .int 0), (2, .int 0), (0, .ref h), (1, .int p0)]) hx hb dX2_leastLocks_3 rfl hl (by decide) rfl (fun ls hl => ?_)
  refine lpK hf (fun K29 eK29 hf => ?_)
  have hK29 : ∀ (x29_2 : Int32) , K29 x29_2 = some z0 → AT p l e (rmOf 2 48) s m args below meth c E A Q 0 0 6 [(0, .ref h), (1, .int p0), (2, .int x29_2)] (wX2_leastLocks E h h_house h_thingIn h_full h_states h_bed h_dreamOf h_listensIn h_house_creak h_house_cold h_house_one h_house_other h_house_how h_house_falls h_house_ways v_minutes v_things v_dreams v_sleepers v_listeners v_house_rooms v_house_doors v_house_how v_house_one v_house_other v_bed) 29 [] := by
    intro x29_2 hf H locs ls hl hP hD hS
    rw [eK29] at hf
    replace hf := un1_s hf
    refine lv_iload_n hx hb dX2_leastLocks_29 rfl (lv_at hl 2 rfl) ?_
    refine lv_i2l (v := x29_2.toInt64) hx hb dX2_leastLocks_30 rfl ?_
    refine lv_iload_n hx hb dX2_leastLocks_31 rfl (lv_at hl 1 rfl) ?_
    obtain ⟨r_32, hc_32, hf⟩ := bd1 hf
    refine r_callSi (ws' := (wX2_leastLocks E h h_house h_thingIn h_full h_states h_bed h_dreamOf h_listensIn h_house_creak h_house_cold h_house_one h_house_other h_house_how h_house_falls h_house_ways v_minutes v_things v_dreams v_sleepers v_listeners v_house_rooms v_house_doors v_house_how v_house_one v_house_other v_bed)) (As := [.long x29_2.toInt64, .int p0]) (rest := []) C (ctX10_isBitSet l E N x29_2.toInt64 p0 r_32 hc_32) ml_X2_77 ⟨Nat.le_of_ble_eq_true rfl, Nat.le_of_ble_eq_true rfl⟩ hP hD hS [] rfl rfl rfl rfl rfl hl.1 rfl (Nat.le_of_ble_eq_true rfl) ⟨Nat.zero_le _, Nat.zero_le _⟩ dX2_leastLocks_32 ?_
    clear hP hD hS; intro H locs hP hD hS
    refine lv_if_eq (tgt := 41) hx hb dX2_leastLocks_35 (by decide) (fun c_35 => ?_) (fun c_35 => ?_)
    · replace hf := it_t c_35 hf
      refine lv_aload_n hx hb dX2_leastLocks_41 rfl (lv_at hl 0 rfl) ?_
      refine lv_iconst (v := 0) hx hb dX2_leastLocks_42 (by decide) ?_
      obtain ⟨r_43, hc_43, hf⟩ := bd1 hf
      refine r_callVi (ws' := (wX2_leastLocks E h h_house h_thingIn h_full h_states h_bed h_dreamOf h_listensIn h_house_creak h_house_cold h_house_one h_house_other h_house_how h_house_falls h_house_ways v_minutes v_things v_dreams v_sleepers v_listeners v_house_rooms v_house_doors v_house_how v_house_one v_house_other v_bed)) (As := [.int 0]) (rest := []) C (ctX2_lockedAtNightfall l E h h_house h_thingIn h_full h_states h_bed h_dreamOf h_listensIn h_house_creak h_house_cold h_house_one h_house_other h_house_how h_house_falls h_house_ways v_minutes v_things v_dreams v_sleepers v_listeners v_house_rooms v_house_doors v_house_how N 0 r_43 hc_43) ml_X2_81 ⟨Nat.le_of_ble_eq_true rfl, Nat.le_of_ble_eq_true rfl⟩ hP hD hS 0 rfl rfl rfl [0, 1, 2] rfl rfl rfl rfl rfl hl.1 rfl (Nat.le_of_ble_eq_true rfl) ⟨Nat.zero_le _, Nat.zero_le _⟩ dX2_leastLocks_43 ?_
      clear hP hD hS; intro H locs hP hD hS
      refine lv_istore_n (lv' := [(3, .int r_43), (0, .ref h), (1, .int p0), (2, .int x29_2)]) hx hb dX2_leastLocks_46 rfl hl (by decide) rfl (fun ls hl => ?_)
      refine lv_iconst (v := 1) hx hb dX2_leastLocks_47 (by decide) ?_
      refine lv_aload_n hx hb dX2_leastLocks_48 rfl (lv_at hl 1 rfl) ?_
      refine r_get C hP 0 rfl fl_X2_12 rfl dX2_leastLocks_49 ?_
      refine r_get C hP 1 rfl fl_X2_42 rfl dX2_leastLocks_52 ?_
      refine lv_ishl hx hb dX2_leastLocks_55 ?_
      refine lv_iconst (v := 1) hx hb dX2_leastLocks_56 (by decide) ?_
      refine lv_isub hx hb dX2_leastLocks_57 ?_
      refine lv_istore (lv' := [(4, .int ((1 <<< (v_house_doors &&& 31)) - 1)), (3, .int r_43), (0, .ref h), (1, .int p0), (2, .int x29_2)]) hx hb dX2_leastLocks_58 hl (by decide) rfl (fun ls hl => ?_)
      refine lv_iconst (v := 0) hx hb dX2_leastLocks_60 (by decide) ?_
      refine lv_istore (lv' := [(5, .int 0), (4, .int ((1 <<< (v_house_doors &&& 31)) - 1)), (3, .int r_43), (0, .ref h), (1, .int p0), (2, .int x29_2)]) hx hb dX2_leastLocks_61 hl (by decide) rfl (fun ls hl => ?_)
      have key63 : ∀ (n : Nat) (x63_4 : Int32) (x63_5 : Int32) , lp (BX2_leastLocks_63 v_house_doors N x29_2 r_43 v_house_rooms v_house_one v_house_other p0) n (x63_4, x63_5) = some z0 → AT p l e (rmOf 2 48) s m args below meth c E A Q 0 0 6 [(0, .ref h), (1, .int p0), (2, .int x29_2), (3, .int r_43), (4, .int x63_4), (5, .int x63_5)] (wX2_leastLocks E h h_house h_thingIn h_full h_states h_bed h_dreamOf h_listensIn h_house_creak h_house_cold h_house_one h_house_other h_house_how h_house_falls h_house_ways v_minutes v_things v_dreams v_sleepers v_listeners v_house_rooms v_house_doors v_house_how v_house_one v_house_other v_bed) 63 [] := by
        intro n
        induction n with
        | zero => intro x63_4 x63_5 hf; exact (lp_0 hf).elim
        | succ n ih63 =>
          intro x63_4 x63_5 hf H locs ls hl hP hD hS
          replace hf := lp_s hf
          generalize lp (BX2_leastLocks_63 v_house_doors N x29_2 r_43 v_house_rooms v_house_one v_house_other p0) n = rec63 at ih63 hf
          unfold BX2_leastLocks_63 at hf
          replace hf := un2_s hf
          refine lv_iload hx hb dX2_leastLocks_63 (lv_at hl 5 rfl) ?_
          refine lv_iconst (v := 1) hx hb dX2_leastLocks_65 (by decide) ?_
          refine lv_aload_n hx hb dX2_leastLocks_66 rfl (lv_at hl 0 rfl) ?_
          refine r_get C hP 0 rfl fl_X2_12 rfl dX2_leastLocks_67 ?_
          refine r_get C hP 1 rfl fl_X2_42 rfl dX2_leastLocks_70 ?_
          refine lv_ishl hx hb dX2_leastLocks_73 ?_
          refine lv_icmp_ge (tgt := 120) hx hb dX2_leastLocks_74 (by decide) (fun c_74 => ?_) (fun c_74 => ?_)
          · replace hf := it_t c_74 hf
            refine lv_iload hx hb dX2_leastLocks_120 (lv_at hl 4 rfl) ?_
            cases hf
            rw [hQ]
            exact r_iret C hr hP hD hS rfl dX2_leastLocks_122
          · replace hf := it_f c_74 hf
            refine lv_iload hx hb dX2_leastLocks_77 (lv_at hl 5 rfl) ?_
            obtain ⟨r_79, hc_79, hf⟩ := bd1 hf
            refine r_callSi (ws' := (wX2_leastLocks E h h_house h_thingIn h_full h_states h_bed h_dreamOf h_listensIn h_house_creak h_house_cold h_house_one h_house_other h_house_how h_house_falls h_house_ways v_minutes v_things v_dreams v_sleepers v_listeners v_house_rooms v_house_doors v_house_how v_house_one v_house_other v_bed)) (As := [.int x63_5]) (rest := []) C (ctJ6_bitCount_0f7a4 l E N x63_5 r_79 hc_79) ml_X2_85 ⟨Nat.le_of_ble_eq_true rfl, Nat.le_of_ble_eq_true rfl⟩ hP hD hS [] rfl rfl rfl rfl rfl hl.1 rfl (Nat.le_of_ble_eq_true rfl) ⟨Nat.zero_le _, Nat.zero_le _⟩ dX2_leastLocks_79 ?_
            clear hP hD hS; intro H locs hP hD hS
            refine lv_iload hx hb dX2_leastLocks_82 (lv_at hl 4 rfl) ?_
            obtain ⟨r_84, hc_84, hf⟩ := bd1 hf
            refine r_callSi (ws' := (wX2_leastLocks E h h_house h_thingIn h_full h_states h_bed h_dreamOf h_listensIn h_house_creak h_house_cold h_house_one h_house_other h_house_how h_house_falls h_house_ways v_minutes v_things v_dreams v_sleepers v_listeners v_house_rooms v_house_doors v_house_how v_house_one v_house_other v_bed)) (As := [.int x63_4]) (rest := [.int r_79]) C (ctJ6_bitCount_0f7a4 l E N x63_4 r_84 hc_84) ml_X2_85 ⟨Nat.le_of_ble_eq_true rfl, Nat.le_of_ble_eq_true rfl⟩ hP hD hS [] rfl rfl rfl rfl rfl hl.1 rfl (Nat.le_of_ble_eq_true rfl) ⟨Nat.zero_le _, Nat.zero_le _⟩ dX2_leastLocks_84 ?_
            clear hP hD hS; intro H locs hP hD hS
            refine jnK hf (fun j114 ej114 hf => ?_)
            have hj114 : ∀ (x114_4 : Int32) , j114 x114_4 = some z0 → AT p l e (rmOf 2 48) s m args below meth c E A Q 0 0 6 [(0, .ref h), (1, .int p0), (2, .int x29_2), (3, .int r_43), (4, .int x114_4), (5, .int x63_5)] (wX2_leastLocks E h h_house h_thingIn h_full h_states h_bed h_dreamOf h_listensIn h_house_creak h_house_cold h_house_one h_house_other h_house_how h_house_falls h_house_ways v_minutes v_things v_dreams v_sleepers v_listeners v_house_rooms v_house_doors v_house_how v_house_one v_house_other v_bed) 114 [] := by
              intro x114_4 hf H locs ls hl hP hD hS
              rw [ej114] at hf
              replace hf := un1_s hf
              refine lv_iinc (v := x63_5 + 1) (lv' := [(5, .int (x63_5 + 1)), (0, .ref h), (1, .int p0), (2, .int x29_2), (3, .int r_43), (4, .int x114_4)]) hx hb dX2_leastLocks_114 hl (k := 5) rfl rfl (by decide) rfl (fun ls hl => ?_)
              refine lv_goto (tgt := 63) hx hb dX2_leastLocks_117 (by decide) ?_
              exact ih63 x114_4 (x63_5 + 1) hf _ _ _ (lv_sub hl [1, 2, 3, 4, 5, 0] rfl) hP hD hS
            clear ej114
            refine lv_icmp_ge (tgt := 114) hx hb dX2_leastLocks_87 (by decide) (fun c_87 => ?_) (fun c_87 => ?_)
            · replace hf := it_t c_87 hf
              exact hj114 x63_4 hf _ _ _ (lv_sub hl [0, 1, 2, 3, 4, 5] rfl) hP hD hS
            · replace hf := it_f c_87 hf
              refine lv_aload_n hx hb dX2_leastLocks_90 rfl (lv_at hl 0 rfl) ?_
              refine r_get C hP 0 rfl fl_X2_12 rfl dX2_leastLocks_91 ?_
              refine lv_iload_n hx hb dX2_leastLocks_94 rfl (lv_at hl 2 rfl) ?_
              refine lv_iload_n hx hb dX2_leastLocks_95 rfl (lv_at hl 3 rfl) ?_
              refine lv_iload hx hb dX2_leastLocks_96 (lv_at hl 5 rfl) ?_
              refine lv_ior hx hb dX2_leastLocks_98 ?_
              obtain ⟨r_99, hc_99, hf⟩ := bd1 hf
              refine r_callVi (ws' := (wX2_leastLocks E h h_house h_thingIn h_full h_states h_bed h_dreamOf h_listensIn h_house_creak h_house_cold h_house_one h_house_other h_house_how h_house_falls h_house_ways v_minutes v_things v_dreams v_sleepers v_listeners v_house_rooms v_house_doors v_house_how v_house_one v_house_other v_bed)) (As := [.int x29_2, .int (r_43 ||| x63_5)]) (rest := []) C (ctX1_reachedFrom l E h_house h_house_creak h_house_cold h_house_one h_house_other h_house_how h_house_falls h_house_ways v_house_rooms v_house_doors v_house_one v_house_other N x29_2 (r_43 ||| x63_5) r_99 hc_99) ml_X2_90 ⟨Nat.le_of_ble_eq_true rfl, Nat.le_of_ble_eq_true rfl⟩ hP hD hS 1 rfl rfl rfl [1, 3, 4] rfl rfl rfl rfl rfl hl.1 rfl (Nat.le_of_ble_eq_true rfl) ⟨Nat.zero_le _, Nat.zero_le _⟩ dX2_leastLocks_99 ?_
              clear hP hD hS; intro H locs hP hD hS
              refine lv_i2l (v := r_99.toInt64) hx hb dX2_leastLocks_102 rfl ?_
              refine lv_iload_n hx hb dX2_leastLocks_103 rfl (lv_at hl 1 rfl) ?_
              obtain ⟨r_104, hc_104, hf⟩ := bd1 hf
              refine r_callSi (ws' := (wX2_leastLocks E h h_house h_thingIn h_full h_states h_bed h_dreamOf h_listensIn h_house_creak h_house_cold h_house_one h_house_other h_house_how h_house_falls h_house_ways v_minutes v_things v_dreams v_sleepers v_listeners v_house_rooms v_house_doors v_house_how v_house_one v_house_other v_bed)) (As := [.long r_99.toInt64, .int p0]) (rest := []) C (ctX10_isBitSet l E N r_99.toInt64 p0 r_104 hc_104) ml_X2_77 ⟨Nat.le_of_ble_eq_true rfl, Nat.le_of_ble_eq_true rfl⟩ hP hD hS [] rfl rfl rfl rfl rfl hl.1 rfl (Nat.le_of_ble_eq_true rfl) ⟨Nat.zero_le _, Nat.zero_le _⟩ dX2_leastLocks_104 ?_
              clear hP hD hS; intro H locs hP hD hS
              refine lv_if_ne (tgt := 114) hx hb dX2_leastLocks_107 (by decide) (fun c_107 => ?_) (fun c_107 => ?_)
              · replace hf := it_f c_107 hf
                exact hj114 x63_4 hf _ _ _ (lv_sub hl [0, 1, 2, 3, 4, 5] rfl) hP hD hS
              · replace hf := it_t c_107 hf
                refine lv_iload hx hb dX2_leastLocks_110 (lv_at hl 5 rfl) ?_
                refine lv_istore (lv' := [(4, .int x63_5), (0, .ref h), (1, .int p0), (2, .int x29_2), (3, .int r_43), (5, .int x63_5)]) hx hb dX2_leastLocks_112 hl (by decide) rfl (fun ls hl => ?_)
                exact hj114 x63_5 hf _ _ _ (lv_sub hl [1, 2, 3, 4, 0, 5] rfl) hP hD hS
      exact key63 _ ((1 <<< (v_house_doors &&& 31)) - 1) 0 hf _ _ _ (lv_sub hl [3, 4, 5, 2, 1, 0] rfl) hP hD hS
    · replace hf := it_f c_35 hf
      refine lv_bipush (v := (-2)) hx hb dX2_leastLocks_38 (by decide) ?_
      cases hf
      rw [hQ]
      exact r_iret C hr hP hD hS rfl dX2_leastLocks_40
  clear eK29
  have key4 : ∀ (n : Nat) (x4_2 : Int32) (x4_3 : Int32) , lp (BX2_leastLocks_4 v_sleepers v_bed K29) n (x4_2, x4_3) = some z0 → AT p l e (rmOf 2 48) s m args below meth c E A Q 0 0 6 [(0, .ref h), (1, .int p0), (2, .int x4_2), (3, .int x4_3)] (wX2_leastLocks E h h_house h_thingIn h_full h_states h_bed h_dreamOf h_listensIn h_house_creak h_house_cold h_house_one h_house_other h_house_how h_house_falls h_house_ways v_minutes v_things v_dreams v_sleepers v_listeners v_house_rooms v_house_doors v_house_how v_house_one v_house_other v_bed) 4 [] := by
    intro n
    induction n with
    | zero => intro x4_2 x4_3 hf; exact (lp_0 hf).elim
    | succ n ih4 =>
      intro x4_2 x4_3 hf H locs ls hl hP hD hS
      replace hf := lp_s hf
      generalize lp (BX2_leastLocks_4 v_sleepers v_bed K29) n = rec4 at ih4 hf
      unfold BX2_leastLocks_4 at hf
      replace hf := un2_s hf
      refine lv_iload_n hx hb dX2_leastLocks_4 rfl (lv_at hl 3 rfl) ?_
      refine lv_aload_n hx hb dX2_leastLocks_5 rfl (lv_at hl 0 rfl) ?_
      refine r_get C hP 0 rfl fl_X2_60 rfl dX2_leastLocks_6 ?_
      refine lv_icmp_ge (tgt := 29) hx hb dX2_leastLocks_9 (by decide) (fun c_9 => ?_) (fun c_9 => ?_)
      · replace hf := it_t c_9 hf
        exact hK29 x4_2 hf _ _ _ (lv_sub hl [0, 1, 2] rfl) hP hD hS
      · replace hf := it_f c_9 hf
        refine lv_iload_n hx hb dX2_leastLocks_12 rfl (lv_at hl 2 rfl) ?_
        refine lv_iconst (v := 1) hx hb dX2_leastLocks_13 (by decide) ?_
        refine lv_aload_n hx hb dX2_leastLocks_14 rfl (lv_at hl 0 rfl) ?_
        refine r_get C hP 0 rfl fl_X2_29 rfl dX2_leastLocks_15 ?_
        refine lv_iload_n hx hb dX2_leastLocks_18 rfl (lv_at hl 3 rfl) ?_
        obtain ⟨hi_19, hf⟩ := gd_s hf
        refine r_iald C hP 5 rfl hi_19 dX2_leastLocks_19 ?_
        refine lv_ishl hx hb dX2_leastLocks_20 ?_
        refine lv_ior hx hb dX2_leastLocks_21 ?_
        refine lv_istore_n (lv' := [(2, .int (x4_2 ||| (1 <<< ((v_bed x4_3.toNatClampNeg) &&& 31)))), (0, .ref h), (1, .int p0), (3, .int x4_3)]) hx hb dX2_leastLocks_22 rfl hl (by decide) rfl (fun ls hl => ?_)
        refine lv_iinc (v := x4_3 + 1) (lv' := [(3, .int (x4_3 + 1)), (2, .int (x4_2 ||| (1 <<< ((v_bed x4_3.toNatClampNeg) &&& 31)))), (0, .ref h), (1, .int p0)]) hx hb dX2_leastLocks_23 hl (k := 3) rfl rfl (by decide) rfl (fun ls hl => ?_)
        refine lv_goto (tgt := 4) hx hb dX2_leastLocks_26 (by decide) ?_
        exact ih4 (x4_2 ||| (1 <<< ((v_bed x4_3.toNatClampNeg) &&& 31))) (x4_3 + 1) hf _ _ _ (lv_sub hl [2, 3, 1, 0] rfl) hP hD hS
  exact key4 _ 0 0 hf _ _ _ (lv_sub hl [2, 3, 1, 0] rfl) hP hD hS
def wX10_safely (E : EN) (h h_reader h_inn h_chosen h_night h_marks h_notes h_casts h_inn_house h_inn_thingIn h_inn_full h_inn_states h_inn_bed h_inn_dreamOf h_inn_listensIn h_inn_house_creak h_inn_house_cold h_inn_house_one h_inn_house_other h_inn_house_how h_inn_house_falls h_inn_house_ways : Nat) (v_marked : Int32) (v_refusal : Int32) (v_latestFault : Int32) (v_faultPlace : Int32) (v_inn_minutes : Int32) (v_inn_things : Int32) (v_inn_dreams : Int32) (v_inn_sleepers : Int32) (v_inn_listeners : Int32) (v_inn_house_rooms : Int32) (v_inn_house_doors : Int32) (v_inn_house_how : Nat → Int32) (v_inn_house_one : Nat → Int32) (v_inn_house_other : Nat → Int32) (v_inn_bed : Nat → Int32) : va_W := [(h, .inr (9, [.ref h_reader, .ref h_inn, .ref h_chosen, .ref h_night, .ref h_marks, .int v_marked, .ref h_notes, .ref h_casts, .int v_refusal, .int v_latestFault, .int v_faultPlace])), (h_inn, .inr (2, [.ref h_inn_house, .int v_inn_minutes, .int v_inn_things, .ref h_inn_thingIn, .ref h_inn_full, .int v_inn_dreams, .ref h_inn_states, .int v_inn_sleepers, .ref h_inn_bed, .ref h_inn_dreamOf, .int v_inn_listeners, .ref h_inn_listensIn])), (h_inn_house, .inr (1, [.int v_inn_house_rooms, .ref h_inn_house_creak, .ref h_inn_house_cold, .int v_inn_house_doors, .ref h_inn_house_one, .ref h_inn_house_other, .ref h_inn_house_how, .ref h_inn_house_falls, .ref h_inn_house_ways])), (h_inn_house_how, aI E 10 v_inn_house_how), (h_inn_house_one, aI E 10 v_inn_house_one), (h_inn_house_other, aI E 10 v_inn_house_other), (h_inn_bed, aI E 3 v_inn_bed)]
def fX10_safely (N : Nat) (p0 : Int32) (v_inn_sleepers : Int32) (v_inn_house_rooms : Int32) (v_inn_house_doors : Int32) (v_inn_house_how : Nat → Int32) (v_inn_house_one : Nat → Int32) (v_inn_house_other : Nat → Int32) (v_inn_bed : Nat → Int32) : Option (Int32 × Int32) := (fX10_isRoom N p0 v_inn_house_rooms).bind (un1 fun (r_2 : Int32) => if r_2 = 0 then ((fX10_refuse N 1).bind (un2 fun (r_10 : Int32) (v_refusal_10 : Int32) => some (r_10, v_refusal_10))) else ((fX2_leastLocks N p0 v_inn_sleepers v_inn_house_rooms v_inn_house_doors v_inn_house_how v_inn_house_one v_inn_house_other v_inn_bed).bind (un1 fun (r_20 : Int32) => (fX10_answer N r_20).bind (un2 fun (r_23 : Int32) (v_refusal_23 : Int32) => some (r_23, v_refusal_23)))))
set_option maxHeartbeats 4000000 in
set_option maxRecDepth 100000 in
theorem ctX10_safely (l : Launch) (E : EN) (h h_reader h_inn h_chosen h_night h_marks h_notes h_casts h_inn_house h_inn_thingIn h_inn_full h_inn_states h_inn_bed h_inn_dreamOf h_inn_listensIn h_inn_house_creak h_inn_house_cold h_inn_house_one h_inn_house_other h_inn_house_how h_inn_house_falls h_inn_house_ways : Nat) (v_marked : Int32) (v_refusal : Int32) (v_latestFault : Int32) (v_faultPlace : Int32) (v_inn_minutes : Int32) (v_inn_things : Int32) (v_inn_dreams : Int32) (v_inn_sleepers : Int32) (v_inn_listeners : Int32) (v_inn_house_rooms : Int32) (v_inn_house_doors : Int32) (v_inn_house_how : Nat → Int32) (v_inn_house_one : Nat → Int32) (v_inn_house_other : Nat → Int32) (v_inn_bed : Nat → Int32) (N : Nat) (p0 : Int32) (z0 : Int32) (z1 : Int32) (hf : fX10_safely N p0 v_inn_sleepers v_inn_house_rooms v_inn_house_doors v_inn_house_how v_inn_house_one v_inn_house_other v_inn_bed = some (z0, z1)) : CTi l E yX10_safely cX10_safely 2 .int 3 73 [.ref h, .int p0] (wX10_safely E h h_reader h_inn h_chosen h_night h_marks h_notes h_casts h_inn_house h_inn_thingIn h_inn_full h_inn_states h_inn_bed h_inn_dreamOf h_inn_listensIn h_inn_house_creak h_inn_house_cold h_inn_house_one h_inn_house_other h_inn_house_how h_inn_house_falls h_inn_house_ways v_marked v_refusal v_latestFault v_faultPlace v_inn_minutes v_inn_things v_inn_dreams v_inn_sleepers v_inn_listeners v_inn_house_rooms v_inn_house_doors v_inn_house_how v_inn_house_one v_inn_house_other v_inn_bed) z0 (wX10_safely E h h_reader h_inn h_chosen h_night h_marks h_notes h_casts h_inn_house h_inn_thingIn h_inn_full h_inn_states h_inn_bed h_inn_dreamOf h_inn_listensIn h_inn_house_creak h_inn_house_cold h_inn_house_one h_inn_house_other h_inn_house_how h_inn_house_falls h_inn_house_ways v_marked z1 v_latestFault v_faultPlace v_inn_minutes v_inn_things v_inn_dreams v_inn_sleepers v_inn_listeners v_inn_house_rooms v_inn_house_doors v_inn_house_how v_inn_house_one v_inn_house_other v_inn_bed) := by
  intro sz
  refine ct_body (by decide) (Nat.le_of_ble_eq_true rfl) ?_
  intro p e s m args below meth c A ls hAe C hr hin hP hD hS hl
  have C : CX p s m args meth c cX10_safely RX10 2 E A := C
  have hl : lv_has ls 2 [(0, .ref h), (1, .int p0)] := hl
  have hx := C.1
  have hb := C.2.1
  rw [hAe]
  clear hAe
  obtain ⟨Q, hQ⟩ : ∃ Q, Q = MQ below (Qi E A z0 (wX10_safely E h h_reader h_inn h_chosen h_night h_marks h_notes h_casts h_inn_house h_inn_thingIn h_inn_full h_inn_states h_inn_bed h_inn_dreamOf h_inn_listensIn h_inn_house_creak h_inn_house_cold h_inn_house_one h_inn_house_other h_inn_house_how h_inn_house_falls h_inn_house_ways v_marked z1 v_latestFault v_faultPlace v_inn_minutes v_inn_things v_inn_dreams v_inn_sleepers v_inn_listeners v_inn_house_rooms v_inn_house_doors v_inn_house_how v_inn_house_one v_inn_house_other v_inn_bed)) args s 0 0 A := ⟨_, rfl⟩
  rw [← hQ]
  unfold fX10_safely at hf
  refine lv_aload_n hx hb dX10_safely_0 rfl (lv_at hl 0 rfl) ?_
  refine lv_iload_n hx hb dX10_safely_1 rfl (lv_at hl 1 rfl) ?_
  obtain ⟨r_2, hc_2, hf⟩ := bd1 hf
  refine r_callVi (ws' := (wX10_safely E h h_reader h_inn h_chosen h_night h_marks h_notes h_casts h_inn_house h_inn_thingIn h_inn_full h_inn_states h_inn_bed h_inn_dreamOf h_inn_listensIn h_inn_house_creak h_inn_house_cold h_inn_house_one h_inn_house_other h_inn_house_how h_inn_house_falls h_inn_house_ways v_marked v_refusal v_latestFault v_faultPlace v_inn_minutes v_inn_things v_inn_dreams v_inn_sleepers v_inn_listeners v_inn_house_rooms v_inn_house_doors v_inn_house_how v_inn_house_one v_inn_house_other v_inn_bed)) (As := [.int p0]) (rest := []) C (ctX10_isRoom l E h h_reader h_inn h_chosen h_night h_marks h_notes h_casts h_inn_house h_inn_thingIn h_inn_full h_inn_states h_inn_bed h_inn_dreamOf h_inn_listensIn h_inn_house_creak h_inn_house_cold h_inn_house_one h_inn_house_other h_inn_house_how h_inn_house_falls h_inn_house_ways v_marked v_refusal v_latestFault v_faultPlace v_inn_minutes v_inn_things v_inn_dreams v_inn_sleepers v_inn_listeners v_inn_house_rooms v_inn_house_doors N p0 r_2 hc_2) ml_X10_101 ⟨Nat.le_of_ble_eq_true rfl, Nat.le_of_ble_eq_true rfl⟩ hP hD hS 0 rfl rfl rfl [0, 1, 2] rfl rfl rfl rfl rfl hl.1 rfl (Nat.le_of_ble_eq_true rfl) ⟨Nat.zero_le _, Nat.zero_le _⟩ dX10_safely_2 ?_
  clear hP hD hS; intro H locs hP hD hS
  refine lv_if_ne (tgt := 14) hx hb dX10_safely_5 (by decide) (fun c_5 => ?_) (fun c_5 => ?_)
  · replace hf := it_f c_5 hf
    refine lv_aload_n hx hb dX10_safely_14 rfl (lv_at hl 0 rfl) ?_
    refine lv_aload_n hx hb dX10_safely_15 rfl (lv_at hl 0 rfl) ?_
    refine r_get C hP 0 rfl fl_X10_19 rfl dX10_safely_16 ?_
    refine lv_iload_n hx hb dX10_safely_19 rfl (lv_at hl 1 rfl) ?_
    obtain ⟨r_20, hc_20, hf⟩ := bd1 hf
    refine r_callVi (ws' := (wX10_safely E h h_reader h_inn h_chosen h_night h_marks h_notes h_casts h_inn_house h_inn_thingIn h_inn_full h_inn_states h_inn_bed h_inn_dreamOf h_inn_listensIn h_inn_house_creak h_inn_house_cold h_inn_house_one h_inn_house_other h_inn_house_how h_inn_house_falls h_inn_house_ways v_marked v_refusal v_latestFault v_faultPlace v_inn_minutes v_inn_things v_inn_dreams v_inn_sleepers v_inn_listeners v_inn_house_rooms v_inn_house_doors v_inn_house_how v_inn_house_one v_inn_house_other v_inn_bed)) (As := [.int p0]) (rest := [.ref h]) C (ctX2_leastLocks l E h_inn h_inn_house h_inn_thingIn h_inn_full h_inn_states h_inn_bed h_inn_dreamOf h_inn_listensIn h_inn_house_creak h_inn_house_cold h_inn_house_one h_inn_house_other h_inn_house_how h_inn_house_falls h_inn_house_ways v_inn_minutes v_inn_things v_inn_dreams v_inn_sleepers v_inn_listeners v_inn_house_rooms v_inn_house_doors v_inn_house_how v_inn_house_one v_inn_house_other v_inn_bed N p0 r_20 hc_20) ml_X10_295 ⟨Nat.le_of_ble_eq_true rfl, Nat.le_of_ble_eq_true rfl⟩ hP hD hS 1 rfl rfl rfl [1, 2, 3, 4, 5, 6] rfl rfl rfl rfl rfl hl.1 rfl (Nat.le_of_ble_eq_true rfl) ⟨Nat.zero_le _, Nat.zero_le _⟩ dX10_safely_20 ?_
    clear hP hD hS; intro H locs hP hD hS
    obtain ⟨r_23, v_refusal_23, hc_23, hf⟩ := bd2 hf
    refine r_callVi (ws' := (wX10_safely E h h_reader h_inn h_chosen h_night h_marks h_notes h_casts h_inn_house h_inn_thingIn h_inn_full h_inn_states h_inn_bed h_inn_dreamOf h_inn_listensIn h_inn_house_creak h_inn_house_cold h_inn_house_one h_inn_house_other h_inn_house_how h_inn_house_falls h_inn_house_ways v_marked v_refusal_23 v_latestFault v_faultPlace v_inn_minutes v_inn_things v_inn_dreams v_inn_sleepers v_inn_listeners v_inn_house_rooms v_inn_house_doors v_inn_house_how v_inn_house_one v_inn_house_other v_inn_bed)) (As := [.int r_20]) (rest := []) C (ctX10_answer l E h h_reader h_inn h_chosen h_night h_marks h_notes h_casts v_marked v_refusal v_latestFault v_faultPlace N r_20 r_23 v_refusal_23 hc_23) ml_X10_95 ⟨Nat.le_of_ble_eq_true rfl, Nat.le_of_ble_eq_true rfl⟩ hP hD hS 0 rfl rfl rfl [0] rfl rfl rfl rfl rfl hl.1 rfl (Nat.le_of_ble_eq_true rfl) ⟨Nat.zero_le _, Nat.zero_le _⟩ dX10_safely_23 ?_
    clear hP hD hS; intro H locs hP hD hS
    cases hf
    rw [hQ]
    exact r_iret C hr hP hD hS rfl dX10_safely_26
  · replace hf := it_t c_5 hf
    refine lv_aload_n hx hb dX10_safely_8 rfl (lv_at hl 0 rfl) ?_
    refine lv_iconst (v := 1) hx hb dX10_safely_9 (by decide) ?_
    obtain ⟨r_10, v_refusal_10, hc_10, hf⟩ := bd2 hf
    refine r_callVi (ws' := (wX10_safely E h h_reader h_inn h_chosen h_night h_marks h_notes h_casts h_inn_house h_inn_thingIn h_inn_full h_inn_states h_inn_bed h_inn_dreamOf h_inn_listensIn h_inn_house_creak h_inn_house_cold h_inn_house_one h_inn_house_other h_inn_house_how h_inn_house_falls h_inn_house_ways v_marked v_refusal_10 v_latestFault v_faultPlace v_inn_minutes v_inn_things v_inn_dreams v_inn_sleepers v_inn_listeners v_inn_house_rooms v_inn_house_doors v_inn_house_how v_inn_house_one v_inn_house_other v_inn_bed)) (As := [.int 1]) (rest := []) C (ctX10_refuse l E h h_reader h_inn h_chosen h_night h_marks h_notes h_casts v_marked v_refusal v_latestFault v_faultPlace N 1 r_10 v_refusal_10 hc_10) ml_X10_68 ⟨Nat.le_of_ble_eq_true rfl, Nat.le_of_ble_eq_true rfl⟩ hP hD hS 0 rfl rfl rfl [0] rfl rfl rfl rfl rfl hl.1 rfl (Nat.le_of_ble_eq_true rfl) ⟨Nat.zero_le _, Nat.zero_le _⟩ dX10_safely_10 ?_
    clear hP hD hS; intro H locs hP hD hS
    cases hf
    rw [hQ]
    exact r_iret C hr hP hD hS rfl dX10_safely_13
def wX10_safe (E : EN) (h h_reader h_inn h_chosen h_night h_marks h_notes h_casts h_inn_house h_inn_thingIn h_inn_full h_inn_states h_inn_bed h_inn_dreamOf h_inn_listensIn h_inn_house_creak h_inn_house_cold h_inn_house_one h_inn_house_other h_inn_house_how h_inn_house_falls h_inn_house_ways : Nat) (v_marked : Int32) (v_refusal : Int32) (v_latestFault : Int32) (v_faultPlace : Int32) (v_inn_minutes : Int32) (v_inn_things : Int32) (v_inn_dreams : Int32) (v_inn_sleepers : Int32) (v_inn_listeners : Int32) (v_inn_house_rooms : Int32) (v_inn_house_doors : Int32) (v_inn_house_how : Nat → Int32) (v_inn_house_one : Nat → Int32) (v_inn_house_other : Nat → Int32) (v_inn_bed : Nat → Int32) : va_W := [(h, .inr (9, [.ref h_reader, .ref h_inn, .ref h_chosen, .ref h_night, .ref h_marks, .int v_marked, .ref h_notes, .ref h_casts, .int v_refusal, .int v_latestFault, .int v_faultPlace])), (h_inn, .inr (2, [.ref h_inn_house, .int v_inn_minutes, .int v_inn_things, .ref h_inn_thingIn, .ref h_inn_full, .int v_inn_dreams, .ref h_inn_states, .int v_inn_sleepers, .ref h_inn_bed, .ref h_inn_dreamOf, .int v_inn_listeners, .ref h_inn_listensIn])), (h_inn_house, .inr (1, [.int v_inn_house_rooms, .ref h_inn_house_creak, .ref h_inn_house_cold, .int v_inn_house_doors, .ref h_inn_house_one, .ref h_inn_house_other, .ref h_inn_house_how, .ref h_inn_house_falls, .ref h_inn_house_ways])), (h_inn_house_how, aI E 10 v_inn_house_how), (h_inn_house_one, aI E 10 v_inn_house_one), (h_inn_house_other, aI E 10 v_inn_house_other), (h_inn_bed, aI E 3 v_inn_bed)]
def fX10_safe (N : Nat) (p0 : Int32) (v_inn_sleepers : Int32) (v_inn_house_rooms : Int32) (v_inn_house_doors : Int32) (v_inn_house_how : Nat → Int32) (v_inn_house_one : Nat → Int32) (v_inn_house_other : Nat → Int32) (v_inn_bed : Nat → Int32) : Option (Int32 × Int32) := (fX10_safely N p0 v_inn_sleepers v_inn_house_rooms v_inn_house_doors v_inn_house_how v_inn_house_one v_inn_house_other v_inn_bed).bind (un2 fun (r_2 : Int32) (v_refusal_2 : Int32) => if 0 ≤ r_2 then ((fJ6_bitCount_0f7a4 N r_2).bind (un1 fun (r_15 : Int32) => some (r_15, v_refusal_2))) else (some (r_2, v_refusal_2)))
set_option maxHeartbeats 4000000 in
set_option maxRecDepth 100000 in
theorem ctX10_safe (l : Launch) (E : EN) (h h_reader h_inn h_chosen h_night h_marks h_notes h_casts h_inn_house h_inn_thingIn h_inn_full h_inn_states h_inn_bed h_inn_dreamOf h_inn_listensIn h_inn_house_creak h_inn_house_cold h_inn_house_one h_inn_house_other h_inn_house_how h_inn_house_falls h_inn_house_ways : Nat) (v_marked : Int32) (v_refusal : Int32) (v_latestFault : Int32) (v_faultPlace : Int32) (v_inn_minutes : Int32) (v_inn_things : Int32) (v_inn_dreams : Int32) (v_inn_sleepers : Int32) (v_inn_listeners : Int32) (v_inn_house_rooms : Int32) (v_inn_house_doors : Int32) (v_inn_house_how : Nat → Int32) (v_inn_house_one : Nat → Int32) (v_inn_house_other : Nat → Int32) (v_inn_bed : Nat → Int32) (N : Nat) (p0 : Int32) (z0 : Int32) (z1 : Int32) (hf : fX10_safe N p0 v_inn_sleepers v_inn_house_rooms v_inn_house_doors v_inn_house_how v_inn_house_one v_inn_house_other v_inn_bed = some (z0, z1)) : CTi l E yX10_safe cX10_safe 3 .int 4 94 [.ref h, .int p0] (wX10_safe E h h_reader h_inn h_chosen h_night h_marks h_notes h_casts h_inn_house h_inn_thingIn h_inn_full h_inn_states h_inn_bed h_inn_dreamOf h_inn_listensIn h_inn_house_creak h_inn_house_cold h_inn_house_one h_inn_house_other h_inn_house_how h_inn_house_falls h_inn_house_ways v_marked v_refusal v_latestFault v_faultPlace v_inn_minutes v_inn_things v_inn_dreams v_inn_sleepers v_inn_listeners v_inn_house_rooms v_inn_house_doors v_inn_house_how v_inn_house_one v_inn_house_other v_inn_bed) z0 (wX10_safe E h h_reader h_inn h_chosen h_night h_marks h_notes h_casts h_inn_house h_inn_thingIn h_inn_full h_inn_states h_inn_bed h_inn_dreamOf h_inn_listensIn h_inn_house_creak h_inn_house_cold h_inn_house_one h_inn_house_other h_inn_house_how h_inn_house_falls h_inn_house_ways v_marked z1 v_latestFault v_faultPlace v_inn_minutes v_inn_things v_inn_dreams v_inn_sleepers v_inn_listeners v_inn_house_rooms v_inn_house_doors v_inn_house_how v_inn_house_one v_inn_house_other v_inn_bed) := by
  intro sz
  refine ct_body (by decide) (Nat.le_of_ble_eq_true rfl) ?_
  intro p e s m args below meth c A ls hAe C hr hin hP hD hS hl
  have C : CX p s m args meth c cX10_safe RX10 3 E A := C
  have hl : lv_has ls 3 [(0, .ref h), (1, .int p0)] := hl
  have hx := C.1
  have hb := C.2.1
  rw [hAe]
  clear hAe
  obtain ⟨Q, hQ⟩ : ∃ Q, Q = MQ below (Qi E A z0 (wX10_safe E h h_reader h_inn h_chosen h_night h_marks h_notes h_casts h_inn_house h_inn_thingIn h_inn_full h_inn_states h_inn_bed h_inn_dreamOf h_inn_listensIn h_inn_house_creak h_inn_house_cold h_inn_house_one h_inn_house_other h_inn_house_how h_inn_house_falls h_inn_house_ways v_marked z1 v_latestFault v_faultPlace v_inn_minutes v_inn_things v_inn_dreams v_inn_sleepers v_inn_listeners v_inn_house_rooms v_inn_house_doors v_inn_house_how v_inn_house_one v_inn_house_other v_inn_bed)) args s 0 0 A := ⟨_, rfl⟩
  rw [← hQ]
  unfold fX10_safe at hf
  refine lv_aload_n hx hb dX10_safe_0 rfl (lv_at hl 0 rfl) ?_
  refine lv_iload_n hx hb dX10_safe_1 rfl (lv_at hl 1 rfl) ?_
  obtain ⟨r_2, v_refusal_2, hc_2, hf⟩ := bd2 hf
  refine r_callVi (ws' := (wX10_safe E h h_reader h_inn h_chosen h_night h_marks h_notes h_casts h_inn_house h_inn_thingIn h_inn_full h_inn_states h_inn_bed h_inn_dreamOf h_inn_listensIn h_inn_house_creak h_inn_house_cold h_inn_house_one h_inn_house_other h_inn_house_how h_inn_house_falls h_inn_house_ways v_marked v_refusal_2 v_latestFault v_faultPlace v_inn_minutes v_inn_things v_inn_dreams v_inn_sleepers v_inn_listeners v_inn_house_rooms v_inn_house_doors v_inn_house_how v_inn_house_one v_inn_house_other v_inn_bed)) (As := [.int p0]) (rest := []) C (ctX10_safely l E h h_reader h_inn h_chosen h_night h_marks h_notes h_casts h_inn_house h_inn_thingIn h_inn_full h_inn_states h_inn_bed h_inn_dreamOf h_inn_listensIn h_inn_house_creak h_inn_house_cold h_inn_house_one h_inn_house_other h_inn_house_how h_inn_house_falls h_inn_house_ways v_marked v_refusal v_latestFault v_faultPlace v_inn_minutes v_inn_things v_inn_dreams v_inn_sleepers v_inn_listeners v_inn_house_rooms v_inn_house_doors v_inn_house_how v_inn_house_one v_inn_house_other v_inn_bed N p0 r_2 v_refusal_2 hc_2) ml_X10_288 ⟨Nat.le_of_ble_eq_true rfl, Nat.le_of_ble_eq_true rfl⟩ hP hD hS 0 rfl rfl rfl [0, 1, 2, 3, 4, 5, 6] rfl rfl rfl rfl rfl hl.1 rfl (Nat.le_of_ble_eq_true rfl) ⟨Nat.zero_le _, Nat.zero_le _⟩ dX10_safe_2 ?_
  clear hP hD hS; intro H locs hP hD hS
  refine lv_istore_n (lv' := [(2, .int r_2), (0, .ref h), (1, .int p0)]) hx hb dX10_safe_5 rfl hl (by decide) rfl (fun ls hl => ?_)
  refine lv_iload_n hx hb dX10_safe_6 rfl (lv_at hl 0 rfl) ?_
  refine lv_if_ge (tgt := 14) hx hb dX10_safe_7 (by decide) (fun c_7 => ?_) (fun c_7 => ?_)
  · replace hf := it_t c_7 hf
    refine lv_iload_n hx hb dX10_safe_14 rfl (lv_at hl 0 rfl) ?_
    obtain ⟨r_15, hc_15, hf⟩ := bd1 hf
    refine r_callSi (ws' := (wX10_safe E h h_reader h_inn h_chosen h_night h_marks h_notes h_casts h_inn_house h_inn_thingIn h_inn_full h_inn_states h_inn_bed h_inn_dreamOf h_inn_listensIn h_inn_house_creak h_inn_house_cold h_inn_house_one h_inn_house_other h_inn_house_how h_inn_house_falls h_inn_house_ways v_marked v_refusal_2 v_latestFault v_faultPlace v_inn_minutes v_inn_things v_inn_dreams v_inn_sleepers v_inn_listeners v_inn_house_rooms v_inn_house_doors v_inn_house_how v_inn_house_one v_inn_house_other v_inn_bed)) (As := [.int r_2]) (rest := []) C (ctJ6_bitCount_0f7a4 l E N r_2 r_15 hc_15) ml_X10_291 ⟨Nat.le_of_ble_eq_true rfl, Nat.le_of_ble_eq_true rfl⟩ hP hD hS [] rfl rfl rfl rfl rfl hl.1 rfl (Nat.le_of_ble_eq_true rfl) ⟨Nat.zero_le _, Nat.zero_le _⟩ dX10_safe_15 ?_
    clear hP hD hS; intro H locs hP hD hS
    cases hf
    rw [hQ]
    exact r_iret C hr hP hD hS rfl dX10_safe_18
  · replace hf := it_f c_7 hf
    refine lv_iload_n hx hb dX10_safe_10 rfl (lv_at hl 0 rfl) ?_
    refine lv_goto (tgt := 18) hx hb dX10_safe_11 (by decide) ?_
    cases hf
    rw [hQ]
    exact r_iret C hr hP hD hS rfl dX10_safe_18
def wX10_walks (E : EN) (h h_reader h_inn h_chosen h_night h_marks h_notes h_casts h_inn_house h_inn_thingIn h_inn_full h_inn_states h_inn_bed h_inn_dreamOf h_inn_listensIn h_inn_house_creak h_inn_house_cold h_inn_house_one h_inn_house_other h_inn_house_how h_inn_house_falls h_inn_house_ways : Nat) (v_marked : Int32) (v_refusal : Int32) (v_latestFault : Int32) (v_faultPlace : Int32) (v_inn_minutes : Int32) (v_inn_things : Int32) (v_inn_dreams : Int32) (v_inn_sleepers : Int32) (v_inn_listeners : Int32) (v_inn_house_rooms : Int32) (v_inn_house_doors : Int32) (v_inn_house_how : Nat → Int32) (v_inn_house_one : Nat → Int32) (v_inn_house_other : Nat → Int32) (v_inn_bed : Nat → Int32) : va_W := [(h, .inr (9, [.ref h_reader, .ref h_inn, .ref h_chosen, .ref h_night, .ref h_marks, .int v_marked, .ref h_notes, .ref h_casts, .int v_refusal, .int v_latestFault, .int v_faultPlace])), (h_inn, .inr (2, [.ref h_inn_house, .int v_inn_minutes, .int v_inn_things, .ref h_inn_thingIn, .ref h_inn_full, .int v_inn_dreams, .ref h_inn_states, .int v_inn_sleepers, .ref h_inn_bed, .ref h_inn_dreamOf, .int v_inn_listeners, .ref h_inn_listensIn])), (h_inn_house, .inr (1, [.int v_inn_house_rooms, .ref h_inn_house_creak, .ref h_inn_house_cold, .int v_inn_house_doors, .ref h_inn_house_one, .ref h_inn_house_other, .ref h_inn_house_how, .ref h_inn_house_falls, .ref h_inn_house_ways])), (h_inn_house_how, aI E 10 v_inn_house_how), (h_inn_house_one, aI E 10 v_inn_house_one), (h_inn_house_other, aI E 10 v_inn_house_other), (h_inn_bed, aI E 3 v_inn_bed)]
def fX10_walks (N : Nat) (p0 : Int32) (v_inn_sleepers : Int32) (v_inn_house_rooms : Int32) (v_inn_house_doors : Int32) (v_inn_house_how : Nat → Int32) (v_inn_house_one : Nat → Int32) (v_inn_house_other : Nat → Int32) (v_inn_bed : Nat → Int32) : Option (Int32 × Int32) := (fX10_safe N p0 v_inn_sleepers v_inn_house_rooms v_inn_house_doors v_inn_house_how v_inn_house_one v_inn_house_other v_inn_bed).bind (un2 fun (r_2 : Int32) (v_refusal_2 : Int32) => some (r_2, v_refusal_2))
set_option maxHeartbeats 4000000 in
set_option maxRecDepth 100000 in
theorem ctX10_walks (l : Launch) (E : EN) (h h_reader h_inn h_chosen h_night h_marks h_notes h_casts h_inn_house h_inn_thingIn h_inn_full h_inn_states h_inn_bed h_inn_dreamOf h_inn_listensIn h_inn_house_creak h_inn_house_cold h_inn_house_one h_inn_house_other h_inn_house_how h_inn_house_falls h_inn_house_ways : Nat) (v_marked : Int32) (v_refusal : Int32) (v_latestFault : Int32) (v_faultPlace : Int32) (v_inn_minutes : Int32) (v_inn_things : Int32) (v_inn_dreams : Int32) (v_inn_sleepers : Int32) (v_inn_listeners : Int32) (v_inn_house_rooms : Int32) (v_inn_house_doors : Int32) (v_inn_house_how : Nat → Int32) (v_inn_house_one : Nat → Int32) (v_inn_house_other : Nat → Int32) (v_inn_bed : Nat → Int32) (N : Nat) (p0 : Int32) (z0 : Int32) (z1 : Int32) (hf : fX10_walks N p0 v_inn_sleepers v_inn_house_rooms v_inn_house_doors v_inn_house_how v_inn_house_one v_inn_house_other v_inn_bed = some (z0, z1)) : CTi l E yX10_walks cX10_walks 2 .int 5 116 [.ref h, .int p0] (wX10_walks E h h_reader h_inn h_chosen h_night h_marks h_notes h_casts h_inn_house h_inn_thingIn h_inn_full h_inn_states h_inn_bed h_inn_dreamOf h_inn_listensIn h_inn_house_creak h_inn_house_cold h_inn_house_one h_inn_house_other h_inn_house_how h_inn_house_falls h_inn_house_ways v_marked v_refusal v_latestFault v_faultPlace v_inn_minutes v_inn_things v_inn_dreams v_inn_sleepers v_inn_listeners v_inn_house_rooms v_inn_house_doors v_inn_house_how v_inn_house_one v_inn_house_other v_inn_bed) z0 (wX10_walks E h h_reader h_inn h_chosen h_night h_marks h_notes h_casts h_inn_house h_inn_thingIn h_inn_full h_inn_states h_inn_bed h_inn_dreamOf h_inn_listensIn h_inn_house_creak h_inn_house_cold h_inn_house_one h_inn_house_other h_inn_house_how h_inn_house_falls h_inn_house_ways v_marked z1 v_latestFault v_faultPlace v_inn_minutes v_inn_things v_inn_dreams v_inn_sleepers v_inn_listeners v_inn_house_rooms v_inn_house_doors v_inn_house_how v_inn_house_one v_inn_house_other v_inn_bed) := by
  intro sz
  refine ct_body (by decide) (Nat.le_of_ble_eq_true rfl) ?_
  intro p e s m args below meth c A ls hAe C hr hin hP hD hS hl
  have C : CX p s m args meth c cX10_walks RX10 2 E A := C
  have hl : lv_has ls 2 [(0, .ref h), (1, .int p0)] := hl
  have hx := C.1
  have hb := C.2.1
  rw [hAe]
  clear hAe
  obtain ⟨Q, hQ⟩ : ∃ Q, Q = MQ below (Qi E A z0 (wX10_walks E h h_reader h_inn h_chosen h_night h_marks h_notes h_casts h_inn_house h_inn_thingIn h_inn_full h_inn_states h_inn_bed h_inn_dreamOf h_inn_listensIn h_inn_house_creak h_inn_house_cold h_inn_house_one h_inn_house_other h_inn_house_how h_inn_house_falls h_inn_house_ways v_marked z1 v_latestFault v_faultPlace v_inn_minutes v_inn_things v_inn_dreams v_inn_sleepers v_inn_listeners v_inn_house_rooms v_inn_house_doors v_inn_house_how v_inn_house_one v_inn_house_other v_inn_bed)) args s 0 0 A := ⟨_, rfl⟩
  rw [← hQ]
  unfold fX10_walks at hf
  refine lv_aload_n hx hb dX10_walks_0 rfl (lv_at hl 0 rfl) ?_
  refine lv_iload_n hx hb dX10_walks_1 rfl (lv_at hl 1 rfl) ?_
  obtain ⟨r_2, v_refusal_2, hc_2, hf⟩ := bd2 hf
  refine r_callVi (ws' := (wX10_walks E h h_reader h_inn h_chosen h_night h_marks h_notes h_casts h_inn_house h_inn_thingIn h_inn_full h_inn_states h_inn_bed h_inn_dreamOf h_inn_listensIn h_inn_house_creak h_inn_house_cold h_inn_house_one h_inn_house_other h_inn_house_how h_inn_house_falls h_inn_house_ways v_marked v_refusal_2 v_latestFault v_faultPlace v_inn_minutes v_inn_things v_inn_dreams v_inn_sleepers v_inn_listeners v_inn_house_rooms v_inn_house_doors v_inn_house_how v_inn_house_one v_inn_house_other v_inn_bed)) (As := [.int p0]) (rest := []) C (ctX10_safe l E h h_reader h_inn h_chosen h_night h_marks h_notes h_casts h_inn_house h_inn_thingIn h_inn_full h_inn_states h_inn_bed h_inn_dreamOf h_inn_listensIn h_inn_house_creak h_inn_house_cold h_inn_house_one h_inn_house_other h_inn_house_how h_inn_house_falls h_inn_house_ways v_marked v_refusal v_latestFault v_faultPlace v_inn_minutes v_inn_things v_inn_dreams v_inn_sleepers v_inn_listeners v_inn_house_rooms v_inn_house_doors v_inn_house_how v_inn_house_one v_inn_house_other v_inn_bed N p0 r_2 v_refusal_2 hc_2) ml_X10_298 ⟨Nat.le_of_ble_eq_true rfl, Nat.le_of_ble_eq_true rfl⟩ hP hD hS 0 rfl rfl rfl [0, 1, 2, 3, 4, 5, 6] rfl rfl rfl rfl rfl hl.1 rfl (Nat.le_of_ble_eq_true rfl) ⟨Nat.zero_le _, Nat.zero_le _⟩ dX10_walks_2 ?_
  clear hP hD hS; intro H locs hP hD hS
  cases hf
  rw [hQ]
  exact r_iret C hr hP hD hS rfl dX10_walks_5
def wX10_led (E : EN) (h h_reader h_inn h_chosen h_night h_marks h_notes h_casts h_inn_house h_inn_thingIn h_inn_full h_inn_states h_inn_bed h_inn_dreamOf h_inn_listensIn h_night_ways h_night_how h_night_passed h_night_dreamOf h_night_stateOf h_night_roomOf h_night_handOf h_night_awake h_night_thingIn h_night_full h_night_heardBy : Nat) (v_marked : Int32) (v_refusal : Int32) (v_latestFault : Int32) (v_faultPlace : Int32) (v_inn_minutes : Int32) (v_inn_things : Int32) (v_inn_dreams : Int32) (v_inn_sleepers : Int32) (v_inn_listeners : Int32) (v_night_setting : Int32) (v_night_been : Int32) (v_night_roomOf : Nat → Int32) (v_inn_bed : Nat → Int32) : va_W := [(h, .inr (9, [.ref h_reader, .ref h_inn, .ref h_chosen, .ref h_night, .ref h_marks, .int v_marked, .ref h_notes, .ref h_casts, .int v_refusal, .int v_latestFault, .int v_faultPlace])), (h_inn, .inr (2, [.ref h_inn_house, .int v_inn_minutes, .int v_inn_things, .ref h_inn_thingIn, .ref h_inn_full, .int v_inn_dreams, .ref h_inn_states, .int v_inn_sleepers, .ref h_inn_bed, .ref h_inn_dreamOf, .int v_inn_listeners, .ref h_inn_listensIn])), (h_night, .inr (4, [.ref h_inn, .int v_night_setting, .int v_night_been, .ref h_night_ways, .ref h_night_how, .ref h_night_passed, .ref h_night_dreamOf, .ref h_night_stateOf, .ref h_night_roomOf, .ref h_night_handOf, .ref h_night_awake, .ref h_night_thingIn, .ref h_night_full, .ref h_night_heardBy])), (h_night_roomOf, aI E 3 v_night_roomOf), (h_inn_bed, aI E 3 v_inn_bed)]
def BX10_led_4 (v_inn_sleepers : Int32) (v_night_roomOf : Nat → Int32) (v_inn_bed : Nat → Int32) (p0 : Int32) (rec4 : (Int32 × Int32) → Option Int32) : (Int32 × Int32) → Option Int32 := un2 fun (x4_2 : Int32) (x4_3 : Int32) => if v_inn_sleepers ≤ x4_3 then (none) else (gd x4_3 3 (gd x4_3 3 (jn (un1 fun (x46_2 : Int32) => rec4 (x46_2, x4_3 + 1)) (fun j46 => if (v_night_roomOf x4_3.toNatClampNeg) = (v_inn_bed x4_3.toNatClampNeg) then (j46 x4_2) else (if x4_2 = p0 then (some x4_3) else (j46 (x4_2 + 1)))))))
def fX10_led (N : Nat) (p0 : Int32) (v_inn_sleepers : Int32) (v_night_roomOf : Nat → Int32) (v_inn_bed : Nat → Int32) : Option Int32 := lp (BX10_led_4 v_inn_sleepers v_night_roomOf v_inn_bed p0) N (0, 0)
set_option maxHeartbeats 4000000 in
set_option maxRecDepth 100000 in
theorem ctX10_led (l : Launch) (E : EN) (h h_reader h_inn h_chosen h_night h_marks h_notes h_casts h_inn_house h_inn_thingIn h_inn_full h_inn_states h_inn_bed h_inn_dreamOf h_inn_listensIn h_night_ways h_night_how h_night_passed h_night_dreamOf h_night_stateOf h_night_roomOf h_night_handOf h_night_awake h_night_thingIn h_night_full h_night_heardBy : Nat) (v_marked : Int32) (v_refusal : Int32) (v_latestFault : Int32) (v_faultPlace : Int32) (v_inn_minutes : Int32) (v_inn_things : Int32) (v_inn_dreams : Int32) (v_inn_sleepers : Int32) (v_inn_listeners : Int32) (v_night_setting : Int32) (v_night_been : Int32) (v_night_roomOf : Nat → Int32) (v_inn_bed : Nat → Int32) (N : Nat) (p0 : Int32) (z0 : Int32) (hf : fX10_led N p0 v_inn_sleepers v_night_roomOf v_inn_bed = some z0) : CTi l E yX10_led cX10_led 4 .int 0 0 [.ref h, .int p0] (wX10_led E h h_reader h_inn h_chosen h_night h_marks h_notes h_casts h_inn_house h_inn_thingIn h_inn_full h_inn_states h_inn_bed h_inn_dreamOf h_inn_listensIn h_night_ways h_night_how h_night_passed h_night_dreamOf h_night_stateOf h_night_roomOf h_night_handOf h_night_awake h_night_thingIn h_night_full h_night_heardBy v_marked v_refusal v_latestFault v_faultPlace v_inn_minutes v_inn_things v_inn_dreams v_inn_sleepers v_inn_listeners v_night_setting v_night_been v_night_roomOf v_inn_bed) z0 (wX10_led E h h_reader h_inn h_chosen h_night h_marks h_notes h_casts h_inn_house h_inn_thingIn h_inn_full h_inn_states h_inn_bed h_inn_dreamOf h_inn_listensIn h_night_ways h_night_how h_night_passed h_night_dreamOf h_night_stateOf h_night_roomOf h_night_handOf h_night_awake h_night_thingIn h_night_full h_night_heardBy v_marked v_refusal v_latestFault v_faultPlace v_inn_minutes v_inn_things v_inn_dreams v_inn_sleepers v_inn_listeners v_night_setting v_night_been v_night_roomOf v_inn_bed) := by
  intro sz
  refine ct_body (by decide) (Nat.le_of_ble_eq_true rfl) ?_
  intro p e s m args below meth c A ls hAe C hr hin hP hD hS hl
  have C : CX p s m args meth c cX10_led RX10 4 E A := C
  have hl : lv_has ls 4 [(0, .ref h), (1, .int p0)] := hl
  have hx := C.1
  have hb := C.2.1
  rw [hAe]
  clear hAe
  obtain ⟨Q, hQ⟩ : ∃ Q, Q = MQ below (Qi E A z0 (wX10_led E h h_reader h_inn h_chosen h_night h_marks h_notes h_casts h_inn_house h_inn_thingIn h_inn_full h_inn_states h_inn_bed h_inn_dreamOf h_inn_listensIn h_night_ways h_night_how h_night_passed h_night_dreamOf h_night_stateOf h_night_roomOf h_night_handOf h_night_awake h_night_thingIn h_night_full h_night_heardBy v_marked v_refusal v_latestFault v_faultPlace v_inn_minutes v_inn_things v_inn_dreams v_inn_sleepers v_inn_listeners v_night_setting v_night_been v_night_roomOf v_inn_bed)) args s 0 0 A := ⟨_, rfl⟩
  rw [← hQ]
  unfold fX10_led at hf
  refine lv_iconst (v := 0) hx hb dX10_led_0 (by decide) ?_
  refine lv_istore_n (lv' := [(2, .int 0), (0, .ref h), (1, .int p0)]) hx hb dX10_led_1 rfl hl (by decide) rfl (fun ls hl => ?_)
  refine lv_iconst (v := 0) hx hb dX10_led_2 (by decide) ?_
  refine lv_istore_n (lv' := [(3, .int 0), (2, .int 0), (0, .ref h), (1, .int p0)]) hx hb dX10_led_3 rfl hl (by decide) rfl (fun ls hl => ?_)
  have key4 : ∀ (n : Nat) (x4_2 : Int32) (x4_3 : Int32) , lp (BX10_led_4 v_inn_sleepers v_night_roomOf v_inn_bed p0) n (x4_2, x4_3) = some z0 → AT p l e (rmOf 0 0) s m args below meth c E A Q 0 0 4 [(0, .ref h), (1, .int p0), (2, .int x4_2), (3, .int x4_3)] (wX10_led E h h_reader h_inn h_chosen h_night h_marks h_notes h_casts h_inn_house h_inn_thingIn h_inn_full h_inn_states h_inn_bed h_inn_dreamOf h_inn_listensIn h_night_ways h_night_how h_night_passed h_night_dreamOf h_night_stateOf h_night_roomOf h_night_handOf h_night_awake h_night_thingIn h_night_full h_night_heardBy v_marked v_refusal v_latestFault v_faultPlace v_inn_minutes v_inn_things v_inn_dreams v_inn_sleepers v_inn_listeners v_night_setting v_night_been v_night_roomOf v_inn_bed) 4 [] := by
    intro n
    induction n with
    | zero => intro x4_2 x4_3 hf; exact (lp_0 hf).elim
    | succ n ih4 =>
      intro x4_2 x4_3 hf H locs ls hl hP hD hS
      replace hf := lp_s hf
      generalize lp (BX10_led_4 v_inn_sleepers v_night_roomOf v_inn_bed p0) n = rec4 at ih4 hf
      unfold BX10_led_4 at hf
      replace hf := un2_s hf
      refine lv_iload_n hx hb dX10_led_4 rfl (lv_at hl 3 rfl) ?_
      refine lv_aload_n hx hb dX10_led_5 rfl (lv_at hl 0 rfl) ?_
      refine r_get C hP 0 rfl fl_X10_19 rfl dX10_led_6 ?_
      refine r_get C hP 1 rfl fl_X10_92 rfl dX10_led_9 ?_
      refine lv_icmp_ge (tgt := 52) hx hb dX10_led_12 (by decide) (fun c_12 => ?_) (fun c_12 => ?_)
      · replace hf := it_t c_12 hf
        cases hf
      · replace hf := it_f c_12 hf
        refine lv_aload_n hx hb dX10_led_15 rfl (lv_at hl 0 rfl) ?_
        refine r_get C hP 0 rfl fl_X10_32 rfl dX10_led_16 ?_
        refine r_get C hP 2 rfl fl_X10_186 rfl dX10_led_19 ?_
        refine lv_iload_n hx hb dX10_led_22 rfl (lv_at hl 3 rfl) ?_
        obtain ⟨hi_23, hf⟩ := gd_s hf
        refine r_iald C hP 3 rfl hi_23 dX10_led_23 ?_
        refine lv_aload_n hx hb dX10_led_24 rfl (lv_at hl 0 rfl) ?_
        refine r_get C hP 0 rfl fl_X10_19 rfl dX10_led_25 ?_
        refine r_get C hP 1 rfl fl_X10_301 rfl dX10_led_28 ?_
        refine lv_iload_n hx hb dX10_led_31 rfl (lv_at hl 3 rfl) ?_
        obtain ⟨hi_32, hf⟩ := gd_s hf
        refine r_iald C hP 4 rfl hi_32 dX10_led_32 ?_
        refine jnK hf (fun j46 ej46 hf => ?_)
        have hj46 : ∀ (x46_2 : Int32) , j46 x46_2 = some z0 → AT p l e (rmOf 0 0) s m args below meth c E A Q 0 0 4 [(0, .ref h), (1, .int p0), (2, .int x46_2), (3, .int x4_3)] (wX10_led E h h_reader h_inn h_chosen h_night h_marks h_notes h_casts h_inn_house h_inn_thingIn h_inn_full h_inn_states h_inn_bed h_inn_dreamOf h_inn_listensIn h_night_ways h_night_how h_night_passed h_night_dreamOf h_night_stateOf h_night_roomOf h_night_handOf h_night_awake h_night_thingIn h_night_full h_night_heardBy v_marked v_refusal v_latestFault v_faultPlace v_inn_minutes v_inn_things v_inn_dreams v_inn_sleepers v_inn_listeners v_night_setting v_night_been v_night_roomOf v_inn_bed) 46 [] := by
          intro x46_2 hf H locs ls hl hP hD hS
          rw [ej46] at hf
          replace hf := un1_s hf
          refine lv_iinc (v := x4_3 + 1) (lv' := [(3, .int (x4_3 + 1)), (0, .ref h), (1, .int p0), (2, .int x46_2)]) hx hb dX10_led_46 hl (k := 3) rfl rfl (by decide) rfl (fun ls hl => ?_)
          refine lv_goto (tgt := 4) hx hb dX10_led_49 (by decide) ?_
          exact ih4 x46_2 (x4_3 + 1) hf _ _ _ (lv_sub hl [1, 2, 3, 0] rfl) hP hD hS
        clear ej46
        refine lv_icmp_eq (tgt := 46) hx hb dX10_led_33 (by decide) (fun c_33 => ?_) (fun c_33 => ?_)
        · replace hf := it_t c_33 hf
          exact hj46 x4_2 hf _ _ _ (lv_sub hl [0, 1, 2, 3] rfl) hP hD hS
        · replace hf := it_f c_33 hf
          refine lv_iload_n hx hb dX10_led_36 rfl (lv_at hl 2 rfl) ?_
          refine lv_iload_n hx hb dX10_led_37 rfl (lv_at hl 1 rfl) ?_
          refine lv_icmp_ne (tgt := 43) hx hb dX10_led_38 (by decide) (fun c_38 => ?_) (fun c_38 => ?_)
          · replace hf := it_f c_38 hf
            refine lv_iinc (v := x4_2 + 1) (lv' := [(2, .int (x4_2 + 1)), (0, .ref h), (1, .int p0), (3, .int x4_3)]) hx hb dX10_led_43 hl (k := 2) rfl rfl (by decide) rfl (fun ls hl => ?_)
            exact hj46 (x4_2 + 1) hf _ _ _ (lv_sub hl [1, 2, 0, 3] rfl) hP hD hS
          · replace hf := it_t c_38 hf
            refine lv_iload_n hx hb dX10_led_41 rfl (lv_at hl 3 rfl) ?_
            cases hf
            rw [hQ]
            exact r_iret C hr hP hD hS rfl dX10_led_42
  exact key4 _ 0 0 hf _ _ _ (lv_sub hl [2, 3, 1, 0] rfl) hP hD hS
def wX10_size (E : EN) (h h_reader h_inn h_chosen h_night h_marks h_notes h_casts h_reader_tape h_reader_names h_reader_sorts h_reader_numbers h_reader_inn h_reader_tape_bytes h_night_ways h_night_how h_night_passed h_night_dreamOf h_night_stateOf h_night_roomOf h_night_handOf h_night_awake h_night_thingIn h_night_full h_night_heardBy h_notes_book h_notes_sort h_notes_one h_notes_other h_inn_house h_inn_thingIn h_inn_full h_inn_states h_inn_bed h_inn_dreamOf h_inn_listensIn h_inn_house_creak h_inn_house_cold h_inn_house_one h_inn_house_other h_inn_house_how h_inn_house_falls h_inn_house_ways : Nat) (v_marked : Int32) (v_refusal : Int32) (v_latestFault : Int32) (v_faultPlace : Int32) (v_reader_named : Int32) (v_reader_fault : Int32) (v_reader_number : Int32) (v_reader_tape_length : Int32) (v_reader_tape_end : Int32) (v_reader_tape_at : Int32) (v_reader_tape_start : Int32) (v_reader_tape_kind : Int32) (v_reader_tape_code : Int64) (v_reader_tape_mayName : Int32) (v_reader_tape_value : Int32) (v_night_setting : Int32) (v_night_been : Int32) (v_notes_count : Int32) (v_inn_minutes : Int32) (v_inn_things : Int32) (v_inn_dreams : Int32) (v_inn_sleepers : Int32) (v_inn_listeners : Int32) (v_inn_house_rooms : Int32) (v_inn_house_doors : Int32) : va_W := [(h, .inr (9, [.ref h_reader, .ref h_inn, .ref h_chosen, .ref h_night, .ref h_marks, .int v_marked, .ref h_notes, .ref h_casts, .int v_refusal, .int v_latestFault, .int v_faultPlace])), (h_reader, .inr (6, [.ref h_reader_tape, .ref h_reader_names, .ref h_reader_sorts, .ref h_reader_numbers, .int v_reader_named, .ref h_reader_inn, .int v_reader_fault, .int v_reader_number])), (h_reader_tape, .inr (7, [.ref h_reader_tape_bytes, .int v_reader_tape_length, .int v_reader_tape_end, .int v_reader_tape_at, .int v_reader_tape_start, .int v_reader_tape_kind, .long v_reader_tape_code, .int v_reader_tape_mayName, .int v_reader_tape_value])), (h_night, .inr (4, [.ref h_inn, .int v_night_setting, .int v_night_been, .ref h_night_ways, .ref h_night_how, .ref h_night_passed, .ref h_night_dreamOf, .ref h_night_stateOf, .ref h_night_roomOf, .ref h_night_handOf, .ref h_night_awake, .ref h_night_thingIn, .ref h_night_full, .ref h_night_heardBy])), (h_notes, .inr (5, [.ref h_notes_book, .ref h_notes_sort, .ref h_notes_one, .ref h_notes_other, .int v_notes_count])), (h_inn, .inr (2, [.ref h_inn_house, .int v_inn_minutes, .int v_inn_things, .ref h_inn_thingIn, .ref h_inn_full, .int v_inn_dreams, .ref h_inn_states, .int v_inn_sleepers, .ref h_inn_bed, .ref h_inn_dreamOf, .int v_inn_listeners, .ref h_inn_listensIn])), (h_inn_house, .inr (1, [.int v_inn_house_rooms, .ref h_inn_house_creak, .ref h_inn_house_cold, .int v_inn_house_doors, .ref h_inn_house_one, .ref h_inn_house_other, .ref h_inn_house_how, .ref h_inn_house_falls, .ref h_inn_house_ways]))]
def fX10_size (N : Nat) (p0 : Int32) (v_marked : Int32) (v_reader_tape_length : Int32) (v_night_setting : Int32) (v_night_been : Int32) (v_notes_count : Int32) (v_inn_minutes : Int32) (v_inn_things : Int32) (v_inn_dreams : Int32) (v_inn_sleepers : Int32) (v_inn_listeners : Int32) (v_inn_house_rooms : Int32) (v_inn_house_doors : Int32) : Option Int32 := if p0 = 0 then (some v_inn_house_rooms) else (if p0 = 1 then (some v_inn_house_doors) else (if p0 = 2 then (some v_inn_things) else (if p0 = 3 then (some v_inn_dreams) else (if p0 = 4 then (some v_inn_sleepers) else (if p0 = 5 then (some v_inn_listeners) else (if p0 = 6 then (some v_inn_minutes) else (if p0 = 7 then (some v_night_been) else (if p0 = 8 then (some v_notes_count) else (if p0 = 9 then (some v_marked) else (if p0 = 10 then (some v_night_setting) else (if p0 = 11 then (some v_reader_tape_length) else (some (-1)))))))))))))
set_option maxHeartbeats 4000000 in
set_option maxRecDepth 100000 in
theorem ctX10_size (l : Launch) (E : EN) (h h_reader h_inn h_chosen h_night h_marks h_notes h_casts h_reader_tape h_reader_names h_reader_sorts h_reader_numbers h_reader_inn h_reader_tape_bytes h_night_ways h_night_how h_night_passed h_night_dreamOf h_night_stateOf h_night_roomOf h_night_handOf h_night_awake h_night_thingIn h_night_full h_night_heardBy h_notes_book h_notes_sort h_notes_one h_notes_other h_inn_house h_inn_thingIn h_inn_full h_inn_states h_inn_bed h_inn_dreamOf h_inn_listensIn h_inn_house_creak h_inn_house_cold h_inn_house_one h_inn_house_other h_inn_house_how h_inn_house_falls h_inn_house_ways : Nat) (v_marked : Int32) (v_refusal : Int32) (v_latestFault : Int32) (v_faultPlace : Int32) (v_reader_named : Int32) (v_reader_fault : Int32) (v_reader_number : Int32) (v_reader_tape_length : Int32) (v_reader_tape_end : Int32) (v_reader_tape_at : Int32) (v_reader_tape_start : Int32) (v_reader_tape_kind : Int32) (v_reader_tape_code : Int64) (v_reader_tape_mayName : Int32) (v_reader_tape_value : Int32) (v_night_setting : Int32) (v_night_been : Int32) (v_notes_count : Int32) (v_inn_minutes : Int32) (v_inn_things : Int32) (v_inn_dreams : Int32) (v_inn_sleepers : Int32) (v_inn_listeners : Int32) (v_inn_house_rooms : Int32) (v_inn_house_doors : Int32) (N : Nat) (p0 : Int32) (z0 : Int32) (hf : fX10_size N p0 v_marked v_reader_tape_length v_night_setting v_night_been v_notes_count v_inn_minutes v_inn_things v_inn_dreams v_inn_sleepers v_inn_listeners v_inn_house_rooms v_inn_house_doors = some z0) : CTi l E yX10_size cX10_size 2 .int 0 0 [.ref h, .int p0] (wX10_size E h h_reader h_inn h_chosen h_night h_marks h_notes h_casts h_reader_tape h_reader_names h_reader_sorts h_reader_numbers h_reader_inn h_reader_tape_bytes h_night_ways h_night_how h_night_passed h_night_dreamOf h_night_stateOf h_night_roomOf h_night_handOf h_night_awake h_night_thingIn h_night_full h_night_heardBy h_notes_book h_notes_sort h_notes_one h_notes_other h_inn_house h_inn_thingIn h_inn_full h_inn_states h_inn_bed h_inn_dreamOf h_inn_listensIn h_inn_house_creak h_inn_house_cold h_inn_house_one h_inn_house_other h_inn_house_how h_inn_house_falls h_inn_house_ways v_marked v_refusal v_latestFault v_faultPlace v_reader_named v_reader_fault v_reader_number v_reader_tape_length v_reader_tape_end v_reader_tape_at v_reader_tape_start v_reader_tape_kind v_reader_tape_code v_reader_tape_mayName v_reader_tape_value v_night_setting v_night_been v_notes_count v_inn_minutes v_inn_things v_inn_dreams v_inn_sleepers v_inn_listeners v_inn_house_rooms v_inn_house_doors) z0 (wX10_size E h h_reader h_inn h_chosen h_night h_marks h_notes h_casts h_reader_tape h_reader_names h_reader_sorts h_reader_numbers h_reader_inn h_reader_tape_bytes h_night_ways h_night_how h_night_passed h_night_dreamOf h_night_stateOf h_night_roomOf h_night_handOf h_night_awake h_night_thingIn h_night_full h_night_heardBy h_notes_book h_notes_sort h_notes_one h_notes_other h_inn_house h_inn_thingIn h_inn_full h_inn_states h_inn_bed h_inn_dreamOf h_inn_listensIn h_inn_house_creak h_inn_house_cold h_inn_house_one h_inn_house_other h_inn_house_how h_inn_house_falls h_inn_house_ways v_marked v_refusal v_latestFault v_faultPlace v_reader_named v_reader_fault v_reader_number v_reader_tape_length v_reader_tape_end v_reader_tape_at v_reader_tape_start v_reader_tape_kind v_reader_tape_code v_reader_tape_mayName v_reader_tape_value v_night_setting v_night_been v_notes_count v_inn_minutes v_inn_things v_inn_dreams v_inn_sleepers v_inn_listeners v_inn_house_rooms v_inn_house_doors) := by
  intro sz
  refine ct_body (by decide) (Nat.le_of_ble_eq_true rfl) ?_
  intro p e s m args below meth c A ls hAe C hr hin hP hD hS hl
  have C : CX p s m args meth c cX10_size RX10 2 E A := C
  have hl : lv_has ls 2 [(0, .ref h), (1, .int p0)] := hl
  have hx := C.1
  have hb := C.2.1
  rw [hAe]
  clear hAe
  obtain ⟨Q, hQ⟩ : ∃ Q, Q = MQ below (Qi E A z0 (wX10_size E h h_reader h_inn h_chosen h_night h_marks h_notes h_casts h_reader_tape h_reader_names h_reader_sorts h_reader_numbers h_reader_inn h_reader_tape_bytes h_night_ways h_night_how h_night_passed h_night_dreamOf h_night_stateOf h_night_roomOf h_night_handOf h_night_awake h_night_thingIn h_night_full h_night_heardBy h_notes_book h_notes_sort h_notes_one h_notes_other h_inn_house h_inn_thingIn h_inn_full h_inn_states h_inn_bed h_inn_dreamOf h_inn_listensIn h_inn_house_creak h_inn_house_cold h_inn_house_one h_inn_house_other h_inn_house_how h_inn_house_falls h_inn_house_ways v_marked v_refusal v_latestFault v_faultPlace v_reader_named v_reader_fault v_reader_number v_reader_tape_length v_reader_tape_end v_reader_tape_at v_reader_tape_start v_reader_tape_kind v_reader_tape_code v_reader_tape_mayName v_reader_tape_value v_night_setting v_night_been v_notes_count v_inn_minutes v_inn_things v_inn_dreams v_inn_sleepers v_inn_listeners v_inn_house_rooms v_inn_house_doors)) args s 0 0 A := ⟨_, rfl⟩
  rw [← hQ]
  unfold fX10_size at hf
  refine lv_iload_n hx hb dX10_size_0 rfl (lv_at hl 1 rfl) ?_
  by_cases c_1_0 : p0 = 0
  · replace hf := it_t c_1_0 hf
    refine lv_tableIn (off := 63) (tgt := 64) hx hb dX10_size_1 (by rw [c_1_0]; decide) (by rw [c_1_0]; decide) (by rw [c_1_0]; rfl) (by decide) ?_
    refine lv_aload_n hx hb dX10_size_64 rfl (lv_at hl 0 rfl) ?_
    refine r_get C hP 0 rfl fl_X10_19 rfl dX10_size_65 ?_
    refine r_get C hP 5 rfl fl_X10_105 rfl dX10_size_68 ?_
    refine r_get C hP 6 rfl fl_X10_307 rfl dX10_size_71 ?_
    cases hf
    rw [hQ]
    exact r_iret C hr hP hD hS rfl dX10_size_74
  · replace hf := it_f c_1_0 hf
    by_cases c_1_1 : p0 = 1
    · replace hf := it_t c_1_1 hf
      refine lv_tableIn (off := 74) (tgt := 75) hx hb dX10_size_1 (by rw [c_1_1]; decide) (by rw [c_1_1]; decide) (by rw [c_1_1]; rfl) (by decide) ?_
      refine lv_aload_n hx hb dX10_size_75 rfl (lv_at hl 0 rfl) ?_
      refine r_get C hP 0 rfl fl_X10_19 rfl dX10_size_76 ?_
      refine r_get C hP 5 rfl fl_X10_105 rfl dX10_size_79 ?_
      refine r_get C hP 6 rfl fl_X10_310 rfl dX10_size_82 ?_
      cases hf
      rw [hQ]
      exact r_iret C hr hP hD hS rfl dX10_size_85
    · replace hf := it_f c_1_1 hf
      by_cases c_1_2 : p0 = 2
      · replace hf := it_t c_1_2 hf
        refine lv_tableIn (off := 85) (tgt := 86) hx hb dX10_size_1 (by rw [c_1_2]; decide) (by rw [c_1_2]; decide) (by rw [c_1_2]; rfl) (by decide) ?_
        refine lv_aload_n hx hb dX10_size_86 rfl (lv_at hl 0 rfl) ?_
        refine r_get C hP 0 rfl fl_X10_19 rfl dX10_size_87 ?_
        refine r_get C hP 5 rfl fl_X10_313 rfl dX10_size_90 ?_
        cases hf
        rw [hQ]
        exact r_iret C hr hP hD hS rfl dX10_size_93
      · replace hf := it_f c_1_2 hf
        by_cases c_1_3 : p0 = 3
        · replace hf := it_t c_1_3 hf
          refine lv_tableIn (off := 93) (tgt := 94) hx hb dX10_size_1 (by rw [c_1_3]; decide) (by rw [c_1_3]; decide) (by rw [c_1_3]; rfl) (by decide) ?_
          refine lv_aload_n hx hb dX10_size_94 rfl (lv_at hl 0 rfl) ?_
          refine r_get C hP 0 rfl fl_X10_19 rfl dX10_size_95 ?_
          refine r_get C hP 5 rfl fl_X10_139 rfl dX10_size_98 ?_
          cases hf
          rw [hQ]
          exact r_iret C hr hP hD hS rfl dX10_size_101
        · replace hf := it_f c_1_3 hf
          by_cases c_1_4 : p0 = 4
          · replace hf := it_t c_1_4 hf
            refine lv_tableIn (off := 101) (tgt := 102) hx hb dX10_size_1 (by rw [c_1_4]; decide) (by rw [c_1_4]; decide) (by rw [c_1_4]; rfl) (by decide) ?_
            refine lv_aload_n hx hb dX10_size_102 rfl (lv_at hl 0 rfl) ?_
            refine r_get C hP 0 rfl fl_X10_19 rfl dX10_size_103 ?_
            refine r_get C hP 5 rfl fl_X10_92 rfl dX10_size_106 ?_
            cases hf
            rw [hQ]
            exact r_iret C hr hP hD hS rfl dX10_size_109
          · replace hf := it_f c_1_4 hf
            by_cases c_1_5 : p0 = 5
            · replace hf := it_t c_1_5 hf
              refine lv_tableIn (off := 109) (tgt := 110) hx hb dX10_size_1 (by rw [c_1_5]; decide) (by rw [c_1_5]; decide) (by rw [c_1_5]; rfl) (by decide) ?_
              refine lv_aload_n hx hb dX10_size_110 rfl (lv_at hl 0 rfl) ?_
              refine r_get C hP 0 rfl fl_X10_19 rfl dX10_size_111 ?_
              refine r_get C hP 5 rfl fl_X10_316 rfl dX10_size_114 ?_
              cases hf
              rw [hQ]
              exact r_iret C hr hP hD hS rfl dX10_size_117
            · replace hf := it_f c_1_5 hf
              by_cases c_1_6 : p0 = 6
              · replace hf := it_t c_1_6 hf
                refine lv_tableIn (off := 117) (tgt := 118) hx hb dX10_size_1 (by rw [c_1_6]; decide) (by rw [c_1_6]; decide) (by rw [c_1_6]; rfl) (by decide) ?_
                refine lv_aload_n hx hb dX10_size_118 rfl (lv_at hl 0 rfl) ?_
                refine r_get C hP 0 rfl fl_X10_19 rfl dX10_size_119 ?_
                refine r_get C hP 5 rfl fl_X10_172 rfl dX10_size_122 ?_
                cases hf
                rw [hQ]
                exact r_iret C hr hP hD hS rfl dX10_size_125
              · replace hf := it_f c_1_6 hf
                by_cases c_1_7 : p0 = 7
                · replace hf := it_t c_1_7 hf
                  refine lv_tableIn (off := 125) (tgt := 126) hx hb dX10_size_1 (by rw [c_1_7]; decide) (by rw [c_1_7]; decide) (by rw [c_1_7]; rfl) (by decide) ?_
                  refine lv_aload_n hx hb dX10_size_126 rfl (lv_at hl 0 rfl) ?_
                  refine r_get C hP 0 rfl fl_X10_32 rfl dX10_size_127 ?_
                  refine r_get C hP 3 rfl fl_X10_175 rfl dX10_size_130 ?_
                  cases hf
                  rw [hQ]
                  exact r_iret C hr hP hD hS rfl dX10_size_133
                · replace hf := it_f c_1_7 hf
                  by_cases c_1_8 : p0 = 8
                  · replace hf := it_t c_1_8 hf
                    refine lv_tableIn (off := 133) (tgt := 134) hx hb dX10_size_1 (by rw [c_1_8]; decide) (by rw [c_1_8]; decide) (by rw [c_1_8]; rfl) (by decide) ?_
                    refine lv_aload_n hx hb dX10_size_134 rfl (lv_at hl 0 rfl) ?_
                    refine r_get C hP 0 rfl fl_X10_43 rfl dX10_size_135 ?_
                    refine r_get C hP 4 rfl fl_X10_256 rfl dX10_size_138 ?_
                    cases hf
                    rw [hQ]
                    exact r_iret C hr hP hD hS rfl dX10_size_141
                  · replace hf := it_f c_1_8 hf
                    by_cases c_1_9 : p0 = 9
                    · replace hf := it_t c_1_9 hf
                      refine lv_tableIn (off := 141) (tgt := 142) hx hb dX10_size_1 (by rw [c_1_9]; decide) (by rw [c_1_9]; decide) (by rw [c_1_9]; rfl) (by decide) ?_
                      refine lv_aload_n hx hb dX10_size_142 rfl (lv_at hl 0 rfl) ?_
                      refine r_get C hP 0 rfl fl_X10_242 rfl dX10_size_143 ?_
                      cases hf
                      rw [hQ]
                      exact r_iret C hr hP hD hS rfl dX10_size_146
                    · replace hf := it_f c_1_9 hf
                      by_cases c_1_10 : p0 = 10
                      · replace hf := it_t c_1_10 hf
                        refine lv_tableIn (off := 146) (tgt := 147) hx hb dX10_size_1 (by rw [c_1_10]; decide) (by rw [c_1_10]; decide) (by rw [c_1_10]; rfl) (by decide) ?_
                        refine lv_aload_n hx hb dX10_size_147 rfl (lv_at hl 0 rfl) ?_
                        refine r_get C hP 0 rfl fl_X10_32 rfl dX10_size_148 ?_
                        refine r_get C hP 3 rfl fl_X10_319 rfl dX10_size_151 ?_
                        cases hf
                        rw [hQ]
                        exact r_iret C hr hP hD hS rfl dX10_size_154
                      · replace hf := it_f c_1_10 hf
                        by_cases c_1_11 : p0 = 11
                        · replace hf := it_t c_1_11 hf
                          refine lv_tableIn (off := 154) (tgt := 155) hx hb dX10_size_1 (by rw [c_1_11]; decide) (by rw [c_1_11]; decide) (by rw [c_1_11]; rfl) (by decide) ?_
                          refine lv_aload_n hx hb dX10_size_155 rfl (lv_at hl 0 rfl) ?_
                          refine r_get C hP 0 rfl fl_X10_12 rfl dX10_size_156 ?_
                          refine r_get C hP 1 rfl fl_X10_54 rfl dX10_size_159 ?_
                          refine r_get C hP 2 rfl fl_X10_58 rfl dX10_size_162 ?_
                          cases hf
                          rw [hQ]
                          exact r_iret C hr hP hD hS rfl dX10_size_165
                        · replace hf := it_f c_1_11 hf
                          refine lv_tableOut (tgt := 166) hx hb dX10_size_1 (by have g0 := lv_neT (a := 0) c_1_0 (by decide); have g1 := lv_neT (a := 1) c_1_1 (by decide); have g2 := lv_neT (a := 2) c_1_2 (by decide); have g3 := lv_neT (a := 3) c_1_3 (by decide); have g4 := lv_neT (a := 4) c_1_4 (by decide); have g5 := lv_neT (a := 5) c_1_5 (by decide); have g6 := lv_neT (a := 6) c_1_6 (by decide); have g7 := lv_neT (a := 7) c_1_7 (by decide); have g8 := lv_neT (a := 8) c_1_8 (by decide); have g9 := lv_neT (a := 9) c_1_9 (by decide); have g10 := lv_neT (a := 10) c_1_10 (by decide); have g11 := lv_neT (a := 11) c_1_11 (by decide); omega) (by decide) ?_
                          refine lv_iconst (v := (-1)) hx hb dX10_size_166 (by decide) ?_
                          cases hf
                          rw [hQ]
                          exact r_iret C hr hP hD hS rfl dX10_size_167
def wX10_trouble (E : EN) (h h_reader h_inn h_chosen h_night h_marks h_notes h_casts : Nat) (v_marked : Int32) (v_refusal : Int32) (v_latestFault : Int32) (v_faultPlace : Int32) : va_W := [(h, .inr (9, [.ref h_reader, .ref h_inn, .ref h_chosen, .ref h_night, .ref h_marks, .int v_marked, .ref h_notes, .ref h_casts, .int v_refusal, .int v_latestFault, .int v_faultPlace]))]
def fX10_trouble (N : Nat) (v_refusal : Int32) : Option Int32 := some v_refusal
set_option maxHeartbeats 4000000 in
set_option maxRecDepth 100000 in
theorem ctX10_trouble (l : Launch) (E : EN) (h h_reader h_inn h_chosen h_night h_marks h_notes h_casts : Nat) (v_marked : Int32) (v_refusal : Int32) (v_latestFault : Int32) (v_faultPlace : Int32) (N : Nat) (z0 : Int32) (hf : fX10_trouble N v_refusal = some z0) : CTi l E yX10_trouble cX10_trouble 1 .int 0 0 [.ref h] (wX10_trouble E h h_reader h_inn h_chosen h_night h_marks h_notes h_casts v_marked v_refusal v_latestFault v_faultPlace) z0 (wX10_trouble E h h_reader h_inn h_chosen h_night h_marks h_notes h_casts v_marked v_refusal v_latestFault v_faultPlace) := by
  intro sz
  refine ct_body (by decide) (Nat.le_of_ble_eq_true rfl) ?_
  intro p e s m args below meth c A ls hAe C hr hin hP hD hS hl
  have C : CX p s m args meth c cX10_trouble RX10 1 E A := C
  have hl : lv_has ls 1 [(0, .ref h)] := hl
  have hx := C.1
  have hb := C.2.1
  rw [hAe]
  clear hAe
  obtain ⟨Q, hQ⟩ : ∃ Q, Q = MQ below (Qi E A z0 (wX10_trouble E h h_reader h_inn h_chosen h_night h_marks h_notes h_casts v_marked v_refusal v_latestFault v_faultPlace)) args s 0 0 A := ⟨_, rfl⟩
  rw [← hQ]
  unfold fX10_trouble at hf
  refine lv_aload_n hx hb dX10_trouble_0 rfl (lv_at hl 0 rfl) ?_
  refine r_get C hP 0 rfl fl_X10_98 rfl dX10_trouble_1 ?_
  cases hf
  rw [hQ]
  exact r_iret C hr hP hD hS rfl dX10_trouble_4
def wX12_thrown (E : EN) (h h_tape h_far h_from h_real h_other h_kept h_set h_w h_book h_noteSort h_whose h_what h_noteIs h_fitting h_dawn h_likes h_walked h_came : Nat) (v_thrown : Int32) (v_trouble : Int32) (v_where : Int32) (v_inn : Option Nat) (v_read : Option Nat) (v_taped : Int32) (v_size : Int32) (v_at : Int32) (v_sort : Int32) (v_place : Int32) (v_sign : Int32) (v_number : Int32) (v_fault : Int32) (v_wrongAt : Int32) (v_word : Int64) (v_marks : Int32) (v_notes : Int32) : va_W := [(h, .inr (11, [.int v_thrown, .int v_trouble, .int v_where, va_rf v_inn, va_rf v_read, .ref h_tape, .int v_taped, .int v_size, .int v_at, .int v_sort, .int v_place, .int v_sign, .int v_number, .int v_fault, .int v_wrongAt, .long v_word, .ref h_far, .ref h_from, .ref h_real, .ref h_other, .ref h_kept, .ref h_set, .ref h_w, .int v_marks, .int v_notes, .ref h_book, .ref h_noteSort, .ref h_whose, .ref h_what, .ref h_noteIs, .ref h_fitting, .ref h_dawn, .ref h_likes, .ref h_walked, .ref h_came]))]
def fX12_thrown (N : Nat) (v_thrown : Int32) : Option Int32 := some v_thrown
set_option maxHeartbeats 4000000 in
set_option maxRecDepth 100000 in
theorem ctX12_thrown (l : Launch) (E : EN) (h h_tape h_far h_from h_real h_other h_kept h_set h_w h_book h_noteSort h_whose h_what h_noteIs h_fitting h_dawn h_likes h_walked h_came : Nat) (v_thrown : Int32) (v_trouble : Int32) (v_where : Int32) (v_inn : Option Nat) (v_read : Option Nat) (v_taped : Int32) (v_size : Int32) (v_at : Int32) (v_sort : Int32) (v_place : Int32) (v_sign : Int32) (v_number : Int32) (v_fault : Int32) (v_wrongAt : Int32) (v_word : Int64) (v_marks : Int32) (v_notes : Int32) (N : Nat) (z0 : Int32) (hf : fX12_thrown N v_thrown = some z0) : CTi l E yX12_thrown cX12_thrown 1 .int 0 0 [.ref h] (wX12_thrown E h h_tape h_far h_from h_real h_other h_kept h_set h_w h_book h_noteSort h_whose h_what h_noteIs h_fitting h_dawn h_likes h_walked h_came v_thrown v_trouble v_where v_inn v_read v_taped v_size v_at v_sort v_place v_sign v_number v_fault v_wrongAt v_word v_marks v_notes) z0 (wX12_thrown E h h_tape h_far h_from h_real h_other h_kept h_set h_w h_book h_noteSort h_whose h_what h_noteIs h_fitting h_dawn h_likes h_walked h_came v_thrown v_trouble v_where v_inn v_read v_taped v_size v_at v_sort v_place v_sign v_number v_fault v_wrongAt v_word v_marks v_notes) := by
  intro sz
  refine ct_body (by decide) (Nat.le_of_ble_eq_true rfl) ?_
  intro p e s m args below meth c A ls hAe C hr hin hP hD hS hl
  have C : CX p s m args meth c cX12_thrown RX12 1 E A := C
  have hl : lv_has ls 1 [(0, .ref h)] := hl
  have hx := C.1
  have hb := C.2.1
  rw [hAe]
  clear hAe
  obtain ⟨Q, hQ⟩ : ∃ Q, Q = MQ below (Qi E A z0 (wX12_thrown E h h_tape h_far h_from h_real h_other h_kept h_set h_w h_book h_noteSort h_whose h_what h_noteIs h_fitting h_dawn h_likes h_walked h_came v_thrown v_trouble v_where v_inn v_read v_taped v_size v_at v_sort v_place v_sign v_number v_fault v_wrongAt v_word v_marks v_notes)) args s 0 0 A := ⟨_, rfl⟩
  rw [← hQ]
  unfold fX12_thrown at hf
  refine lv_aload_n hx hb dX12_thrown_0 rfl (lv_at hl 0 rfl) ?_
  refine r_get C hP 0 rfl fl_X12_71 rfl dX12_thrown_1 ?_
  cases hf
  rw [hQ]
  exact r_iret C hr hP hD hS rfl dX12_thrown_4
def wX12_refused (E : EN) (h h_tape h_far h_from h_real h_other h_kept h_set h_w h_book h_noteSort h_whose h_what h_noteIs h_fitting h_dawn h_likes h_walked h_came : Nat) (v_thrown : Int32) (v_trouble : Int32) (v_where : Int32) (v_inn : Option Nat) (v_read : Option Nat) (v_taped : Int32) (v_size : Int32) (v_at : Int32) (v_sort : Int32) (v_place : Int32) (v_sign : Int32) (v_number : Int32) (v_fault : Int32) (v_wrongAt : Int32) (v_word : Int64) (v_marks : Int32) (v_notes : Int32) : va_W := [(h, .inr (11, [.int v_thrown, .int v_trouble, .int v_where, va_rf v_inn, va_rf v_read, .ref h_tape, .int v_taped, .int v_size, .int v_at, .int v_sort, .int v_place, .int v_sign, .int v_number, .int v_fault, .int v_wrongAt, .long v_word, .ref h_far, .ref h_from, .ref h_real, .ref h_other, .ref h_kept, .ref h_set, .ref h_w, .int v_marks, .int v_notes, .ref h_book, .ref h_noteSort, .ref h_whose, .ref h_what, .ref h_noteIs, .ref h_fitting, .ref h_dawn, .ref h_likes, .ref h_walked, .ref h_came]))]
def fX12_refused (N : Nat) (p0 : Int32) : Option (Int32 × Int32 × Int32) := some ((-1), p0, (-1))
set_option maxHeartbeats 4000000 in
set_option maxRecDepth 100000 in
theorem ctX12_refused (l : Launch) (E : EN) (h h_tape h_far h_from h_real h_other h_kept h_set h_w h_book h_noteSort h_whose h_what h_noteIs h_fitting h_dawn h_likes h_walked h_came : Nat) (v_thrown : Int32) (v_trouble : Int32) (v_where : Int32) (v_inn : Option Nat) (v_read : Option Nat) (v_taped : Int32) (v_size : Int32) (v_at : Int32) (v_sort : Int32) (v_place : Int32) (v_sign : Int32) (v_number : Int32) (v_fault : Int32) (v_wrongAt : Int32) (v_word : Int64) (v_marks : Int32) (v_notes : Int32) (N : Nat) (p0 : Int32) (z0 : Int32) (z1 : Int32) (z2 : Int32) (hf : fX12_refused N p0 = some (z0, z1, z2)) : CTi l E yX12_refused cX12_refused 2 .int 0 0 [.ref h, .int p0] (wX12_refused E h h_tape h_far h_from h_real h_other h_kept h_set h_w h_book h_noteSort h_whose h_what h_noteIs h_fitting h_dawn h_likes h_walked h_came v_thrown v_trouble v_where v_inn v_read v_taped v_size v_at v_sort v_place v_sign v_number v_fault v_wrongAt v_word v_marks v_notes) z0 (wX12_refused E h h_tape h_far h_from h_real h_other h_kept h_set h_w h_book h_noteSort h_whose h_what h_noteIs h_fitting h_dawn h_likes h_walked h_came v_thrown z1 z2 v_inn v_read v_taped v_size v_at v_sort v_place v_sign v_number v_fault v_wrongAt v_word v_marks v_notes) := by
  intro sz
  refine ct_body (by decide) (Nat.le_of_ble_eq_true rfl) ?_
  intro p e s m args below meth c A ls hAe C hr hin hP hD hS hl
  have C : CX p s m args meth c cX12_refused RX12 2 E A := C
  have hl : lv_has ls 2 [(0, .ref h), (1, .int p0)] := hl
  have hx := C.1
  have hb := C.2.1
  rw [hAe]
  clear hAe
  obtain ⟨Q, hQ⟩ : ∃ Q, Q = MQ below (Qi E A z0 (wX12_refused E h h_tape h_far h_from h_real h_other h_kept h_set h_w h_book h_noteSort h_whose h_what h_noteIs h_fitting h_dawn h_likes h_walked h_came v_thrown z1 z2 v_inn v_read v_taped v_size v_at v_sort v_place v_sign v_number v_fault v_wrongAt v_word v_marks v_notes)) args s 0 0 A := ⟨_, rfl⟩
  rw [← hQ]
  unfold fX12_refused at hf
  refine lv_aload_n hx hb dX12_refused_0 rfl (lv_at hl 0 rfl) ?_
  refine lv_iload_n hx hb dX12_refused_1 rfl (lv_at hl 1 rfl) ?_
  refine r_put (ws' := (wX12_refused E h h_tape h_far h_from h_real h_other h_kept h_set h_w h_book h_noteSort h_whose h_what h_noteIs h_fitting h_dawn h_likes h_walked h_came v_thrown p0 v_where v_inn v_read v_taped v_size v_at v_sort v_place v_sign v_number v_fault v_wrongAt v_word v_marks v_notes)) C hP hD hS 0 rfl fl_X12_74 rfl rfl (by decide) rfl dX12_refused_2 ?_
  clear hP hD hS; intro H locs hP hD hS
  refine lv_aload_n hx hb dX12_refused_5 rfl (lv_at hl 0 rfl) ?_
  refine lv_iconst (v := (-1)) hx hb dX12_refused_6 (by decide) ?_
  refine r_put (ws' := (wX12_refused E h h_tape h_far h_from h_real h_other h_kept h_set h_w h_book h_noteSort h_whose h_what h_noteIs h_fitting h_dawn h_likes h_walked h_came v_thrown p0 (-1) v_inn v_read v_taped v_size v_at v_sort v_place v_sign v_number v_fault v_wrongAt v_word v_marks v_notes)) C hP hD hS 0 rfl fl_X12_9 rfl rfl (by decide) rfl dX12_refused_7 ?_
  clear hP hD hS; intro H locs hP hD hS
  refine lv_iconst (v := (-1)) hx hb dX12_refused_10 (by decide) ?_
  cases hf
  rw [hQ]
  exact r_iret C hr hP hD hS rfl dX12_refused_11
def wX12_denied (E : EN) (h h_tape h_far h_from h_real h_other h_kept h_set h_w h_book h_noteSort h_whose h_what h_noteIs h_fitting h_dawn h_likes h_walked h_came : Nat) (v_thrown : Int32) (v_trouble : Int32) (v_where : Int32) (v_inn : Option Nat) (v_read : Option Nat) (v_taped : Int32) (v_size : Int32) (v_at : Int32) (v_sort : Int32) (v_place : Int32) (v_sign : Int32) (v_number : Int32) (v_fault : Int32) (v_wrongAt : Int32) (v_word : Int64) (v_marks : Int32) (v_notes : Int32) : va_W := [(h, .inr (11, [.int v_thrown, .int v_trouble, .int v_where, va_rf v_inn, va_rf v_read, .ref h_tape, .int v_taped, .int v_size, .int v_at, .int v_sort, .int v_place, .int v_sign, .int v_number, .int v_fault, .int v_wrongAt, .long v_word, .ref h_far, .ref h_from, .ref h_real, .ref h_other, .ref h_kept, .ref h_set, .ref h_w, .int v_marks, .int v_notes, .ref h_book, .ref h_noteSort, .ref h_whose, .ref h_what, .ref h_noteIs, .ref h_fitting, .ref h_dawn, .ref h_likes, .ref h_walked, .ref h_came]))]
def fX12_denied (N : Nat) (p0 : Int32) : Option (Int32 × Int32 × Int32) := (fX12_refused N p0).bind (un3 fun (r_2 : Int32) (v_trouble_2 : Int32) (v_where_2 : Int32) => some (0, v_trouble_2, v_where_2))
set_option maxHeartbeats 4000000 in
set_option maxRecDepth 100000 in
theorem ctX12_denied (l : Launch) (E : EN) (h h_tape h_far h_from h_real h_other h_kept h_set h_w h_book h_noteSort h_whose h_what h_noteIs h_fitting h_dawn h_likes h_walked h_came : Nat) (v_thrown : Int32) (v_trouble : Int32) (v_where : Int32) (v_inn : Option Nat) (v_read : Option Nat) (v_taped : Int32) (v_size : Int32) (v_at : Int32) (v_sort : Int32) (v_place : Int32) (v_sign : Int32) (v_number : Int32) (v_fault : Int32) (v_wrongAt : Int32) (v_word : Int64) (v_marks : Int32) (v_notes : Int32) (N : Nat) (p0 : Int32) (z0 : Int32) (z1 : Int32) (z2 : Int32) (hf : fX12_denied N p0 = some (z0, z1, z2)) : CTi l E yX12_denied cX12_denied 2 .boolean 1 21 [.ref h, .int p0] (wX12_denied E h h_tape h_far h_from h_real h_other h_kept h_set h_w h_book h_noteSort h_whose h_what h_noteIs h_fitting h_dawn h_likes h_walked h_came v_thrown v_trouble v_where v_inn v_read v_taped v_size v_at v_sort v_place v_sign v_number v_fault v_wrongAt v_word v_marks v_notes) z0 (wX12_denied E h h_tape h_far h_from h_real h_other h_kept h_set h_w h_book h_noteSort h_whose h_what h_noteIs h_fitting h_dawn h_likes h_walked h_came v_thrown z1 z2 v_inn v_read v_taped v_size v_at v_sort v_place v_sign v_number v_fault v_wrongAt v_word v_marks v_notes) := by
  intro sz
  refine ct_body (by decide) (Nat.le_of_ble_eq_true rfl) ?_
  intro p e s m args below meth c A ls hAe C hr hin hP hD hS hl
  have C : CX p s m args meth c cX12_denied RX12 2 E A := C
  have hl : lv_has ls 2 [(0, .ref h), (1, .int p0)] := hl
  have hx := C.1
  have hb := C.2.1
  rw [hAe]
  clear hAe
  obtain ⟨Q, hQ⟩ : ∃ Q, Q = MQ below (Qi E A z0 (wX12_denied E h h_tape h_far h_from h_real h_other h_kept h_set h_w h_book h_noteSort h_whose h_what h_noteIs h_fitting h_dawn h_likes h_walked h_came v_thrown z1 z2 v_inn v_read v_taped v_size v_at v_sort v_place v_sign v_number v_fault v_wrongAt v_word v_marks v_notes)) args s 0 0 A := ⟨_, rfl⟩
  rw [← hQ]
  unfold fX12_denied at hf
  refine lv_aload_n hx hb dX12_denied_0 rfl (lv_at hl 0 rfl) ?_
  refine lv_iload_n hx hb dX12_denied_1 rfl (lv_at hl 1 rfl) ?_
  obtain ⟨r_2, v_trouble_2, v_where_2, hc_2, hf⟩ := bd3 hf
  refine r_callVi (ws' := (wX12_denied E h h_tape h_far h_from h_real h_other h_kept h_set h_w h_book h_noteSort h_whose h_what h_noteIs h_fitting h_dawn h_likes h_walked h_came v_thrown v_trouble_2 v_where_2 v_inn v_read v_taped v_size v_at v_sort v_place v_sign v_number v_fault v_wrongAt v_word v_marks v_notes)) (As := [.int p0]) (rest := []) C (ctX12_refused l E h h_tape h_far h_from h_real h_other h_kept h_set h_w h_book h_noteSort h_whose h_what h_noteIs h_fitting h_dawn h_likes h_walked h_came v_thrown v_trouble v_where v_inn v_read v_taped v_size v_at v_sort v_place v_sign v_number v_fault v_wrongAt v_word v_marks v_notes N p0 r_2 v_trouble_2 v_where_2 hc_2) ml_X12_77 ⟨Nat.le_of_ble_eq_true rfl, Nat.le_of_ble_eq_true rfl⟩ hP hD hS 0 rfl rfl rfl [0] rfl rfl rfl rfl rfl hl.1 rfl (Nat.le_of_ble_eq_true rfl) ⟨Nat.zero_le _, Nat.zero_le _⟩ dX12_denied_2 ?_
  clear hP hD hS; intro H locs hP hD hS
  refine lv_pop hx hb dX12_denied_5 rfl ?_
  refine lv_iconst (v := 0) hx hb dX12_denied_6 (by decide) ?_
  cases hf
  rw [hQ]
  exact r_zret C hr hP hD hS (Or.inl rfl) rfl dX12_denied_7
def wX12_good (E : EN) (h h_tape h_far h_from h_real h_other h_kept h_set h_w h_book h_noteSort h_whose h_what h_noteIs h_fitting h_dawn h_likes h_walked h_came : Nat) (v_thrown : Int32) (v_trouble : Int32) (v_where : Int32) (v_inn : Option Nat) (v_read : Option Nat) (v_taped : Int32) (v_size : Int32) (v_at : Int32) (v_sort : Int32) (v_place : Int32) (v_sign : Int32) (v_number : Int32) (v_fault : Int32) (v_wrongAt : Int32) (v_word : Int64) (v_marks : Int32) (v_notes : Int32) : va_W := [(h, .inr (11, [.int v_thrown, .int v_trouble, .int v_where, va_rf v_inn, va_rf v_read, .ref h_tape, .int v_taped, .int v_size, .int v_at, .int v_sort, .int v_place, .int v_sign, .int v_number, .int v_fault, .int v_wrongAt, .long v_word, .ref h_far, .ref h_from, .ref h_real, .ref h_other, .ref h_kept, .ref h_set, .ref h_w, .int v_marks, .int v_notes, .ref h_book, .ref h_noteSort, .ref h_whose, .ref h_what, .ref h_noteIs, .ref h_fitting, .ref h_dawn, .ref h_likes, .ref h_walked, .ref h_came]))]
def fX12_good (N : Nat) (p0 : Int32) : Option (Int32 × Int32 × Int32) := some (p0, 0, (-1))
set_option maxHeartbeats 4000000 in
set_option maxRecDepth 100000 in
theorem ctX12_good (l : Launch) (E : EN) (h h_tape h_far h_from h_real h_other h_kept h_set h_w h_book h_noteSort h_whose h_what h_noteIs h_fitting h_dawn h_likes h_walked h_came : Nat) (v_thrown : Int32) (v_trouble : Int32) (v_where : Int32) (v_inn : Option Nat) (v_read : Option Nat) (v_taped : Int32) (v_size : Int32) (v_at : Int32) (v_sort : Int32) (v_place : Int32) (v_sign : Int32) (v_number : Int32) (v_fault : Int32) (v_wrongAt : Int32) (v_word : Int64) (v_marks : Int32) (v_notes : Int32) (N : Nat) (p0 : Int32) (z0 : Int32) (z1 : Int32) (z2 : Int32) (hf : fX12_good N p0 = some (z0, z1, z2)) : CTi l E yX12_good cX12_good 2 .int 0 0 [.ref h, .int p0] (wX12_good E h h_tape h_far h_from h_real h_other h_kept h_set h_w h_book h_noteSort h_whose h_what h_noteIs h_fitting h_dawn h_likes h_walked h_came v_thrown v_trouble v_where v_inn v_read v_taped v_size v_at v_sort v_place v_sign v_number v_fault v_wrongAt v_word v_marks v_notes) z0 (wX12_good E h h_tape h_far h_from h_real h_other h_kept h_set h_w h_book h_noteSort h_whose h_what h_noteIs h_fitting h_dawn h_likes h_walked h_came v_thrown z1 z2 v_inn v_read v_taped v_size v_at v_sort v_place v_sign v_number v_fault v_wrongAt v_word v_marks v_notes) := by
  intro sz
  refine ct_body (by decide) (Nat.le_of_ble_eq_true rfl) ?_
  intro p e s m args below meth c A ls hAe C hr hin hP hD hS hl
  have C : CX p s m args meth c cX12_good RX12 2 E A := C
  have hl : lv_has ls 2 [(0, .ref h), (1, .int p0)] := hl
  have hx := C.1
  have hb := C.2.1
  rw [hAe]
  clear hAe
  obtain ⟨Q, hQ⟩ : ∃ Q, Q = MQ below (Qi E A z0 (wX12_good E h h_tape h_far h_from h_real h_other h_kept h_set h_w h_book h_noteSort h_whose h_what h_noteIs h_fitting h_dawn h_likes h_walked h_came v_thrown z1 z2 v_inn v_read v_taped v_size v_at v_sort v_place v_sign v_number v_fault v_wrongAt v_word v_marks v_notes)) args s 0 0 A := ⟨_, rfl⟩
  rw [← hQ]
  unfold fX12_good at hf
  refine lv_aload_n hx hb dX12_good_0 rfl (lv_at hl 0 rfl) ?_
  refine lv_iconst (v := 0) hx hb dX12_good_1 (by decide) ?_
  refine r_put (ws' := (wX12_good E h h_tape h_far h_from h_real h_other h_kept h_set h_w h_book h_noteSort h_whose h_what h_noteIs h_fitting h_dawn h_likes h_walked h_came v_thrown 0 v_where v_inn v_read v_taped v_size v_at v_sort v_place v_sign v_number v_fault v_wrongAt v_word v_marks v_notes)) C hP hD hS 0 rfl fl_X12_74 rfl rfl (by decide) rfl dX12_good_2 ?_
  clear hP hD hS; intro H locs hP hD hS
  refine lv_aload_n hx hb dX12_good_5 rfl (lv_at hl 0 rfl) ?_
  refine lv_iconst (v := (-1)) hx hb dX12_good_6 (by decide) ?_
  refine r_put (ws' := (wX12_good E h h_tape h_far h_from h_real h_other h_kept h_set h_w h_book h_noteSort h_whose h_what h_noteIs h_fitting h_dawn h_likes h_walked h_came v_thrown 0 (-1) v_inn v_read v_taped v_size v_at v_sort v_place v_sign v_number v_fault v_wrongAt v_word v_marks v_notes)) C hP hD hS 0 rfl fl_X12_9 rfl rfl (by decide) rfl dX12_good_7 ?_
  clear hP hD hS; intro H locs hP hD hS
  refine lv_iload_n hx hb dX12_good_10 rfl (lv_at hl 1 rfl) ?_
  cases hf
  rw [hQ]
  exact r_iret C hr hP hD hS rfl dX12_good_11
def wX12_granted (E : EN) (h h_tape h_far h_from h_real h_other h_kept h_set h_w h_book h_noteSort h_whose h_what h_noteIs h_fitting h_dawn h_likes h_walked h_came : Nat) (v_thrown : Int32) (v_trouble : Int32) (v_where : Int32) (v_inn : Option Nat) (v_read : Option Nat) (v_taped : Int32) (v_size : Int32) (v_at : Int32) (v_sort : Int32) (v_place : Int32) (v_sign : Int32) (v_number : Int32) (v_fault : Int32) (v_wrongAt : Int32) (v_word : Int64) (v_marks : Int32) (v_notes : Int32) : va_W := [(h, .inr (11, [.int v_thrown, .int v_trouble, .int v_where, va_rf v_inn, va_rf v_read, .ref h_tape, .int v_taped, .int v_size, .int v_at, .int v_sort, .int v_place, .int v_sign, .int v_number, .int v_fault, .int v_wrongAt, .long v_word, .ref h_far, .ref h_from, .ref h_real, .ref h_other, .ref h_kept, .ref h_set, .ref h_w, .int v_marks, .int v_notes, .ref h_book, .ref h_noteSort, .ref h_whose, .ref h_what, .ref h_noteIs, .ref h_fitting, .ref h_dawn, .ref h_likes, .ref h_walked, .ref h_came]))]
def fX12_granted (N : Nat) : Option (Int32 × Int32 × Int32) := (fX12_good N 0).bind (un3 fun (r_2 : Int32) (v_trouble_2 : Int32) (v_where_2 : Int32) => some (1, v_trouble_2, v_where_2))
set_option maxHeartbeats 4000000 in
set_option maxRecDepth 100000 in
theorem ctX12_granted (l : Launch) (E : EN) (h h_tape h_far h_from h_real h_other h_kept h_set h_w h_book h_noteSort h_whose h_what h_noteIs h_fitting h_dawn h_likes h_walked h_came : Nat) (v_thrown : Int32) (v_trouble : Int32) (v_where : Int32) (v_inn : Option Nat) (v_read : Option Nat) (v_taped : Int32) (v_size : Int32) (v_at : Int32) (v_sort : Int32) (v_place : Int32) (v_sign : Int32) (v_number : Int32) (v_fault : Int32) (v_wrongAt : Int32) (v_word : Int64) (v_marks : Int32) (v_notes : Int32) (N : Nat) (z0 : Int32) (z1 : Int32) (z2 : Int32) (hf : fX12_granted N  = some (z0, z1, z2)) : CTi l E yX12_granted cX12_granted 1 .boolean 1 21 [.ref h] (wX12_granted E h h_tape h_far h_from h_real h_other h_kept h_set h_w h_book h_noteSort h_whose h_what h_noteIs h_fitting h_dawn h_likes h_walked h_came v_thrown v_trouble v_where v_inn v_read v_taped v_size v_at v_sort v_place v_sign v_number v_fault v_wrongAt v_word v_marks v_notes) z0 (wX12_granted E h h_tape h_far h_from h_real h_other h_kept h_set h_w h_book h_noteSort h_whose h_what h_noteIs h_fitting h_dawn h_likes h_walked h_came v_thrown z1 z2 v_inn v_read v_taped v_size v_at v_sort v_place v_sign v_number v_fault v_wrongAt v_word v_marks v_notes) := by
  intro sz
  refine ct_body (by decide) (Nat.le_of_ble_eq_true rfl) ?_
  intro p e s m args below meth c A ls hAe C hr hin hP hD hS hl
  have C : CX p s m args meth c cX12_granted RX12 1 E A := C
  have hl : lv_has ls 1 [(0, .ref h)] := hl
  have hx := C.1
  have hb := C.2.1
  rw [hAe]
  clear hAe
  obtain ⟨Q, hQ⟩ : ∃ Q, Q = MQ below (Qi E A z0 (wX12_granted E h h_tape h_far h_from h_real h_other h_kept h_set h_w h_book h_noteSort h_whose h_what h_noteIs h_fitting h_dawn h_likes h_walked h_came v_thrown z1 z2 v_inn v_read v_taped v_size v_at v_sort v_place v_sign v_number v_fault v_wrongAt v_word v_marks v_notes)) args s 0 0 A := ⟨_, rfl⟩
  rw [← hQ]
  unfold fX12_granted at hf
  refine lv_aload_n hx hb dX12_granted_0 rfl (lv_at hl 0 rfl) ?_
  refine lv_iconst (v := 0) hx hb dX12_granted_1 (by decide) ?_
  obtain ⟨r_2, v_trouble_2, v_where_2, hc_2, hf⟩ := bd3 hf
  refine r_callVi (ws' := (wX12_granted E h h_tape h_far h_from h_real h_other h_kept h_set h_w h_book h_noteSort h_whose h_what h_noteIs h_fitting h_dawn h_likes h_walked h_came v_thrown v_trouble_2 v_where_2 v_inn v_read v_taped v_size v_at v_sort v_place v_sign v_number v_fault v_wrongAt v_word v_marks v_notes)) (As := [.int 0]) (rest := []) C (ctX12_good l E h h_tape h_far h_from h_real h_other h_kept h_set h_w h_book h_noteSort h_whose h_what h_noteIs h_fitting h_dawn h_likes h_walked h_came v_thrown v_trouble v_where v_inn v_read v_taped v_size v_at v_sort v_place v_sign v_number v_fault v_wrongAt v_word v_marks v_notes N 0 r_2 v_trouble_2 v_where_2 hc_2) ml_X12_81 ⟨Nat.le_of_ble_eq_true rfl, Nat.le_of_ble_eq_true rfl⟩ hP hD hS 0 rfl rfl rfl [0] rfl rfl rfl rfl rfl hl.1 rfl (Nat.le_of_ble_eq_true rfl) ⟨Nat.zero_le _, Nat.zero_le _⟩ dX12_granted_2 ?_
  clear hP hD hS; intro H locs hP hD hS
  refine lv_pop hx hb dX12_granted_5 rfl ?_
  refine lv_iconst (v := 1) hx hb dX12_granted_6 (by decide) ?_
  cases hf
  rw [hQ]
  exact r_zret C hr hP hD hS (Or.inr rfl) rfl dX12_granted_7
def wX12_in (E : EN) : va_W := []
def fX12_in (N : Nat) (p0 : Int32) (p1 : Int32) (p2 : Int32) : Option Int32 := jn (un0 (some 0)) (fun j14 => if p0 < p1 then (j14 ()) else (if p2 < p0 then (j14 ()) else (some 1)))
set_option maxHeartbeats 4000000 in
set_option maxRecDepth 100000 in
theorem ctX12_in (l : Launch) (E : EN) (N : Nat) (p0 : Int32) (p1 : Int32) (p2 : Int32) (z0 : Int32) (hf : fX12_in N p0 p1 p2 = some z0) : CTi l E yX12_in cX12_in 3 .boolean 0 0 [.int p0, .int p1, .int p2] (wX12_in E) z0 (wX12_in E) := by
  intro sz
  refine ct_body (by decide) (Nat.le_of_ble_eq_true rfl) ?_
  intro p e s m args below meth c A ls hAe C hr hin hP hD hS hl
  have C : CX p s m args meth c cX12_in RX12 3 E A := C
  have hl : lv_has ls 3 [(0, .int p0), (1, .int p1), (2, .int p2)] := hl
  have hx := C.1
  have hb := C.2.1
  rw [hAe]
  clear hAe
  obtain ⟨Q, hQ⟩ : ∃ Q, Q = MQ below (Qi E A z0 (wX12_in E)) args s 0 0 A := ⟨_, rfl⟩
  rw [← hQ]
  unfold fX12_in at hf
  refine lv_iload_n hx hb dX12_in_0 rfl (lv_at hl 0 rfl) ?_
  refine lv_iload_n hx hb dX12_in_1 rfl (lv_at hl 1 rfl) ?_
  refine jnK hf (fun j14 ej14 hf => ?_)
  have hj14 : j14 () = some z0 → AT p l e (rmOf 0 0) s m args below meth c E A Q 0 0 3 [] (wX12_in E) 14 [] := by
    intro  hf H locs ls hl hP hD hS
    rw [ej14] at hf
    replace hf := un0_s hf
    refine lv_iconst (v := 0) hx hb dX12_in_14 (by decide) ?_
    cases hf
    rw [hQ]
    exact r_zret C hr hP hD hS (Or.inl rfl) rfl dX12_in_15
  clear ej14
  refine lv_icmp_lt (tgt := 14) hx hb dX12_in_2 (by decide) (fun c_2 => ?_) (fun c_2 => ?_)
  · replace hf := it_t c_2 hf
    exact hj14  hf _ _ _ (lv_sub hl [] rfl) hP hD hS
  · replace hf := it_f c_2 hf
    refine lv_iload_n hx hb dX12_in_5 rfl (lv_at hl 0 rfl) ?_
    refine lv_iload_n hx hb dX12_in_6 rfl (lv_at hl 2 rfl) ?_
    refine lv_icmp_gt (tgt := 14) hx hb dX12_in_7 (by decide) (fun c_7 => ?_) (fun c_7 => ?_)
    · replace hf := it_t c_7 hf
      exact hj14  hf _ _ _ (lv_sub hl [] rfl) hP hD hS
    · replace hf := it_f c_7 hf
      refine lv_iconst (v := 1) hx hb dX12_in_10 (by decide) ?_
      refine lv_goto (tgt := 15) hx hb dX12_in_11 (by decide) ?_
      cases hf
      rw [hQ]
      exact r_zret C hr hP hD hS (Or.inr rfl) rfl dX12_in_15
def wX12_has (E : EN) : va_W := []
def fX12_has (N : Nat) (p0 : Int32) (p1 : Int32) : Option Int32 := if ((p0 >>> (p1 &&& 31)) &&& 1) = 1 then (some 1) else (some 0)
set_option maxHeartbeats 4000000 in
set_option maxRecDepth 100000 in
theorem ctX12_has (l : Launch) (E : EN) (N : Nat) (p0 : Int32) (p1 : Int32) (z0 : Int32) (hf : fX12_has N p0 p1 = some z0) : CTi l E yX12_has cX12_has 2 .boolean 0 0 [.int p0, .int p1] (wX12_has E) z0 (wX12_has E) := by
  intro sz
  refine ct_body (by decide) (Nat.le_of_ble_eq_true rfl) ?_
  intro p e s m args below meth c A ls hAe C hr hin hP hD hS hl
  have C : CX p s m args meth c cX12_has RX12 2 E A := C
  have hl : lv_has ls 2 [(0, .int p0), (1, .int p1)] := hl
  have hx := C.1
  have hb := C.2.1
  rw [hAe]
  clear hAe
  obtain ⟨Q, hQ⟩ : ∃ Q, Q = MQ below (Qi E A z0 (wX12_has E)) args s 0 0 A := ⟨_, rfl⟩
  rw [← hQ]
  unfold fX12_has at hf
  refine lv_iload_n hx hb dX12_has_0 rfl (lv_at hl 0 rfl) ?_
  refine lv_iload_n hx hb dX12_has_1 rfl (lv_at hl 1 rfl) ?_
  refine lv_ishr hx hb dX12_has_2 ?_
  refine lv_iconst (v := 1) hx hb dX12_has_3 (by decide) ?_
  refine lv_iand hx hb dX12_has_4 ?_
  refine lv_iconst (v := 1) hx hb dX12_has_5 (by decide) ?_
  refine lv_icmp_ne (tgt := 13) hx hb dX12_has_6 (by decide) (fun c_6 => ?_) (fun c_6 => ?_)
  · replace hf := it_f c_6 hf
    refine lv_iconst (v := 0) hx hb dX12_has_13 (by decide) ?_
    cases hf
    rw [hQ]
    exact r_zret C hr hP hD hS (Or.inl rfl) rfl dX12_has_14
  · replace hf := it_t c_6 hf
    refine lv_iconst (v := 1) hx hb dX12_has_9 (by decide) ?_
    refine lv_goto (tgt := 14) hx hb dX12_has_10 (by decide) ?_
    cases hf
    rw [hQ]
    exact r_zret C hr hP hD hS (Or.inr rfl) rfl dX12_has_14
def wX12_bits (E : EN) : va_W := []
def BX12_bits_4 (rec4 : (Int32 × Int32) → Option Int32) : (Int32 × Int32) → Option Int32 := un2 fun (x4_1 : Int32) (x4_2 : Int32) => if x4_2 = 0 then (some x4_1) else (rec4 (x4_1 + 1, x4_2 &&& (x4_2 - 1)))
def fX12_bits (N : Nat) (p0 : Int32) : Option Int32 := lp (BX12_bits_4) N (0, p0)
set_option maxHeartbeats 4000000 in
set_option maxRecDepth 100000 in
theorem ctX12_bits (l : Launch) (E : EN) (N : Nat) (p0 : Int32) (z0 : Int32) (hf : fX12_bits N p0 = some z0) : CTi l E yX12_bits cX12_bits 3 .int 0 0 [.int p0] (wX12_bits E) z0 (wX12_bits E) := by
  intro sz
  refine ct_body (by decide) (Nat.le_of_ble_eq_true rfl) ?_
  intro p e s m args below meth c A ls hAe C hr hin hP hD hS hl
  have C : CX p s m args meth c cX12_bits RX12 3 E A := C
  have hl : lv_has ls 3 [(0, .int p0)] := hl
  have hx := C.1
  have hb := C.2.1
  rw [hAe]
  clear hAe
  obtain ⟨Q, hQ⟩ : ∃ Q, Q = MQ below (Qi E A z0 (wX12_bits E)) args s 0 0 A := ⟨_, rfl⟩
  rw [← hQ]
  unfold fX12_bits at hf
  refine lv_iconst (v := 0) hx hb dX12_bits_0 (by decide) ?_
  refine lv_istore_n (lv' := [(1, .int 0), (0, .int p0)]) hx hb dX12_bits_1 rfl hl (by decide) rfl (fun ls hl => ?_)
  refine lv_iload_n hx hb dX12_bits_2 rfl (lv_at hl 1 rfl) ?_
  refine lv_istore_n (lv' := [(2, .int p0), (1, .int 0), (0, .int p0)]) hx hb dX12_bits_3 rfl hl (by decide) rfl (fun ls hl => ?_)
  have key4 : ∀ (n : Nat) (x4_1 : Int32) (x4_2 : Int32) , lp (BX12_bits_4) n (x4_1, x4_2) = some z0 → AT p l e (rmOf 0 0) s m args below meth c E A Q 0 0 3 [(1, .int x4_1), (2, .int x4_2)] (wX12_bits E) 4 [] := by
    intro n
    induction n with
    | zero => intro x4_1 x4_2 hf; exact (lp_0 hf).elim
    | succ n ih4 =>
      intro x4_1 x4_2 hf H locs ls hl hP hD hS
      replace hf := lp_s hf
      generalize lp (BX12_bits_4) n = rec4 at ih4 hf
      unfold BX12_bits_4 at hf
      replace hf := un2_s hf
      refine lv_iload_n hx hb dX12_bits_4 rfl (lv_at hl 1 rfl) ?_
      refine lv_if_eq (tgt := 20) hx hb dX12_bits_5 (by decide) (fun c_5 => ?_) (fun c_5 => ?_)
      · replace hf := it_t c_5 hf
        refine lv_iload_n hx hb dX12_bits_20 rfl (lv_at hl 0 rfl) ?_
        cases hf
        rw [hQ]
        exact r_iret C hr hP hD hS rfl dX12_bits_21
      · replace hf := it_f c_5 hf
        refine lv_iinc (v := x4_1 + 1) (lv' := [(1, .int (x4_1 + 1)), (2, .int x4_2)]) hx hb dX12_bits_8 hl (k := 0) rfl rfl (by decide) rfl (fun ls hl => ?_)
        refine lv_iload_n hx hb dX12_bits_11 rfl (lv_at hl 1 rfl) ?_
        refine lv_iload_n hx hb dX12_bits_12 rfl (lv_at hl 1 rfl) ?_
        refine lv_iconst (v := 1) hx hb dX12_bits_13 (by decide) ?_
        refine lv_isub hx hb dX12_bits_14 ?_
        refine lv_iand hx hb dX12_bits_15 ?_
        refine lv_istore_n (lv' := [(2, .int (x4_2 &&& (x4_2 - 1))), (1, .int (x4_1 + 1))]) hx hb dX12_bits_16 rfl hl (by decide) rfl (fun ls hl => ?_)
        refine lv_goto (tgt := 4) hx hb dX12_bits_17 (by decide) ?_
        exact ih4 (x4_1 + 1) (x4_2 &&& (x4_2 - 1)) hf _ _ _ (lv_sub hl [1, 0] rfl) hP hD hS
  exact key4 _ 0 p0 hf _ _ _ (lv_sub hl [1, 0] rfl) hP hD hS
