theorem dX0_init_0 : decode cX0_init 0 = .ok (.aload_n 0, 1) := by decide +kernel
theorem dX0_init_1 : decode cX0_init 1 = .ok (.invokespecial 3, 3) := by decide +kernel
theorem dX0_init_4 : decode cX0_init 4 = .ok (.aload_n 0, 1) := by decide +kernel
theorem dX0_init_5 : decode cX0_init 5 = .ok (.bipush 10, 2) := by decide +kernel
theorem dX0_init_7 : decode cX0_init 7 = .ok (.newarray .int, 2) := by decide +kernel
theorem dX0_init_9 : decode cX0_init 9 = .ok (.dup, 1) := by decide +kernel
theorem dX0_init_10 : decode cX0_init 10 = .ok (.iconst 0, 1) := by decide +kernel
theorem dX0_init_11 : decode cX0_init 11 = .ok (.iconst 0, 1) := by decide +kernel
theorem dX0_init_12 : decode cX0_init 12 = .ok (.iastore, 1) := by decide +kernel
theorem dX0_init_13 : decode cX0_init 13 = .ok (.dup, 1) := by decide +kernel
theorem dX0_init_14 : decode cX0_init 14 = .ok (.iconst 1, 1) := by decide +kernel
theorem dX0_init_15 : decode cX0_init 15 = .ok (.bipush 10, 2) := by decide +kernel
theorem dX0_init_17 : decode cX0_init 17 = .ok (.iastore, 1) := by decide +kernel
theorem dX0_init_18 : decode cX0_init 18 = .ok (.dup, 1) := by decide +kernel
theorem dX0_init_19 : decode cX0_init 19 = .ok (.iconst 2, 1) := by decide +kernel
theorem dX0_init_20 : decode cX0_init 20 = .ok (.iconst 0, 1) := by decide +kernel
theorem dX0_init_21 : decode cX0_init 21 = .ok (.iastore, 1) := by decide +kernel
theorem dX0_init_22 : decode cX0_init 22 = .ok (.dup, 1) := by decide +kernel
theorem dX0_init_23 : decode cX0_init 23 = .ok (.iconst 3, 1) := by decide +kernel
theorem dX0_init_24 : decode cX0_init 24 = .ok (.iconst 0, 1) := by decide +kernel
theorem dX0_init_25 : decode cX0_init 25 = .ok (.iastore, 1) := by decide +kernel
theorem dX0_init_26 : decode cX0_init 26 = .ok (.dup, 1) := by decide +kernel
theorem dX0_init_27 : decode cX0_init 27 = .ok (.iconst 4, 1) := by decide +kernel
theorem dX0_init_28 : decode cX0_init 28 = .ok (.iconst 0, 1) := by decide +kernel
theorem dX0_init_29 : decode cX0_init 29 = .ok (.iastore, 1) := by decide +kernel
theorem dX0_init_30 : decode cX0_init 30 = .ok (.dup, 1) := by decide +kernel
theorem dX0_init_31 : decode cX0_init 31 = .ok (.iconst 5, 1) := by decide +kernel
theorem dX0_init_32 : decode cX0_init 32 = .ok (.iconst 0, 1) := by decide +kernel
theorem dX0_init_33 : decode cX0_init 33 = .ok (.iastore, 1) := by decide +kernel
theorem dX0_init_34 : decode cX0_init 34 = .ok (.dup, 1) := by decide +kernel
theorem dX0_init_35 : decode cX0_init 35 = .ok (.bipush 6, 2) := by decide +kernel
theorem dX0_init_37 : decode cX0_init 37 = .ok (.iconst 0, 1) := by decide +kernel
theorem dX0_init_38 : decode cX0_init 38 = .ok (.iastore, 1) := by decide +kernel
theorem dX0_init_39 : decode cX0_init 39 = .ok (.dup, 1) := by decide +kernel
theorem dX0_init_40 : decode cX0_init 40 = .ok (.bipush 7, 2) := by decide +kernel
theorem dX0_init_42 : decode cX0_init 42 = .ok (.iconst 0, 1) := by decide +kernel
theorem dX0_init_43 : decode cX0_init 43 = .ok (.iastore, 1) := by decide +kernel
theorem dX0_init_44 : decode cX0_init 44 = .ok (.dup, 1) := by decide +kernel
theorem dX0_init_45 : decode cX0_init 45 = .ok (.bipush 8, 2) := by decide +kernel
theorem dX0_init_47 : decode cX0_init 47 = .ok (.iconst 0, 1) := by decide +kernel
theorem dX0_init_48 : decode cX0_init 48 = .ok (.iastore, 1) := by decide +kernel
theorem dX0_init_49 : decode cX0_init 49 = .ok (.dup, 1) := by decide +kernel
theorem dX0_init_50 : decode cX0_init 50 = .ok (.bipush 9, 2) := by decide +kernel
theorem dX0_init_52 : decode cX0_init 52 = .ok (.iconst 0, 1) := by decide +kernel
theorem dX0_init_53 : decode cX0_init 53 = .ok (.iastore, 1) := by decide +kernel
theorem dX0_init_54 : decode cX0_init 54 = .ok (.putfield 9, 3) := by decide +kernel
theorem dX0_init_57 : decode cX0_init 57 = .ok (.return_, 1) := by decide +kernel
theorem dX0_weights_0 : decode cX0_weights 0 = .ok (.aload_n 0, 1) := by decide +kernel
theorem dX0_weights_1 : decode cX0_weights 1 = .ok (.getfield 9, 3) := by decide +kernel
theorem dX0_weights_4 : decode cX0_weights 4 = .ok (.areturn, 1) := by decide +kernel
theorem dX0_put_0 : decode cX0_put 0 = .ok (.iload_n 1, 1) := by decide +kernel
theorem dX0_put_1 : decode cX0_put 1 = .ok (.invokestatic 15, 3) := by decide +kernel
theorem dX0_put_4 : decode cX0_put 4 = .ok (.ifCond .ne 6, 3) := by decide +kernel
theorem dX0_put_7 : decode cX0_put 7 = .ok (.bipush (-9), 2) := by decide +kernel
theorem dX0_put_9 : decode cX0_put 9 = .ok (.ireturn, 1) := by decide +kernel
theorem dX0_put_10 : decode cX0_put 10 = .ok (.aload_n 0, 1) := by decide +kernel
theorem dX0_put_11 : decode cX0_put 11 = .ok (.getfield 9, 3) := by decide +kernel
theorem dX0_put_14 : decode cX0_put 14 = .ok (.iload_n 1, 1) := by decide +kernel
theorem dX0_put_15 : decode cX0_put 15 = .ok (.iaload, 1) := by decide +kernel
theorem dX0_put_16 : decode cX0_put 16 = .ok (.istore_n 3, 1) := by decide +kernel
theorem dX0_put_17 : decode cX0_put 17 = .ok (.aload_n 0, 1) := by decide +kernel
theorem dX0_put_18 : decode cX0_put 18 = .ok (.getfield 9, 3) := by decide +kernel
theorem dX0_put_21 : decode cX0_put 21 = .ok (.iload_n 1, 1) := by decide +kernel
theorem dX0_put_22 : decode cX0_put 22 = .ok (.iload_n 2, 1) := by decide +kernel
theorem dX0_put_23 : decode cX0_put 23 = .ok (.iastore, 1) := by decide +kernel
theorem dX0_put_24 : decode cX0_put 24 = .ok (.iload_n 3, 1) := by decide +kernel
theorem dX0_put_25 : decode cX0_put 25 = .ok (.ireturn, 1) := by decide +kernel
theorem dX0_areWhole_0 : decode cX0_areWhole 0 = .ok (.iconst 0, 1) := by decide +kernel
theorem dX0_areWhole_1 : decode cX0_areWhole 1 = .ok (.istore_n 1, 1) := by decide +kernel
theorem dX0_areWhole_2 : decode cX0_areWhole 2 = .ok (.aload_n 0, 1) := by decide +kernel
theorem dX0_areWhole_3 : decode cX0_areWhole 3 = .ok (.getfield 9, 3) := by decide +kernel
theorem dX0_areWhole_6 : decode cX0_areWhole 6 = .ok (.astore_n 2, 1) := by decide +kernel
theorem dX0_areWhole_7 : decode cX0_areWhole 7 = .ok (.aload_n 2, 1) := by decide +kernel
theorem dX0_areWhole_8 : decode cX0_areWhole 8 = .ok (.arraylength, 1) := by decide +kernel
theorem dX0_areWhole_9 : decode cX0_areWhole 9 = .ok (.istore_n 3, 1) := by decide +kernel
theorem dX0_areWhole_10 : decode cX0_areWhole 10 = .ok (.iconst 0, 1) := by decide +kernel
theorem dX0_areWhole_11 : decode cX0_areWhole 11 = .ok (.istore 4, 2) := by decide +kernel
theorem dX0_areWhole_13 : decode cX0_areWhole 13 = .ok (.iload 4, 2) := by decide +kernel
theorem dX0_areWhole_15 : decode cX0_areWhole 15 = .ok (.iload_n 3, 1) := by decide +kernel
theorem dX0_areWhole_16 : decode cX0_areWhole 16 = .ok (.if_icmp .ge 20, 3) := by decide +kernel
theorem dX0_areWhole_19 : decode cX0_areWhole 19 = .ok (.aload_n 2, 1) := by decide +kernel
theorem dX0_areWhole_20 : decode cX0_areWhole 20 = .ok (.iload 4, 2) := by decide +kernel
theorem dX0_areWhole_22 : decode cX0_areWhole 22 = .ok (.iaload, 1) := by decide +kernel
theorem dX0_areWhole_23 : decode cX0_areWhole 23 = .ok (.istore 5, 2) := by decide +kernel
theorem dX0_areWhole_25 : decode cX0_areWhole 25 = .ok (.iload_n 1, 1) := by decide +kernel
theorem dX0_areWhole_26 : decode cX0_areWhole 26 = .ok (.iload 5, 2) := by decide +kernel
theorem dX0_areWhole_28 : decode cX0_areWhole 28 = .ok (.iadd, 1) := by decide +kernel
theorem dX0_areWhole_29 : decode cX0_areWhole 29 = .ok (.istore_n 1, 1) := by decide +kernel
theorem dX0_areWhole_30 : decode cX0_areWhole 30 = .ok (.iinc 4 1, 3) := by decide +kernel
theorem dX0_areWhole_33 : decode cX0_areWhole 33 = .ok (.goto (-20), 3) := by decide +kernel
theorem dX0_areWhole_36 : decode cX0_areWhole 36 = .ok (.iload_n 1, 1) := by decide +kernel
theorem dX0_areWhole_37 : decode cX0_areWhole 37 = .ok (.bipush 10, 2) := by decide +kernel
theorem dX0_areWhole_39 : decode cX0_areWhole 39 = .ok (.if_icmp .ne 7, 3) := by decide +kernel
theorem dX0_areWhole_42 : decode cX0_areWhole 42 = .ok (.iconst 1, 1) := by decide +kernel
theorem dX0_areWhole_43 : decode cX0_areWhole 43 = .ok (.goto 4, 3) := by decide +kernel
theorem dX0_areWhole_46 : decode cX0_areWhole 46 = .ok (.iconst 0, 1) := by decide +kernel
theorem dX0_areWhole_47 : decode cX0_areWhole 47 = .ok (.ireturn, 1) := by decide +kernel
theorem dX0_cases_0 : decode cX0_cases 0 = .ok (.iload_n 0, 1) := by decide +kernel
theorem dX0_cases_1 : decode cX0_cases 1 = .ok (.iload_n 1, 1) := by decide +kernel
theorem dX0_cases_2 : decode cX0_cases 2 = .ok (.invokestatic 19, 3) := by decide +kernel
theorem dX0_cases_5 : decode cX0_cases 5 = .ok (.i2l, 1) := by decide +kernel
theorem dX0_cases_6 : decode cX0_cases 6 = .ok (.iload_n 2, 1) := by decide +kernel
theorem dX0_cases_7 : decode cX0_cases 7 = .ok (.i2l, 1) := by decide +kernel
theorem dX0_cases_8 : decode cX0_cases 8 = .ok (.iload_n 1, 1) := by decide +kernel
theorem dX0_cases_9 : decode cX0_cases 9 = .ok (.invokestatic 23, 3) := by decide +kernel
theorem dX0_cases_12 : decode cX0_cases 12 = .ok (.lmul, 1) := by decide +kernel
theorem dX0_cases_13 : decode cX0_cases 13 = .ok (.bipush 10, 2) := by decide +kernel
theorem dX0_cases_15 : decode cX0_cases 15 = .ok (.iload_n 2, 1) := by decide +kernel
theorem dX0_cases_16 : decode cX0_cases 16 = .ok (.isub, 1) := by decide +kernel
theorem dX0_cases_17 : decode cX0_cases 17 = .ok (.i2l, 1) := by decide +kernel
theorem dX0_cases_18 : decode cX0_cases 18 = .ok (.iload_n 0, 1) := by decide +kernel
theorem dX0_cases_19 : decode cX0_cases 19 = .ok (.iload_n 1, 1) := by decide +kernel
theorem dX0_cases_20 : decode cX0_cases 20 = .ok (.isub, 1) := by decide +kernel
theorem dX0_cases_21 : decode cX0_cases 21 = .ok (.invokestatic 23, 3) := by decide +kernel
theorem dX0_cases_24 : decode cX0_cases 24 = .ok (.lmul, 1) := by decide +kernel
theorem dX0_cases_25 : decode cX0_cases 25 = .ok (.lreturn, 1) := by decide +kernel
theorem dX0_rightTogether_0 : decode cX0_rightTogether 0 = .ok (.lconst 0, 1) := by decide +kernel
theorem dX0_rightTogether_1 : decode cX0_rightTogether 1 = .ok (.lstore_n 3, 1) := by decide +kernel
theorem dX0_rightTogether_2 : decode cX0_rightTogether 2 = .ok (.iconst 0, 1) := by decide +kernel
theorem dX0_rightTogether_3 : decode cX0_rightTogether 3 = .ok (.istore 5, 2) := by decide +kernel
theorem dX0_rightTogether_5 : decode cX0_rightTogether 5 = .ok (.iload 5, 2) := by decide +kernel
theorem dX0_rightTogether_7 : decode cX0_rightTogether 7 = .ok (.bipush 10, 2) := by decide +kernel
theorem dX0_rightTogether_9 : decode cX0_rightTogether 9 = .ok (.if_icmp .ge 55, 3) := by decide +kernel
theorem dX0_rightTogether_12 : decode cX0_rightTogether 12 = .ok (.iconst 1, 1) := by decide +kernel
theorem dX0_rightTogether_13 : decode cX0_rightTogether 13 = .ok (.istore 6, 2) := by decide +kernel
theorem dX0_rightTogether_15 : decode cX0_rightTogether 15 = .ok (.iload 6, 2) := by decide +kernel
theorem dX0_rightTogether_17 : decode cX0_rightTogether 17 = .ok (.iload_n 2, 1) := by decide +kernel
theorem dX0_rightTogether_18 : decode cX0_rightTogether 18 = .ok (.if_icmp .gt 40, 3) := by decide +kernel
theorem dX0_rightTogether_21 : decode cX0_rightTogether 21 = .ok (.aload_n 1, 1) := by decide +kernel
theorem dX0_rightTogether_22 : decode cX0_rightTogether 22 = .ok (.iload 5, 2) := by decide +kernel
theorem dX0_rightTogether_24 : decode cX0_rightTogether 24 = .ok (.iload 6, 2) := by decide +kernel
theorem dX0_rightTogether_26 : decode cX0_rightTogether 26 = .ok (.invokevirtual 27, 3) := by decide +kernel
theorem dX0_rightTogether_29 : decode cX0_rightTogether 29 = .ok (.ifCond .eq 23, 3) := by decide +kernel
theorem dX0_rightTogether_32 : decode cX0_rightTogether 32 = .ok (.lload_n 3, 1) := by decide +kernel
theorem dX0_rightTogether_33 : decode cX0_rightTogether 33 = .ok (.iload 6, 2) := by decide +kernel
theorem dX0_rightTogether_35 : decode cX0_rightTogether 35 = .ok (.i2l, 1) := by decide +kernel
theorem dX0_rightTogether_36 : decode cX0_rightTogether 36 = .ok (.iload_n 2, 1) := by decide +kernel
theorem dX0_rightTogether_37 : decode cX0_rightTogether 37 = .ok (.iload 6, 2) := by decide +kernel
theorem dX0_rightTogether_39 : decode cX0_rightTogether 39 = .ok (.aload_n 0, 1) := by decide +kernel
theorem dX0_rightTogether_40 : decode cX0_rightTogether 40 = .ok (.getfield 9, 3) := by decide +kernel
theorem dX0_rightTogether_43 : decode cX0_rightTogether 43 = .ok (.iload 5, 2) := by decide +kernel
theorem dX0_rightTogether_45 : decode cX0_rightTogether 45 = .ok (.iaload, 1) := by decide +kernel
theorem dX0_rightTogether_46 : decode cX0_rightTogether 46 = .ok (.invokestatic 33, 3) := by decide +kernel
theorem dX0_rightTogether_49 : decode cX0_rightTogether 49 = .ok (.lmul, 1) := by decide +kernel
theorem dX0_rightTogether_50 : decode cX0_rightTogether 50 = .ok (.ladd, 1) := by decide +kernel
theorem dX0_rightTogether_51 : decode cX0_rightTogether 51 = .ok (.lstore_n 3, 1) := by decide +kernel
theorem dX0_rightTogether_52 : decode cX0_rightTogether 52 = .ok (.iinc 6 1, 3) := by decide +kernel
theorem dX0_rightTogether_55 : decode cX0_rightTogether 55 = .ok (.goto (-40), 3) := by decide +kernel
theorem dX0_rightTogether_58 : decode cX0_rightTogether 58 = .ok (.iinc 5 1, 3) := by decide +kernel
theorem dX0_rightTogether_61 : decode cX0_rightTogether 61 = .ok (.goto (-56), 3) := by decide +kernel
theorem dX0_rightTogether_64 : decode cX0_rightTogether 64 = .ok (.lload_n 3, 1) := by decide +kernel
theorem dX0_rightTogether_65 : decode cX0_rightTogether 65 = .ok (.lreturn, 1) := by decide +kernel
theorem dX0_rightThoughForgetting_0 : decode cX0_rightThoughForgetting 0 = .ok (.bipush 10, 2) := by decide +kernel
theorem dX0_rightThoughForgetting_2 : decode cX0_rightThoughForgetting 2 = .ok (.iload 4, 2) := by decide +kernel
theorem dX0_rightThoughForgetting_4 : decode cX0_rightThoughForgetting 4 = .ok (.isub, 1) := by decide +kernel
theorem dX0_rightThoughForgetting_5 : decode cX0_rightThoughForgetting 5 = .ok (.istore 5, 2) := by decide +kernel
theorem dX0_rightThoughForgetting_7 : decode cX0_rightThoughForgetting 7 = .ok (.lconst 0, 1) := by decide +kernel
theorem dX0_rightThoughForgetting_8 : decode cX0_rightThoughForgetting 8 = .ok (.lstore 6, 2) := by decide +kernel
theorem dX0_rightThoughForgetting_10 : decode cX0_rightThoughForgetting 10 = .ok (.iconst 0, 1) := by decide +kernel
theorem dX0_rightThoughForgetting_11 : decode cX0_rightThoughForgetting 11 = .ok (.istore 8, 2) := by decide +kernel
theorem dX0_rightThoughForgetting_13 : decode cX0_rightThoughForgetting 13 = .ok (.iload 8, 2) := by decide +kernel
theorem dX0_rightThoughForgetting_15 : decode cX0_rightThoughForgetting 15 = .ok (.iload_n 3, 1) := by decide +kernel
theorem dX0_rightThoughForgetting_16 : decode cX0_rightThoughForgetting 16 = .ok (.if_icmp .ge 40, 3) := by decide +kernel
theorem dX0_rightThoughForgetting_19 : decode cX0_rightThoughForgetting 19 = .ok (.aload_n 1, 1) := by decide +kernel
theorem dX0_rightThoughForgetting_20 : decode cX0_rightThoughForgetting 20 = .ok (.iload_n 2, 1) := by decide +kernel
theorem dX0_rightThoughForgetting_21 : decode cX0_rightThoughForgetting 21 = .ok (.iload 8, 2) := by decide +kernel
theorem dX0_rightThoughForgetting_23 : decode cX0_rightThoughForgetting 23 = .ok (.iconst 1, 1) := by decide +kernel
theorem dX0_rightThoughForgetting_24 : decode cX0_rightThoughForgetting 24 = .ok (.iadd, 1) := by decide +kernel
theorem dX0_rightThoughForgetting_25 : decode cX0_rightThoughForgetting 25 = .ok (.invokevirtual 27, 3) := by decide +kernel
theorem dX0_rightThoughForgetting_28 : decode cX0_rightThoughForgetting 28 = .ok (.ifCond .eq 22, 3) := by decide +kernel
theorem dX0_rightThoughForgetting_31 : decode cX0_rightThoughForgetting 31 = .ok (.lload 6, 2) := by decide +kernel
theorem dX0_rightThoughForgetting_33 : decode cX0_rightThoughForgetting 33 = .ok (.iload 5, 2) := by decide +kernel
theorem dX0_rightThoughForgetting_35 : decode cX0_rightThoughForgetting 35 = .ok (.i2l, 1) := by decide +kernel
theorem dX0_rightThoughForgetting_36 : decode cX0_rightThoughForgetting 36 = .ok (.iload_n 3, 1) := by decide +kernel
theorem dX0_rightThoughForgetting_37 : decode cX0_rightThoughForgetting 37 = .ok (.iconst 1, 1) := by decide +kernel
theorem dX0_rightThoughForgetting_38 : decode cX0_rightThoughForgetting 38 = .ok (.isub, 1) := by decide +kernel
theorem dX0_rightThoughForgetting_39 : decode cX0_rightThoughForgetting 39 = .ok (.iload 8, 2) := by decide +kernel
theorem dX0_rightThoughForgetting_41 : decode cX0_rightThoughForgetting 41 = .ok (.iload 5, 2) := by decide +kernel
theorem dX0_rightThoughForgetting_43 : decode cX0_rightThoughForgetting 43 = .ok (.invokestatic 33, 3) := by decide +kernel
theorem dX0_rightThoughForgetting_46 : decode cX0_rightThoughForgetting 46 = .ok (.lmul, 1) := by decide +kernel
theorem dX0_rightThoughForgetting_47 : decode cX0_rightThoughForgetting 47 = .ok (.ladd, 1) := by decide +kernel
theorem dX0_rightThoughForgetting_48 : decode cX0_rightThoughForgetting 48 = .ok (.lstore 6, 2) := by decide +kernel
theorem dX0_rightThoughForgetting_50 : decode cX0_rightThoughForgetting 50 = .ok (.iinc 8 1, 3) := by decide +kernel
theorem dX0_rightThoughForgetting_53 : decode cX0_rightThoughForgetting 53 = .ok (.goto (-40), 3) := by decide +kernel
theorem dX0_rightThoughForgetting_56 : decode cX0_rightThoughForgetting 56 = .ok (.lload 6, 2) := by decide +kernel
theorem dX0_rightThoughForgetting_58 : decode cX0_rightThoughForgetting 58 = .ok (.lreturn, 1) := by decide +kernel
theorem dX1_init_0 : decode cX1_init 0 = .ok (.aload_n 0, 1) := by decide +kernel
theorem dX1_init_1 : decode cX1_init 1 = .ok (.invokespecial 3, 3) := by decide +kernel
theorem dX1_init_4 : decode cX1_init 4 = .ok (.aload_n 0, 1) := by decide +kernel
theorem dX1_init_5 : decode cX1_init 5 = .ok (.bipush 10, 2) := by decide +kernel
theorem dX1_init_7 : decode cX1_init 7 = .ok (.newarray .int, 2) := by decide +kernel
theorem dX1_init_9 : decode cX1_init 9 = .ok (.putfield 9, 3) := by decide +kernel
theorem dX1_init_12 : decode cX1_init 12 = .ok (.return_, 1) := by decide +kernel
theorem dX1_sow_0 : decode cX1_sow 0 = .ok (.aload_n 0, 1) := by decide +kernel
theorem dX1_sow_1 : decode cX1_sow 1 = .ok (.getfield 15, 3) := by decide +kernel
theorem dX1_sow_4 : decode cX1_sow 4 = .ok (.lstore_n 3, 1) := by decide +kernel
theorem dX1_sow_5 : decode cX1_sow 5 = .ok (.aload_n 0, 1) := by decide +kernel
theorem dX1_sow_6 : decode cX1_sow 6 = .ok (.lload_n 1, 1) := by decide +kernel
theorem dX1_sow_7 : decode cX1_sow 7 = .ok (.putfield 15, 3) := by decide +kernel
theorem dX1_sow_10 : decode cX1_sow 10 = .ok (.lload_n 3, 1) := by decide +kernel
theorem dX1_sow_11 : decode cX1_sow 11 = .ok (.lreturn, 1) := by decide +kernel
theorem dX1_gain_0 : decode cX1_gain 0 = .ok (.aload_n 0, 1) := by decide +kernel
theorem dX1_gain_1 : decode cX1_gain 1 = .ok (.getfield 9, 3) := by decide +kernel
theorem dX1_gain_4 : decode cX1_gain 4 = .ok (.iconst 0, 1) := by decide +kernel
theorem dX1_gain_5 : decode cX1_gain 5 = .ok (.invokestatic 19, 3) := by decide +kernel
theorem dX1_gain_8 : decode cX1_gain 8 = .ok (.bipush (-9), 2) := by decide +kernel
theorem dX1_gain_10 : decode cX1_gain 10 = .ok (.istore 4, 2) := by decide +kernel
theorem dX1_gain_12 : decode cX1_gain 12 = .ok (.iconst 0, 1) := by decide +kernel
theorem dX1_gain_13 : decode cX1_gain 13 = .ok (.istore 5, 2) := by decide +kernel
theorem dX1_gain_15 : decode cX1_gain 15 = .ok (.iload 5, 2) := by decide +kernel
theorem dX1_gain_17 : decode cX1_gain 17 = .ok (.iload_n 3, 1) := by decide +kernel
theorem dX1_gain_18 : decode cX1_gain 18 = .ok (.if_icmp .ge 45, 3) := by decide +kernel
theorem dX1_gain_21 : decode cX1_gain 21 = .ok (.aload_n 0, 1) := by decide +kernel
theorem dX1_gain_22 : decode cX1_gain 22 = .ok (.aload_n 1, 1) := by decide +kernel
theorem dX1_gain_23 : decode cX1_gain 23 = .ok (.invokevirtual 25, 3) := by decide +kernel
theorem dX1_gain_26 : decode cX1_gain 26 = .ok (.istore 6, 2) := by decide +kernel
theorem dX1_gain_28 : decode cX1_gain 28 = .ok (.iload 6, 2) := by decide +kernel
theorem dX1_gain_30 : decode cX1_gain 30 = .ok (.invokestatic 29, 3) := by decide +kernel
theorem dX1_gain_33 : decode cX1_gain 33 = .ok (.ifCond .eq 14, 3) := by decide +kernel
theorem dX1_gain_36 : decode cX1_gain 36 = .ok (.aload_n 0, 1) := by decide +kernel
theorem dX1_gain_37 : decode cX1_gain 37 = .ok (.getfield 9, 3) := by decide +kernel
theorem dX1_gain_40 : decode cX1_gain 40 = .ok (.iload 6, 2) := by decide +kernel
theorem dX1_gain_42 : decode cX1_gain 42 = .ok (.dup2, 1) := by decide +kernel
theorem dX1_gain_43 : decode cX1_gain 43 = .ok (.iaload, 1) := by decide +kernel
theorem dX1_gain_44 : decode cX1_gain 44 = .ok (.iconst 1, 1) := by decide +kernel
theorem dX1_gain_45 : decode cX1_gain 45 = .ok (.iadd, 1) := by decide +kernel
theorem dX1_gain_46 : decode cX1_gain 46 = .ok (.iastore, 1) := by decide +kernel
theorem dX1_gain_47 : decode cX1_gain 47 = .ok (.iload 5, 2) := by decide +kernel
theorem dX1_gain_49 : decode cX1_gain 49 = .ok (.iload_n 2, 1) := by decide +kernel
theorem dX1_gain_50 : decode cX1_gain 50 = .ok (.if_icmp .ne 7, 3) := by decide +kernel
theorem dX1_gain_53 : decode cX1_gain 53 = .ok (.iload 6, 2) := by decide +kernel
theorem dX1_gain_55 : decode cX1_gain 55 = .ok (.istore 4, 2) := by decide +kernel
theorem dX1_gain_57 : decode cX1_gain 57 = .ok (.iinc 5 1, 3) := by decide +kernel
theorem dX1_gain_60 : decode cX1_gain 60 = .ok (.goto (-45), 3) := by decide +kernel
theorem dX1_gain_63 : decode cX1_gain 63 = .ok (.iload 4, 2) := by decide +kernel
theorem dX1_gain_65 : decode cX1_gain 65 = .ok (.invokestatic 29, 3) := by decide +kernel
theorem dX1_gain_68 : decode cX1_gain 68 = .ok (.ifCond .eq 27, 3) := by decide +kernel
theorem dX1_gain_71 : decode cX1_gain 71 = .ok (.aload_n 1, 1) := by decide +kernel
theorem dX1_gain_72 : decode cX1_gain 72 = .ok (.iload 4, 2) := by decide +kernel
theorem dX1_gain_74 : decode cX1_gain 74 = .ok (.aload_n 0, 1) := by decide +kernel
theorem dX1_gain_75 : decode cX1_gain 75 = .ok (.getfield 9, 3) := by decide +kernel
theorem dX1_gain_78 : decode cX1_gain 78 = .ok (.iload 4, 2) := by decide +kernel
theorem dX1_gain_80 : decode cX1_gain 80 = .ok (.iaload, 1) := by decide +kernel
theorem dX1_gain_81 : decode cX1_gain 81 = .ok (.aload_n 1, 1) := by decide +kernel
theorem dX1_gain_82 : decode cX1_gain 82 = .ok (.aload_n 0, 1) := by decide +kernel
theorem dX1_gain_83 : decode cX1_gain 83 = .ok (.getfield 9, 3) := by decide +kernel
theorem dX1_gain_86 : decode cX1_gain 86 = .ok (.invokevirtual 33, 3) := by decide +kernel
theorem dX1_gain_89 : decode cX1_gain 89 = .ok (.invokevirtual 39, 3) := by decide +kernel
theorem dX1_gain_92 : decode cX1_gain 92 = .ok (.goto 4, 3) := by decide +kernel
theorem dX1_gain_95 : decode cX1_gain 95 = .ok (.iconst 0, 1) := by decide +kernel
theorem dX1_gain_96 : decode cX1_gain 96 = .ok (.ireturn, 1) := by decide +kernel
theorem dX1_drawn_0 : decode cX1_drawn 0 = .ok (.aload_n 0, 1) := by decide +kernel
theorem dX1_drawn_1 : decode cX1_drawn 1 = .ok (.aload_n 0, 1) := by decide +kernel
theorem dX1_drawn_2 : decode cX1_drawn 2 = .ok (.getfield 15, 3) := by decide +kernel
theorem dX1_drawn_5 : decode cX1_drawn 5 = .ok (.ldc2_w 43, 3) := by decide +kernel
theorem dX1_drawn_8 : decode cX1_drawn 8 = .ok (.lmul, 1) := by decide +kernel
theorem dX1_drawn_9 : decode cX1_drawn 9 = .ok (.ldc2_w 45, 3) := by decide +kernel
theorem dX1_drawn_12 : decode cX1_drawn 12 = .ok (.ladd, 1) := by decide +kernel
theorem dX1_drawn_13 : decode cX1_drawn 13 = .ok (.putfield 15, 3) := by decide +kernel
theorem dX1_drawn_16 : decode cX1_drawn 16 = .ok (.bipush 10, 2) := by decide +kernel
theorem dX1_drawn_18 : decode cX1_drawn 18 = .ok (.aload_n 1, 1) := by decide +kernel
theorem dX1_drawn_19 : decode cX1_drawn 19 = .ok (.invokevirtual 47, 3) := by decide +kernel
theorem dX1_drawn_22 : decode cX1_drawn 22 = .ok (.isub, 1) := by decide +kernel
theorem dX1_drawn_23 : decode cX1_drawn 23 = .ok (.istore_n 2, 1) := by decide +kernel
theorem dX1_drawn_24 : decode cX1_drawn 24 = .ok (.iload_n 2, 1) := by decide +kernel
theorem dX1_drawn_25 : decode cX1_drawn 25 = .ok (.ifCond .le 20, 3) := by decide +kernel
theorem dX1_drawn_28 : decode cX1_drawn 28 = .ok (.aload_n 1, 1) := by decide +kernel
theorem dX1_drawn_29 : decode cX1_drawn 29 = .ok (.aload_n 0, 1) := by decide +kernel
theorem dX1_drawn_30 : decode cX1_drawn 30 = .ok (.getfield 15, 3) := by decide +kernel
theorem dX1_drawn_33 : decode cX1_drawn 33 = .ok (.bipush 33, 2) := by decide +kernel
theorem dX1_drawn_35 : decode cX1_drawn 35 = .ok (.lushr, 1) := by decide +kernel
theorem dX1_drawn_36 : decode cX1_drawn 36 = .ok (.l2i, 1) := by decide +kernel
theorem dX1_drawn_37 : decode cX1_drawn 37 = .ok (.iload_n 2, 1) := by decide +kernel
theorem dX1_drawn_38 : decode cX1_drawn 38 = .ok (.irem, 1) := by decide +kernel
theorem dX1_drawn_39 : decode cX1_drawn 39 = .ok (.invokevirtual 51, 3) := by decide +kernel
theorem dX1_drawn_42 : decode cX1_drawn 42 = .ok (.goto 5, 3) := by decide +kernel
theorem dX1_drawn_45 : decode cX1_drawn 45 = .ok (.bipush (-9), 2) := by decide +kernel
theorem dX1_drawn_47 : decode cX1_drawn 47 = .ok (.ireturn, 1) := by decide +kernel
theorem dX2_init_0 : decode cX2_init 0 = .ok (.aload_n 0, 1) := by decide +kernel
theorem dX2_init_1 : decode cX2_init 1 = .ok (.invokespecial 3, 3) := by decide +kernel
theorem dX2_init_4 : decode cX2_init 4 = .ok (.aload_n 0, 1) := by decide +kernel
theorem dX2_init_5 : decode cX2_init 5 = .ok (.bipush 16, 2) := by decide +kernel
theorem dX2_init_7 : decode cX2_init 7 = .ok (.newarray .long, 2) := by decide +kernel
theorem dX2_init_9 : decode cX2_init 9 = .ok (.putfield 9, 3) := by decide +kernel
theorem dX2_init_12 : decode cX2_init 12 = .ok (.aload_n 0, 1) := by decide +kernel
theorem dX2_init_13 : decode cX2_init 13 = .ok (.iconst 2, 1) := by decide +kernel
theorem dX2_init_14 : decode cX2_init 14 = .ok (.newarray .long, 2) := by decide +kernel
theorem dX2_init_16 : decode cX2_init 16 = .ok (.dup, 1) := by decide +kernel
theorem dX2_init_17 : decode cX2_init 17 = .ok (.iconst 0, 1) := by decide +kernel
theorem dX2_init_18 : decode cX2_init 18 = .ok (.ldc2_w 15, 3) := by decide +kernel
theorem dX2_init_21 : decode cX2_init 21 = .ok (.lastore, 1) := by decide +kernel
theorem dX2_init_22 : decode cX2_init 22 = .ok (.dup, 1) := by decide +kernel
theorem dX2_init_23 : decode cX2_init 23 = .ok (.iconst 1, 1) := by decide +kernel
theorem dX2_init_24 : decode cX2_init 24 = .ok (.ldc2_w 15, 3) := by decide +kernel
theorem dX2_init_27 : decode cX2_init 27 = .ok (.lastore, 1) := by decide +kernel
theorem dX2_init_28 : decode cX2_init 28 = .ok (.putfield 17, 3) := by decide +kernel
theorem dX2_init_31 : decode cX2_init 31 = .ok (.return_, 1) := by decide +kernel
theorem dX2_acts_0 : decode cX2_acts 0 = .ok (.aload_n 0, 1) := by decide +kernel
theorem dX2_acts_1 : decode cX2_acts 1 = .ok (.getfield 20, 3) := by decide +kernel
theorem dX2_acts_4 : decode cX2_acts 4 = .ok (.ireturn, 1) := by decide +kernel
theorem dX2_addAct_0 : decode cX2_addAct 0 = .ok (.aload_n 0, 1) := by decide +kernel
theorem dX2_addAct_1 : decode cX2_addAct 1 = .ok (.getfield 20, 3) := by decide +kernel
theorem dX2_addAct_4 : decode cX2_addAct 4 = .ok (.bipush 16, 2) := by decide +kernel
theorem dX2_addAct_6 : decode cX2_addAct 6 = .ok (.if_icmp .lt 24, 3) := by decide +kernel
theorem dX2_addAct_9 : decode cX2_addAct 9 = .ok (.aload_n 0, 1) := by decide +kernel
theorem dX2_addAct_10 : decode cX2_addAct 10 = .ok (.getfield 9, 3) := by decide +kernel
theorem dX2_addAct_13 : decode cX2_addAct 13 = .ok (.iconst 1, 1) := by decide +kernel
theorem dX2_addAct_14 : decode cX2_addAct 14 = .ok (.aload_n 0, 1) := by decide +kernel
theorem dX2_addAct_15 : decode cX2_addAct 15 = .ok (.getfield 9, 3) := by decide +kernel
theorem dX2_addAct_18 : decode cX2_addAct 18 = .ok (.iconst 0, 1) := by decide +kernel
theorem dX2_addAct_19 : decode cX2_addAct 19 = .ok (.bipush 15, 2) := by decide +kernel
theorem dX2_addAct_21 : decode cX2_addAct 21 = .ok (.invokestatic 24, 3) := by decide +kernel
theorem dX2_addAct_24 : decode cX2_addAct 24 = .ok (.aload_n 0, 1) := by decide +kernel
theorem dX2_addAct_25 : decode cX2_addAct 25 = .ok (.bipush 15, 2) := by decide +kernel
theorem dX2_addAct_27 : decode cX2_addAct 27 = .ok (.putfield 20, 3) := by decide +kernel
theorem dX2_addAct_30 : decode cX2_addAct 30 = .ok (.aload_n 0, 1) := by decide +kernel
theorem dX2_addAct_31 : decode cX2_addAct 31 = .ok (.getfield 9, 3) := by decide +kernel
theorem dX2_addAct_34 : decode cX2_addAct 34 = .ok (.aload_n 0, 1) := by decide +kernel
theorem dX2_addAct_35 : decode cX2_addAct 35 = .ok (.getfield 20, 3) := by decide +kernel
theorem dX2_addAct_38 : decode cX2_addAct 38 = .ok (.lload_n 1, 1) := by decide +kernel
theorem dX2_addAct_39 : decode cX2_addAct 39 = .ok (.lastore, 1) := by decide +kernel
theorem dX2_addAct_40 : decode cX2_addAct 40 = .ok (.aload_n 0, 1) := by decide +kernel
theorem dX2_addAct_41 : decode cX2_addAct 41 = .ok (.dup, 1) := by decide +kernel
theorem dX2_addAct_42 : decode cX2_addAct 42 = .ok (.getfield 20, 3) := by decide +kernel
theorem dX2_addAct_45 : decode cX2_addAct 45 = .ok (.iconst 1, 1) := by decide +kernel
theorem dX2_addAct_46 : decode cX2_addAct 46 = .ok (.iadd, 1) := by decide +kernel
theorem dX2_addAct_47 : decode cX2_addAct 47 = .ok (.putfield 20, 3) := by decide +kernel
theorem dX2_addAct_50 : decode cX2_addAct 50 = .ok (.return_, 1) := by decide +kernel
theorem dX2_takeAct_0 : decode cX2_takeAct 0 = .ok (.aload_n 0, 1) := by decide +kernel
theorem dX2_takeAct_1 : decode cX2_takeAct 1 = .ok (.getfield 20, 3) := by decide +kernel
theorem dX2_takeAct_4 : decode cX2_takeAct 4 = .ok (.iconst 1, 1) := by decide +kernel
theorem dX2_takeAct_5 : decode cX2_takeAct 5 = .ok (.if_icmp .ge 5, 3) := by decide +kernel
theorem dX2_takeAct_8 : decode cX2_takeAct 8 = .ok (.lconst 0, 1) := by decide +kernel
theorem dX2_takeAct_9 : decode cX2_takeAct 9 = .ok (.lreturn, 1) := by decide +kernel
theorem dX2_takeAct_10 : decode cX2_takeAct 10 = .ok (.aload_n 0, 1) := by decide +kernel
theorem dX2_takeAct_11 : decode cX2_takeAct 11 = .ok (.dup, 1) := by decide +kernel
theorem dX2_takeAct_12 : decode cX2_takeAct 12 = .ok (.getfield 20, 3) := by decide +kernel
theorem dX2_takeAct_15 : decode cX2_takeAct 15 = .ok (.iconst 1, 1) := by decide +kernel
theorem dX2_takeAct_16 : decode cX2_takeAct 16 = .ok (.isub, 1) := by decide +kernel
theorem dX2_takeAct_17 : decode cX2_takeAct 17 = .ok (.putfield 20, 3) := by decide +kernel
theorem dX2_takeAct_20 : decode cX2_takeAct 20 = .ok (.aload_n 0, 1) := by decide +kernel
theorem dX2_takeAct_21 : decode cX2_takeAct 21 = .ok (.getfield 9, 3) := by decide +kernel
theorem dX2_takeAct_24 : decode cX2_takeAct 24 = .ok (.aload_n 0, 1) := by decide +kernel
theorem dX2_takeAct_25 : decode cX2_takeAct 25 = .ok (.getfield 20, 3) := by decide +kernel
theorem dX2_takeAct_28 : decode cX2_takeAct 28 = .ok (.laload, 1) := by decide +kernel
theorem dX2_takeAct_29 : decode cX2_takeAct 29 = .ok (.lreturn, 1) := by decide +kernel
theorem dX2_dropActs_0 : decode cX2_dropActs 0 = .ok (.aload_n 0, 1) := by decide +kernel
theorem dX2_dropActs_1 : decode cX2_dropActs 1 = .ok (.iconst 0, 1) := by decide +kernel
theorem dX2_dropActs_2 : decode cX2_dropActs 2 = .ok (.putfield 20, 3) := by decide +kernel
theorem dX2_dropActs_5 : decode cX2_dropActs 5 = .ok (.return_, 1) := by decide +kernel
theorem dX2_putSlot_0 : decode cX2_putSlot 0 = .ok (.iload_n 1, 1) := by decide +kernel
theorem dX2_putSlot_1 : decode cX2_putSlot 1 = .ok (.invokestatic 30, 3) := by decide +kernel
theorem dX2_putSlot_4 : decode cX2_putSlot 4 = .ok (.ifCond .eq 10, 3) := by decide +kernel
theorem dX2_putSlot_7 : decode cX2_putSlot 7 = .ok (.aload_n 0, 1) := by decide +kernel
theorem dX2_putSlot_8 : decode cX2_putSlot 8 = .ok (.getfield 17, 3) := by decide +kernel
theorem dX2_putSlot_11 : decode cX2_putSlot 11 = .ok (.iload_n 1, 1) := by decide +kernel
theorem dX2_putSlot_12 : decode cX2_putSlot 12 = .ok (.lload_n 2, 1) := by decide +kernel
theorem dX2_putSlot_13 : decode cX2_putSlot 13 = .ok (.lastore, 1) := by decide +kernel
theorem dX2_putSlot_14 : decode cX2_putSlot 14 = .ok (.return_, 1) := by decide +kernel
theorem dX2_slot_0 : decode cX2_slot 0 = .ok (.iload_n 1, 1) := by decide +kernel
theorem dX2_slot_1 : decode cX2_slot 1 = .ok (.invokestatic 30, 3) := by decide +kernel
theorem dX2_slot_4 : decode cX2_slot 4 = .ok (.ifCond .eq 12, 3) := by decide +kernel
theorem dX2_slot_7 : decode cX2_slot 7 = .ok (.aload_n 0, 1) := by decide +kernel
theorem dX2_slot_8 : decode cX2_slot 8 = .ok (.getfield 17, 3) := by decide +kernel
theorem dX2_slot_11 : decode cX2_slot 11 = .ok (.iload_n 1, 1) := by decide +kernel
theorem dX2_slot_12 : decode cX2_slot 12 = .ok (.laload, 1) := by decide +kernel
theorem dX2_slot_13 : decode cX2_slot 13 = .ok (.goto 6, 3) := by decide +kernel
theorem dX2_slot_16 : decode cX2_slot 16 = .ok (.ldc2_w 15, 3) := by decide +kernel
theorem dX2_slot_19 : decode cX2_slot 19 = .ok (.lreturn, 1) := by decide +kernel
theorem dX2_dropSlots_0 : decode cX2_dropSlots 0 = .ok (.aload_n 0, 1) := by decide +kernel
theorem dX2_dropSlots_1 : decode cX2_dropSlots 1 = .ok (.getfield 17, 3) := by decide +kernel
theorem dX2_dropSlots_4 : decode cX2_dropSlots 4 = .ok (.ldc2_w 15, 3) := by decide +kernel
theorem dX2_dropSlots_7 : decode cX2_dropSlots 7 = .ok (.invokestatic 34, 3) := by decide +kernel
theorem dX2_dropSlots_10 : decode cX2_dropSlots 10 = .ok (.return_, 1) := by decide +kernel
theorem dX3_init_0 : decode cX3_init 0 = .ok (.aload_n 0, 1) := by decide +kernel
theorem dX3_init_1 : decode cX3_init 1 = .ok (.invokespecial 3, 3) := by decide +kernel
theorem dX3_init_4 : decode cX3_init 4 = .ok (.aload_n 0, 1) := by decide +kernel
theorem dX3_init_5 : decode cX3_init 5 = .ok (.bipush 10, 2) := by decide +kernel
theorem dX3_init_7 : decode cX3_init 7 = .ok (.newarray .int, 2) := by decide +kernel
theorem dX3_init_9 : decode cX3_init 9 = .ok (.putfield 9, 3) := by decide +kernel
theorem dX3_init_12 : decode cX3_init 12 = .ok (.aload_n 0, 1) := by decide +kernel
theorem dX3_init_13 : decode cX3_init 13 = .ok (.bipush 10, 2) := by decide +kernel
theorem dX3_init_15 : decode cX3_init 15 = .ok (.newarray .int, 2) := by decide +kernel
theorem dX3_init_17 : decode cX3_init 17 = .ok (.putfield 15, 3) := by decide +kernel
theorem dX3_init_20 : decode cX3_init 20 = .ok (.return_, 1) := by decide +kernel
theorem dX3_correct_0 : decode cX3_correct 0 = .ok (.aload_n 2, 1) := by decide +kernel
theorem dX3_correct_1 : decode cX3_correct 1 = .ok (.invokevirtual 18, 3) := by decide +kernel
theorem dX3_correct_4 : decode cX3_correct 4 = .ok (.iconst 0, 1) := by decide +kernel
theorem dX3_correct_5 : decode cX3_correct 5 = .ok (.aload_n 0, 1) := by decide +kernel
theorem dX3_correct_6 : decode cX3_correct 6 = .ok (.getfield 9, 3) := by decide +kernel
theorem dX3_correct_9 : decode cX3_correct 9 = .ok (.iconst 0, 1) := by decide +kernel
theorem dX3_correct_10 : decode cX3_correct 10 = .ok (.bipush 10, 2) := by decide +kernel
theorem dX3_correct_12 : decode cX3_correct 12 = .ok (.invokestatic 24, 3) := by decide +kernel
theorem dX3_correct_15 : decode cX3_correct 15 = .ok (.iconst 0, 1) := by decide +kernel
theorem dX3_correct_16 : decode cX3_correct 16 = .ok (.istore_n 3, 1) := by decide +kernel
theorem dX3_correct_17 : decode cX3_correct 17 = .ok (.iconst 0, 1) := by decide +kernel
theorem dX3_correct_18 : decode cX3_correct 18 = .ok (.istore 4, 2) := by decide +kernel
theorem dX3_correct_20 : decode cX3_correct 20 = .ok (.iload 4, 2) := by decide +kernel
theorem dX3_correct_22 : decode cX3_correct 22 = .ok (.aload_n 2, 1) := by decide +kernel
theorem dX3_correct_23 : decode cX3_correct 23 = .ok (.invokevirtual 30, 3) := by decide +kernel
theorem dX3_correct_26 : decode cX3_correct 26 = .ok (.if_icmp .ge 47, 3) := by decide +kernel
theorem dX3_correct_29 : decode cX3_correct 29 = .ok (.aload_n 2, 1) := by decide +kernel
theorem dX3_correct_30 : decode cX3_correct 30 = .ok (.iload 4, 2) := by decide +kernel
theorem dX3_correct_32 : decode cX3_correct 32 = .ok (.invokevirtual 34, 3) := by decide +kernel
theorem dX3_correct_35 : decode cX3_correct 35 = .ok (.istore 5, 2) := by decide +kernel
theorem dX3_correct_37 : decode cX3_correct 37 = .ok (.aload_n 1, 1) := by decide +kernel
theorem dX3_correct_38 : decode cX3_correct 38 = .ok (.iload 5, 2) := by decide +kernel
theorem dX3_correct_40 : decode cX3_correct 40 = .ok (.aload_n 0, 1) := by decide +kernel
theorem dX3_correct_41 : decode cX3_correct 41 = .ok (.getfield 9, 3) := by decide +kernel
theorem dX3_correct_44 : decode cX3_correct 44 = .ok (.invokevirtual 38, 3) := by decide +kernel
theorem dX3_correct_47 : decode cX3_correct 47 = .ok (.istore 6, 2) := by decide +kernel
theorem dX3_correct_49 : decode cX3_correct 49 = .ok (.iload 6, 2) := by decide +kernel
theorem dX3_correct_51 : decode cX3_correct 51 = .ok (.iload 5, 2) := by decide +kernel
theorem dX3_correct_53 : decode cX3_correct 53 = .ok (.if_icmp .eq 14, 3) := by decide +kernel
theorem dX3_correct_56 : decode cX3_correct 56 = .ok (.aload_n 2, 1) := by decide +kernel
theorem dX3_correct_57 : decode cX3_correct 57 = .ok (.iload 4, 2) := by decide +kernel
theorem dX3_correct_59 : decode cX3_correct 59 = .ok (.iload 6, 2) := by decide +kernel
theorem dX3_correct_61 : decode cX3_correct 61 = .ok (.invokevirtual 44, 3) := by decide +kernel
theorem dX3_correct_64 : decode cX3_correct 64 = .ok (.iinc 3 1, 3) := by decide +kernel
theorem dX3_correct_67 : decode cX3_correct 67 = .ok (.iinc 4 1, 3) := by decide +kernel
theorem dX3_correct_70 : decode cX3_correct 70 = .ok (.goto (-50), 3) := by decide +kernel
theorem dX3_correct_73 : decode cX3_correct 73 = .ok (.iload_n 3, 1) := by decide +kernel
theorem dX3_correct_74 : decode cX3_correct 74 = .ok (.ireturn, 1) := by decide +kernel
theorem dX3_roundsTillRest_0 : decode cX3_roundsTillRest 0 = .ok (.aload_n 2, 1) := by decide +kernel
theorem dX3_roundsTillRest_1 : decode cX3_roundsTillRest 1 = .ok (.iconst 0, 1) := by decide +kernel
theorem dX3_roundsTillRest_2 : decode cX3_roundsTillRest 2 = .ok (.aload_n 0, 1) := by decide +kernel
theorem dX3_roundsTillRest_3 : decode cX3_roundsTillRest 3 = .ok (.getfield 9, 3) := by decide +kernel
theorem dX3_roundsTillRest_6 : decode cX3_roundsTillRest 6 = .ok (.iconst 0, 1) := by decide +kernel
theorem dX3_roundsTillRest_7 : decode cX3_roundsTillRest 7 = .ok (.bipush 10, 2) := by decide +kernel
theorem dX3_roundsTillRest_9 : decode cX3_roundsTillRest 9 = .ok (.invokestatic 24, 3) := by decide +kernel
theorem dX3_roundsTillRest_12 : decode cX3_roundsTillRest 12 = .ok (.iconst 0, 1) := by decide +kernel
theorem dX3_roundsTillRest_13 : decode cX3_roundsTillRest 13 = .ok (.istore_n 3, 1) := by decide +kernel
theorem dX3_roundsTillRest_14 : decode cX3_roundsTillRest 14 = .ok (.iload_n 3, 1) := by decide +kernel
theorem dX3_roundsTillRest_15 : decode cX3_roundsTillRest 15 = .ok (.bipush 60, 2) := by decide +kernel
theorem dX3_roundsTillRest_17 : decode cX3_roundsTillRest 17 = .ok (.if_icmp .gt 34, 3) := by decide +kernel
theorem dX3_roundsTillRest_20 : decode cX3_roundsTillRest 20 = .ok (.aload_n 0, 1) := by decide +kernel
theorem dX3_roundsTillRest_21 : decode cX3_roundsTillRest 21 = .ok (.aload_n 1, 1) := by decide +kernel
theorem dX3_roundsTillRest_22 : decode cX3_roundsTillRest 22 = .ok (.invokevirtual 48, 3) := by decide +kernel
theorem dX3_roundsTillRest_25 : decode cX3_roundsTillRest 25 = .ok (.ifCond .ne 5, 3) := by decide +kernel
theorem dX3_roundsTillRest_28 : decode cX3_roundsTillRest 28 = .ok (.iload_n 3, 1) := by decide +kernel
theorem dX3_roundsTillRest_29 : decode cX3_roundsTillRest 29 = .ok (.ireturn, 1) := by decide +kernel
theorem dX3_roundsTillRest_30 : decode cX3_roundsTillRest 30 = .ok (.aload_n 0, 1) := by decide +kernel
theorem dX3_roundsTillRest_31 : decode cX3_roundsTillRest 31 = .ok (.getfield 15, 3) := by decide +kernel
theorem dX3_roundsTillRest_34 : decode cX3_roundsTillRest 34 = .ok (.iconst 0, 1) := by decide +kernel
theorem dX3_roundsTillRest_35 : decode cX3_roundsTillRest 35 = .ok (.aload_n 0, 1) := by decide +kernel
theorem dX3_roundsTillRest_36 : decode cX3_roundsTillRest 36 = .ok (.getfield 9, 3) := by decide +kernel
theorem dX3_roundsTillRest_39 : decode cX3_roundsTillRest 39 = .ok (.iconst 0, 1) := by decide +kernel
theorem dX3_roundsTillRest_40 : decode cX3_roundsTillRest 40 = .ok (.bipush 10, 2) := by decide +kernel
theorem dX3_roundsTillRest_42 : decode cX3_roundsTillRest 42 = .ok (.invokestatic 24, 3) := by decide +kernel
theorem dX3_roundsTillRest_45 : decode cX3_roundsTillRest 45 = .ok (.iinc 3 1, 3) := by decide +kernel
theorem dX3_roundsTillRest_48 : decode cX3_roundsTillRest 48 = .ok (.goto (-34), 3) := by decide +kernel
theorem dX3_roundsTillRest_51 : decode cX3_roundsTillRest 51 = .ok (.bipush (-9), 2) := by decide +kernel
theorem dX3_roundsTillRest_53 : decode cX3_roundsTillRest 53 = .ok (.ireturn, 1) := by decide +kernel
theorem dX3_changes_0 : decode cX3_changes 0 = .ok (.iconst 0, 1) := by decide +kernel
theorem dX3_changes_1 : decode cX3_changes 1 = .ok (.istore_n 2, 1) := by decide +kernel
theorem dX3_changes_2 : decode cX3_changes 2 = .ok (.aload_n 0, 1) := by decide +kernel
theorem dX3_changes_3 : decode cX3_changes 3 = .ok (.getfield 15, 3) := by decide +kernel
theorem dX3_changes_6 : decode cX3_changes 6 = .ok (.iconst 0, 1) := by decide +kernel
theorem dX3_changes_7 : decode cX3_changes 7 = .ok (.invokestatic 52, 3) := by decide +kernel
theorem dX3_changes_10 : decode cX3_changes 10 = .ok (.iconst 0, 1) := by decide +kernel
theorem dX3_changes_11 : decode cX3_changes 11 = .ok (.istore_n 3, 1) := by decide +kernel
theorem dX3_changes_12 : decode cX3_changes 12 = .ok (.iload_n 3, 1) := by decide +kernel
theorem dX3_changes_13 : decode cX3_changes 13 = .ok (.bipush 10, 2) := by decide +kernel
theorem dX3_changes_15 : decode cX3_changes 15 = .ok (.if_icmp .ge 69, 3) := by decide +kernel
theorem dX3_changes_18 : decode cX3_changes 18 = .ok (.aload_n 0, 1) := by decide +kernel
theorem dX3_changes_19 : decode cX3_changes 19 = .ok (.getfield 9, 3) := by decide +kernel
theorem dX3_changes_22 : decode cX3_changes 22 = .ok (.iload_n 3, 1) := by decide +kernel
theorem dX3_changes_23 : decode cX3_changes 23 = .ok (.iaload, 1) := by decide +kernel
theorem dX3_changes_24 : decode cX3_changes 24 = .ok (.ifCond .le 54, 3) := by decide +kernel
theorem dX3_changes_27 : decode cX3_changes 27 = .ok (.aload_n 1, 1) := by decide +kernel
theorem dX3_changes_28 : decode cX3_changes 28 = .ok (.iload_n 3, 1) := by decide +kernel
theorem dX3_changes_29 : decode cX3_changes 29 = .ok (.aload_n 0, 1) := by decide +kernel
theorem dX3_changes_30 : decode cX3_changes 30 = .ok (.getfield 9, 3) := by decide +kernel
theorem dX3_changes_33 : decode cX3_changes 33 = .ok (.invokevirtual 38, 3) := by decide +kernel
theorem dX3_changes_36 : decode cX3_changes 36 = .ok (.istore 4, 2) := by decide +kernel
theorem dX3_changes_38 : decode cX3_changes 38 = .ok (.iload 4, 2) := by decide +kernel
theorem dX3_changes_40 : decode cX3_changes 40 = .ok (.invokestatic 58, 3) := by decide +kernel
theorem dX3_changes_43 : decode cX3_changes 43 = .ok (.ifCond .eq 35, 3) := by decide +kernel
theorem dX3_changes_46 : decode cX3_changes 46 = .ok (.aload_n 0, 1) := by decide +kernel
theorem dX3_changes_47 : decode cX3_changes 47 = .ok (.getfield 15, 3) := by decide +kernel
theorem dX3_changes_50 : decode cX3_changes 50 = .ok (.iload 4, 2) := by decide +kernel
theorem dX3_changes_52 : decode cX3_changes 52 = .ok (.dup2, 1) := by decide +kernel
theorem dX3_changes_53 : decode cX3_changes 53 = .ok (.iaload, 1) := by decide +kernel
theorem dX3_changes_54 : decode cX3_changes 54 = .ok (.aload_n 0, 1) := by decide +kernel
theorem dX3_changes_55 : decode cX3_changes 55 = .ok (.getfield 9, 3) := by decide +kernel
theorem dX3_changes_58 : decode cX3_changes 58 = .ok (.iload_n 3, 1) := by decide +kernel
theorem dX3_changes_59 : decode cX3_changes 59 = .ok (.iaload, 1) := by decide +kernel
theorem dX3_changes_60 : decode cX3_changes 60 = .ok (.iadd, 1) := by decide +kernel
theorem dX3_changes_61 : decode cX3_changes 61 = .ok (.iastore, 1) := by decide +kernel
theorem dX3_changes_62 : decode cX3_changes 62 = .ok (.iload_n 2, 1) := by decide +kernel
theorem dX3_changes_63 : decode cX3_changes 63 = .ok (.ifCond .ne 9, 3) := by decide +kernel
theorem dX3_changes_66 : decode cX3_changes 66 = .ok (.iload 4, 2) := by decide +kernel
theorem dX3_changes_68 : decode cX3_changes 68 = .ok (.iload_n 3, 1) := by decide +kernel
theorem dX3_changes_69 : decode cX3_changes 69 = .ok (.if_icmp .eq 7, 3) := by decide +kernel
theorem dX3_changes_72 : decode cX3_changes 72 = .ok (.iconst 1, 1) := by decide +kernel
theorem dX3_changes_73 : decode cX3_changes 73 = .ok (.goto 4, 3) := by decide +kernel
theorem dX3_changes_76 : decode cX3_changes 76 = .ok (.iconst 0, 1) := by decide +kernel
theorem dX3_changes_77 : decode cX3_changes 77 = .ok (.istore_n 2, 1) := by decide +kernel
theorem dX3_changes_78 : decode cX3_changes 78 = .ok (.iinc 3 1, 3) := by decide +kernel
theorem dX3_changes_81 : decode cX3_changes 81 = .ok (.goto (-69), 3) := by decide +kernel
theorem dX3_changes_84 : decode cX3_changes 84 = .ok (.iload_n 2, 1) := by decide +kernel
theorem dX3_changes_85 : decode cX3_changes 85 = .ok (.ireturn, 1) := by decide +kernel
theorem dX3_rowsAtRest_0 : decode cX3_rowsAtRest 0 = .ok (.aload_n 0, 1) := by decide +kernel
theorem dX3_rowsAtRest_1 : decode cX3_rowsAtRest 1 = .ok (.getfield 9, 3) := by decide +kernel
theorem dX3_rowsAtRest_4 : decode cX3_rowsAtRest 4 = .ok (.iconst 0, 1) := by decide +kernel
theorem dX3_rowsAtRest_5 : decode cX3_rowsAtRest 5 = .ok (.invokestatic 52, 3) := by decide +kernel
theorem dX3_rowsAtRest_8 : decode cX3_rowsAtRest 8 = .ok (.aload_n 1, 1) := by decide +kernel
theorem dX3_rowsAtRest_9 : decode cX3_rowsAtRest 9 = .ok (.aload_n 0, 1) := by decide +kernel
theorem dX3_rowsAtRest_10 : decode cX3_rowsAtRest 10 = .ok (.getfield 9, 3) := by decide +kernel
theorem dX3_rowsAtRest_13 : decode cX3_rowsAtRest 13 = .ok (.iconst 0, 1) := by decide +kernel
theorem dX3_rowsAtRest_14 : decode cX3_rowsAtRest 14 = .ok (.iload_n 2, 1) := by decide +kernel
theorem dX3_rowsAtRest_15 : decode cX3_rowsAtRest 15 = .ok (.invokestatic 62, 3) := by decide +kernel
theorem dX3_rowsAtRest_18 : decode cX3_rowsAtRest 18 = .ok (.ireturn, 1) := by decide +kernel
theorem dX3_restingRows_0 : decode cX3_restingRows 0 = .ok (.iload_n 3, 1) := by decide +kernel
theorem dX3_restingRows_1 : decode cX3_restingRows 1 = .ok (.ifCond .gt 17, 3) := by decide +kernel
theorem dX3_restingRows_4 : decode cX3_restingRows 4 = .ok (.aload_n 0, 1) := by decide +kernel
theorem dX3_restingRows_5 : decode cX3_restingRows 5 = .ok (.aload_n 1, 1) := by decide +kernel
theorem dX3_restingRows_6 : decode cX3_restingRows 6 = .ok (.invokevirtual 66, 3) := by decide +kernel
theorem dX3_restingRows_9 : decode cX3_restingRows 9 = .ok (.ifCond .eq 7, 3) := by decide +kernel
theorem dX3_restingRows_12 : decode cX3_restingRows 12 = .ok (.iconst 1, 1) := by decide +kernel
theorem dX3_restingRows_13 : decode cX3_restingRows 13 = .ok (.goto 4, 3) := by decide +kernel
theorem dX3_restingRows_16 : decode cX3_restingRows 16 = .ok (.iconst 0, 1) := by decide +kernel
theorem dX3_restingRows_17 : decode cX3_restingRows 17 = .ok (.ireturn, 1) := by decide +kernel
theorem dX3_restingRows_18 : decode cX3_restingRows 18 = .ok (.iload_n 2, 1) := by decide +kernel
theorem dX3_restingRows_19 : decode cX3_restingRows 19 = .ok (.invokestatic 58, 3) := by decide +kernel
theorem dX3_restingRows_22 : decode cX3_restingRows 22 = .ok (.ifCond .eq 9, 3) := by decide +kernel
theorem dX3_restingRows_25 : decode cX3_restingRows 25 = .ok (.iload_n 2, 1) := by decide +kernel
theorem dX3_restingRows_26 : decode cX3_restingRows 26 = .ok (.aload_n 1, 1) := by decide +kernel
theorem dX3_restingRows_27 : decode cX3_restingRows 27 = .ok (.arraylength, 1) := by decide +kernel
theorem dX3_restingRows_28 : decode cX3_restingRows 28 = .ok (.if_icmp .lt 5, 3) := by decide +kernel
theorem dX3_restingRows_31 : decode cX3_restingRows 31 = .ok (.iconst 0, 1) := by decide +kernel
theorem dX3_restingRows_32 : decode cX3_restingRows 32 = .ok (.ireturn, 1) := by decide +kernel
theorem dX3_restingRows_33 : decode cX3_restingRows 33 = .ok (.aload_n 0, 1) := by decide +kernel
theorem dX3_restingRows_34 : decode cX3_restingRows 34 = .ok (.aload_n 1, 1) := by decide +kernel
theorem dX3_restingRows_35 : decode cX3_restingRows 35 = .ok (.iload_n 2, 1) := by decide +kernel
theorem dX3_restingRows_36 : decode cX3_restingRows 36 = .ok (.iconst 1, 1) := by decide +kernel
theorem dX3_restingRows_37 : decode cX3_restingRows 37 = .ok (.iadd, 1) := by decide +kernel
theorem dX3_restingRows_38 : decode cX3_restingRows 38 = .ok (.iload_n 3, 1) := by decide +kernel
theorem dX3_restingRows_39 : decode cX3_restingRows 39 = .ok (.invokestatic 62, 3) := by decide +kernel
theorem dX3_restingRows_42 : decode cX3_restingRows 42 = .ok (.istore 4, 2) := by decide +kernel
theorem dX3_restingRows_44 : decode cX3_restingRows 44 = .ok (.aload_n 0, 1) := by decide +kernel
theorem dX3_restingRows_45 : decode cX3_restingRows 45 = .ok (.iload_n 2, 1) := by decide +kernel
theorem dX3_restingRows_46 : decode cX3_restingRows 46 = .ok (.invokevirtual 70, 3) := by decide +kernel
theorem dX3_restingRows_49 : decode cX3_restingRows 49 = .ok (.ifCond .eq 51, 3) := by decide +kernel
theorem dX3_restingRows_52 : decode cX3_restingRows 52 = .ok (.iconst 1, 1) := by decide +kernel
theorem dX3_restingRows_53 : decode cX3_restingRows 53 = .ok (.istore 5, 2) := by decide +kernel
theorem dX3_restingRows_55 : decode cX3_restingRows 55 = .ok (.iload 5, 2) := by decide +kernel
theorem dX3_restingRows_57 : decode cX3_restingRows 57 = .ok (.iload_n 3, 1) := by decide +kernel
theorem dX3_restingRows_58 : decode cX3_restingRows 58 = .ok (.if_icmp .gt 38, 3) := by decide +kernel
theorem dX3_restingRows_61 : decode cX3_restingRows 61 = .ok (.aload_n 1, 1) := by decide +kernel
theorem dX3_restingRows_62 : decode cX3_restingRows 62 = .ok (.iload_n 2, 1) := by decide +kernel
theorem dX3_restingRows_63 : decode cX3_restingRows 63 = .ok (.iload 5, 2) := by decide +kernel
theorem dX3_restingRows_65 : decode cX3_restingRows 65 = .ok (.iastore, 1) := by decide +kernel
theorem dX3_restingRows_66 : decode cX3_restingRows 66 = .ok (.iload 4, 2) := by decide +kernel
theorem dX3_restingRows_68 : decode cX3_restingRows 68 = .ok (.iload_n 3, 1) := by decide +kernel
theorem dX3_restingRows_69 : decode cX3_restingRows 69 = .ok (.iload 5, 2) := by decide +kernel
theorem dX3_restingRows_71 : decode cX3_restingRows 71 = .ok (.invokestatic 73, 3) := by decide +kernel
theorem dX3_restingRows_74 : decode cX3_restingRows 74 = .ok (.aload_n 0, 1) := by decide +kernel
theorem dX3_restingRows_75 : decode cX3_restingRows 75 = .ok (.aload_n 1, 1) := by decide +kernel
theorem dX3_restingRows_76 : decode cX3_restingRows 76 = .ok (.iload_n 2, 1) := by decide +kernel
theorem dX3_restingRows_77 : decode cX3_restingRows 77 = .ok (.iconst 1, 1) := by decide +kernel
theorem dX3_restingRows_78 : decode cX3_restingRows 78 = .ok (.iadd, 1) := by decide +kernel
theorem dX3_restingRows_79 : decode cX3_restingRows 79 = .ok (.iload_n 3, 1) := by decide +kernel
theorem dX3_restingRows_80 : decode cX3_restingRows 80 = .ok (.iload 5, 2) := by decide +kernel
theorem dX3_restingRows_82 : decode cX3_restingRows 82 = .ok (.isub, 1) := by decide +kernel
theorem dX3_restingRows_83 : decode cX3_restingRows 83 = .ok (.invokestatic 62, 3) := by decide +kernel
theorem dX3_restingRows_86 : decode cX3_restingRows 86 = .ok (.imul, 1) := by decide +kernel
theorem dX3_restingRows_87 : decode cX3_restingRows 87 = .ok (.iadd, 1) := by decide +kernel
theorem dX3_restingRows_88 : decode cX3_restingRows 88 = .ok (.istore 4, 2) := by decide +kernel
theorem dX3_restingRows_90 : decode cX3_restingRows 90 = .ok (.iinc 5 1, 3) := by decide +kernel
theorem dX3_restingRows_93 : decode cX3_restingRows 93 = .ok (.goto (-38), 3) := by decide +kernel
theorem dX3_restingRows_96 : decode cX3_restingRows 96 = .ok (.aload_n 1, 1) := by decide +kernel
theorem dX3_restingRows_97 : decode cX3_restingRows 97 = .ok (.iload_n 2, 1) := by decide +kernel
theorem dX3_restingRows_98 : decode cX3_restingRows 98 = .ok (.iconst 0, 1) := by decide +kernel
theorem dX3_restingRows_99 : decode cX3_restingRows 99 = .ok (.iastore, 1) := by decide +kernel
theorem dX3_restingRows_100 : decode cX3_restingRows 100 = .ok (.iload 4, 2) := by decide +kernel
theorem dX3_restingRows_102 : decode cX3_restingRows 102 = .ok (.ireturn, 1) := by decide +kernel
theorem dX4_init_0 : decode cX4_init 0 = .ok (.aload_n 0, 1) := by decide +kernel
theorem dX4_init_1 : decode cX4_init 1 = .ok (.invokespecial 3, 3) := by decide +kernel
theorem dX4_init_4 : decode cX4_init 4 = .ok (.aload_n 0, 1) := by decide +kernel
theorem dX4_init_5 : decode cX4_init 5 = .ok (.bipush 9, 2) := by decide +kernel
theorem dX4_init_7 : decode cX4_init 7 = .ok (.newarray .int, 2) := by decide +kernel
theorem dX4_init_9 : decode cX4_init 9 = .ok (.dup, 1) := by decide +kernel
theorem dX4_init_10 : decode cX4_init 10 = .ok (.iconst 0, 1) := by decide +kernel
theorem dX4_init_11 : decode cX4_init 11 = .ok (.bipush (-9), 2) := by decide +kernel
theorem dX4_init_13 : decode cX4_init 13 = .ok (.iastore, 1) := by decide +kernel
theorem dX4_init_14 : decode cX4_init 14 = .ok (.dup, 1) := by decide +kernel
theorem dX4_init_15 : decode cX4_init 15 = .ok (.iconst 1, 1) := by decide +kernel
theorem dX4_init_16 : decode cX4_init 16 = .ok (.bipush (-9), 2) := by decide +kernel
theorem dX4_init_18 : decode cX4_init 18 = .ok (.iastore, 1) := by decide +kernel
theorem dX4_init_19 : decode cX4_init 19 = .ok (.dup, 1) := by decide +kernel
theorem dX4_init_20 : decode cX4_init 20 = .ok (.iconst 2, 1) := by decide +kernel
theorem dX4_init_21 : decode cX4_init 21 = .ok (.bipush (-9), 2) := by decide +kernel
theorem dX4_init_23 : decode cX4_init 23 = .ok (.iastore, 1) := by decide +kernel
theorem dX4_init_24 : decode cX4_init 24 = .ok (.dup, 1) := by decide +kernel
theorem dX4_init_25 : decode cX4_init 25 = .ok (.iconst 3, 1) := by decide +kernel
theorem dX4_init_26 : decode cX4_init 26 = .ok (.bipush (-9), 2) := by decide +kernel
theorem dX4_init_28 : decode cX4_init 28 = .ok (.iastore, 1) := by decide +kernel
theorem dX4_init_29 : decode cX4_init 29 = .ok (.dup, 1) := by decide +kernel
theorem dX4_init_30 : decode cX4_init 30 = .ok (.iconst 4, 1) := by decide +kernel
theorem dX4_init_31 : decode cX4_init 31 = .ok (.bipush (-9), 2) := by decide +kernel
theorem dX4_init_33 : decode cX4_init 33 = .ok (.iastore, 1) := by decide +kernel
theorem dX4_init_34 : decode cX4_init 34 = .ok (.dup, 1) := by decide +kernel
theorem dX4_init_35 : decode cX4_init 35 = .ok (.iconst 5, 1) := by decide +kernel
theorem dX4_init_36 : decode cX4_init 36 = .ok (.bipush (-9), 2) := by decide +kernel
theorem dX4_init_38 : decode cX4_init 38 = .ok (.iastore, 1) := by decide +kernel
theorem dX4_init_39 : decode cX4_init 39 = .ok (.dup, 1) := by decide +kernel
theorem dX4_init_40 : decode cX4_init 40 = .ok (.bipush 6, 2) := by decide +kernel
theorem dX4_init_42 : decode cX4_init 42 = .ok (.bipush (-9), 2) := by decide +kernel
theorem dX4_init_44 : decode cX4_init 44 = .ok (.iastore, 1) := by decide +kernel
theorem dX4_init_45 : decode cX4_init 45 = .ok (.dup, 1) := by decide +kernel
theorem dX4_init_46 : decode cX4_init 46 = .ok (.bipush 7, 2) := by decide +kernel
theorem dX4_init_48 : decode cX4_init 48 = .ok (.bipush (-9), 2) := by decide +kernel
theorem dX4_init_50 : decode cX4_init 50 = .ok (.iastore, 1) := by decide +kernel
theorem dX4_init_51 : decode cX4_init 51 = .ok (.dup, 1) := by decide +kernel
theorem dX4_init_52 : decode cX4_init 52 = .ok (.bipush 8, 2) := by decide +kernel
theorem dX4_init_54 : decode cX4_init 54 = .ok (.bipush (-9), 2) := by decide +kernel
theorem dX4_init_56 : decode cX4_init 56 = .ok (.iastore, 1) := by decide +kernel
theorem dX4_init_57 : decode cX4_init 57 = .ok (.putfield 9, 3) := by decide +kernel
theorem dX4_init_60 : decode cX4_init 60 = .ok (.return_, 1) := by decide +kernel
theorem dX4_told_0 : decode cX4_told 0 = .ok (.aload_n 0, 1) := by decide +kernel
theorem dX4_told_1 : decode cX4_told 1 = .ok (.getfield 15, 3) := by decide +kernel
theorem dX4_told_4 : decode cX4_told 4 = .ok (.ireturn, 1) := by decide +kernel
theorem dX4_tell_0 : decode cX4_tell 0 = .ok (.iload_n 1, 1) := by decide +kernel
theorem dX4_tell_1 : decode cX4_tell 1 = .ok (.ifCond .lt 29, 3) := by decide +kernel
theorem dX4_tell_4 : decode cX4_tell 4 = .ok (.iload_n 1, 1) := by decide +kernel
theorem dX4_tell_5 : decode cX4_tell 5 = .ok (.aload_n 0, 1) := by decide +kernel
theorem dX4_tell_6 : decode cX4_tell 6 = .ok (.getfield 9, 3) := by decide +kernel
theorem dX4_tell_9 : decode cX4_tell 9 = .ok (.arraylength, 1) := by decide +kernel
theorem dX4_tell_10 : decode cX4_tell 10 = .ok (.if_icmp .ge 20, 3) := by decide +kernel
theorem dX4_tell_13 : decode cX4_tell 13 = .ok (.aload_n 0, 1) := by decide +kernel
theorem dX4_tell_14 : decode cX4_tell 14 = .ok (.getfield 9, 3) := by decide +kernel
theorem dX4_tell_17 : decode cX4_tell 17 = .ok (.iload_n 1, 1) := by decide +kernel
theorem dX4_tell_18 : decode cX4_tell 18 = .ok (.iload_n 2, 1) := by decide +kernel
theorem dX4_tell_19 : decode cX4_tell 19 = .ok (.iastore, 1) := by decide +kernel
theorem dX4_tell_20 : decode cX4_tell 20 = .ok (.aload_n 0, 1) := by decide +kernel
theorem dX4_tell_21 : decode cX4_tell 21 = .ok (.dup, 1) := by decide +kernel
theorem dX4_tell_22 : decode cX4_tell 22 = .ok (.getfield 15, 3) := by decide +kernel
theorem dX4_tell_25 : decode cX4_tell 25 = .ok (.iconst 1, 1) := by decide +kernel
theorem dX4_tell_26 : decode cX4_tell 26 = .ok (.iadd, 1) := by decide +kernel
theorem dX4_tell_27 : decode cX4_tell 27 = .ok (.putfield 15, 3) := by decide +kernel
theorem dX4_tell_30 : decode cX4_tell 30 = .ok (.return_, 1) := by decide +kernel
theorem dX4_clear_0 : decode cX4_clear 0 = .ok (.aload_n 0, 1) := by decide +kernel
theorem dX4_clear_1 : decode cX4_clear 1 = .ok (.getfield 9, 3) := by decide +kernel
theorem dX4_clear_4 : decode cX4_clear 4 = .ok (.bipush (-9), 2) := by decide +kernel
theorem dX4_clear_6 : decode cX4_clear 6 = .ok (.invokestatic 19, 3) := by decide +kernel
theorem dX4_clear_9 : decode cX4_clear 9 = .ok (.aload_n 0, 1) := by decide +kernel
theorem dX4_clear_10 : decode cX4_clear 10 = .ok (.iconst 0, 1) := by decide +kernel
theorem dX4_clear_11 : decode cX4_clear 11 = .ok (.putfield 15, 3) := by decide +kernel
theorem dX4_clear_14 : decode cX4_clear 14 = .ok (.return_, 1) := by decide +kernel
theorem dX4_differs_0 : decode cX4_differs 0 = .ok (.iload_n 1, 1) := by decide +kernel
theorem dX4_differs_1 : decode cX4_differs 1 = .ok (.ifCond .lt 37, 3) := by decide +kernel
theorem dX4_differs_4 : decode cX4_differs 4 = .ok (.iload_n 1, 1) := by decide +kernel
theorem dX4_differs_5 : decode cX4_differs 5 = .ok (.aload_n 0, 1) := by decide +kernel
theorem dX4_differs_6 : decode cX4_differs 6 = .ok (.getfield 9, 3) := by decide +kernel
theorem dX4_differs_9 : decode cX4_differs 9 = .ok (.arraylength, 1) := by decide +kernel
theorem dX4_differs_10 : decode cX4_differs 10 = .ok (.if_icmp .ge 28, 3) := by decide +kernel
theorem dX4_differs_13 : decode cX4_differs 13 = .ok (.aload_n 0, 1) := by decide +kernel
theorem dX4_differs_14 : decode cX4_differs 14 = .ok (.getfield 9, 3) := by decide +kernel
theorem dX4_differs_17 : decode cX4_differs 17 = .ok (.iload_n 1, 1) := by decide +kernel
theorem dX4_differs_18 : decode cX4_differs 18 = .ok (.iaload, 1) := by decide +kernel
theorem dX4_differs_19 : decode cX4_differs 19 = .ok (.bipush (-9), 2) := by decide +kernel
theorem dX4_differs_21 : decode cX4_differs 21 = .ok (.if_icmp .eq 17, 3) := by decide +kernel
theorem dX4_differs_24 : decode cX4_differs 24 = .ok (.aload_n 0, 1) := by decide +kernel
theorem dX4_differs_25 : decode cX4_differs 25 = .ok (.getfield 9, 3) := by decide +kernel
theorem dX4_differs_28 : decode cX4_differs 28 = .ok (.iload_n 1, 1) := by decide +kernel
theorem dX4_differs_29 : decode cX4_differs 29 = .ok (.iaload, 1) := by decide +kernel
theorem dX4_differs_30 : decode cX4_differs 30 = .ok (.iload_n 2, 1) := by decide +kernel
theorem dX4_differs_31 : decode cX4_differs 31 = .ok (.if_icmp .eq 7, 3) := by decide +kernel
theorem dX4_differs_34 : decode cX4_differs 34 = .ok (.iconst 1, 1) := by decide +kernel
theorem dX4_differs_35 : decode cX4_differs 35 = .ok (.goto 4, 3) := by decide +kernel
theorem dX4_differs_38 : decode cX4_differs 38 = .ok (.iconst 0, 1) := by decide +kernel
theorem dX4_differs_39 : decode cX4_differs 39 = .ok (.ireturn, 1) := by decide +kernel
theorem dX5_init_0 : decode cX5_init 0 = .ok (.aload_n 0, 1) := by decide +kernel
theorem dX5_init_1 : decode cX5_init 1 = .ok (.invokespecial 3, 3) := by decide +kernel
theorem dX5_init_4 : decode cX5_init 4 = .ok (.aload_n 0, 1) := by decide +kernel
theorem dX5_init_5 : decode cX5_init 5 = .ok (.bipush 9, 2) := by decide +kernel
theorem dX5_init_7 : decode cX5_init 7 = .ok (.newarray .int, 2) := by decide +kernel
theorem dX5_init_9 : decode cX5_init 9 = .ok (.putfield 9, 3) := by decide +kernel
theorem dX5_init_12 : decode cX5_init 12 = .ok (.aload_n 0, 1) := by decide +kernel
theorem dX5_init_13 : decode cX5_init 13 = .ok (.bipush 10, 2) := by decide +kernel
theorem dX5_init_15 : decode cX5_init 15 = .ok (.newarray .int, 2) := by decide +kernel
theorem dX5_init_17 : decode cX5_init 17 = .ok (.putfield 15, 3) := by decide +kernel
theorem dX5_init_20 : decode cX5_init 20 = .ok (.return_, 1) := by decide +kernel
theorem dX5_size_0 : decode cX5_size 0 = .ok (.aload_n 0, 1) := by decide +kernel
theorem dX5_size_1 : decode cX5_size 1 = .ok (.getfield 18, 3) := by decide +kernel
theorem dX5_size_4 : decode cX5_size 4 = .ok (.ireturn, 1) := by decide +kernel
theorem dX5_has_0 : decode cX5_has 0 = .ok (.iload_n 1, 1) := by decide +kernel
theorem dX5_has_1 : decode cX5_has 1 = .ok (.ifCond .lt 15, 3) := by decide +kernel
theorem dX5_has_4 : decode cX5_has 4 = .ok (.iload_n 1, 1) := by decide +kernel
theorem dX5_has_5 : decode cX5_has 5 = .ok (.aload_n 0, 1) := by decide +kernel
theorem dX5_has_6 : decode cX5_has 6 = .ok (.getfield 18, 3) := by decide +kernel
theorem dX5_has_9 : decode cX5_has 9 = .ok (.if_icmp .ge 7, 3) := by decide +kernel
theorem dX5_has_12 : decode cX5_has 12 = .ok (.iconst 1, 1) := by decide +kernel
theorem dX5_has_13 : decode cX5_has 13 = .ok (.goto 4, 3) := by decide +kernel
theorem dX5_has_16 : decode cX5_has 16 = .ok (.iconst 0, 1) := by decide +kernel
theorem dX5_has_17 : decode cX5_has 17 = .ok (.ireturn, 1) := by decide +kernel
theorem dX5_numberOf_0 : decode cX5_numberOf 0 = .ok (.aload_n 0, 1) := by decide +kernel
theorem dX5_numberOf_1 : decode cX5_numberOf 1 = .ok (.iload_n 1, 1) := by decide +kernel
theorem dX5_numberOf_2 : decode cX5_numberOf 2 = .ok (.invokevirtual 22, 3) := by decide +kernel
theorem dX5_numberOf_5 : decode cX5_numberOf 5 = .ok (.ifCond .eq 12, 3) := by decide +kernel
theorem dX5_numberOf_8 : decode cX5_numberOf 8 = .ok (.aload_n 0, 1) := by decide +kernel
theorem dX5_numberOf_9 : decode cX5_numberOf 9 = .ok (.getfield 9, 3) := by decide +kernel
theorem dX5_numberOf_12 : decode cX5_numberOf 12 = .ok (.iload_n 1, 1) := by decide +kernel
theorem dX5_numberOf_13 : decode cX5_numberOf 13 = .ok (.iaload, 1) := by decide +kernel
theorem dX5_numberOf_14 : decode cX5_numberOf 14 = .ok (.goto 5, 3) := by decide +kernel
theorem dX5_numberOf_17 : decode cX5_numberOf 17 = .ok (.bipush (-9), 2) := by decide +kernel
theorem dX5_numberOf_19 : decode cX5_numberOf 19 = .ok (.ireturn, 1) := by decide +kernel
theorem dX5_many_0 : decode cX5_many 0 = .ok (.iload_n 1, 1) := by decide +kernel
theorem dX5_many_1 : decode cX5_many 1 = .ok (.invokestatic 26, 3) := by decide +kernel
theorem dX5_many_4 : decode cX5_many 4 = .ok (.ifCond .eq 12, 3) := by decide +kernel
theorem dX5_many_7 : decode cX5_many 7 = .ok (.aload_n 0, 1) := by decide +kernel
theorem dX5_many_8 : decode cX5_many 8 = .ok (.getfield 15, 3) := by decide +kernel
theorem dX5_many_11 : decode cX5_many 11 = .ok (.iload_n 1, 1) := by decide +kernel
theorem dX5_many_12 : decode cX5_many 12 = .ok (.iaload, 1) := by decide +kernel
theorem dX5_many_13 : decode cX5_many 13 = .ok (.goto 4, 3) := by decide +kernel
theorem dX5_many_16 : decode cX5_many 16 = .ok (.iconst 0, 1) := by decide +kernel
theorem dX5_many_17 : decode cX5_many 17 = .ok (.ireturn, 1) := by decide +kernel
theorem dX5_counts_0 : decode cX5_counts 0 = .ok (.aload_n 0, 1) := by decide +kernel
theorem dX5_counts_1 : decode cX5_counts 1 = .ok (.getfield 15, 3) := by decide +kernel
theorem dX5_counts_4 : decode cX5_counts 4 = .ok (.areturn, 1) := by decide +kernel
theorem dX5_clear_0 : decode cX5_clear 0 = .ok (.aload_n 0, 1) := by decide +kernel
theorem dX5_clear_1 : decode cX5_clear 1 = .ok (.iconst 0, 1) := by decide +kernel
theorem dX5_clear_2 : decode cX5_clear 2 = .ok (.putfield 18, 3) := by decide +kernel
theorem dX5_clear_5 : decode cX5_clear 5 = .ok (.aload_n 0, 1) := by decide +kernel
theorem dX5_clear_6 : decode cX5_clear 6 = .ok (.getfield 15, 3) := by decide +kernel
theorem dX5_clear_9 : decode cX5_clear 9 = .ok (.iconst 0, 1) := by decide +kernel
theorem dX5_clear_10 : decode cX5_clear 10 = .ok (.invokestatic 29, 3) := by decide +kernel
theorem dX5_clear_13 : decode cX5_clear 13 = .ok (.return_, 1) := by decide +kernel
theorem dX5_add_0 : decode cX5_add 0 = .ok (.aload_n 0, 1) := by decide +kernel
theorem dX5_add_1 : decode cX5_add 1 = .ok (.getfield 18, 3) := by decide +kernel
theorem dX5_add_4 : decode cX5_add 4 = .ok (.bipush 9, 2) := by decide +kernel
theorem dX5_add_6 : decode cX5_add 6 = .ok (.if_icmp .ge 40, 3) := by decide +kernel
theorem dX5_add_9 : decode cX5_add 9 = .ok (.iload_n 1, 1) := by decide +kernel
theorem dX5_add_10 : decode cX5_add 10 = .ok (.invokestatic 26, 3) := by decide +kernel
theorem dX5_add_13 : decode cX5_add 13 = .ok (.ifCond .eq 33, 3) := by decide +kernel
theorem dX5_add_16 : decode cX5_add 16 = .ok (.aload_n 0, 1) := by decide +kernel
theorem dX5_add_17 : decode cX5_add 17 = .ok (.getfield 9, 3) := by decide +kernel
theorem dX5_add_20 : decode cX5_add 20 = .ok (.aload_n 0, 1) := by decide +kernel
theorem dX5_add_21 : decode cX5_add 21 = .ok (.getfield 18, 3) := by decide +kernel
theorem dX5_add_24 : decode cX5_add 24 = .ok (.iload_n 1, 1) := by decide +kernel
theorem dX5_add_25 : decode cX5_add 25 = .ok (.iastore, 1) := by decide +kernel
theorem dX5_add_26 : decode cX5_add 26 = .ok (.aload_n 0, 1) := by decide +kernel
theorem dX5_add_27 : decode cX5_add 27 = .ok (.getfield 15, 3) := by decide +kernel
theorem dX5_add_30 : decode cX5_add 30 = .ok (.iload_n 1, 1) := by decide +kernel
theorem dX5_add_31 : decode cX5_add 31 = .ok (.dup2, 1) := by decide +kernel
theorem dX5_add_32 : decode cX5_add 32 = .ok (.iaload, 1) := by decide +kernel
theorem dX5_add_33 : decode cX5_add 33 = .ok (.iconst 1, 1) := by decide +kernel
theorem dX5_add_34 : decode cX5_add 34 = .ok (.iadd, 1) := by decide +kernel
theorem dX5_add_35 : decode cX5_add 35 = .ok (.iastore, 1) := by decide +kernel
theorem dX5_add_36 : decode cX5_add 36 = .ok (.aload_n 0, 1) := by decide +kernel
theorem dX5_add_37 : decode cX5_add 37 = .ok (.dup, 1) := by decide +kernel
theorem dX5_add_38 : decode cX5_add 38 = .ok (.getfield 18, 3) := by decide +kernel
theorem dX5_add_41 : decode cX5_add 41 = .ok (.iconst 1, 1) := by decide +kernel
theorem dX5_add_42 : decode cX5_add 42 = .ok (.iadd, 1) := by decide +kernel
theorem dX5_add_43 : decode cX5_add 43 = .ok (.putfield 18, 3) := by decide +kernel
theorem dX5_add_46 : decode cX5_add 46 = .ok (.return_, 1) := by decide +kernel
theorem dX5_rewrite_0 : decode cX5_rewrite 0 = .ok (.aload_n 0, 1) := by decide +kernel
theorem dX5_rewrite_1 : decode cX5_rewrite 1 = .ok (.iload_n 1, 1) := by decide +kernel
theorem dX5_rewrite_2 : decode cX5_rewrite 2 = .ok (.invokevirtual 22, 3) := by decide +kernel
theorem dX5_rewrite_5 : decode cX5_rewrite 5 = .ok (.ifCond .eq 42, 3) := by decide +kernel
theorem dX5_rewrite_8 : decode cX5_rewrite 8 = .ok (.iload_n 2, 1) := by decide +kernel
theorem dX5_rewrite_9 : decode cX5_rewrite 9 = .ok (.invokestatic 26, 3) := by decide +kernel
theorem dX5_rewrite_12 : decode cX5_rewrite 12 = .ok (.ifCond .eq 35, 3) := by decide +kernel
theorem dX5_rewrite_15 : decode cX5_rewrite 15 = .ok (.aload_n 0, 1) := by decide +kernel
theorem dX5_rewrite_16 : decode cX5_rewrite 16 = .ok (.getfield 15, 3) := by decide +kernel
theorem dX5_rewrite_19 : decode cX5_rewrite 19 = .ok (.aload_n 0, 1) := by decide +kernel
theorem dX5_rewrite_20 : decode cX5_rewrite 20 = .ok (.getfield 9, 3) := by decide +kernel
theorem dX5_rewrite_23 : decode cX5_rewrite 23 = .ok (.iload_n 1, 1) := by decide +kernel
theorem dX5_rewrite_24 : decode cX5_rewrite 24 = .ok (.iaload, 1) := by decide +kernel
theorem dX5_rewrite_25 : decode cX5_rewrite 25 = .ok (.dup2, 1) := by decide +kernel
theorem dX5_rewrite_26 : decode cX5_rewrite 26 = .ok (.iaload, 1) := by decide +kernel
theorem dX5_rewrite_27 : decode cX5_rewrite 27 = .ok (.iconst 1, 1) := by decide +kernel
theorem dX5_rewrite_28 : decode cX5_rewrite 28 = .ok (.isub, 1) := by decide +kernel
theorem dX5_rewrite_29 : decode cX5_rewrite 29 = .ok (.iastore, 1) := by decide +kernel
theorem dX5_rewrite_30 : decode cX5_rewrite 30 = .ok (.aload_n 0, 1) := by decide +kernel
theorem dX5_rewrite_31 : decode cX5_rewrite 31 = .ok (.getfield 15, 3) := by decide +kernel
theorem dX5_rewrite_34 : decode cX5_rewrite 34 = .ok (.iload_n 2, 1) := by decide +kernel
theorem dX5_rewrite_35 : decode cX5_rewrite 35 = .ok (.dup2, 1) := by decide +kernel
theorem dX5_rewrite_36 : decode cX5_rewrite 36 = .ok (.iaload, 1) := by decide +kernel
theorem dX5_rewrite_37 : decode cX5_rewrite 37 = .ok (.iconst 1, 1) := by decide +kernel
theorem dX5_rewrite_38 : decode cX5_rewrite 38 = .ok (.iadd, 1) := by decide +kernel
theorem dX5_rewrite_39 : decode cX5_rewrite 39 = .ok (.iastore, 1) := by decide +kernel
theorem dX5_rewrite_40 : decode cX5_rewrite 40 = .ok (.aload_n 0, 1) := by decide +kernel
theorem dX5_rewrite_41 : decode cX5_rewrite 41 = .ok (.getfield 9, 3) := by decide +kernel
theorem dX5_rewrite_44 : decode cX5_rewrite 44 = .ok (.iload_n 1, 1) := by decide +kernel
theorem dX5_rewrite_45 : decode cX5_rewrite 45 = .ok (.iload_n 2, 1) := by decide +kernel
theorem dX5_rewrite_46 : decode cX5_rewrite 46 = .ok (.iastore, 1) := by decide +kernel
theorem dX5_rewrite_47 : decode cX5_rewrite 47 = .ok (.return_, 1) := by decide +kernel
theorem dX5_drop_0 : decode cX5_drop 0 = .ok (.aload_n 0, 1) := by decide +kernel
theorem dX5_drop_1 : decode cX5_drop 1 = .ok (.iload_n 1, 1) := by decide +kernel
theorem dX5_drop_2 : decode cX5_drop 2 = .ok (.invokevirtual 22, 3) := by decide +kernel
theorem dX5_drop_5 : decode cX5_drop 5 = .ok (.ifCond .eq 58, 3) := by decide +kernel
theorem dX5_drop_8 : decode cX5_drop 8 = .ok (.aload_n 0, 1) := by decide +kernel
theorem dX5_drop_9 : decode cX5_drop 9 = .ok (.getfield 15, 3) := by decide +kernel
theorem dX5_drop_12 : decode cX5_drop 12 = .ok (.aload_n 0, 1) := by decide +kernel
theorem dX5_drop_13 : decode cX5_drop 13 = .ok (.getfield 9, 3) := by decide +kernel
theorem dX5_drop_16 : decode cX5_drop 16 = .ok (.iload_n 1, 1) := by decide +kernel
theorem dX5_drop_17 : decode cX5_drop 17 = .ok (.iaload, 1) := by decide +kernel
theorem dX5_drop_18 : decode cX5_drop 18 = .ok (.dup2, 1) := by decide +kernel
theorem dX5_drop_19 : decode cX5_drop 19 = .ok (.iaload, 1) := by decide +kernel
theorem dX5_drop_20 : decode cX5_drop 20 = .ok (.iconst 1, 1) := by decide +kernel
theorem dX5_drop_21 : decode cX5_drop 21 = .ok (.isub, 1) := by decide +kernel
theorem dX5_drop_22 : decode cX5_drop 22 = .ok (.iastore, 1) := by decide +kernel
theorem dX5_drop_23 : decode cX5_drop 23 = .ok (.aload_n 0, 1) := by decide +kernel
theorem dX5_drop_24 : decode cX5_drop 24 = .ok (.dup, 1) := by decide +kernel
theorem dX5_drop_25 : decode cX5_drop 25 = .ok (.getfield 18, 3) := by decide +kernel
theorem dX5_drop_28 : decode cX5_drop 28 = .ok (.iconst 1, 1) := by decide +kernel
theorem dX5_drop_29 : decode cX5_drop 29 = .ok (.isub, 1) := by decide +kernel
theorem dX5_drop_30 : decode cX5_drop 30 = .ok (.putfield 18, 3) := by decide +kernel
theorem dX5_drop_33 : decode cX5_drop 33 = .ok (.iload_n 1, 1) := by decide +kernel
theorem dX5_drop_34 : decode cX5_drop 34 = .ok (.istore_n 2, 1) := by decide +kernel
theorem dX5_drop_35 : decode cX5_drop 35 = .ok (.iload_n 2, 1) := by decide +kernel
theorem dX5_drop_36 : decode cX5_drop 36 = .ok (.aload_n 0, 1) := by decide +kernel
theorem dX5_drop_37 : decode cX5_drop 37 = .ok (.getfield 18, 3) := by decide +kernel
theorem dX5_drop_40 : decode cX5_drop 40 = .ok (.if_icmp .ge 23, 3) := by decide +kernel
theorem dX5_drop_43 : decode cX5_drop 43 = .ok (.aload_n 0, 1) := by decide +kernel
theorem dX5_drop_44 : decode cX5_drop 44 = .ok (.getfield 9, 3) := by decide +kernel
theorem dX5_drop_47 : decode cX5_drop 47 = .ok (.iload_n 2, 1) := by decide +kernel
theorem dX5_drop_48 : decode cX5_drop 48 = .ok (.aload_n 0, 1) := by decide +kernel
theorem dX5_drop_49 : decode cX5_drop 49 = .ok (.getfield 9, 3) := by decide +kernel
theorem dX5_drop_52 : decode cX5_drop 52 = .ok (.iload_n 2, 1) := by decide +kernel
theorem dX5_drop_53 : decode cX5_drop 53 = .ok (.iconst 1, 1) := by decide +kernel
theorem dX5_drop_54 : decode cX5_drop 54 = .ok (.iadd, 1) := by decide +kernel
theorem dX5_drop_55 : decode cX5_drop 55 = .ok (.iaload, 1) := by decide +kernel
theorem dX5_drop_56 : decode cX5_drop 56 = .ok (.iastore, 1) := by decide +kernel
theorem dX5_drop_57 : decode cX5_drop 57 = .ok (.iinc 2 1, 3) := by decide +kernel
theorem dX5_drop_60 : decode cX5_drop 60 = .ok (.goto (-25), 3) := by decide +kernel
theorem dX5_drop_63 : decode cX5_drop 63 = .ok (.return_, 1) := by decide +kernel
theorem dX5_pack_0 : decode cX5_pack 0 = .ok (.lconst 0, 1) := by decide +kernel
theorem dX5_pack_1 : decode cX5_pack 1 = .ok (.lstore_n 1, 1) := by decide +kernel
theorem dX5_pack_2 : decode cX5_pack 2 = .ok (.aload_n 0, 1) := by decide +kernel
theorem dX5_pack_3 : decode cX5_pack 3 = .ok (.getfield 18, 3) := by decide +kernel
theorem dX5_pack_6 : decode cX5_pack 6 = .ok (.iconst 1, 1) := by decide +kernel
theorem dX5_pack_7 : decode cX5_pack 7 = .ok (.isub, 1) := by decide +kernel
theorem dX5_pack_8 : decode cX5_pack 8 = .ok (.istore_n 3, 1) := by decide +kernel
theorem dX5_pack_9 : decode cX5_pack 9 = .ok (.iload_n 3, 1) := by decide +kernel
theorem dX5_pack_10 : decode cX5_pack 10 = .ok (.ifCond .lt 21, 3) := by decide +kernel
theorem dX5_pack_13 : decode cX5_pack 13 = .ok (.lload_n 1, 1) := by decide +kernel
theorem dX5_pack_14 : decode cX5_pack 14 = .ok (.iconst 4, 1) := by decide +kernel
theorem dX5_pack_15 : decode cX5_pack 15 = .ok (.lshl, 1) := by decide +kernel
theorem dX5_pack_16 : decode cX5_pack 16 = .ok (.aload_n 0, 1) := by decide +kernel
theorem dX5_pack_17 : decode cX5_pack 17 = .ok (.getfield 9, 3) := by decide +kernel
theorem dX5_pack_20 : decode cX5_pack 20 = .ok (.iload_n 3, 1) := by decide +kernel
theorem dX5_pack_21 : decode cX5_pack 21 = .ok (.iaload, 1) := by decide +kernel
theorem dX5_pack_22 : decode cX5_pack 22 = .ok (.i2l, 1) := by decide +kernel
theorem dX5_pack_23 : decode cX5_pack 23 = .ok (.lor, 1) := by decide +kernel
theorem dX5_pack_24 : decode cX5_pack 24 = .ok (.lstore_n 1, 1) := by decide +kernel
theorem dX5_pack_25 : decode cX5_pack 25 = .ok (.iinc 3 (-1), 3) := by decide +kernel
theorem dX5_pack_28 : decode cX5_pack 28 = .ok (.goto (-19), 3) := by decide +kernel
theorem dX5_pack_31 : decode cX5_pack 31 = .ok (.lload_n 1, 1) := by decide +kernel
theorem dX5_pack_32 : decode cX5_pack 32 = .ok (.iconst 4, 1) := by decide +kernel
theorem dX5_pack_33 : decode cX5_pack 33 = .ok (.lshl, 1) := by decide +kernel
theorem dX5_pack_34 : decode cX5_pack 34 = .ok (.aload_n 0, 1) := by decide +kernel
theorem dX5_pack_35 : decode cX5_pack 35 = .ok (.getfield 18, 3) := by decide +kernel
theorem dX5_pack_38 : decode cX5_pack 38 = .ok (.i2l, 1) := by decide +kernel
theorem dX5_pack_39 : decode cX5_pack 39 = .ok (.lor, 1) := by decide +kernel
theorem dX5_pack_40 : decode cX5_pack 40 = .ok (.lreturn, 1) := by decide +kernel
theorem dX5_unpack_0 : decode cX5_unpack 0 = .ok (.aload_n 0, 1) := by decide +kernel
theorem dX5_unpack_1 : decode cX5_unpack 1 = .ok (.invokevirtual 35, 3) := by decide +kernel
theorem dX5_unpack_4 : decode cX5_unpack 4 = .ok (.lload_n 1, 1) := by decide +kernel
theorem dX5_unpack_5 : decode cX5_unpack 5 = .ok (.ldc2_w 38, 3) := by decide +kernel
theorem dX5_unpack_8 : decode cX5_unpack 8 = .ok (.land, 1) := by decide +kernel
theorem dX5_unpack_9 : decode cX5_unpack 9 = .ok (.l2i, 1) := by decide +kernel
theorem dX5_unpack_10 : decode cX5_unpack 10 = .ok (.istore_n 3, 1) := by decide +kernel
theorem dX5_unpack_11 : decode cX5_unpack 11 = .ok (.iconst 1, 1) := by decide +kernel
theorem dX5_unpack_12 : decode cX5_unpack 12 = .ok (.istore 4, 2) := by decide +kernel
theorem dX5_unpack_14 : decode cX5_unpack 14 = .ok (.iload 4, 2) := by decide +kernel
theorem dX5_unpack_16 : decode cX5_unpack 16 = .ok (.iload_n 3, 1) := by decide +kernel
theorem dX5_unpack_17 : decode cX5_unpack 17 = .ok (.if_icmp .gt 30, 3) := by decide +kernel
theorem dX5_unpack_20 : decode cX5_unpack 20 = .ok (.iload 4, 2) := by decide +kernel
theorem dX5_unpack_22 : decode cX5_unpack 22 = .ok (.bipush 9, 2) := by decide +kernel
theorem dX5_unpack_24 : decode cX5_unpack 24 = .ok (.if_icmp .gt 23, 3) := by decide +kernel
theorem dX5_unpack_27 : decode cX5_unpack 27 = .ok (.aload_n 0, 1) := by decide +kernel
theorem dX5_unpack_28 : decode cX5_unpack 28 = .ok (.lload_n 1, 1) := by decide +kernel
theorem dX5_unpack_29 : decode cX5_unpack 29 = .ok (.iconst 4, 1) := by decide +kernel
theorem dX5_unpack_30 : decode cX5_unpack 30 = .ok (.iload 4, 2) := by decide +kernel
theorem dX5_unpack_32 : decode cX5_unpack 32 = .ok (.imul, 1) := by decide +kernel
theorem dX5_unpack_33 : decode cX5_unpack 33 = .ok (.lushr, 1) := by decide +kernel
theorem dX5_unpack_34 : decode cX5_unpack 34 = .ok (.l2i, 1) := by decide +kernel
theorem dX5_unpack_35 : decode cX5_unpack 35 = .ok (.bipush 15, 2) := by decide +kernel
theorem dX5_unpack_37 : decode cX5_unpack 37 = .ok (.iand, 1) := by decide +kernel
theorem dX5_unpack_38 : decode cX5_unpack 38 = .ok (.invokevirtual 40, 3) := by decide +kernel
theorem dX5_unpack_41 : decode cX5_unpack 41 = .ok (.iinc 4 1, 3) := by decide +kernel
theorem dX5_unpack_44 : decode cX5_unpack 44 = .ok (.goto (-30), 3) := by decide +kernel
theorem dX5_unpack_47 : decode cX5_unpack 47 = .ok (.return_, 1) := by decide +kernel
theorem dX6_init_0 : decode cX6_init 0 = .ok (.aload_n 0, 1) := by decide +kernel
theorem dX6_init_1 : decode cX6_init 1 = .ok (.invokespecial 3, 3) := by decide +kernel
theorem dX6_init_4 : decode cX6_init 4 = .ok (.aload_n 0, 1) := by decide +kernel
theorem dX6_init_5 : decode cX6_init 5 = .ok (.new 9, 3) := by decide +kernel
theorem dX6_init_8 : decode cX6_init 8 = .ok (.dup, 1) := by decide +kernel
theorem dX6_init_9 : decode cX6_init 9 = .ok (.invokespecial 11, 3) := by decide +kernel
theorem dX6_init_12 : decode cX6_init 12 = .ok (.putfield 12, 3) := by decide +kernel
theorem dX6_init_15 : decode cX6_init 15 = .ok (.aload_n 0, 1) := by decide +kernel
theorem dX6_init_16 : decode cX6_init 16 = .ok (.new 18, 3) := by decide +kernel
theorem dX6_init_19 : decode cX6_init 19 = .ok (.dup, 1) := by decide +kernel
theorem dX6_init_20 : decode cX6_init 20 = .ok (.invokespecial 20, 3) := by decide +kernel
theorem dX6_init_23 : decode cX6_init 23 = .ok (.putfield 21, 3) := by decide +kernel
theorem dX6_init_26 : decode cX6_init 26 = .ok (.return_, 1) := by decide +kernel
theorem dX6_readRules_0 : decode cX6_readRules 0 = .ok (.aload_n 0, 1) := by decide +kernel
theorem dX6_readRules_1 : decode cX6_readRules 1 = .ok (.getfield 12, 3) := by decide +kernel
theorem dX6_readRules_4 : decode cX6_readRules 4 = .ok (.areturn, 1) := by decide +kernel
theorem dX6_readPeople_0 : decode cX6_readPeople 0 = .ok (.aload_n 0, 1) := by decide +kernel
theorem dX6_readPeople_1 : decode cX6_readPeople 1 = .ok (.getfield 21, 3) := by decide +kernel
theorem dX6_readPeople_4 : decode cX6_readPeople 4 = .ok (.areturn, 1) := by decide +kernel
theorem dX6_firstFault_0 : decode cX6_firstFault 0 = .ok (.aload_n 0, 1) := by decide +kernel
theorem dX6_firstFault_1 : decode cX6_firstFault 1 = .ok (.getfield 12, 3) := by decide +kernel
theorem dX6_firstFault_4 : decode cX6_firstFault 4 = .ok (.invokevirtual 25, 3) := by decide +kernel
theorem dX6_firstFault_7 : decode cX6_firstFault 7 = .ok (.aload_n 0, 1) := by decide +kernel
theorem dX6_firstFault_8 : decode cX6_firstFault 8 = .ok (.getfield 21, 3) := by decide +kernel
theorem dX6_firstFault_11 : decode cX6_firstFault 11 = .ok (.invokevirtual 28, 3) := by decide +kernel
theorem dX6_firstFault_14 : decode cX6_firstFault 14 = .ok (.aload_n 1, 1) := by decide +kernel
theorem dX6_firstFault_15 : decode cX6_firstFault 15 = .ok (.invokevirtual 29, 3) := by decide +kernel
theorem dX6_firstFault_18 : decode cX6_firstFault 18 = .ok (.istore_n 2, 1) := by decide +kernel
theorem dX6_firstFault_19 : decode cX6_firstFault 19 = .ok (.iconst 0, 1) := by decide +kernel
theorem dX6_firstFault_20 : decode cX6_firstFault 20 = .ok (.istore_n 3, 1) := by decide +kernel
theorem dX6_firstFault_21 : decode cX6_firstFault 21 = .ok (.iload_n 3, 1) := by decide +kernel
theorem dX6_firstFault_22 : decode cX6_firstFault 22 = .ok (.iload_n 2, 1) := by decide +kernel
theorem dX6_firstFault_23 : decode cX6_firstFault 23 = .ok (.if_icmp .ge 24, 3) := by decide +kernel
theorem dX6_firstFault_26 : decode cX6_firstFault 26 = .ok (.aload_n 0, 1) := by decide +kernel
theorem dX6_firstFault_27 : decode cX6_firstFault 27 = .ok (.iload_n 3, 1) := by decide +kernel
theorem dX6_firstFault_28 : decode cX6_firstFault 28 = .ok (.aload_n 1, 1) := by decide +kernel
theorem dX6_firstFault_29 : decode cX6_firstFault 29 = .ok (.iload_n 3, 1) := by decide +kernel
theorem dX6_firstFault_30 : decode cX6_firstFault 30 = .ok (.invokevirtual 35, 3) := by decide +kernel
theorem dX6_firstFault_33 : decode cX6_firstFault 33 = .ok (.invokevirtual 39, 3) := by decide +kernel
theorem dX6_firstFault_36 : decode cX6_firstFault 36 = .ok (.ifCond .ne 5, 3) := by decide +kernel
theorem dX6_firstFault_39 : decode cX6_firstFault 39 = .ok (.iload_n 3, 1) := by decide +kernel
theorem dX6_firstFault_40 : decode cX6_firstFault 40 = .ok (.ireturn, 1) := by decide +kernel
theorem dX6_firstFault_41 : decode cX6_firstFault 41 = .ok (.iinc 3 1, 3) := by decide +kernel
theorem dX6_firstFault_44 : decode cX6_firstFault 44 = .ok (.goto (-23), 3) := by decide +kernel
theorem dX6_firstFault_47 : decode cX6_firstFault 47 = .ok (.iload_n 2, 1) := by decide +kernel
theorem dX6_firstFault_48 : decode cX6_firstFault 48 = .ok (.bipush 6, 2) := by decide +kernel
theorem dX6_firstFault_50 : decode cX6_firstFault 50 = .ok (.if_icmp .lt 9, 3) := by decide +kernel
theorem dX6_firstFault_53 : decode cX6_firstFault 53 = .ok (.iload_n 2, 1) := by decide +kernel
theorem dX6_firstFault_54 : decode cX6_firstFault 54 = .ok (.iconst 2, 1) := by decide +kernel
theorem dX6_firstFault_55 : decode cX6_firstFault 55 = .ok (.irem, 1) := by decide +kernel
theorem dX6_firstFault_56 : decode cX6_firstFault 56 = .ok (.ifCond .eq 7, 3) := by decide +kernel
theorem dX6_firstFault_59 : decode cX6_firstFault 59 = .ok (.iload_n 2, 1) := by decide +kernel
theorem dX6_firstFault_60 : decode cX6_firstFault 60 = .ok (.goto 5, 3) := by decide +kernel
theorem dX6_firstFault_63 : decode cX6_firstFault 63 = .ok (.bipush (-9), 2) := by decide +kernel
theorem dX6_firstFault_65 : decode cX6_firstFault 65 = .ok (.ireturn, 1) := by decide +kernel
theorem dX6_takes_0 : decode cX6_takes 0 = .ok (.iload_n 1, 1) := by decide +kernel
theorem dX6_takes_1 : decode cX6_takes 1 = .ok (.ifCond .ne 15, 3) := by decide +kernel
theorem dX6_takes_4 : decode cX6_takes 4 = .ok (.iload_n 2, 1) := by decide +kernel
theorem dX6_takes_5 : decode cX6_takes 5 = .ok (.bipush 84, 2) := by decide +kernel
theorem dX6_takes_7 : decode cX6_takes 7 = .ok (.if_icmp .ne 7, 3) := by decide +kernel
theorem dX6_takes_10 : decode cX6_takes 10 = .ok (.iconst 1, 1) := by decide +kernel
theorem dX6_takes_11 : decode cX6_takes 11 = .ok (.goto 4, 3) := by decide +kernel
theorem dX6_takes_14 : decode cX6_takes 14 = .ok (.iconst 0, 1) := by decide +kernel
theorem dX6_takes_15 : decode cX6_takes 15 = .ok (.ireturn, 1) := by decide +kernel
theorem dX6_takes_16 : decode cX6_takes 16 = .ok (.iload_n 1, 1) := by decide +kernel
theorem dX6_takes_17 : decode cX6_takes 17 = .ok (.bipush 6, 2) := by decide +kernel
theorem dX6_takes_19 : decode cX6_takes 19 = .ok (.if_icmp .lt 15, 3) := by decide +kernel
theorem dX6_takes_22 : decode cX6_takes 22 = .ok (.iload_n 1, 1) := by decide +kernel
theorem dX6_takes_23 : decode cX6_takes 23 = .ok (.iconst 2, 1) := by decide +kernel
theorem dX6_takes_24 : decode cX6_takes 24 = .ok (.irem, 1) := by decide +kernel
theorem dX6_takes_25 : decode cX6_takes 25 = .ok (.ifCond .ne 9, 3) := by decide +kernel
theorem dX6_takes_28 : decode cX6_takes 28 = .ok (.aload_n 0, 1) := by decide +kernel
theorem dX6_takes_29 : decode cX6_takes 29 = .ok (.iload_n 2, 1) := by decide +kernel
theorem dX6_takes_30 : decode cX6_takes 30 = .ok (.invokevirtual 43, 3) := by decide +kernel
theorem dX6_takes_33 : decode cX6_takes 33 = .ok (.ireturn, 1) := by decide +kernel
theorem dX6_takes_34 : decode cX6_takes 34 = .ok (.iload_n 2, 1) := by decide +kernel
theorem dX6_takes_35 : decode cX6_takes 35 = .ok (.bipush 48, 2) := by decide +kernel
theorem dX6_takes_37 : decode cX6_takes 37 = .ok (.isub, 1) := by decide +kernel
theorem dX6_takes_38 : decode cX6_takes 38 = .ok (.istore_n 3, 1) := by decide +kernel
theorem dX6_takes_39 : decode cX6_takes 39 = .ok (.iload_n 3, 1) := by decide +kernel
theorem dX6_takes_40 : decode cX6_takes 40 = .ok (.invokestatic 47, 3) := by decide +kernel
theorem dX6_takes_43 : decode cX6_takes 43 = .ok (.ifCond .ne 5, 3) := by decide +kernel
theorem dX6_takes_46 : decode cX6_takes 46 = .ok (.iconst 0, 1) := by decide +kernel
theorem dX6_takes_47 : decode cX6_takes 47 = .ok (.ireturn, 1) := by decide +kernel
theorem dX6_takes_48 : decode cX6_takes 48 = .ok (.iload_n 1, 1) := by decide +kernel
theorem dX6_takes_49 : decode cX6_takes 49 = .ok (.bipush 6, 2) := by decide +kernel
theorem dX6_takes_51 : decode cX6_takes 51 = .ok (.if_icmp .ge 12, 3) := by decide +kernel
theorem dX6_takes_54 : decode cX6_takes 54 = .ok (.aload_n 0, 1) := by decide +kernel
theorem dX6_takes_55 : decode cX6_takes 55 = .ok (.iload_n 1, 1) := by decide +kernel
theorem dX6_takes_56 : decode cX6_takes 56 = .ok (.iload_n 3, 1) := by decide +kernel
theorem dX6_takes_57 : decode cX6_takes 57 = .ok (.invokevirtual 50, 3) := by decide +kernel
theorem dX6_takes_60 : decode cX6_takes 60 = .ok (.goto 8, 3) := by decide +kernel
theorem dX6_takes_63 : decode cX6_takes 63 = .ok (.aload_n 0, 1) := by decide +kernel
theorem dX6_takes_64 : decode cX6_takes 64 = .ok (.iload_n 3, 1) := by decide +kernel
theorem dX6_takes_65 : decode cX6_takes 65 = .ok (.invokevirtual 53, 3) := by decide +kernel
theorem dX6_takes_68 : decode cX6_takes 68 = .ok (.ireturn, 1) := by decide +kernel
theorem dX6_takesHead_0 : decode cX6_takesHead 0 = .ok (.iload_n 1, 1) := by decide +kernel
theorem dX6_takesHead_1 : decode cX6_takesHead 1 = .ok (.iconst 1, 1) := by decide +kernel
theorem dX6_takesHead_2 : decode cX6_takesHead 2 = .ok (.if_icmp .ne 12, 3) := by decide +kernel
theorem dX6_takesHead_5 : decode cX6_takesHead 5 = .ok (.aload_n 0, 1) := by decide +kernel
theorem dX6_takesHead_6 : decode cX6_takesHead 6 = .ok (.getfield 12, 3) := by decide +kernel
theorem dX6_takesHead_9 : decode cX6_takesHead 9 = .ok (.iload_n 2, 1) := by decide +kernel
theorem dX6_takesHead_10 : decode cX6_takesHead 10 = .ok (.invokevirtual 56, 3) := by decide +kernel
theorem dX6_takesHead_13 : decode cX6_takesHead 13 = .ok (.ireturn, 1) := by decide +kernel
theorem dX6_takesHead_14 : decode cX6_takesHead 14 = .ok (.iload_n 1, 1) := by decide +kernel
theorem dX6_takesHead_15 : decode cX6_takesHead 15 = .ok (.iconst 2, 1) := by decide +kernel
theorem dX6_takesHead_16 : decode cX6_takesHead 16 = .ok (.if_icmp .ne 12, 3) := by decide +kernel
theorem dX6_takesHead_19 : decode cX6_takesHead 19 = .ok (.aload_n 0, 1) := by decide +kernel
theorem dX6_takesHead_20 : decode cX6_takesHead 20 = .ok (.getfield 12, 3) := by decide +kernel
theorem dX6_takesHead_23 : decode cX6_takesHead 23 = .ok (.iload_n 2, 1) := by decide +kernel
theorem dX6_takesHead_24 : decode cX6_takesHead 24 = .ok (.invokevirtual 59, 3) := by decide +kernel
theorem dX6_takesHead_27 : decode cX6_takesHead 27 = .ok (.ireturn, 1) := by decide +kernel
theorem dX6_takesHead_28 : decode cX6_takesHead 28 = .ok (.aload_n 0, 1) := by decide +kernel
theorem dX6_takesHead_29 : decode cX6_takesHead 29 = .ok (.getfield 12, 3) := by decide +kernel
theorem dX6_takesHead_32 : decode cX6_takesHead 32 = .ok (.iload_n 2, 1) := by decide +kernel
theorem dX6_takesHead_33 : decode cX6_takesHead 33 = .ok (.invokevirtual 62, 3) := by decide +kernel
theorem dX6_takesHead_36 : decode cX6_takesHead 36 = .ok (.iconst 1, 1) := by decide +kernel
theorem dX6_takesHead_37 : decode cX6_takesHead 37 = .ok (.ireturn, 1) := by decide +kernel
theorem dX6_takesLetter_0 : decode cX6_takesLetter 0 = .ok (.aload_n 0, 1) := by decide +kernel
theorem dX6_takesLetter_1 : decode cX6_takesLetter 1 = .ok (.iload_n 1, 1) := by decide +kernel
theorem dX6_takesLetter_2 : decode cX6_takesLetter 2 = .ok (.putfield 66, 3) := by decide +kernel
theorem dX6_takesLetter_5 : decode cX6_takesLetter 5 = .ok (.iload_n 1, 1) := by decide +kernel
theorem dX6_takesLetter_6 : decode cX6_takesLetter 6 = .ok (.bipush 80, 2) := by decide +kernel
theorem dX6_takesLetter_8 : decode cX6_takesLetter 8 = .ok (.if_icmp .ne 21, 3) := by decide +kernel
theorem dX6_takesLetter_11 : decode cX6_takesLetter 11 = .ok (.aload_n 0, 1) := by decide +kernel
theorem dX6_takesLetter_12 : decode cX6_takesLetter 12 = .ok (.getfield 21, 3) := by decide +kernel
theorem dX6_takesLetter_15 : decode cX6_takesLetter 15 = .ok (.invokevirtual 70, 3) := by decide +kernel
theorem dX6_takesLetter_18 : decode cX6_takesLetter 18 = .ok (.bipush 9, 2) := by decide +kernel
theorem dX6_takesLetter_20 : decode cX6_takesLetter 20 = .ok (.if_icmp .ge 7, 3) := by decide +kernel
theorem dX6_takesLetter_23 : decode cX6_takesLetter 23 = .ok (.iconst 1, 1) := by decide +kernel
theorem dX6_takesLetter_24 : decode cX6_takesLetter 24 = .ok (.goto 4, 3) := by decide +kernel
theorem dX6_takesLetter_27 : decode cX6_takesLetter 27 = .ok (.iconst 0, 1) := by decide +kernel
theorem dX6_takesLetter_28 : decode cX6_takesLetter 28 = .ok (.ireturn, 1) := by decide +kernel
theorem dX6_takesLetter_29 : decode cX6_takesLetter 29 = .ok (.iload_n 1, 1) := by decide +kernel
theorem dX6_takesLetter_30 : decode cX6_takesLetter 30 = .ok (.bipush 78, 2) := by decide +kernel
theorem dX6_takesLetter_32 : decode cX6_takesLetter 32 = .ok (.if_icmp .ne 26, 3) := by decide +kernel
theorem dX6_takesLetter_35 : decode cX6_takesLetter 35 = .ok (.aload_n 0, 1) := by decide +kernel
theorem dX6_takesLetter_36 : decode cX6_takesLetter 36 = .ok (.getfield 12, 3) := by decide +kernel
theorem dX6_takesLetter_39 : decode cX6_takesLetter 39 = .ok (.invokevirtual 73, 3) := by decide +kernel
theorem dX6_takesLetter_42 : decode cX6_takesLetter 42 = .ok (.bipush 9, 2) := by decide +kernel
theorem dX6_takesLetter_44 : decode cX6_takesLetter 44 = .ok (.if_icmp .ge 14, 3) := by decide +kernel
theorem dX6_takesLetter_47 : decode cX6_takesLetter 47 = .ok (.aload_n 0, 1) := by decide +kernel
theorem dX6_takesLetter_48 : decode cX6_takesLetter 48 = .ok (.invokevirtual 76, 3) := by decide +kernel
theorem dX6_takesLetter_51 : decode cX6_takesLetter 51 = .ok (.ifCond .eq 7, 3) := by decide +kernel
theorem dX6_takesLetter_54 : decode cX6_takesLetter 54 = .ok (.iconst 1, 1) := by decide +kernel
theorem dX6_takesLetter_55 : decode cX6_takesLetter 55 = .ok (.goto 4, 3) := by decide +kernel
theorem dX6_takesLetter_58 : decode cX6_takesLetter 58 = .ok (.iconst 0, 1) := by decide +kernel
theorem dX6_takesLetter_59 : decode cX6_takesLetter 59 = .ok (.ireturn, 1) := by decide +kernel
theorem dX6_someCanBeBarred_0 : decode cX6_someCanBeBarred 0 = .ok (.iconst 0, 1) := by decide +kernel
theorem dX6_someCanBeBarred_1 : decode cX6_someCanBeBarred 1 = .ok (.istore_n 1, 1) := by decide +kernel
theorem dX6_someCanBeBarred_2 : decode cX6_someCanBeBarred 2 = .ok (.iload_n 1, 1) := by decide +kernel
theorem dX6_someCanBeBarred_3 : decode cX6_someCanBeBarred 3 = .ok (.bipush 10, 2) := by decide +kernel
theorem dX6_someCanBeBarred_5 : decode cX6_someCanBeBarred 5 = .ok (.if_icmp .ge 19, 3) := by decide +kernel
theorem dX6_someCanBeBarred_8 : decode cX6_someCanBeBarred 8 = .ok (.aload_n 0, 1) := by decide +kernel
theorem dX6_someCanBeBarred_9 : decode cX6_someCanBeBarred 9 = .ok (.iload_n 1, 1) := by decide +kernel
theorem dX6_someCanBeBarred_10 : decode cX6_someCanBeBarred 10 = .ok (.invokevirtual 80, 3) := by decide +kernel
theorem dX6_someCanBeBarred_13 : decode cX6_someCanBeBarred 13 = .ok (.ifCond .eq 5, 3) := by decide +kernel
theorem dX6_someCanBeBarred_16 : decode cX6_someCanBeBarred 16 = .ok (.iconst 1, 1) := by decide +kernel
theorem dX6_someCanBeBarred_17 : decode cX6_someCanBeBarred 17 = .ok (.ireturn, 1) := by decide +kernel
theorem dX6_someCanBeBarred_18 : decode cX6_someCanBeBarred 18 = .ok (.iinc 1 1, 3) := by decide +kernel
theorem dX6_someCanBeBarred_21 : decode cX6_someCanBeBarred 21 = .ok (.goto (-19), 3) := by decide +kernel
theorem dX6_someCanBeBarred_24 : decode cX6_someCanBeBarred 24 = .ok (.iconst 0, 1) := by decide +kernel
theorem dX6_someCanBeBarred_25 : decode cX6_someCanBeBarred 25 = .ok (.ireturn, 1) := by decide +kernel
theorem dX6_canBeBarred_0 : decode cX6_canBeBarred 0 = .ok (.aload_n 0, 1) := by decide +kernel
theorem dX6_canBeBarred_1 : decode cX6_canBeBarred 1 = .ok (.getfield 12, 3) := by decide +kernel
theorem dX6_canBeBarred_4 : decode cX6_canBeBarred 4 = .ok (.iload_n 1, 1) := by decide +kernel
theorem dX6_canBeBarred_5 : decode cX6_canBeBarred 5 = .ok (.invokevirtual 83, 3) := by decide +kernel
theorem dX6_canBeBarred_8 : decode cX6_canBeBarred 8 = .ok (.ifCond .eq 18, 3) := by decide +kernel
theorem dX6_canBeBarred_11 : decode cX6_canBeBarred 11 = .ok (.aload_n 0, 1) := by decide +kernel
theorem dX6_canBeBarred_12 : decode cX6_canBeBarred 12 = .ok (.getfield 21, 3) := by decide +kernel
theorem dX6_canBeBarred_15 : decode cX6_canBeBarred 15 = .ok (.iload_n 1, 1) := by decide +kernel
theorem dX6_canBeBarred_16 : decode cX6_canBeBarred 16 = .ok (.invokevirtual 86, 3) := by decide +kernel
theorem dX6_canBeBarred_19 : decode cX6_canBeBarred 19 = .ok (.ifCond .ne 7, 3) := by decide +kernel
theorem dX6_canBeBarred_22 : decode cX6_canBeBarred 22 = .ok (.iconst 1, 1) := by decide +kernel
theorem dX6_canBeBarred_23 : decode cX6_canBeBarred 23 = .ok (.goto 4, 3) := by decide +kernel
theorem dX6_canBeBarred_26 : decode cX6_canBeBarred 26 = .ok (.iconst 0, 1) := by decide +kernel
theorem dX6_canBeBarred_27 : decode cX6_canBeBarred 27 = .ok (.ireturn, 1) := by decide +kernel
theorem dX6_takesNumber_0 : decode cX6_takesNumber 0 = .ok (.aload_n 0, 1) := by decide +kernel
theorem dX6_takesNumber_1 : decode cX6_takesNumber 1 = .ok (.getfield 66, 3) := by decide +kernel
theorem dX6_takesNumber_4 : decode cX6_takesNumber 4 = .ok (.bipush 80, 2) := by decide +kernel
theorem dX6_takesNumber_6 : decode cX6_takesNumber 6 = .ok (.if_icmp .ne 26, 3) := by decide +kernel
theorem dX6_takesNumber_9 : decode cX6_takesNumber 9 = .ok (.aload_n 0, 1) := by decide +kernel
theorem dX6_takesNumber_10 : decode cX6_takesNumber 10 = .ok (.getfield 12, 3) := by decide +kernel
theorem dX6_takesNumber_13 : decode cX6_takesNumber 13 = .ok (.iload_n 1, 1) := by decide +kernel
theorem dX6_takesNumber_14 : decode cX6_takesNumber 14 = .ok (.invokevirtual 83, 3) := by decide +kernel
theorem dX6_takesNumber_17 : decode cX6_takesNumber 17 = .ok (.istore_n 2, 1) := by decide +kernel
theorem dX6_takesNumber_18 : decode cX6_takesNumber 18 = .ok (.iload_n 2, 1) := by decide +kernel
theorem dX6_takesNumber_19 : decode cX6_takesNumber 19 = .ok (.ifCond .eq 11, 3) := by decide +kernel
theorem dX6_takesNumber_22 : decode cX6_takesNumber 22 = .ok (.aload_n 0, 1) := by decide +kernel
theorem dX6_takesNumber_23 : decode cX6_takesNumber 23 = .ok (.getfield 21, 3) := by decide +kernel
theorem dX6_takesNumber_26 : decode cX6_takesNumber 26 = .ok (.iload_n 1, 1) := by decide +kernel
theorem dX6_takesNumber_27 : decode cX6_takesNumber 27 = .ok (.invokevirtual 89, 3) := by decide +kernel
theorem dX6_takesNumber_30 : decode cX6_takesNumber 30 = .ok (.iload_n 2, 1) := by decide +kernel
theorem dX6_takesNumber_31 : decode cX6_takesNumber 31 = .ok (.ireturn, 1) := by decide +kernel
theorem dX6_takesNumber_32 : decode cX6_takesNumber 32 = .ok (.aload_n 0, 1) := by decide +kernel
theorem dX6_takesNumber_33 : decode cX6_takesNumber 33 = .ok (.iload_n 1, 1) := by decide +kernel
theorem dX6_takesNumber_34 : decode cX6_takesNumber 34 = .ok (.invokevirtual 80, 3) := by decide +kernel
theorem dX6_takesNumber_37 : decode cX6_takesNumber 37 = .ok (.istore_n 2, 1) := by decide +kernel
theorem dX6_takesNumber_38 : decode cX6_takesNumber 38 = .ok (.iload_n 2, 1) := by decide +kernel
theorem dX6_takesNumber_39 : decode cX6_takesNumber 39 = .ok (.ifCond .eq 11, 3) := by decide +kernel
theorem dX6_takesNumber_42 : decode cX6_takesNumber 42 = .ok (.aload_n 0, 1) := by decide +kernel
theorem dX6_takesNumber_43 : decode cX6_takesNumber 43 = .ok (.getfield 12, 3) := by decide +kernel
theorem dX6_takesNumber_46 : decode cX6_takesNumber 46 = .ok (.iload_n 1, 1) := by decide +kernel
theorem dX6_takesNumber_47 : decode cX6_takesNumber 47 = .ok (.invokevirtual 92, 3) := by decide +kernel
theorem dX6_takesNumber_50 : decode cX6_takesNumber 50 = .ok (.iload_n 2, 1) := by decide +kernel
theorem dX6_takesNumber_51 : decode cX6_takesNumber 51 = .ok (.ireturn, 1) := by decide +kernel
theorem dX7_init_0 : decode cX7_init 0 = .ok (.aload_n 0, 1) := by decide +kernel
theorem dX7_init_1 : decode cX7_init 1 = .ok (.invokespecial 3, 3) := by decide +kernel
theorem dX7_init_4 : decode cX7_init 4 = .ok (.aload_n 0, 1) := by decide +kernel
theorem dX7_init_5 : decode cX7_init 5 = .ok (.bipush 10, 2) := by decide +kernel
theorem dX7_init_7 : decode cX7_init 7 = .ok (.newarray .long, 2) := by decide +kernel
theorem dX7_init_9 : decode cX7_init 9 = .ok (.putfield 9, 3) := by decide +kernel
theorem dX7_init_12 : decode cX7_init 12 = .ok (.aload_n 0, 1) := by decide +kernel
theorem dX7_init_13 : decode cX7_init 13 = .ok (.bipush 10, 2) := by decide +kernel
theorem dX7_init_15 : decode cX7_init 15 = .ok (.newarray .int, 2) := by decide +kernel
theorem dX7_init_17 : decode cX7_init 17 = .ok (.putfield 15, 3) := by decide +kernel
theorem dX7_init_20 : decode cX7_init 20 = .ok (.aload_n 0, 1) := by decide +kernel
theorem dX7_init_21 : decode cX7_init 21 = .ok (.bipush 10, 2) := by decide +kernel
theorem dX7_init_23 : decode cX7_init 23 = .ok (.newarray .int, 2) := by decide +kernel
theorem dX7_init_25 : decode cX7_init 25 = .ok (.putfield 19, 3) := by decide +kernel
theorem dX7_init_28 : decode cX7_init 28 = .ok (.aload_n 0, 1) := by decide +kernel
theorem dX7_init_29 : decode cX7_init 29 = .ok (.bipush 10, 2) := by decide +kernel
theorem dX7_init_31 : decode cX7_init 31 = .ok (.newarray .int, 2) := by decide +kernel
theorem dX7_init_33 : decode cX7_init 33 = .ok (.putfield 22, 3) := by decide +kernel
theorem dX7_init_36 : decode cX7_init 36 = .ok (.return_, 1) := by decide +kernel
theorem dX7_allRightRows_0 : decode cX7_allRightRows 0 = .ok (.iconst 0, 1) := by decide +kernel
theorem dX7_allRightRows_1 : decode cX7_allRightRows 1 = .ok (.istore_n 3, 1) := by decide +kernel
theorem dX7_allRightRows_2 : decode cX7_allRightRows 2 = .ok (.iload_n 3, 1) := by decide +kernel
theorem dX7_allRightRows_3 : decode cX7_allRightRows 3 = .ok (.bipush 10, 2) := by decide +kernel
theorem dX7_allRightRows_5 : decode cX7_allRightRows 5 = .ok (.if_icmp .ge 28, 3) := by decide +kernel
theorem dX7_allRightRows_8 : decode cX7_allRightRows 8 = .ok (.aload_n 0, 1) := by decide +kernel
theorem dX7_allRightRows_9 : decode cX7_allRightRows 9 = .ok (.getfield 19, 3) := by decide +kernel
theorem dX7_allRightRows_12 : decode cX7_allRightRows 12 = .ok (.iload_n 3, 1) := by decide +kernel
theorem dX7_allRightRows_13 : decode cX7_allRightRows 13 = .ok (.aload_n 1, 1) := by decide +kernel
theorem dX7_allRightRows_14 : decode cX7_allRightRows 14 = .ok (.iload_n 3, 1) := by decide +kernel
theorem dX7_allRightRows_15 : decode cX7_allRightRows 15 = .ok (.invokevirtual 25, 3) := by decide +kernel
theorem dX7_allRightRows_18 : decode cX7_allRightRows 18 = .ok (.ifCond .eq 7, 3) := by decide +kernel
theorem dX7_allRightRows_21 : decode cX7_allRightRows 21 = .ok (.iconst 1, 1) := by decide +kernel
theorem dX7_allRightRows_22 : decode cX7_allRightRows 22 = .ok (.goto 4, 3) := by decide +kernel
theorem dX7_allRightRows_25 : decode cX7_allRightRows 25 = .ok (.iconst 0, 1) := by decide +kernel
theorem dX7_allRightRows_26 : decode cX7_allRightRows 26 = .ok (.iastore, 1) := by decide +kernel
theorem dX7_allRightRows_27 : decode cX7_allRightRows 27 = .ok (.iinc 3 1, 3) := by decide +kernel
theorem dX7_allRightRows_30 : decode cX7_allRightRows 30 = .ok (.goto (-28), 3) := by decide +kernel
theorem dX7_allRightRows_33 : decode cX7_allRightRows 33 = .ok (.aload_n 0, 1) := by decide +kernel
theorem dX7_allRightRows_34 : decode cX7_allRightRows 34 = .ok (.aload_n 1, 1) := by decide +kernel
theorem dX7_allRightRows_35 : decode cX7_allRightRows 35 = .ok (.aload_n 0, 1) := by decide +kernel
theorem dX7_allRightRows_36 : decode cX7_allRightRows 36 = .ok (.getfield 19, 3) := by decide +kernel
theorem dX7_allRightRows_39 : decode cX7_allRightRows 39 = .ok (.iload_n 2, 1) := by decide +kernel
theorem dX7_allRightRows_40 : decode cX7_allRightRows 40 = .ok (.invokevirtual 31, 3) := by decide +kernel
theorem dX7_allRightRows_43 : decode cX7_allRightRows 43 = .ok (.l2i, 1) := by decide +kernel
theorem dX7_allRightRows_44 : decode cX7_allRightRows 44 = .ok (.ireturn, 1) := by decide +kernel
theorem dX7_weighted_0 : decode cX7_weighted 0 = .ok (.iload_n 3, 1) := by decide +kernel
theorem dX7_weighted_1 : decode cX7_weighted 1 = .ok (.invokestatic 35, 3) := by decide +kernel
theorem dX7_weighted_4 : decode cX7_weighted 4 = .ok (.ifCond .ne 5, 3) := by decide +kernel
theorem dX7_weighted_7 : decode cX7_weighted 7 = .ok (.lconst 0, 1) := by decide +kernel
theorem dX7_weighted_8 : decode cX7_weighted 8 = .ok (.lreturn, 1) := by decide +kernel
theorem dX7_weighted_9 : decode cX7_weighted 9 = .ok (.aload_n 0, 1) := by decide +kernel
theorem dX7_weighted_10 : decode cX7_weighted 10 = .ok (.getfield 9, 3) := by decide +kernel
theorem dX7_weighted_13 : decode cX7_weighted 13 = .ok (.lconst 0, 1) := by decide +kernel
theorem dX7_weighted_14 : decode cX7_weighted 14 = .ok (.invokestatic 38, 3) := by decide +kernel
theorem dX7_weighted_17 : decode cX7_weighted 17 = .ok (.aload_n 0, 1) := by decide +kernel
theorem dX7_weighted_18 : decode cX7_weighted 18 = .ok (.getfield 9, 3) := by decide +kernel
theorem dX7_weighted_21 : decode cX7_weighted 21 = .ok (.iconst 0, 1) := by decide +kernel
theorem dX7_weighted_22 : decode cX7_weighted 22 = .ok (.lconst 1, 1) := by decide +kernel
theorem dX7_weighted_23 : decode cX7_weighted 23 = .ok (.lastore, 1) := by decide +kernel
theorem dX7_weighted_24 : decode cX7_weighted 24 = .ok (.iconst 0, 1) := by decide +kernel
theorem dX7_weighted_25 : decode cX7_weighted 25 = .ok (.istore 4, 2) := by decide +kernel
theorem dX7_weighted_27 : decode cX7_weighted 27 = .ok (.iload 4, 2) := by decide +kernel
theorem dX7_weighted_29 : decode cX7_weighted 29 = .ok (.bipush 10, 2) := by decide +kernel
theorem dX7_weighted_31 : decode cX7_weighted 31 = .ok (.if_icmp .ge 54, 3) := by decide +kernel
theorem dX7_weighted_34 : decode cX7_weighted 34 = .ok (.iload 4, 2) := by decide +kernel
theorem dX7_weighted_36 : decode cX7_weighted 36 = .ok (.aload_n 2, 1) := by decide +kernel
theorem dX7_weighted_37 : decode cX7_weighted 37 = .ok (.arraylength, 1) := by decide +kernel
theorem dX7_weighted_38 : decode cX7_weighted 38 = .ok (.if_icmp .ge 47, 3) := by decide +kernel
theorem dX7_weighted_41 : decode cX7_weighted 41 = .ok (.iload_n 3, 1) := by decide +kernel
theorem dX7_weighted_42 : decode cX7_weighted 42 = .ok (.istore 5, 2) := by decide +kernel
theorem dX7_weighted_44 : decode cX7_weighted 44 = .ok (.iload 5, 2) := by decide +kernel
theorem dX7_weighted_46 : decode cX7_weighted 46 = .ok (.iconst 1, 1) := by decide +kernel
theorem dX7_weighted_47 : decode cX7_weighted 47 = .ok (.if_icmp .lt 32, 3) := by decide +kernel
theorem dX7_weighted_50 : decode cX7_weighted 50 = .ok (.aload_n 0, 1) := by decide +kernel
theorem dX7_weighted_51 : decode cX7_weighted 51 = .ok (.getfield 9, 3) := by decide +kernel
theorem dX7_weighted_54 : decode cX7_weighted 54 = .ok (.iload 5, 2) := by decide +kernel
theorem dX7_weighted_56 : decode cX7_weighted 56 = .ok (.dup2, 1) := by decide +kernel
theorem dX7_weighted_57 : decode cX7_weighted 57 = .ok (.laload, 1) := by decide +kernel
theorem dX7_weighted_58 : decode cX7_weighted 58 = .ok (.aload_n 0, 1) := by decide +kernel
theorem dX7_weighted_59 : decode cX7_weighted 59 = .ok (.aload_n 1, 1) := by decide +kernel
theorem dX7_weighted_60 : decode cX7_weighted 60 = .ok (.iload 4, 2) := by decide +kernel
theorem dX7_weighted_62 : decode cX7_weighted 62 = .ok (.aload_n 2, 1) := by decide +kernel
theorem dX7_weighted_63 : decode cX7_weighted 63 = .ok (.iload 4, 2) := by decide +kernel
theorem dX7_weighted_65 : decode cX7_weighted 65 = .ok (.iaload, 1) := by decide +kernel
theorem dX7_weighted_66 : decode cX7_weighted 66 = .ok (.iload 5, 2) := by decide +kernel
theorem dX7_weighted_68 : decode cX7_weighted 68 = .ok (.invokevirtual 44, 3) := by decide +kernel
theorem dX7_weighted_71 : decode cX7_weighted 71 = .ok (.ladd, 1) := by decide +kernel
theorem dX7_weighted_72 : decode cX7_weighted 72 = .ok (.lastore, 1) := by decide +kernel
theorem dX7_weighted_73 : decode cX7_weighted 73 = .ok (.iinc 5 (-1), 3) := by decide +kernel
theorem dX7_weighted_76 : decode cX7_weighted 76 = .ok (.goto (-32), 3) := by decide +kernel
theorem dX7_weighted_79 : decode cX7_weighted 79 = .ok (.iinc 4 1, 3) := by decide +kernel
theorem dX7_weighted_82 : decode cX7_weighted 82 = .ok (.goto (-55), 3) := by decide +kernel
theorem dX7_weighted_85 : decode cX7_weighted 85 = .ok (.aload_n 0, 1) := by decide +kernel
theorem dX7_weighted_86 : decode cX7_weighted 86 = .ok (.getfield 9, 3) := by decide +kernel
theorem dX7_weighted_89 : decode cX7_weighted 89 = .ok (.iload_n 3, 1) := by decide +kernel
theorem dX7_weighted_90 : decode cX7_weighted 90 = .ok (.laload, 1) := by decide +kernel
theorem dX7_weighted_91 : decode cX7_weighted 91 = .ok (.lreturn, 1) := by decide +kernel
theorem dX7_weightedWith_0 : decode cX7_weightedWith 0 = .ok (.lconst 0, 1) := by decide +kernel
theorem dX7_weightedWith_1 : decode cX7_weightedWith 1 = .ok (.lstore 5, 2) := by decide +kernel
theorem dX7_weightedWith_3 : decode cX7_weightedWith 3 = .ok (.lconst 1, 1) := by decide +kernel
theorem dX7_weightedWith_4 : decode cX7_weightedWith 4 = .ok (.lstore 7, 2) := by decide +kernel
theorem dX7_weightedWith_6 : decode cX7_weightedWith 6 = .ok (.iconst 1, 1) := by decide +kernel
theorem dX7_weightedWith_7 : decode cX7_weightedWith 7 = .ok (.istore 9, 2) := by decide +kernel
theorem dX7_weightedWith_9 : decode cX7_weightedWith 9 = .ok (.iload 9, 2) := by decide +kernel
theorem dX7_weightedWith_11 : decode cX7_weightedWith 11 = .ok (.iload 4, 2) := by decide +kernel
theorem dX7_weightedWith_13 : decode cX7_weightedWith 13 = .ok (.if_icmp .gt 57, 3) := by decide +kernel
theorem dX7_weightedWith_16 : decode cX7_weightedWith 16 = .ok (.lload 7, 2) := by decide +kernel
theorem dX7_weightedWith_18 : decode cX7_weightedWith 18 = .ok (.iload_n 3, 1) := by decide +kernel
theorem dX7_weightedWith_19 : decode cX7_weightedWith 19 = .ok (.i2l, 1) := by decide +kernel
theorem dX7_weightedWith_20 : decode cX7_weightedWith 20 = .ok (.lmul, 1) := by decide +kernel
theorem dX7_weightedWith_21 : decode cX7_weightedWith 21 = .ok (.iload 4, 2) := by decide +kernel
theorem dX7_weightedWith_23 : decode cX7_weightedWith 23 = .ok (.iload 9, 2) := by decide +kernel
theorem dX7_weightedWith_25 : decode cX7_weightedWith 25 = .ok (.isub, 1) := by decide +kernel
theorem dX7_weightedWith_26 : decode cX7_weightedWith 26 = .ok (.iconst 1, 1) := by decide +kernel
theorem dX7_weightedWith_27 : decode cX7_weightedWith 27 = .ok (.iadd, 1) := by decide +kernel
theorem dX7_weightedWith_28 : decode cX7_weightedWith 28 = .ok (.i2l, 1) := by decide +kernel
theorem dX7_weightedWith_29 : decode cX7_weightedWith 29 = .ok (.lmul, 1) := by decide +kernel
theorem dX7_weightedWith_30 : decode cX7_weightedWith 30 = .ok (.iload 9, 2) := by decide +kernel
theorem dX7_weightedWith_32 : decode cX7_weightedWith 32 = .ok (.i2l, 1) := by decide +kernel
theorem dX7_weightedWith_33 : decode cX7_weightedWith 33 = .ok (.ldiv, 1) := by decide +kernel
theorem dX7_weightedWith_34 : decode cX7_weightedWith 34 = .ok (.lstore 7, 2) := by decide +kernel
theorem dX7_weightedWith_36 : decode cX7_weightedWith 36 = .ok (.aload_n 1, 1) := by decide +kernel
theorem dX7_weightedWith_37 : decode cX7_weightedWith 37 = .ok (.iload_n 2, 1) := by decide +kernel
theorem dX7_weightedWith_38 : decode cX7_weightedWith 38 = .ok (.iload 9, 2) := by decide +kernel
theorem dX7_weightedWith_40 : decode cX7_weightedWith 40 = .ok (.invokevirtual 48, 3) := by decide +kernel
theorem dX7_weightedWith_43 : decode cX7_weightedWith 43 = .ok (.ifCond .eq 21, 3) := by decide +kernel
theorem dX7_weightedWith_46 : decode cX7_weightedWith 46 = .ok (.lload 5, 2) := by decide +kernel
theorem dX7_weightedWith_48 : decode cX7_weightedWith 48 = .ok (.lload 7, 2) := by decide +kernel
theorem dX7_weightedWith_50 : decode cX7_weightedWith 50 = .ok (.aload_n 0, 1) := by decide +kernel
theorem dX7_weightedWith_51 : decode cX7_weightedWith 51 = .ok (.getfield 9, 3) := by decide +kernel
theorem dX7_weightedWith_54 : decode cX7_weightedWith 54 = .ok (.iload 4, 2) := by decide +kernel
theorem dX7_weightedWith_56 : decode cX7_weightedWith 56 = .ok (.iload 9, 2) := by decide +kernel
theorem dX7_weightedWith_58 : decode cX7_weightedWith 58 = .ok (.isub, 1) := by decide +kernel
theorem dX7_weightedWith_59 : decode cX7_weightedWith 59 = .ok (.laload, 1) := by decide +kernel
theorem dX7_weightedWith_60 : decode cX7_weightedWith 60 = .ok (.lmul, 1) := by decide +kernel
theorem dX7_weightedWith_61 : decode cX7_weightedWith 61 = .ok (.ladd, 1) := by decide +kernel
theorem dX7_weightedWith_62 : decode cX7_weightedWith 62 = .ok (.lstore 5, 2) := by decide +kernel
theorem dX7_weightedWith_64 : decode cX7_weightedWith 64 = .ok (.iinc 9 1, 3) := by decide +kernel
theorem dX7_weightedWith_67 : decode cX7_weightedWith 67 = .ok (.goto (-58), 3) := by decide +kernel
theorem dX7_weightedWith_70 : decode cX7_weightedWith 70 = .ok (.lload 5, 2) := by decide +kernel
theorem dX7_weightedWith_72 : decode cX7_weightedWith 72 = .ok (.lreturn, 1) := by decide +kernel
theorem dX7_fewestNotRight_0 : decode cX7_fewestNotRight 0 = .ok (.iload_n 2, 1) := by decide +kernel
theorem dX7_fewestNotRight_1 : decode cX7_fewestNotRight 1 = .ok (.invokestatic 35, 3) := by decide +kernel
theorem dX7_fewestNotRight_4 : decode cX7_fewestNotRight 4 = .ok (.ifCond .ne 6, 3) := by decide +kernel
theorem dX7_fewestNotRight_7 : decode cX7_fewestNotRight 7 = .ok (.bipush (-9), 2) := by decide +kernel
theorem dX7_fewestNotRight_9 : decode cX7_fewestNotRight 9 = .ok (.ireturn, 1) := by decide +kernel
theorem dX7_fewestNotRight_10 : decode cX7_fewestNotRight 10 = .ok (.aload_n 0, 1) := by decide +kernel
theorem dX7_fewestNotRight_11 : decode cX7_fewestNotRight 11 = .ok (.invokevirtual 52, 3) := by decide +kernel
theorem dX7_fewestNotRight_14 : decode cX7_fewestNotRight 14 = .ok (.iconst 0, 1) := by decide +kernel
theorem dX7_fewestNotRight_15 : decode cX7_fewestNotRight 15 = .ok (.istore_n 3, 1) := by decide +kernel
theorem dX7_fewestNotRight_16 : decode cX7_fewestNotRight 16 = .ok (.iload_n 3, 1) := by decide +kernel
theorem dX7_fewestNotRight_17 : decode cX7_fewestNotRight 17 = .ok (.bipush 10, 2) := by decide +kernel
theorem dX7_fewestNotRight_19 : decode cX7_fewestNotRight 19 = .ok (.if_icmp .ge 47, 3) := by decide +kernel
theorem dX7_fewestNotRight_22 : decode cX7_fewestNotRight 22 = .ok (.aload_n 1, 1) := by decide +kernel
theorem dX7_fewestNotRight_23 : decode cX7_fewestNotRight 23 = .ok (.iload_n 3, 1) := by decide +kernel
theorem dX7_fewestNotRight_24 : decode cX7_fewestNotRight 24 = .ok (.invokevirtual 25, 3) := by decide +kernel
theorem dX7_fewestNotRight_27 : decode cX7_fewestNotRight 27 = .ok (.ifCond .eq 33, 3) := by decide +kernel
theorem dX7_fewestNotRight_30 : decode cX7_fewestNotRight 30 = .ok (.iload_n 2, 1) := by decide +kernel
theorem dX7_fewestNotRight_31 : decode cX7_fewestNotRight 31 = .ok (.istore 4, 2) := by decide +kernel
theorem dX7_fewestNotRight_33 : decode cX7_fewestNotRight 33 = .ok (.iload 4, 2) := by decide +kernel
theorem dX7_fewestNotRight_35 : decode cX7_fewestNotRight 35 = .ok (.iconst 1, 1) := by decide +kernel
theorem dX7_fewestNotRight_36 : decode cX7_fewestNotRight 36 = .ok (.if_icmp .lt 24, 3) := by decide +kernel
theorem dX7_fewestNotRight_39 : decode cX7_fewestNotRight 39 = .ok (.aload_n 0, 1) := by decide +kernel
theorem dX7_fewestNotRight_40 : decode cX7_fewestNotRight 40 = .ok (.getfield 15, 3) := by decide +kernel
theorem dX7_fewestNotRight_43 : decode cX7_fewestNotRight 43 = .ok (.iload 4, 2) := by decide +kernel
theorem dX7_fewestNotRight_45 : decode cX7_fewestNotRight 45 = .ok (.aload_n 0, 1) := by decide +kernel
theorem dX7_fewestNotRight_46 : decode cX7_fewestNotRight 46 = .ok (.aload_n 1, 1) := by decide +kernel
theorem dX7_fewestNotRight_47 : decode cX7_fewestNotRight 47 = .ok (.iload_n 3, 1) := by decide +kernel
theorem dX7_fewestNotRight_48 : decode cX7_fewestNotRight 48 = .ok (.iload 4, 2) := by decide +kernel
theorem dX7_fewestNotRight_50 : decode cX7_fewestNotRight 50 = .ok (.invokevirtual 55, 3) := by decide +kernel
theorem dX7_fewestNotRight_53 : decode cX7_fewestNotRight 53 = .ok (.iastore, 1) := by decide +kernel
theorem dX7_fewestNotRight_54 : decode cX7_fewestNotRight 54 = .ok (.iinc 4 (-1), 3) := by decide +kernel
theorem dX7_fewestNotRight_57 : decode cX7_fewestNotRight 57 = .ok (.goto (-24), 3) := by decide +kernel
theorem dX7_fewestNotRight_60 : decode cX7_fewestNotRight 60 = .ok (.iinc 3 1, 3) := by decide +kernel
theorem dX7_fewestNotRight_63 : decode cX7_fewestNotRight 63 = .ok (.goto (-47), 3) := by decide +kernel
theorem dX7_fewestNotRight_66 : decode cX7_fewestNotRight 66 = .ok (.aload_n 0, 1) := by decide +kernel
theorem dX7_fewestNotRight_67 : decode cX7_fewestNotRight 67 = .ok (.getfield 15, 3) := by decide +kernel
theorem dX7_fewestNotRight_70 : decode cX7_fewestNotRight 70 = .ok (.iload_n 2, 1) := by decide +kernel
theorem dX7_fewestNotRight_71 : decode cX7_fewestNotRight 71 = .ok (.iaload, 1) := by decide +kernel
theorem dX7_fewestNotRight_72 : decode cX7_fewestNotRight 72 = .ok (.ireturn, 1) := by decide +kernel
theorem dX7_leastNotRight_0 : decode cX7_leastNotRight 0 = .ok (.aload_n 0, 1) := by decide +kernel
theorem dX7_leastNotRight_1 : decode cX7_leastNotRight 1 = .ok (.getfield 15, 3) := by decide +kernel
theorem dX7_leastNotRight_4 : decode cX7_leastNotRight 4 = .ok (.iload_n 3, 1) := by decide +kernel
theorem dX7_leastNotRight_5 : decode cX7_leastNotRight 5 = .ok (.iaload, 1) := by decide +kernel
theorem dX7_leastNotRight_6 : decode cX7_leastNotRight 6 = .ok (.istore 4, 2) := by decide +kernel
theorem dX7_leastNotRight_8 : decode cX7_leastNotRight 8 = .ok (.iconst 1, 1) := by decide +kernel
theorem dX7_leastNotRight_9 : decode cX7_leastNotRight 9 = .ok (.istore 5, 2) := by decide +kernel
theorem dX7_leastNotRight_11 : decode cX7_leastNotRight 11 = .ok (.iload 5, 2) := by decide +kernel
theorem dX7_leastNotRight_13 : decode cX7_leastNotRight 13 = .ok (.iload_n 3, 1) := by decide +kernel
theorem dX7_leastNotRight_14 : decode cX7_leastNotRight 14 = .ok (.if_icmp .gt 46, 3) := by decide +kernel
theorem dX7_leastNotRight_17 : decode cX7_leastNotRight 17 = .ok (.aload_n 1, 1) := by decide +kernel
theorem dX7_leastNotRight_18 : decode cX7_leastNotRight 18 = .ok (.iload_n 2, 1) := by decide +kernel
theorem dX7_leastNotRight_19 : decode cX7_leastNotRight 19 = .ok (.iload 5, 2) := by decide +kernel
theorem dX7_leastNotRight_21 : decode cX7_leastNotRight 21 = .ok (.invokevirtual 48, 3) := by decide +kernel
theorem dX7_leastNotRight_24 : decode cX7_leastNotRight 24 = .ok (.ifCond .eq 7, 3) := by decide +kernel
theorem dX7_leastNotRight_27 : decode cX7_leastNotRight 27 = .ok (.iconst 0, 1) := by decide +kernel
theorem dX7_leastNotRight_28 : decode cX7_leastNotRight 28 = .ok (.goto 5, 3) := by decide +kernel
theorem dX7_leastNotRight_31 : decode cX7_leastNotRight 31 = .ok (.iload 5, 2) := by decide +kernel
theorem dX7_leastNotRight_33 : decode cX7_leastNotRight 33 = .ok (.istore 6, 2) := by decide +kernel
theorem dX7_leastNotRight_35 : decode cX7_leastNotRight 35 = .ok (.iload 4, 2) := by decide +kernel
theorem dX7_leastNotRight_37 : decode cX7_leastNotRight 37 = .ok (.aload_n 0, 1) := by decide +kernel
theorem dX7_leastNotRight_38 : decode cX7_leastNotRight 38 = .ok (.getfield 15, 3) := by decide +kernel
theorem dX7_leastNotRight_41 : decode cX7_leastNotRight 41 = .ok (.iload_n 3, 1) := by decide +kernel
theorem dX7_leastNotRight_42 : decode cX7_leastNotRight 42 = .ok (.iload 5, 2) := by decide +kernel
theorem dX7_leastNotRight_44 : decode cX7_leastNotRight 44 = .ok (.isub, 1) := by decide +kernel
theorem dX7_leastNotRight_45 : decode cX7_leastNotRight 45 = .ok (.iaload, 1) := by decide +kernel
theorem dX7_leastNotRight_46 : decode cX7_leastNotRight 46 = .ok (.iload 6, 2) := by decide +kernel
theorem dX7_leastNotRight_48 : decode cX7_leastNotRight 48 = .ok (.iadd, 1) := by decide +kernel
theorem dX7_leastNotRight_49 : decode cX7_leastNotRight 49 = .ok (.invokestatic 59, 3) := by decide +kernel
theorem dX7_leastNotRight_52 : decode cX7_leastNotRight 52 = .ok (.istore 4, 2) := by decide +kernel
theorem dX7_leastNotRight_54 : decode cX7_leastNotRight 54 = .ok (.iinc 5 1, 3) := by decide +kernel
theorem dX7_leastNotRight_57 : decode cX7_leastNotRight 57 = .ok (.goto (-46), 3) := by decide +kernel
theorem dX7_leastNotRight_60 : decode cX7_leastNotRight 60 = .ok (.iload 4, 2) := by decide +kernel
theorem dX7_leastNotRight_62 : decode cX7_leastNotRight 62 = .ok (.ireturn, 1) := by decide +kernel
theorem dX7_fewestAnew_0 : decode cX7_fewestAnew 0 = .ok (.iload_n 3, 1) := by decide +kernel
theorem dX7_fewestAnew_1 : decode cX7_fewestAnew 1 = .ok (.ifCond .lt 9, 3) := by decide +kernel
theorem dX7_fewestAnew_4 : decode cX7_fewestAnew 4 = .ok (.iload_n 3, 1) := by decide +kernel
theorem dX7_fewestAnew_5 : decode cX7_fewestAnew 5 = .ok (.bipush 9, 2) := by decide +kernel
theorem dX7_fewestAnew_7 : decode cX7_fewestAnew 7 = .ok (.if_icmp .lt 6, 3) := by decide +kernel
theorem dX7_fewestAnew_10 : decode cX7_fewestAnew 10 = .ok (.bipush (-9), 2) := by decide +kernel
theorem dX7_fewestAnew_12 : decode cX7_fewestAnew 12 = .ok (.ireturn, 1) := by decide +kernel
theorem dX7_fewestAnew_13 : decode cX7_fewestAnew 13 = .ok (.aload_n 0, 1) := by decide +kernel
theorem dX7_fewestAnew_14 : decode cX7_fewestAnew 14 = .ok (.invokevirtual 52, 3) := by decide +kernel
theorem dX7_fewestAnew_17 : decode cX7_fewestAnew 17 = .ok (.iconst 0, 1) := by decide +kernel
theorem dX7_fewestAnew_18 : decode cX7_fewestAnew 18 = .ok (.istore 4, 2) := by decide +kernel
theorem dX7_fewestAnew_20 : decode cX7_fewestAnew 20 = .ok (.iload 4, 2) := by decide +kernel
theorem dX7_fewestAnew_22 : decode cX7_fewestAnew 22 = .ok (.bipush 10, 2) := by decide +kernel
theorem dX7_fewestAnew_24 : decode cX7_fewestAnew 24 = .ok (.if_icmp .ge 61, 3) := by decide +kernel
theorem dX7_fewestAnew_27 : decode cX7_fewestAnew 27 = .ok (.iload 4, 2) := by decide +kernel
theorem dX7_fewestAnew_29 : decode cX7_fewestAnew 29 = .ok (.aload_n 2, 1) := by decide +kernel
theorem dX7_fewestAnew_30 : decode cX7_fewestAnew 30 = .ok (.arraylength, 1) := by decide +kernel
theorem dX7_fewestAnew_31 : decode cX7_fewestAnew 31 = .ok (.if_icmp .ge 54, 3) := by decide +kernel
theorem dX7_fewestAnew_34 : decode cX7_fewestAnew 34 = .ok (.aload_n 1, 1) := by decide +kernel
theorem dX7_fewestAnew_35 : decode cX7_fewestAnew 35 = .ok (.iload 4, 2) := by decide +kernel
theorem dX7_fewestAnew_37 : decode cX7_fewestAnew 37 = .ok (.invokevirtual 25, 3) := by decide +kernel
theorem dX7_fewestAnew_40 : decode cX7_fewestAnew 40 = .ok (.ifCond .eq 39, 3) := by decide +kernel
theorem dX7_fewestAnew_43 : decode cX7_fewestAnew 43 = .ok (.iload_n 3, 1) := by decide +kernel
theorem dX7_fewestAnew_44 : decode cX7_fewestAnew 44 = .ok (.iconst 1, 1) := by decide +kernel
theorem dX7_fewestAnew_45 : decode cX7_fewestAnew 45 = .ok (.iadd, 1) := by decide +kernel
theorem dX7_fewestAnew_46 : decode cX7_fewestAnew 46 = .ok (.istore 5, 2) := by decide +kernel
theorem dX7_fewestAnew_48 : decode cX7_fewestAnew 48 = .ok (.iload 5, 2) := by decide +kernel
theorem dX7_fewestAnew_50 : decode cX7_fewestAnew 50 = .ok (.ifCond .lt 29, 3) := by decide +kernel
theorem dX7_fewestAnew_53 : decode cX7_fewestAnew 53 = .ok (.aload_n 0, 1) := by decide +kernel
theorem dX7_fewestAnew_54 : decode cX7_fewestAnew 54 = .ok (.getfield 15, 3) := by decide +kernel
theorem dX7_fewestAnew_57 : decode cX7_fewestAnew 57 = .ok (.iload 5, 2) := by decide +kernel
theorem dX7_fewestAnew_59 : decode cX7_fewestAnew 59 = .ok (.aload_n 0, 1) := by decide +kernel
theorem dX7_fewestAnew_60 : decode cX7_fewestAnew 60 = .ok (.aload_n 1, 1) := by decide +kernel
theorem dX7_fewestAnew_61 : decode cX7_fewestAnew 61 = .ok (.iload 4, 2) := by decide +kernel
theorem dX7_fewestAnew_63 : decode cX7_fewestAnew 63 = .ok (.aload_n 2, 1) := by decide +kernel
theorem dX7_fewestAnew_64 : decode cX7_fewestAnew 64 = .ok (.iload 4, 2) := by decide +kernel
theorem dX7_fewestAnew_66 : decode cX7_fewestAnew 66 = .ok (.iaload, 1) := by decide +kernel
theorem dX7_fewestAnew_67 : decode cX7_fewestAnew 67 = .ok (.iload 5, 2) := by decide +kernel
theorem dX7_fewestAnew_69 : decode cX7_fewestAnew 69 = .ok (.invokevirtual 65, 3) := by decide +kernel
theorem dX7_fewestAnew_72 : decode cX7_fewestAnew 72 = .ok (.iastore, 1) := by decide +kernel
theorem dX7_fewestAnew_73 : decode cX7_fewestAnew 73 = .ok (.iinc 5 (-1), 3) := by decide +kernel
theorem dX7_fewestAnew_76 : decode cX7_fewestAnew 76 = .ok (.goto (-28), 3) := by decide +kernel
theorem dX7_fewestAnew_79 : decode cX7_fewestAnew 79 = .ok (.iinc 4 1, 3) := by decide +kernel
theorem dX7_fewestAnew_82 : decode cX7_fewestAnew 82 = .ok (.goto (-62), 3) := by decide +kernel
theorem dX7_fewestAnew_85 : decode cX7_fewestAnew 85 = .ok (.aload_n 0, 1) := by decide +kernel
theorem dX7_fewestAnew_86 : decode cX7_fewestAnew 86 = .ok (.getfield 15, 3) := by decide +kernel
theorem dX7_fewestAnew_89 : decode cX7_fewestAnew 89 = .ok (.iload_n 3, 1) := by decide +kernel
theorem dX7_fewestAnew_90 : decode cX7_fewestAnew 90 = .ok (.iconst 1, 1) := by decide +kernel
theorem dX7_fewestAnew_91 : decode cX7_fewestAnew 91 = .ok (.iadd, 1) := by decide +kernel
theorem dX7_fewestAnew_92 : decode cX7_fewestAnew 92 = .ok (.iaload, 1) := by decide +kernel
theorem dX7_fewestAnew_93 : decode cX7_fewestAnew 93 = .ok (.sipush 1000, 3) := by decide +kernel
theorem dX7_fewestAnew_96 : decode cX7_fewestAnew 96 = .ok (.if_icmp .ge 14, 3) := by decide +kernel
theorem dX7_fewestAnew_99 : decode cX7_fewestAnew 99 = .ok (.aload_n 0, 1) := by decide +kernel
theorem dX7_fewestAnew_100 : decode cX7_fewestAnew 100 = .ok (.getfield 15, 3) := by decide +kernel
theorem dX7_fewestAnew_103 : decode cX7_fewestAnew 103 = .ok (.iload_n 3, 1) := by decide +kernel
theorem dX7_fewestAnew_104 : decode cX7_fewestAnew 104 = .ok (.iconst 1, 1) := by decide +kernel
theorem dX7_fewestAnew_105 : decode cX7_fewestAnew 105 = .ok (.iadd, 1) := by decide +kernel
theorem dX7_fewestAnew_106 : decode cX7_fewestAnew 106 = .ok (.iaload, 1) := by decide +kernel
theorem dX7_fewestAnew_107 : decode cX7_fewestAnew 107 = .ok (.goto 5, 3) := by decide +kernel
theorem dX7_fewestAnew_110 : decode cX7_fewestAnew 110 = .ok (.bipush (-9), 2) := by decide +kernel
theorem dX7_fewestAnew_112 : decode cX7_fewestAnew 112 = .ok (.ireturn, 1) := by decide +kernel
theorem dX7_leastAnew_0 : decode cX7_leastAnew 0 = .ok (.aload_n 0, 1) := by decide +kernel
theorem dX7_leastAnew_1 : decode cX7_leastAnew 1 = .ok (.getfield 15, 3) := by decide +kernel
theorem dX7_leastAnew_4 : decode cX7_leastAnew 4 = .ok (.iload 4, 2) := by decide +kernel
theorem dX7_leastAnew_6 : decode cX7_leastAnew 6 = .ok (.iaload, 1) := by decide +kernel
theorem dX7_leastAnew_7 : decode cX7_leastAnew 7 = .ok (.iload_n 3, 1) := by decide +kernel
theorem dX7_leastAnew_8 : decode cX7_leastAnew 8 = .ok (.iadd, 1) := by decide +kernel
theorem dX7_leastAnew_9 : decode cX7_leastAnew 9 = .ok (.istore 5, 2) := by decide +kernel
theorem dX7_leastAnew_11 : decode cX7_leastAnew 11 = .ok (.iconst 1, 1) := by decide +kernel
theorem dX7_leastAnew_12 : decode cX7_leastAnew 12 = .ok (.istore 6, 2) := by decide +kernel
theorem dX7_leastAnew_14 : decode cX7_leastAnew 14 = .ok (.iload 6, 2) := by decide +kernel
theorem dX7_leastAnew_16 : decode cX7_leastAnew 16 = .ok (.iload 4, 2) := by decide +kernel
theorem dX7_leastAnew_18 : decode cX7_leastAnew 18 = .ok (.if_icmp .gt 45, 3) := by decide +kernel
theorem dX7_leastAnew_21 : decode cX7_leastAnew 21 = .ok (.aload_n 1, 1) := by decide +kernel
theorem dX7_leastAnew_22 : decode cX7_leastAnew 22 = .ok (.iload_n 2, 1) := by decide +kernel
theorem dX7_leastAnew_23 : decode cX7_leastAnew 23 = .ok (.iload 6, 2) := by decide +kernel
theorem dX7_leastAnew_25 : decode cX7_leastAnew 25 = .ok (.invokevirtual 48, 3) := by decide +kernel
theorem dX7_leastAnew_28 : decode cX7_leastAnew 28 = .ok (.ifCond .eq 29, 3) := by decide +kernel
theorem dX7_leastAnew_31 : decode cX7_leastAnew 31 = .ok (.iload 5, 2) := by decide +kernel
theorem dX7_leastAnew_33 : decode cX7_leastAnew 33 = .ok (.aload_n 0, 1) := by decide +kernel
theorem dX7_leastAnew_34 : decode cX7_leastAnew 34 = .ok (.getfield 15, 3) := by decide +kernel
theorem dX7_leastAnew_37 : decode cX7_leastAnew 37 = .ok (.iload 4, 2) := by decide +kernel
theorem dX7_leastAnew_39 : decode cX7_leastAnew 39 = .ok (.iload 6, 2) := by decide +kernel
theorem dX7_leastAnew_41 : decode cX7_leastAnew 41 = .ok (.isub, 1) := by decide +kernel
theorem dX7_leastAnew_42 : decode cX7_leastAnew 42 = .ok (.iaload, 1) := by decide +kernel
theorem dX7_leastAnew_43 : decode cX7_leastAnew 43 = .ok (.iconst 0, 1) := by decide +kernel
theorem dX7_leastAnew_44 : decode cX7_leastAnew 44 = .ok (.iload_n 3, 1) := by decide +kernel
theorem dX7_leastAnew_45 : decode cX7_leastAnew 45 = .ok (.iload 6, 2) := by decide +kernel
theorem dX7_leastAnew_47 : decode cX7_leastAnew 47 = .ok (.isub, 1) := by decide +kernel
theorem dX7_leastAnew_48 : decode cX7_leastAnew 48 = .ok (.invokestatic 69, 3) := by decide +kernel
theorem dX7_leastAnew_51 : decode cX7_leastAnew 51 = .ok (.iadd, 1) := by decide +kernel
theorem dX7_leastAnew_52 : decode cX7_leastAnew 52 = .ok (.invokestatic 59, 3) := by decide +kernel
theorem dX7_leastAnew_55 : decode cX7_leastAnew 55 = .ok (.istore 5, 2) := by decide +kernel
theorem dX7_leastAnew_57 : decode cX7_leastAnew 57 = .ok (.iinc 6 1, 3) := by decide +kernel
theorem dX7_leastAnew_60 : decode cX7_leastAnew 60 = .ok (.goto (-46), 3) := by decide +kernel
theorem dX7_leastAnew_63 : decode cX7_leastAnew 63 = .ok (.iload 5, 2) := by decide +kernel
theorem dX7_leastAnew_65 : decode cX7_leastAnew 65 = .ok (.ireturn, 1) := by decide +kernel
theorem dX7_startCosts_0 : decode cX7_startCosts 0 = .ok (.aload_n 0, 1) := by decide +kernel
theorem dX7_startCosts_1 : decode cX7_startCosts 1 = .ok (.getfield 15, 3) := by decide +kernel
theorem dX7_startCosts_4 : decode cX7_startCosts 4 = .ok (.sipush 1000, 3) := by decide +kernel
theorem dX7_startCosts_7 : decode cX7_startCosts 7 = .ok (.invokestatic 72, 3) := by decide +kernel
theorem dX7_startCosts_10 : decode cX7_startCosts 10 = .ok (.aload_n 0, 1) := by decide +kernel
theorem dX7_startCosts_11 : decode cX7_startCosts 11 = .ok (.getfield 15, 3) := by decide +kernel
theorem dX7_startCosts_14 : decode cX7_startCosts 14 = .ok (.iconst 0, 1) := by decide +kernel
theorem dX7_startCosts_15 : decode cX7_startCosts 15 = .ok (.iconst 0, 1) := by decide +kernel
theorem dX7_startCosts_16 : decode cX7_startCosts 16 = .ok (.iastore, 1) := by decide +kernel
theorem dX7_startCosts_17 : decode cX7_startCosts 17 = .ok (.return_, 1) := by decide +kernel
theorem dX7_firstAllRight_0 : decode cX7_firstAllRight 0 = .ok (.aload_n 0, 1) := by decide +kernel
theorem dX7_firstAllRight_1 : decode cX7_firstAllRight 1 = .ok (.getfield 22, 3) := by decide +kernel
theorem dX7_firstAllRight_4 : decode cX7_firstAllRight 4 = .ok (.iconst 0, 1) := by decide +kernel
theorem dX7_firstAllRight_5 : decode cX7_firstAllRight 5 = .ok (.invokestatic 72, 3) := by decide +kernel
theorem dX7_firstAllRight_8 : decode cX7_firstAllRight 8 = .ok (.iconst 0, 1) := by decide +kernel
theorem dX7_firstAllRight_9 : decode cX7_firstAllRight 9 = .ok (.istore 4, 2) := by decide +kernel
theorem dX7_firstAllRight_11 : decode cX7_firstAllRight 11 = .ok (.iconst 0, 1) := by decide +kernel
theorem dX7_firstAllRight_12 : decode cX7_firstAllRight 12 = .ok (.istore 5, 2) := by decide +kernel
theorem dX7_firstAllRight_14 : decode cX7_firstAllRight 14 = .ok (.iload 5, 2) := by decide +kernel
theorem dX7_firstAllRight_16 : decode cX7_firstAllRight 16 = .ok (.iload_n 2, 1) := by decide +kernel
theorem dX7_firstAllRight_17 : decode cX7_firstAllRight 17 = .ok (.if_icmp .gt 25, 3) := by decide +kernel
theorem dX7_firstAllRight_20 : decode cX7_firstAllRight 20 = .ok (.iload 5, 2) := by decide +kernel
theorem dX7_firstAllRight_22 : decode cX7_firstAllRight 22 = .ok (.iload_n 3, 1) := by decide +kernel
theorem dX7_firstAllRight_23 : decode cX7_firstAllRight 23 = .ok (.if_icmp .ge 19, 3) := by decide +kernel
theorem dX7_firstAllRight_26 : decode cX7_firstAllRight 26 = .ok (.aload_n 0, 1) := by decide +kernel
theorem dX7_firstAllRight_27 : decode cX7_firstAllRight 27 = .ok (.aload_n 1, 1) := by decide +kernel
theorem dX7_firstAllRight_28 : decode cX7_firstAllRight 28 = .ok (.iload 4, 2) := by decide +kernel
theorem dX7_firstAllRight_30 : decode cX7_firstAllRight 30 = .ok (.iload_n 3, 1) := by decide +kernel
theorem dX7_firstAllRight_31 : decode cX7_firstAllRight 31 = .ok (.invokevirtual 75, 3) := by decide +kernel
theorem dX7_firstAllRight_34 : decode cX7_firstAllRight 34 = .ok (.istore 4, 2) := by decide +kernel
theorem dX7_firstAllRight_36 : decode cX7_firstAllRight 36 = .ok (.iinc 5 1, 3) := by decide +kernel
theorem dX7_firstAllRight_39 : decode cX7_firstAllRight 39 = .ok (.goto (-25), 3) := by decide +kernel
theorem dX7_firstAllRight_42 : decode cX7_firstAllRight 42 = .ok (.iload 4, 2) := by decide +kernel
theorem dX7_firstAllRight_44 : decode cX7_firstAllRight 44 = .ok (.bipush 10, 2) := by decide +kernel
theorem dX7_firstAllRight_46 : decode cX7_firstAllRight 46 = .ok (.if_icmp .ge 8, 3) := by decide +kernel
theorem dX7_firstAllRight_49 : decode cX7_firstAllRight 49 = .ok (.iload 4, 2) := by decide +kernel
theorem dX7_firstAllRight_51 : decode cX7_firstAllRight 51 = .ok (.goto 5, 3) := by decide +kernel
theorem dX7_firstAllRight_54 : decode cX7_firstAllRight 54 = .ok (.bipush (-9), 2) := by decide +kernel
theorem dX7_firstAllRight_56 : decode cX7_firstAllRight 56 = .ok (.ireturn, 1) := by decide +kernel
theorem dX7_leastFrom_0 : decode cX7_leastFrom 0 = .ok (.iconst 0, 1) := by decide +kernel
theorem dX7_leastFrom_1 : decode cX7_leastFrom 1 = .ok (.iload_n 2, 1) := by decide +kernel
theorem dX7_leastFrom_2 : decode cX7_leastFrom 2 = .ok (.invokestatic 69, 3) := by decide +kernel
theorem dX7_leastFrom_5 : decode cX7_leastFrom 5 = .ok (.istore 4, 2) := by decide +kernel
theorem dX7_leastFrom_7 : decode cX7_leastFrom 7 = .ok (.iload 4, 2) := by decide +kernel
theorem dX7_leastFrom_9 : decode cX7_leastFrom 9 = .ok (.bipush 10, 2) := by decide +kernel
theorem dX7_leastFrom_11 : decode cX7_leastFrom 11 = .ok (.if_icmp .ge 52, 3) := by decide +kernel
theorem dX7_leastFrom_14 : decode cX7_leastFrom 14 = .ok (.aload_n 1, 1) := by decide +kernel
theorem dX7_leastFrom_15 : decode cX7_leastFrom 15 = .ok (.iload 4, 2) := by decide +kernel
theorem dX7_leastFrom_17 : decode cX7_leastFrom 17 = .ok (.invokevirtual 25, 3) := by decide +kernel
theorem dX7_leastFrom_20 : decode cX7_leastFrom 20 = .ok (.ifCond .eq 37, 3) := by decide +kernel
theorem dX7_leastFrom_23 : decode cX7_leastFrom 23 = .ok (.aload_n 0, 1) := by decide +kernel
theorem dX7_leastFrom_24 : decode cX7_leastFrom 24 = .ok (.getfield 22, 3) := by decide +kernel
theorem dX7_leastFrom_27 : decode cX7_leastFrom 27 = .ok (.iload 4, 2) := by decide +kernel
theorem dX7_leastFrom_29 : decode cX7_leastFrom 29 = .ok (.dup2, 1) := by decide +kernel
theorem dX7_leastFrom_30 : decode cX7_leastFrom 30 = .ok (.iaload, 1) := by decide +kernel
theorem dX7_leastFrom_31 : decode cX7_leastFrom 31 = .ok (.iconst 1, 1) := by decide +kernel
theorem dX7_leastFrom_32 : decode cX7_leastFrom 32 = .ok (.iadd, 1) := by decide +kernel
theorem dX7_leastFrom_33 : decode cX7_leastFrom 33 = .ok (.iastore, 1) := by decide +kernel
theorem dX7_leastFrom_34 : decode cX7_leastFrom 34 = .ok (.aload_n 0, 1) := by decide +kernel
theorem dX7_leastFrom_35 : decode cX7_leastFrom 35 = .ok (.aload_n 1, 1) := by decide +kernel
theorem dX7_leastFrom_36 : decode cX7_leastFrom 36 = .ok (.iload_n 3, 1) := by decide +kernel
theorem dX7_leastFrom_37 : decode cX7_leastFrom 37 = .ok (.invokevirtual 78, 3) := by decide +kernel
theorem dX7_leastFrom_40 : decode cX7_leastFrom 40 = .ok (.ifCond .eq 6, 3) := by decide +kernel
theorem dX7_leastFrom_43 : decode cX7_leastFrom 43 = .ok (.iload 4, 2) := by decide +kernel
theorem dX7_leastFrom_45 : decode cX7_leastFrom 45 = .ok (.ireturn, 1) := by decide +kernel
theorem dX7_leastFrom_46 : decode cX7_leastFrom 46 = .ok (.aload_n 0, 1) := by decide +kernel
theorem dX7_leastFrom_47 : decode cX7_leastFrom 47 = .ok (.getfield 22, 3) := by decide +kernel
theorem dX7_leastFrom_50 : decode cX7_leastFrom 50 = .ok (.iload 4, 2) := by decide +kernel
theorem dX7_leastFrom_52 : decode cX7_leastFrom 52 = .ok (.dup2, 1) := by decide +kernel
theorem dX7_leastFrom_53 : decode cX7_leastFrom 53 = .ok (.iaload, 1) := by decide +kernel
theorem dX7_leastFrom_54 : decode cX7_leastFrom 54 = .ok (.iconst 1, 1) := by decide +kernel
theorem dX7_leastFrom_55 : decode cX7_leastFrom 55 = .ok (.isub, 1) := by decide +kernel
theorem dX7_leastFrom_56 : decode cX7_leastFrom 56 = .ok (.iastore, 1) := by decide +kernel
theorem dX7_leastFrom_57 : decode cX7_leastFrom 57 = .ok (.iinc 4 1, 3) := by decide +kernel
theorem dX7_leastFrom_60 : decode cX7_leastFrom 60 = .ok (.goto (-53), 3) := by decide +kernel
theorem dX7_leastFrom_63 : decode cX7_leastFrom 63 = .ok (.bipush 10, 2) := by decide +kernel
theorem dX7_leastFrom_65 : decode cX7_leastFrom 65 = .ok (.ireturn, 1) := by decide +kernel
theorem dX7_canBeFilled_0 : decode cX7_canBeFilled 0 = .ok (.iconst 1, 1) := by decide +kernel
theorem dX7_canBeFilled_1 : decode cX7_canBeFilled 1 = .ok (.istore_n 3, 1) := by decide +kernel
theorem dX7_canBeFilled_2 : decode cX7_canBeFilled 2 = .ok (.iconst 0, 1) := by decide +kernel
theorem dX7_canBeFilled_3 : decode cX7_canBeFilled 3 = .ok (.istore 4, 2) := by decide +kernel
