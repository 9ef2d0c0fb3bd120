theorem dX7_canBeFilled_5 : decode cX7_canBeFilled 5 = .ok (.iload 4, 2) := by decide +kernel
theorem dX7_canBeFilled_7 : decode cX7_canBeFilled 7 = .ok (.bipush 10, 2) := by decide +kernel
theorem dX7_canBeFilled_9 : decode cX7_canBeFilled 9 = .ok (.if_icmp .ge 28, 3) := by decide +kernel
theorem dX7_canBeFilled_12 : decode cX7_canBeFilled 12 = .ok (.aload_n 1, 1) := by decide +kernel
theorem dX7_canBeFilled_13 : decode cX7_canBeFilled 13 = .ok (.iload 4, 2) := by decide +kernel
theorem dX7_canBeFilled_15 : decode cX7_canBeFilled 15 = .ok (.invokevirtual 25, 3) := by decide +kernel
theorem dX7_canBeFilled_18 : decode cX7_canBeFilled 18 = .ok (.ifCond .eq 13, 3) := by decide +kernel
theorem dX7_canBeFilled_21 : decode cX7_canBeFilled 21 = .ok (.aload_n 0, 1) := by decide +kernel
theorem dX7_canBeFilled_22 : decode cX7_canBeFilled 22 = .ok (.aload_n 1, 1) := by decide +kernel
theorem dX7_canBeFilled_23 : decode cX7_canBeFilled 23 = .ok (.iload 4, 2) := by decide +kernel
theorem dX7_canBeFilled_25 : decode cX7_canBeFilled 25 = .ok (.iload_n 2, 1) := by decide +kernel
theorem dX7_canBeFilled_26 : decode cX7_canBeFilled 26 = .ok (.iload_n 3, 1) := by decide +kernel
theorem dX7_canBeFilled_27 : decode cX7_canBeFilled 27 = .ok (.invokevirtual 82, 3) := by decide +kernel
theorem dX7_canBeFilled_30 : decode cX7_canBeFilled 30 = .ok (.istore_n 3, 1) := by decide +kernel
theorem dX7_canBeFilled_31 : decode cX7_canBeFilled 31 = .ok (.iinc 4 1, 3) := by decide +kernel
theorem dX7_canBeFilled_34 : decode cX7_canBeFilled 34 = .ok (.goto (-29), 3) := by decide +kernel
theorem dX7_canBeFilled_37 : decode cX7_canBeFilled 37 = .ok (.iload_n 3, 1) := by decide +kernel
theorem dX7_canBeFilled_38 : decode cX7_canBeFilled 38 = .ok (.iload_n 2, 1) := by decide +kernel
theorem dX7_canBeFilled_39 : decode cX7_canBeFilled 39 = .ok (.ishr, 1) := by decide +kernel
theorem dX7_canBeFilled_40 : decode cX7_canBeFilled 40 = .ok (.iconst 1, 1) := by decide +kernel
theorem dX7_canBeFilled_41 : decode cX7_canBeFilled 41 = .ok (.iand, 1) := by decide +kernel
theorem dX7_canBeFilled_42 : decode cX7_canBeFilled 42 = .ok (.iconst 1, 1) := by decide +kernel
theorem dX7_canBeFilled_43 : decode cX7_canBeFilled 43 = .ok (.if_icmp .ne 7, 3) := by decide +kernel
theorem dX7_canBeFilled_46 : decode cX7_canBeFilled 46 = .ok (.iconst 1, 1) := by decide +kernel
theorem dX7_canBeFilled_47 : decode cX7_canBeFilled 47 = .ok (.goto 4, 3) := by decide +kernel
theorem dX7_canBeFilled_50 : decode cX7_canBeFilled 50 = .ok (.iconst 0, 1) := by decide +kernel
theorem dX7_canBeFilled_51 : decode cX7_canBeFilled 51 = .ok (.ireturn, 1) := by decide +kernel
theorem dX7_reachedWith_0 : decode cX7_reachedWith 0 = .ok (.iload_n 2, 1) := by decide +kernel
theorem dX7_reachedWith_1 : decode cX7_reachedWith 1 = .ok (.invokestatic 85, 3) := by decide +kernel
theorem dX7_reachedWith_4 : decode cX7_reachedWith 4 = .ok (.ifCond .eq 12, 3) := by decide +kernel
theorem dX7_reachedWith_7 : decode cX7_reachedWith 7 = .ok (.aload_n 0, 1) := by decide +kernel
theorem dX7_reachedWith_8 : decode cX7_reachedWith 8 = .ok (.getfield 22, 3) := by decide +kernel
theorem dX7_reachedWith_11 : decode cX7_reachedWith 11 = .ok (.iload_n 2, 1) := by decide +kernel
theorem dX7_reachedWith_12 : decode cX7_reachedWith 12 = .ok (.iaload, 1) := by decide +kernel
theorem dX7_reachedWith_13 : decode cX7_reachedWith 13 = .ok (.goto 4, 3) := by decide +kernel
theorem dX7_reachedWith_16 : decode cX7_reachedWith 16 = .ok (.iconst 0, 1) := by decide +kernel
theorem dX7_reachedWith_17 : decode cX7_reachedWith 17 = .ok (.istore 5, 2) := by decide +kernel
theorem dX7_reachedWith_19 : decode cX7_reachedWith 19 = .ok (.iload 5, 2) := by decide +kernel
theorem dX7_reachedWith_21 : decode cX7_reachedWith 21 = .ok (.ifCond .ne 8, 3) := by decide +kernel
theorem dX7_reachedWith_24 : decode cX7_reachedWith 24 = .ok (.iload 4, 2) := by decide +kernel
theorem dX7_reachedWith_26 : decode cX7_reachedWith 26 = .ok (.goto 4, 3) := by decide +kernel
theorem dX7_reachedWith_29 : decode cX7_reachedWith 29 = .ok (.iconst 0, 1) := by decide +kernel
theorem dX7_reachedWith_30 : decode cX7_reachedWith 30 = .ok (.istore 6, 2) := by decide +kernel
theorem dX7_reachedWith_32 : decode cX7_reachedWith 32 = .ok (.iconst 1, 1) := by decide +kernel
theorem dX7_reachedWith_33 : decode cX7_reachedWith 33 = .ok (.iload 5, 2) := by decide +kernel
theorem dX7_reachedWith_35 : decode cX7_reachedWith 35 = .ok (.invokestatic 69, 3) := by decide +kernel
theorem dX7_reachedWith_38 : decode cX7_reachedWith 38 = .ok (.istore 7, 2) := by decide +kernel
theorem dX7_reachedWith_40 : decode cX7_reachedWith 40 = .ok (.iload 7, 2) := by decide +kernel
theorem dX7_reachedWith_42 : decode cX7_reachedWith 42 = .ok (.iload_n 3, 1) := by decide +kernel
theorem dX7_reachedWith_43 : decode cX7_reachedWith 43 = .ok (.if_icmp .gt 29, 3) := by decide +kernel
theorem dX7_reachedWith_46 : decode cX7_reachedWith 46 = .ok (.aload_n 1, 1) := by decide +kernel
theorem dX7_reachedWith_47 : decode cX7_reachedWith 47 = .ok (.iload_n 2, 1) := by decide +kernel
theorem dX7_reachedWith_48 : decode cX7_reachedWith 48 = .ok (.iload 7, 2) := by decide +kernel
theorem dX7_reachedWith_50 : decode cX7_reachedWith 50 = .ok (.invokevirtual 48, 3) := by decide +kernel
theorem dX7_reachedWith_53 : decode cX7_reachedWith 53 = .ok (.ifCond .eq 13, 3) := by decide +kernel
theorem dX7_reachedWith_56 : decode cX7_reachedWith 56 = .ok (.iload 6, 2) := by decide +kernel
theorem dX7_reachedWith_58 : decode cX7_reachedWith 58 = .ok (.iload 4, 2) := by decide +kernel
theorem dX7_reachedWith_60 : decode cX7_reachedWith 60 = .ok (.iload 7, 2) := by decide +kernel
theorem dX7_reachedWith_62 : decode cX7_reachedWith 62 = .ok (.ishl, 1) := by decide +kernel
theorem dX7_reachedWith_63 : decode cX7_reachedWith 63 = .ok (.ior, 1) := by decide +kernel
theorem dX7_reachedWith_64 : decode cX7_reachedWith 64 = .ok (.istore 6, 2) := by decide +kernel
theorem dX7_reachedWith_66 : decode cX7_reachedWith 66 = .ok (.iinc 7 1, 3) := by decide +kernel
theorem dX7_reachedWith_69 : decode cX7_reachedWith 69 = .ok (.goto (-29), 3) := by decide +kernel
theorem dX7_reachedWith_72 : decode cX7_reachedWith 72 = .ok (.iload 6, 2) := by decide +kernel
theorem dX7_reachedWith_74 : decode cX7_reachedWith 74 = .ok (.ireturn, 1) := by decide +kernel
theorem dX8_init_0 : decode cX8_init 0 = .ok (.aload_n 0, 1) := by decide +kernel
theorem dX8_init_1 : decode cX8_init 1 = .ok (.invokespecial 3, 3) := by decide +kernel
theorem dX8_init_4 : decode cX8_init 4 = .ok (.return_, 1) := by decide +kernel
theorem dX8_clear_0 : decode cX8_clear 0 = .ok (.aload_n 0, 1) := by decide +kernel
theorem dX8_clear_1 : decode cX8_clear 1 = .ok (.iconst 0, 1) := by decide +kernel
theorem dX8_clear_2 : decode cX8_clear 2 = .ok (.putfield 9, 3) := by decide +kernel
theorem dX8_clear_5 : decode cX8_clear 5 = .ok (.aload_n 0, 1) := by decide +kernel
theorem dX8_clear_6 : decode cX8_clear 6 = .ok (.iconst 0, 1) := by decide +kernel
theorem dX8_clear_7 : decode cX8_clear 7 = .ok (.putfield 15, 3) := by decide +kernel
theorem dX8_clear_10 : decode cX8_clear 10 = .ok (.aload_n 0, 1) := by decide +kernel
theorem dX8_clear_11 : decode cX8_clear 11 = .ok (.iconst 0, 1) := by decide +kernel
theorem dX8_clear_12 : decode cX8_clear 12 = .ok (.putfield 18, 3) := by decide +kernel
theorem dX8_clear_15 : decode cX8_clear 15 = .ok (.aload_n 0, 1) := by decide +kernel
theorem dX8_clear_16 : decode cX8_clear 16 = .ok (.iconst 0, 1) := by decide +kernel
theorem dX8_clear_17 : decode cX8_clear 17 = .ok (.putfield 21, 3) := by decide +kernel
theorem dX8_clear_20 : decode cX8_clear 20 = .ok (.return_, 1) := by decide +kernel
theorem dX8_become_0 : decode cX8_become 0 = .ok (.aload_n 0, 1) := by decide +kernel
theorem dX8_become_1 : decode cX8_become 1 = .ok (.aload_n 1, 1) := by decide +kernel
theorem dX8_become_2 : decode cX8_become 2 = .ok (.getfield 9, 3) := by decide +kernel
theorem dX8_become_5 : decode cX8_become 5 = .ok (.putfield 9, 3) := by decide +kernel
theorem dX8_become_8 : decode cX8_become 8 = .ok (.aload_n 0, 1) := by decide +kernel
theorem dX8_become_9 : decode cX8_become 9 = .ok (.aload_n 1, 1) := by decide +kernel
theorem dX8_become_10 : decode cX8_become 10 = .ok (.getfield 15, 3) := by decide +kernel
theorem dX8_become_13 : decode cX8_become 13 = .ok (.putfield 15, 3) := by decide +kernel
theorem dX8_become_16 : decode cX8_become 16 = .ok (.aload_n 0, 1) := by decide +kernel
theorem dX8_become_17 : decode cX8_become 17 = .ok (.aload_n 1, 1) := by decide +kernel
theorem dX8_become_18 : decode cX8_become 18 = .ok (.getfield 18, 3) := by decide +kernel
theorem dX8_become_21 : decode cX8_become 21 = .ok (.putfield 18, 3) := by decide +kernel
theorem dX8_become_24 : decode cX8_become 24 = .ok (.aload_n 0, 1) := by decide +kernel
theorem dX8_become_25 : decode cX8_become 25 = .ok (.aload_n 1, 1) := by decide +kernel
theorem dX8_become_26 : decode cX8_become 26 = .ok (.getfield 21, 3) := by decide +kernel
theorem dX8_become_29 : decode cX8_become 29 = .ok (.putfield 21, 3) := by decide +kernel
theorem dX8_become_32 : decode cX8_become 32 = .ok (.return_, 1) := by decide +kernel
theorem dX8_takeLaw_0 : decode cX8_takeLaw 0 = .ok (.aload_n 0, 1) := by decide +kernel
theorem dX8_takeLaw_1 : decode cX8_takeLaw 1 = .ok (.iload_n 1, 1) := by decide +kernel
theorem dX8_takeLaw_2 : decode cX8_takeLaw 2 = .ok (.putfield 9, 3) := by decide +kernel
theorem dX8_takeLaw_5 : decode cX8_takeLaw 5 = .ok (.iload_n 1, 1) := by decide +kernel
theorem dX8_takeLaw_6 : decode cX8_takeLaw 6 = .ok (.ifCond .lt 12, 3) := by decide +kernel
theorem dX8_takeLaw_9 : decode cX8_takeLaw 9 = .ok (.iload_n 1, 1) := by decide +kernel
theorem dX8_takeLaw_10 : decode cX8_takeLaw 10 = .ok (.iconst 2, 1) := by decide +kernel
theorem dX8_takeLaw_11 : decode cX8_takeLaw 11 = .ok (.if_icmp .gt 7, 3) := by decide +kernel
theorem dX8_takeLaw_14 : decode cX8_takeLaw 14 = .ok (.iconst 1, 1) := by decide +kernel
theorem dX8_takeLaw_15 : decode cX8_takeLaw 15 = .ok (.goto 4, 3) := by decide +kernel
theorem dX8_takeLaw_18 : decode cX8_takeLaw 18 = .ok (.iconst 0, 1) := by decide +kernel
theorem dX8_takeLaw_19 : decode cX8_takeLaw 19 = .ok (.ireturn, 1) := by decide +kernel
theorem dX8_takeShare_0 : decode cX8_takeShare 0 = .ok (.aload_n 0, 1) := by decide +kernel
theorem dX8_takeShare_1 : decode cX8_takeShare 1 = .ok (.iload_n 1, 1) := by decide +kernel
theorem dX8_takeShare_2 : decode cX8_takeShare 2 = .ok (.putfield 15, 3) := by decide +kernel
theorem dX8_takeShare_5 : decode cX8_takeShare 5 = .ok (.iload_n 1, 1) := by decide +kernel
theorem dX8_takeShare_6 : decode cX8_takeShare 6 = .ok (.ifCond .lt 12, 3) := by decide +kernel
theorem dX8_takeShare_9 : decode cX8_takeShare 9 = .ok (.iload_n 1, 1) := by decide +kernel
theorem dX8_takeShare_10 : decode cX8_takeShare 10 = .ok (.iconst 1, 1) := by decide +kernel
theorem dX8_takeShare_11 : decode cX8_takeShare 11 = .ok (.if_icmp .gt 7, 3) := by decide +kernel
theorem dX8_takeShare_14 : decode cX8_takeShare 14 = .ok (.iconst 1, 1) := by decide +kernel
theorem dX8_takeShare_15 : decode cX8_takeShare 15 = .ok (.goto 4, 3) := by decide +kernel
theorem dX8_takeShare_18 : decode cX8_takeShare 18 = .ok (.iconst 0, 1) := by decide +kernel
theorem dX8_takeShare_19 : decode cX8_takeShare 19 = .ok (.ireturn, 1) := by decide +kernel
theorem dX8_takePotFigure_0 : decode cX8_takePotFigure 0 = .ok (.aload_n 0, 1) := by decide +kernel
theorem dX8_takePotFigure_1 : decode cX8_takePotFigure 1 = .ok (.aload_n 0, 1) := by decide +kernel
theorem dX8_takePotFigure_2 : decode cX8_takePotFigure 2 = .ok (.getfield 18, 3) := by decide +kernel
theorem dX8_takePotFigure_5 : decode cX8_takePotFigure 5 = .ok (.bipush 10, 2) := by decide +kernel
theorem dX8_takePotFigure_7 : decode cX8_takePotFigure 7 = .ok (.imul, 1) := by decide +kernel
theorem dX8_takePotFigure_8 : decode cX8_takePotFigure 8 = .ok (.iload_n 1, 1) := by decide +kernel
theorem dX8_takePotFigure_9 : decode cX8_takePotFigure 9 = .ok (.iadd, 1) := by decide +kernel
theorem dX8_takePotFigure_10 : decode cX8_takePotFigure 10 = .ok (.putfield 18, 3) := by decide +kernel
theorem dX8_takePotFigure_13 : decode cX8_takePotFigure 13 = .ok (.return_, 1) := by decide +kernel
theorem dX8_bar_0 : decode cX8_bar 0 = .ok (.aload_n 0, 1) := by decide +kernel
theorem dX8_bar_1 : decode cX8_bar 1 = .ok (.dup, 1) := by decide +kernel
theorem dX8_bar_2 : decode cX8_bar 2 = .ok (.getfield 21, 3) := by decide +kernel
theorem dX8_bar_5 : decode cX8_bar 5 = .ok (.iconst 1, 1) := by decide +kernel
theorem dX8_bar_6 : decode cX8_bar 6 = .ok (.iload_n 1, 1) := by decide +kernel
theorem dX8_bar_7 : decode cX8_bar 7 = .ok (.ishl, 1) := by decide +kernel
theorem dX8_bar_8 : decode cX8_bar 8 = .ok (.ior, 1) := by decide +kernel
theorem dX8_bar_9 : decode cX8_bar 9 = .ok (.putfield 21, 3) := by decide +kernel
theorem dX8_bar_12 : decode cX8_bar 12 = .ok (.return_, 1) := by decide +kernel
theorem dX8_lawKind_0 : decode cX8_lawKind 0 = .ok (.aload_n 0, 1) := by decide +kernel
theorem dX8_lawKind_1 : decode cX8_lawKind 1 = .ok (.getfield 9, 3) := by decide +kernel
theorem dX8_lawKind_4 : decode cX8_lawKind 4 = .ok (.ireturn, 1) := by decide +kernel
theorem dX8_shareKind_0 : decode cX8_shareKind 0 = .ok (.aload_n 0, 1) := by decide +kernel
theorem dX8_shareKind_1 : decode cX8_shareKind 1 = .ok (.getfield 15, 3) := by decide +kernel
theorem dX8_shareKind_4 : decode cX8_shareKind 4 = .ok (.ireturn, 1) := by decide +kernel
theorem dX8_potWhole_0 : decode cX8_potWhole 0 = .ok (.aload_n 0, 1) := by decide +kernel
theorem dX8_potWhole_1 : decode cX8_potWhole 1 = .ok (.getfield 18, 3) := by decide +kernel
theorem dX8_potWhole_4 : decode cX8_potWhole 4 = .ok (.ireturn, 1) := by decide +kernel
theorem dX8_barredBits_0 : decode cX8_barredBits 0 = .ok (.aload_n 0, 1) := by decide +kernel
theorem dX8_barredBits_1 : decode cX8_barredBits 1 = .ok (.getfield 21, 3) := by decide +kernel
theorem dX8_barredBits_4 : decode cX8_barredBits 4 = .ok (.ireturn, 1) := by decide +kernel
theorem dX8_barredMany_0 : decode cX8_barredMany 0 = .ok (.aload_n 0, 1) := by decide +kernel
theorem dX8_barredMany_1 : decode cX8_barredMany 1 = .ok (.getfield 21, 3) := by decide +kernel
theorem dX8_barredMany_4 : decode cX8_barredMany 4 = .ok (.invokestatic 24, 3) := by decide +kernel
theorem dX8_barredMany_7 : decode cX8_barredMany 7 = .ok (.ireturn, 1) := by decide +kernel
theorem dX8_isOpen_0 : decode cX8_isOpen 0 = .ok (.iload_n 1, 1) := by decide +kernel
theorem dX8_isOpen_1 : decode cX8_isOpen 1 = .ok (.invokestatic 30, 3) := by decide +kernel
theorem dX8_isOpen_4 : decode cX8_isOpen 4 = .ok (.ifCond .eq 18, 3) := by decide +kernel
theorem dX8_isOpen_7 : decode cX8_isOpen 7 = .ok (.aload_n 0, 1) := by decide +kernel
theorem dX8_isOpen_8 : decode cX8_isOpen 8 = .ok (.getfield 21, 3) := by decide +kernel
theorem dX8_isOpen_11 : decode cX8_isOpen 11 = .ok (.iload_n 1, 1) := by decide +kernel
theorem dX8_isOpen_12 : decode cX8_isOpen 12 = .ok (.ishr, 1) := by decide +kernel
theorem dX8_isOpen_13 : decode cX8_isOpen 13 = .ok (.iconst 1, 1) := by decide +kernel
theorem dX8_isOpen_14 : decode cX8_isOpen 14 = .ok (.iand, 1) := by decide +kernel
theorem dX8_isOpen_15 : decode cX8_isOpen 15 = .ok (.ifCond .ne 7, 3) := by decide +kernel
theorem dX8_isOpen_18 : decode cX8_isOpen 18 = .ok (.iconst 1, 1) := by decide +kernel
theorem dX8_isOpen_19 : decode cX8_isOpen 19 = .ok (.goto 4, 3) := by decide +kernel
theorem dX8_isOpen_22 : decode cX8_isOpen 22 = .ok (.iconst 0, 1) := by decide +kernel
theorem dX8_isOpen_23 : decode cX8_isOpen 23 = .ok (.ireturn, 1) := by decide +kernel
theorem dX8_openAt_0 : decode cX8_openAt 0 = .ok (.iconst 0, 1) := by decide +kernel
theorem dX8_openAt_1 : decode cX8_openAt 1 = .ok (.istore_n 2, 1) := by decide +kernel
theorem dX8_openAt_2 : decode cX8_openAt 2 = .ok (.iconst 0, 1) := by decide +kernel
theorem dX8_openAt_3 : decode cX8_openAt 3 = .ok (.istore_n 3, 1) := by decide +kernel
theorem dX8_openAt_4 : decode cX8_openAt 4 = .ok (.iload_n 3, 1) := by decide +kernel
theorem dX8_openAt_5 : decode cX8_openAt 5 = .ok (.bipush 10, 2) := by decide +kernel
theorem dX8_openAt_7 : decode cX8_openAt 7 = .ok (.if_icmp .ge 27, 3) := by decide +kernel
theorem dX8_openAt_10 : decode cX8_openAt 10 = .ok (.aload_n 0, 1) := by decide +kernel
theorem dX8_openAt_11 : decode cX8_openAt 11 = .ok (.iload_n 3, 1) := by decide +kernel
theorem dX8_openAt_12 : decode cX8_openAt 12 = .ok (.invokevirtual 34, 3) := by decide +kernel
theorem dX8_openAt_15 : decode cX8_openAt 15 = .ok (.ifCond .eq 13, 3) := by decide +kernel
theorem dX8_openAt_18 : decode cX8_openAt 18 = .ok (.iload_n 2, 1) := by decide +kernel
theorem dX8_openAt_19 : decode cX8_openAt 19 = .ok (.iload_n 1, 1) := by decide +kernel
theorem dX8_openAt_20 : decode cX8_openAt 20 = .ok (.if_icmp .ne 5, 3) := by decide +kernel
theorem dX8_openAt_23 : decode cX8_openAt 23 = .ok (.iload_n 3, 1) := by decide +kernel
theorem dX8_openAt_24 : decode cX8_openAt 24 = .ok (.ireturn, 1) := by decide +kernel
theorem dX8_openAt_25 : decode cX8_openAt 25 = .ok (.iinc 2 1, 3) := by decide +kernel
theorem dX8_openAt_28 : decode cX8_openAt 28 = .ok (.iinc 3 1, 3) := by decide +kernel
theorem dX8_openAt_31 : decode cX8_openAt 31 = .ok (.goto (-27), 3) := by decide +kernel
theorem dX8_openAt_34 : decode cX8_openAt 34 = .ok (.bipush (-9), 2) := by decide +kernel
theorem dX8_openAt_36 : decode cX8_openAt 36 = .ok (.ireturn, 1) := by decide +kernel
theorem dX8_suits_0 : decode cX8_suits 0 = .ok (.aload_n 0, 1) := by decide +kernel
theorem dX8_suits_1 : decode cX8_suits 1 = .ok (.getfield 9, 3) := by decide +kernel
theorem dX8_suits_4 : decode cX8_suits 4 = .ok (.ifCond .ne 14, 3) := by decide +kernel
theorem dX8_suits_7 : decode cX8_suits 7 = .ok (.iload_n 2, 1) := by decide +kernel
theorem dX8_suits_8 : decode cX8_suits 8 = .ok (.iload_n 1, 1) := by decide +kernel
theorem dX8_suits_9 : decode cX8_suits 9 = .ok (.if_icmp .ne 7, 3) := by decide +kernel
theorem dX8_suits_12 : decode cX8_suits 12 = .ok (.iconst 1, 1) := by decide +kernel
theorem dX8_suits_13 : decode cX8_suits 13 = .ok (.goto 4, 3) := by decide +kernel
theorem dX8_suits_16 : decode cX8_suits 16 = .ok (.iconst 0, 1) := by decide +kernel
theorem dX8_suits_17 : decode cX8_suits 17 = .ok (.ireturn, 1) := by decide +kernel
theorem dX8_suits_18 : decode cX8_suits 18 = .ok (.aload_n 0, 1) := by decide +kernel
theorem dX8_suits_19 : decode cX8_suits 19 = .ok (.getfield 9, 3) := by decide +kernel
theorem dX8_suits_22 : decode cX8_suits 22 = .ok (.iconst 1, 1) := by decide +kernel
theorem dX8_suits_23 : decode cX8_suits 23 = .ok (.if_icmp .ne 16, 3) := by decide +kernel
theorem dX8_suits_26 : decode cX8_suits 26 = .ok (.iload_n 2, 1) := by decide +kernel
theorem dX8_suits_27 : decode cX8_suits 27 = .ok (.iload_n 1, 1) := by decide +kernel
theorem dX8_suits_28 : decode cX8_suits 28 = .ok (.if_icmp .lt 7, 3) := by decide +kernel
theorem dX8_suits_31 : decode cX8_suits 31 = .ok (.iconst 1, 1) := by decide +kernel
theorem dX8_suits_32 : decode cX8_suits 32 = .ok (.goto 17, 3) := by decide +kernel
theorem dX8_suits_35 : decode cX8_suits 35 = .ok (.iconst 0, 1) := by decide +kernel
theorem dX8_suits_36 : decode cX8_suits 36 = .ok (.goto 13, 3) := by decide +kernel
theorem dX8_suits_39 : decode cX8_suits 39 = .ok (.iload_n 2, 1) := by decide +kernel
theorem dX8_suits_40 : decode cX8_suits 40 = .ok (.iload_n 1, 1) := by decide +kernel
theorem dX8_suits_41 : decode cX8_suits 41 = .ok (.if_icmp .gt 7, 3) := by decide +kernel
theorem dX8_suits_44 : decode cX8_suits 44 = .ok (.iconst 1, 1) := by decide +kernel
theorem dX8_suits_45 : decode cX8_suits 45 = .ok (.goto 4, 3) := by decide +kernel
theorem dX8_suits_48 : decode cX8_suits 48 = .ok (.iconst 0, 1) := by decide +kernel
theorem dX8_suits_49 : decode cX8_suits 49 = .ok (.ireturn, 1) := by decide +kernel
theorem dX8_weight_0 : decode cX8_weight 0 = .ok (.aload_n 0, 1) := by decide +kernel
theorem dX8_weight_1 : decode cX8_weight 1 = .ok (.getfield 15, 3) := by decide +kernel
theorem dX8_weight_4 : decode cX8_weight 4 = .ok (.ifCond .ne 7, 3) := by decide +kernel
theorem dX8_weight_7 : decode cX8_weight 7 = .ok (.iconst 1, 1) := by decide +kernel
theorem dX8_weight_8 : decode cX8_weight 8 = .ok (.goto 4, 3) := by decide +kernel
theorem dX8_weight_11 : decode cX8_weight 11 = .ok (.iload_n 1, 1) := by decide +kernel
theorem dX8_weight_12 : decode cX8_weight 12 = .ok (.ireturn, 1) := by decide +kernel
theorem dX8_claim_0 : decode cX8_claim 0 = .ok (.aload_n 0, 1) := by decide +kernel
theorem dX8_claim_1 : decode cX8_claim 1 = .ok (.iload_n 1, 1) := by decide +kernel
theorem dX8_claim_2 : decode cX8_claim 2 = .ok (.iload_n 2, 1) := by decide +kernel
theorem dX8_claim_3 : decode cX8_claim 3 = .ok (.invokevirtual 37, 3) := by decide +kernel
theorem dX8_claim_6 : decode cX8_claim 6 = .ok (.ifCond .eq 13, 3) := by decide +kernel
theorem dX8_claim_9 : decode cX8_claim 9 = .ok (.iload_n 2, 1) := by decide +kernel
theorem dX8_claim_10 : decode cX8_claim 10 = .ok (.aload_n 0, 1) := by decide +kernel
theorem dX8_claim_11 : decode cX8_claim 11 = .ok (.iload_n 1, 1) := by decide +kernel
theorem dX8_claim_12 : decode cX8_claim 12 = .ok (.invokevirtual 41, 3) := by decide +kernel
theorem dX8_claim_15 : decode cX8_claim 15 = .ok (.imul, 1) := by decide +kernel
theorem dX8_claim_16 : decode cX8_claim 16 = .ok (.goto 4, 3) := by decide +kernel
theorem dX8_claim_19 : decode cX8_claim 19 = .ok (.iconst 0, 1) := by decide +kernel
theorem dX8_claim_20 : decode cX8_claim 20 = .ok (.ireturn, 1) := by decide +kernel
theorem dX8_claims_0 : decode cX8_claims 0 = .ok (.iconst 0, 1) := by decide +kernel
theorem dX8_claims_1 : decode cX8_claims 1 = .ok (.istore_n 2, 1) := by decide +kernel
theorem dX8_claims_2 : decode cX8_claims 2 = .ok (.iconst 0, 1) := by decide +kernel
theorem dX8_claims_3 : decode cX8_claims 3 = .ok (.istore_n 3, 1) := by decide +kernel
theorem dX8_claims_4 : decode cX8_claims 4 = .ok (.iload_n 3, 1) := by decide +kernel
theorem dX8_claims_5 : decode cX8_claims 5 = .ok (.bipush 10, 2) := by decide +kernel
theorem dX8_claims_7 : decode cX8_claims 7 = .ok (.if_icmp .ge 26, 3) := by decide +kernel
theorem dX8_claims_10 : decode cX8_claims 10 = .ok (.iload_n 3, 1) := by decide +kernel
theorem dX8_claims_11 : decode cX8_claims 11 = .ok (.aload_n 1, 1) := by decide +kernel
theorem dX8_claims_12 : decode cX8_claims 12 = .ok (.arraylength, 1) := by decide +kernel
theorem dX8_claims_13 : decode cX8_claims 13 = .ok (.if_icmp .ge 20, 3) := by decide +kernel
theorem dX8_claims_16 : decode cX8_claims 16 = .ok (.iload_n 2, 1) := by decide +kernel
theorem dX8_claims_17 : decode cX8_claims 17 = .ok (.aload_n 0, 1) := by decide +kernel
theorem dX8_claims_18 : decode cX8_claims 18 = .ok (.iload_n 3, 1) := by decide +kernel
theorem dX8_claims_19 : decode cX8_claims 19 = .ok (.aload_n 1, 1) := by decide +kernel
theorem dX8_claims_20 : decode cX8_claims 20 = .ok (.iload_n 3, 1) := by decide +kernel
theorem dX8_claims_21 : decode cX8_claims 21 = .ok (.iaload, 1) := by decide +kernel
theorem dX8_claims_22 : decode cX8_claims 22 = .ok (.invokevirtual 44, 3) := by decide +kernel
theorem dX8_claims_25 : decode cX8_claims 25 = .ok (.iadd, 1) := by decide +kernel
theorem dX8_claims_26 : decode cX8_claims 26 = .ok (.istore_n 2, 1) := by decide +kernel
theorem dX8_claims_27 : decode cX8_claims 27 = .ok (.iinc 3 1, 3) := by decide +kernel
theorem dX8_claims_30 : decode cX8_claims 30 = .ok (.goto (-26), 3) := by decide +kernel
theorem dX8_claims_33 : decode cX8_claims 33 = .ok (.iload_n 2, 1) := by decide +kernel
theorem dX8_claims_34 : decode cX8_claims 34 = .ok (.ireturn, 1) := by decide +kernel
theorem dX8_gain_0 : decode cX8_gain 0 = .ok (.iload_n 3, 1) := by decide +kernel
theorem dX8_gain_1 : decode cX8_gain 1 = .ok (.ifCond .le 27, 3) := by decide +kernel
theorem dX8_gain_4 : decode cX8_gain 4 = .ok (.aload_n 0, 1) := by decide +kernel
theorem dX8_gain_5 : decode cX8_gain 5 = .ok (.iload_n 1, 1) := by decide +kernel
theorem dX8_gain_6 : decode cX8_gain 6 = .ok (.iload_n 2, 1) := by decide +kernel
theorem dX8_gain_7 : decode cX8_gain 7 = .ok (.invokevirtual 37, 3) := by decide +kernel
theorem dX8_gain_10 : decode cX8_gain 10 = .ok (.ifCond .eq 18, 3) := by decide +kernel
theorem dX8_gain_13 : decode cX8_gain 13 = .ok (.aload_n 0, 1) := by decide +kernel
theorem dX8_gain_14 : decode cX8_gain 14 = .ok (.getfield 18, 3) := by decide +kernel
theorem dX8_gain_17 : decode cX8_gain 17 = .ok (.aload_n 0, 1) := by decide +kernel
theorem dX8_gain_18 : decode cX8_gain 18 = .ok (.iload_n 1, 1) := by decide +kernel
theorem dX8_gain_19 : decode cX8_gain 19 = .ok (.invokevirtual 41, 3) := by decide +kernel
theorem dX8_gain_22 : decode cX8_gain 22 = .ok (.imul, 1) := by decide +kernel
theorem dX8_gain_23 : decode cX8_gain 23 = .ok (.iload_n 3, 1) := by decide +kernel
theorem dX8_gain_24 : decode cX8_gain 24 = .ok (.idiv, 1) := by decide +kernel
theorem dX8_gain_25 : decode cX8_gain 25 = .ok (.goto 4, 3) := by decide +kernel
theorem dX8_gain_28 : decode cX8_gain 28 = .ok (.iconst 0, 1) := by decide +kernel
theorem dX8_gain_29 : decode cX8_gain 29 = .ok (.ireturn, 1) := by decide +kernel
theorem dX8_others_0 : decode cX8_others 0 = .ok (.iload_n 2, 1) := by decide +kernel
theorem dX8_others_1 : decode cX8_others 1 = .ok (.ifCond .lt 9, 3) := by decide +kernel
theorem dX8_others_4 : decode cX8_others 4 = .ok (.iload_n 2, 1) := by decide +kernel
theorem dX8_others_5 : decode cX8_others 5 = .ok (.aload_n 3, 1) := by decide +kernel
theorem dX8_others_6 : decode cX8_others 6 = .ok (.arraylength, 1) := by decide +kernel
theorem dX8_others_7 : decode cX8_others 7 = .ok (.if_icmp .lt 5, 3) := by decide +kernel
theorem dX8_others_10 : decode cX8_others 10 = .ok (.iconst 0, 1) := by decide +kernel
theorem dX8_others_11 : decode cX8_others 11 = .ok (.ireturn, 1) := by decide +kernel
theorem dX8_others_12 : decode cX8_others 12 = .ok (.iload_n 2, 1) := by decide +kernel
theorem dX8_others_13 : decode cX8_others 13 = .ok (.iload_n 1, 1) := by decide +kernel
theorem dX8_others_14 : decode cX8_others 14 = .ok (.if_icmp .ne 11, 3) := by decide +kernel
theorem dX8_others_17 : decode cX8_others 17 = .ok (.aload_n 3, 1) := by decide +kernel
theorem dX8_others_18 : decode cX8_others 18 = .ok (.iload_n 2, 1) := by decide +kernel
theorem dX8_others_19 : decode cX8_others 19 = .ok (.iaload, 1) := by decide +kernel
theorem dX8_others_20 : decode cX8_others 20 = .ok (.iconst 1, 1) := by decide +kernel
theorem dX8_others_21 : decode cX8_others 21 = .ok (.isub, 1) := by decide +kernel
theorem dX8_others_22 : decode cX8_others 22 = .ok (.goto 6, 3) := by decide +kernel
theorem dX8_others_25 : decode cX8_others 25 = .ok (.aload_n 3, 1) := by decide +kernel
theorem dX8_others_26 : decode cX8_others 26 = .ok (.iload_n 2, 1) := by decide +kernel
theorem dX8_others_27 : decode cX8_others 27 = .ok (.iaload, 1) := by decide +kernel
theorem dX8_others_28 : decode cX8_others 28 = .ok (.ireturn, 1) := by decide +kernel
theorem dX8_gainBy_0 : decode cX8_gainBy 0 = .ok (.iload_n 2, 1) := by decide +kernel
theorem dX8_gainBy_1 : decode cX8_gainBy 1 = .ok (.iconst 1, 1) := by decide +kernel
theorem dX8_gainBy_2 : decode cX8_gainBy 2 = .ok (.iadd, 1) := by decide +kernel
theorem dX8_gainBy_3 : decode cX8_gainBy 3 = .ok (.istore 4, 2) := by decide +kernel
theorem dX8_gainBy_5 : decode cX8_gainBy 5 = .ok (.aload_n 0, 1) := by decide +kernel
theorem dX8_gainBy_6 : decode cX8_gainBy 6 = .ok (.iload_n 1, 1) := by decide +kernel
theorem dX8_gainBy_7 : decode cX8_gainBy 7 = .ok (.iload 4, 2) := by decide +kernel
theorem dX8_gainBy_9 : decode cX8_gainBy 9 = .ok (.invokevirtual 37, 3) := by decide +kernel
theorem dX8_gainBy_12 : decode cX8_gainBy 12 = .ok (.ifCond .ne 5, 3) := by decide +kernel
theorem dX8_gainBy_15 : decode cX8_gainBy 15 = .ok (.iconst 0, 1) := by decide +kernel
theorem dX8_gainBy_16 : decode cX8_gainBy 16 = .ok (.ireturn, 1) := by decide +kernel
theorem dX8_gainBy_17 : decode cX8_gainBy 17 = .ok (.aload_n 0, 1) := by decide +kernel
theorem dX8_gainBy_18 : decode cX8_gainBy 18 = .ok (.iload_n 1, 1) := by decide +kernel
theorem dX8_gainBy_19 : decode cX8_gainBy 19 = .ok (.iload 4, 2) := by decide +kernel
theorem dX8_gainBy_21 : decode cX8_gainBy 21 = .ok (.iload_n 3, 1) := by decide +kernel
theorem dX8_gainBy_22 : decode cX8_gainBy 22 = .ok (.aload_n 0, 1) := by decide +kernel
theorem dX8_gainBy_23 : decode cX8_gainBy 23 = .ok (.iload_n 1, 1) := by decide +kernel
theorem dX8_gainBy_24 : decode cX8_gainBy 24 = .ok (.iload_n 2, 1) := by decide +kernel
theorem dX8_gainBy_25 : decode cX8_gainBy 25 = .ok (.invokevirtual 44, 3) := by decide +kernel
theorem dX8_gainBy_28 : decode cX8_gainBy 28 = .ok (.isub, 1) := by decide +kernel
theorem dX8_gainBy_29 : decode cX8_gainBy 29 = .ok (.aload_n 0, 1) := by decide +kernel
theorem dX8_gainBy_30 : decode cX8_gainBy 30 = .ok (.iload_n 1, 1) := by decide +kernel
theorem dX8_gainBy_31 : decode cX8_gainBy 31 = .ok (.iload 4, 2) := by decide +kernel
theorem dX8_gainBy_33 : decode cX8_gainBy 33 = .ok (.invokevirtual 44, 3) := by decide +kernel
theorem dX8_gainBy_36 : decode cX8_gainBy 36 = .ok (.iadd, 1) := by decide +kernel
theorem dX8_gainBy_37 : decode cX8_gainBy 37 = .ok (.invokevirtual 48, 3) := by decide +kernel
theorem dX8_gainBy_40 : decode cX8_gainBy 40 = .ok (.ireturn, 1) := by decide +kernel
theorem dX8_wanted_0 : decode cX8_wanted 0 = .ok (.aload_n 0, 1) := by decide +kernel
theorem dX8_wanted_1 : decode cX8_wanted 1 = .ok (.iload_n 1, 1) := by decide +kernel
theorem dX8_wanted_2 : decode cX8_wanted 2 = .ok (.iload_n 1, 1) := by decide +kernel
theorem dX8_wanted_3 : decode cX8_wanted 3 = .ok (.aload_n 2, 1) := by decide +kernel
theorem dX8_wanted_4 : decode cX8_wanted 4 = .ok (.invokevirtual 52, 3) := by decide +kernel
theorem dX8_wanted_7 : decode cX8_wanted 7 = .ok (.istore_n 3, 1) := by decide +kernel
theorem dX8_wanted_8 : decode cX8_wanted 8 = .ok (.aload_n 0, 1) := by decide +kernel
theorem dX8_wanted_9 : decode cX8_wanted 9 = .ok (.aload_n 2, 1) := by decide +kernel
theorem dX8_wanted_10 : decode cX8_wanted 10 = .ok (.invokevirtual 56, 3) := by decide +kernel
theorem dX8_wanted_13 : decode cX8_wanted 13 = .ok (.aload_n 0, 1) := by decide +kernel
theorem dX8_wanted_14 : decode cX8_wanted 14 = .ok (.iload_n 1, 1) := by decide +kernel
theorem dX8_wanted_15 : decode cX8_wanted 15 = .ok (.iload_n 3, 1) := by decide +kernel
theorem dX8_wanted_16 : decode cX8_wanted 16 = .ok (.iconst 1, 1) := by decide +kernel
theorem dX8_wanted_17 : decode cX8_wanted 17 = .ok (.iadd, 1) := by decide +kernel
theorem dX8_wanted_18 : decode cX8_wanted 18 = .ok (.invokevirtual 44, 3) := by decide +kernel
theorem dX8_wanted_21 : decode cX8_wanted 21 = .ok (.isub, 1) := by decide +kernel
theorem dX8_wanted_22 : decode cX8_wanted 22 = .ok (.aload_n 0, 1) := by decide +kernel
theorem dX8_wanted_23 : decode cX8_wanted 23 = .ok (.iload_n 1, 1) := by decide +kernel
theorem dX8_wanted_24 : decode cX8_wanted 24 = .ok (.iload_n 3, 1) := by decide +kernel
theorem dX8_wanted_25 : decode cX8_wanted 25 = .ok (.invokevirtual 44, 3) := by decide +kernel
theorem dX8_wanted_28 : decode cX8_wanted 28 = .ok (.iadd, 1) := by decide +kernel
theorem dX8_wanted_29 : decode cX8_wanted 29 = .ok (.istore 4, 2) := by decide +kernel
theorem dX8_wanted_31 : decode cX8_wanted 31 = .ok (.iload_n 1, 1) := by decide +kernel
theorem dX8_wanted_32 : decode cX8_wanted 32 = .ok (.istore 5, 2) := by decide +kernel
theorem dX8_wanted_34 : decode cX8_wanted 34 = .ok (.aload_n 0, 1) := by decide +kernel
theorem dX8_wanted_35 : decode cX8_wanted 35 = .ok (.iload_n 1, 1) := by decide +kernel
theorem dX8_wanted_36 : decode cX8_wanted 36 = .ok (.iload_n 3, 1) := by decide +kernel
theorem dX8_wanted_37 : decode cX8_wanted 37 = .ok (.iload 4, 2) := by decide +kernel
theorem dX8_wanted_39 : decode cX8_wanted 39 = .ok (.invokevirtual 60, 3) := by decide +kernel
theorem dX8_wanted_42 : decode cX8_wanted 42 = .ok (.istore 6, 2) := by decide +kernel
theorem dX8_wanted_44 : decode cX8_wanted 44 = .ok (.iconst 0, 1) := by decide +kernel
theorem dX8_wanted_45 : decode cX8_wanted 45 = .ok (.istore 7, 2) := by decide +kernel
theorem dX8_wanted_47 : decode cX8_wanted 47 = .ok (.iload 7, 2) := by decide +kernel
theorem dX8_wanted_49 : decode cX8_wanted 49 = .ok (.bipush 10, 2) := by decide +kernel
theorem dX8_wanted_51 : decode cX8_wanted 51 = .ok (.if_icmp .ge 51, 3) := by decide +kernel
theorem dX8_wanted_54 : decode cX8_wanted 54 = .ok (.aload_n 0, 1) := by decide +kernel
theorem dX8_wanted_55 : decode cX8_wanted 55 = .ok (.iload 7, 2) := by decide +kernel
theorem dX8_wanted_57 : decode cX8_wanted 57 = .ok (.invokevirtual 34, 3) := by decide +kernel
theorem dX8_wanted_60 : decode cX8_wanted 60 = .ok (.ifCond .eq 36, 3) := by decide +kernel
theorem dX8_wanted_63 : decode cX8_wanted 63 = .ok (.aload_n 0, 1) := by decide +kernel
theorem dX8_wanted_64 : decode cX8_wanted 64 = .ok (.iload 7, 2) := by decide +kernel
theorem dX8_wanted_66 : decode cX8_wanted 66 = .ok (.aload_n 0, 1) := by decide +kernel
theorem dX8_wanted_67 : decode cX8_wanted 67 = .ok (.iload_n 1, 1) := by decide +kernel
theorem dX8_wanted_68 : decode cX8_wanted 68 = .ok (.iload 7, 2) := by decide +kernel
theorem dX8_wanted_70 : decode cX8_wanted 70 = .ok (.aload_n 2, 1) := by decide +kernel
theorem dX8_wanted_71 : decode cX8_wanted 71 = .ok (.invokevirtual 52, 3) := by decide +kernel
theorem dX8_wanted_74 : decode cX8_wanted 74 = .ok (.iload 4, 2) := by decide +kernel
theorem dX8_wanted_76 : decode cX8_wanted 76 = .ok (.invokevirtual 60, 3) := by decide +kernel
theorem dX8_wanted_79 : decode cX8_wanted 79 = .ok (.istore 8, 2) := by decide +kernel
theorem dX8_wanted_81 : decode cX8_wanted 81 = .ok (.iload 8, 2) := by decide +kernel
theorem dX8_wanted_83 : decode cX8_wanted 83 = .ok (.iload 6, 2) := by decide +kernel
theorem dX8_wanted_85 : decode cX8_wanted 85 = .ok (.if_icmp .le 11, 3) := by decide +kernel
theorem dX8_wanted_88 : decode cX8_wanted 88 = .ok (.iload 7, 2) := by decide +kernel
theorem dX8_wanted_90 : decode cX8_wanted 90 = .ok (.istore 5, 2) := by decide +kernel
theorem dX8_wanted_92 : decode cX8_wanted 92 = .ok (.iload 8, 2) := by decide +kernel
theorem dX8_wanted_94 : decode cX8_wanted 94 = .ok (.istore 6, 2) := by decide +kernel
theorem dX8_wanted_96 : decode cX8_wanted 96 = .ok (.iinc 7 1, 3) := by decide +kernel
theorem dX8_wanted_99 : decode cX8_wanted 99 = .ok (.goto (-52), 3) := by decide +kernel
theorem dX8_wanted_102 : decode cX8_wanted 102 = .ok (.iload 5, 2) := by decide +kernel
theorem dX8_wanted_104 : decode cX8_wanted 104 = .ok (.ireturn, 1) := by decide +kernel
theorem dX8_areAtRest_0 : decode cX8_areAtRest 0 = .ok (.iconst 0, 1) := by decide +kernel
theorem dX8_areAtRest_1 : decode cX8_areAtRest 1 = .ok (.istore_n 2, 1) := by decide +kernel
theorem dX8_areAtRest_2 : decode cX8_areAtRest 2 = .ok (.iload_n 2, 1) := by decide +kernel
theorem dX8_areAtRest_3 : decode cX8_areAtRest 3 = .ok (.bipush 10, 2) := by decide +kernel
theorem dX8_areAtRest_5 : decode cX8_areAtRest 5 = .ok (.if_icmp .ge 33, 3) := by decide +kernel
theorem dX8_areAtRest_8 : decode cX8_areAtRest 8 = .ok (.iload_n 2, 1) := by decide +kernel
theorem dX8_areAtRest_9 : decode cX8_areAtRest 9 = .ok (.aload_n 1, 1) := by decide +kernel
theorem dX8_areAtRest_10 : decode cX8_areAtRest 10 = .ok (.arraylength, 1) := by decide +kernel
theorem dX8_areAtRest_11 : decode cX8_areAtRest 11 = .ok (.if_icmp .ge 27, 3) := by decide +kernel
theorem dX8_areAtRest_14 : decode cX8_areAtRest 14 = .ok (.aload_n 1, 1) := by decide +kernel
theorem dX8_areAtRest_15 : decode cX8_areAtRest 15 = .ok (.iload_n 2, 1) := by decide +kernel
theorem dX8_areAtRest_16 : decode cX8_areAtRest 16 = .ok (.iaload, 1) := by decide +kernel
theorem dX8_areAtRest_17 : decode cX8_areAtRest 17 = .ok (.ifCond .le 15, 3) := by decide +kernel
theorem dX8_areAtRest_20 : decode cX8_areAtRest 20 = .ok (.aload_n 0, 1) := by decide +kernel
theorem dX8_areAtRest_21 : decode cX8_areAtRest 21 = .ok (.iload_n 2, 1) := by decide +kernel
theorem dX8_areAtRest_22 : decode cX8_areAtRest 22 = .ok (.aload_n 1, 1) := by decide +kernel
theorem dX8_areAtRest_23 : decode cX8_areAtRest 23 = .ok (.invokevirtual 63, 3) := by decide +kernel
theorem dX8_areAtRest_26 : decode cX8_areAtRest 26 = .ok (.iload_n 2, 1) := by decide +kernel
theorem dX8_areAtRest_27 : decode cX8_areAtRest 27 = .ok (.if_icmp .eq 5, 3) := by decide +kernel
theorem dX8_areAtRest_30 : decode cX8_areAtRest 30 = .ok (.iconst 0, 1) := by decide +kernel
theorem dX8_areAtRest_31 : decode cX8_areAtRest 31 = .ok (.ireturn, 1) := by decide +kernel
theorem dX8_areAtRest_32 : decode cX8_areAtRest 32 = .ok (.iinc 2 1, 3) := by decide +kernel
theorem dX8_areAtRest_35 : decode cX8_areAtRest 35 = .ok (.goto (-33), 3) := by decide +kernel
theorem dX8_areAtRest_38 : decode cX8_areAtRest 38 = .ok (.iconst 1, 1) := by decide +kernel
theorem dX8_areAtRest_39 : decode cX8_areAtRest 39 = .ok (.ireturn, 1) := by decide +kernel
theorem dX8_corrected_0 : decode cX8_corrected 0 = .ok (.aload_n 0, 1) := by decide +kernel
theorem dX8_corrected_1 : decode cX8_corrected 1 = .ok (.iload_n 1, 1) := by decide +kernel
theorem dX8_corrected_2 : decode cX8_corrected 2 = .ok (.aload_n 0, 1) := by decide +kernel
theorem dX8_corrected_3 : decode cX8_corrected 3 = .ok (.iload_n 1, 1) := by decide +kernel
theorem dX8_corrected_4 : decode cX8_corrected 4 = .ok (.iload_n 1, 1) := by decide +kernel
theorem dX8_corrected_5 : decode cX8_corrected 5 = .ok (.aload_n 2, 1) := by decide +kernel
theorem dX8_corrected_6 : decode cX8_corrected 6 = .ok (.invokevirtual 52, 3) := by decide +kernel
theorem dX8_corrected_9 : decode cX8_corrected 9 = .ok (.iconst 1, 1) := by decide +kernel
theorem dX8_corrected_10 : decode cX8_corrected 10 = .ok (.iadd, 1) := by decide +kernel
theorem dX8_corrected_11 : decode cX8_corrected 11 = .ok (.invokevirtual 37, 3) := by decide +kernel
theorem dX8_corrected_14 : decode cX8_corrected 14 = .ok (.ifCond .eq 5, 3) := by decide +kernel
theorem dX8_corrected_17 : decode cX8_corrected 17 = .ok (.iload_n 1, 1) := by decide +kernel
theorem dX8_corrected_18 : decode cX8_corrected 18 = .ok (.ireturn, 1) := by decide +kernel
theorem dX8_corrected_19 : decode cX8_corrected 19 = .ok (.iconst 0, 1) := by decide +kernel
theorem dX8_corrected_20 : decode cX8_corrected 20 = .ok (.istore_n 3, 1) := by decide +kernel
theorem dX8_corrected_21 : decode cX8_corrected 21 = .ok (.iload_n 3, 1) := by decide +kernel
theorem dX8_corrected_22 : decode cX8_corrected 22 = .ok (.bipush 10, 2) := by decide +kernel
theorem dX8_corrected_24 : decode cX8_corrected 24 = .ok (.if_icmp .ge 36, 3) := by decide +kernel
theorem dX8_corrected_27 : decode cX8_corrected 27 = .ok (.aload_n 0, 1) := by decide +kernel
theorem dX8_corrected_28 : decode cX8_corrected 28 = .ok (.iload_n 3, 1) := by decide +kernel
theorem dX8_corrected_29 : decode cX8_corrected 29 = .ok (.invokevirtual 34, 3) := by decide +kernel
theorem dX8_corrected_32 : decode cX8_corrected 32 = .ok (.ifCond .eq 22, 3) := by decide +kernel
theorem dX8_corrected_35 : decode cX8_corrected 35 = .ok (.aload_n 0, 1) := by decide +kernel
theorem dX8_corrected_36 : decode cX8_corrected 36 = .ok (.iload_n 3, 1) := by decide +kernel
theorem dX8_corrected_37 : decode cX8_corrected 37 = .ok (.aload_n 0, 1) := by decide +kernel
theorem dX8_corrected_38 : decode cX8_corrected 38 = .ok (.iload_n 1, 1) := by decide +kernel
theorem dX8_corrected_39 : decode cX8_corrected 39 = .ok (.iload_n 3, 1) := by decide +kernel
theorem dX8_corrected_40 : decode cX8_corrected 40 = .ok (.aload_n 2, 1) := by decide +kernel
theorem dX8_corrected_41 : decode cX8_corrected 41 = .ok (.invokevirtual 52, 3) := by decide +kernel
theorem dX8_corrected_44 : decode cX8_corrected 44 = .ok (.iconst 1, 1) := by decide +kernel
theorem dX8_corrected_45 : decode cX8_corrected 45 = .ok (.iadd, 1) := by decide +kernel
theorem dX8_corrected_46 : decode cX8_corrected 46 = .ok (.invokevirtual 37, 3) := by decide +kernel
theorem dX8_corrected_49 : decode cX8_corrected 49 = .ok (.ifCond .eq 5, 3) := by decide +kernel
theorem dX8_corrected_52 : decode cX8_corrected 52 = .ok (.iload_n 3, 1) := by decide +kernel
theorem dX8_corrected_53 : decode cX8_corrected 53 = .ok (.ireturn, 1) := by decide +kernel
theorem dX8_corrected_54 : decode cX8_corrected 54 = .ok (.iinc 3 1, 3) := by decide +kernel
theorem dX8_corrected_57 : decode cX8_corrected 57 = .ok (.goto (-36), 3) := by decide +kernel
theorem dX8_corrected_60 : decode cX8_corrected 60 = .ok (.iload_n 1, 1) := by decide +kernel
theorem dX8_corrected_61 : decode cX8_corrected 61 = .ok (.ireturn, 1) := by decide +kernel
theorem dX9_init_0 : decode cX9_init 0 = .ok (.aload_n 0, 1) := by decide +kernel
theorem dX9_init_1 : decode cX9_init 1 = .ok (.invokespecial 3, 3) := by decide +kernel
theorem dX9_init_4 : decode cX9_init 4 = .ok (.aload_n 0, 1) := by decide +kernel
theorem dX9_init_5 : decode cX9_init 5 = .ok (.bipush 40, 2) := by decide +kernel
theorem dX9_init_7 : decode cX9_init 7 = .ok (.newarray .int, 2) := by decide +kernel
theorem dX9_init_9 : decode cX9_init 9 = .ok (.putfield 9, 3) := by decide +kernel
theorem dX9_init_12 : decode cX9_init 12 = .ok (.return_, 1) := by decide +kernel
theorem dX9_length_0 : decode cX9_length 0 = .ok (.aload_n 0, 1) := by decide +kernel
theorem dX9_length_1 : decode cX9_length 1 = .ok (.getfield 15, 3) := by decide +kernel
theorem dX9_length_4 : decode cX9_length 4 = .ok (.ireturn, 1) := by decide +kernel
theorem dX9_at_0 : decode cX9_at 0 = .ok (.iload_n 1, 1) := by decide +kernel
theorem dX9_at_1 : decode cX9_at 1 = .ok (.ifCond .lt 20, 3) := by decide +kernel
theorem dX9_at_4 : decode cX9_at 4 = .ok (.iload_n 1, 1) := by decide +kernel
theorem dX9_at_5 : decode cX9_at 5 = .ok (.aload_n 0, 1) := by decide +kernel
theorem dX9_at_6 : decode cX9_at 6 = .ok (.getfield 15, 3) := by decide +kernel
theorem dX9_at_9 : decode cX9_at 9 = .ok (.if_icmp .ge 12, 3) := by decide +kernel
theorem dX9_at_12 : decode cX9_at 12 = .ok (.aload_n 0, 1) := by decide +kernel
theorem dX9_at_13 : decode cX9_at 13 = .ok (.getfield 9, 3) := by decide +kernel
theorem dX9_at_16 : decode cX9_at 16 = .ok (.iload_n 1, 1) := by decide +kernel
theorem dX9_at_17 : decode cX9_at 17 = .ok (.iaload, 1) := by decide +kernel
theorem dX9_at_18 : decode cX9_at 18 = .ok (.goto 5, 3) := by decide +kernel
theorem dX9_at_21 : decode cX9_at 21 = .ok (.bipush (-9), 2) := by decide +kernel
theorem dX9_at_23 : decode cX9_at 23 = .ok (.ireturn, 1) := by decide +kernel
theorem dX9_add_0 : decode cX9_add 0 = .ok (.iload_n 1, 1) := by decide +kernel
theorem dX9_add_1 : decode cX9_add 1 = .ok (.iconst 1, 1) := by decide +kernel
theorem dX9_add_2 : decode cX9_add 2 = .ok (.isub, 1) := by decide +kernel
theorem dX9_add_3 : decode cX9_add 3 = .ok (.istore 4, 2) := by decide +kernel
theorem dX9_add_5 : decode cX9_add 5 = .ok (.iload 4, 2) := by decide +kernel
theorem dX9_add_7 : decode cX9_add 7 = .ok (.ifCond .lt 49, 3) := by decide +kernel
theorem dX9_add_10 : decode cX9_add 10 = .ok (.aload_n 0, 1) := by decide +kernel
theorem dX9_add_11 : decode cX9_add 11 = .ok (.getfield 15, 3) := by decide +kernel
theorem dX9_add_14 : decode cX9_add 14 = .ok (.bipush 40, 2) := by decide +kernel
theorem dX9_add_16 : decode cX9_add 16 = .ok (.if_icmp .ge 40, 3) := by decide +kernel
theorem dX9_add_19 : decode cX9_add 19 = .ok (.aload_n 0, 1) := by decide +kernel
theorem dX9_add_20 : decode cX9_add 20 = .ok (.getfield 9, 3) := by decide +kernel
theorem dX9_add_23 : decode cX9_add 23 = .ok (.aload_n 0, 1) := by decide +kernel
theorem dX9_add_24 : decode cX9_add 24 = .ok (.getfield 15, 3) := by decide +kernel
theorem dX9_add_27 : decode cX9_add 27 = .ok (.lload_n 2, 1) := by decide +kernel
theorem dX9_add_28 : decode cX9_add 28 = .ok (.bipush 8, 2) := by decide +kernel
theorem dX9_add_30 : decode cX9_add 30 = .ok (.iload 4, 2) := by decide +kernel
theorem dX9_add_32 : decode cX9_add 32 = .ok (.imul, 1) := by decide +kernel
theorem dX9_add_33 : decode cX9_add 33 = .ok (.lushr, 1) := by decide +kernel
theorem dX9_add_34 : decode cX9_add 34 = .ok (.l2i, 1) := by decide +kernel
theorem dX9_add_35 : decode cX9_add 35 = .ok (.sipush 255, 3) := by decide +kernel
theorem dX9_add_38 : decode cX9_add 38 = .ok (.iand, 1) := by decide +kernel
theorem dX9_add_39 : decode cX9_add 39 = .ok (.iastore, 1) := by decide +kernel
theorem dX9_add_40 : decode cX9_add 40 = .ok (.aload_n 0, 1) := by decide +kernel
theorem dX9_add_41 : decode cX9_add 41 = .ok (.dup, 1) := by decide +kernel
theorem dX9_add_42 : decode cX9_add 42 = .ok (.getfield 15, 3) := by decide +kernel
theorem dX9_add_45 : decode cX9_add 45 = .ok (.iconst 1, 1) := by decide +kernel
theorem dX9_add_46 : decode cX9_add 46 = .ok (.iadd, 1) := by decide +kernel
theorem dX9_add_47 : decode cX9_add 47 = .ok (.putfield 15, 3) := by decide +kernel
theorem dX9_add_50 : decode cX9_add 50 = .ok (.iinc 4 (-1), 3) := by decide +kernel
theorem dX9_add_53 : decode cX9_add 53 = .ok (.goto (-48), 3) := by decide +kernel
theorem dX9_add_56 : decode cX9_add 56 = .ok (.return_, 1) := by decide +kernel
theorem dX9_clear_0 : decode cX9_clear 0 = .ok (.aload_n 0, 1) := by decide +kernel
theorem dX9_clear_1 : decode cX9_clear 1 = .ok (.iconst 0, 1) := by decide +kernel
theorem dX9_clear_2 : decode cX9_clear 2 = .ok (.putfield 15, 3) := by decide +kernel
theorem dX9_clear_5 : decode cX9_clear 5 = .ok (.return_, 1) := by decide +kernel
theorem dX10_init_0 : decode cX10_init 0 = .ok (.aload_n 0, 1) := by decide +kernel
theorem dX10_init_1 : decode cX10_init 1 = .ok (.invokespecial 1, 3) := by decide +kernel
theorem dX10_init_4 : decode cX10_init 4 = .ok (.aload_n 0, 1) := by decide +kernel
theorem dX10_init_5 : decode cX10_init 5 = .ok (.new 7, 3) := by decide +kernel
theorem dX10_init_8 : decode cX10_init 8 = .ok (.dup, 1) := by decide +kernel
theorem dX10_init_9 : decode cX10_init 9 = .ok (.invokespecial 9, 3) := by decide +kernel
theorem dX10_init_12 : decode cX10_init 12 = .ok (.putfield 10, 3) := by decide +kernel
theorem dX10_init_15 : decode cX10_init 15 = .ok (.aload_n 0, 1) := by decide +kernel
theorem dX10_init_16 : decode cX10_init 16 = .ok (.new 16, 3) := by decide +kernel
theorem dX10_init_19 : decode cX10_init 19 = .ok (.dup, 1) := by decide +kernel
theorem dX10_init_20 : decode cX10_init 20 = .ok (.invokespecial 18, 3) := by decide +kernel
theorem dX10_init_23 : decode cX10_init 23 = .ok (.putfield 19, 3) := by decide +kernel
theorem dX10_init_26 : decode cX10_init 26 = .ok (.aload_n 0, 1) := by decide +kernel
theorem dX10_init_27 : decode cX10_init 27 = .ok (.new 23, 3) := by decide +kernel
theorem dX10_init_30 : decode cX10_init 30 = .ok (.dup, 1) := by decide +kernel
theorem dX10_init_31 : decode cX10_init 31 = .ok (.invokespecial 25, 3) := by decide +kernel
theorem dX10_init_34 : decode cX10_init 34 = .ok (.putfield 26, 3) := by decide +kernel
theorem dX10_init_37 : decode cX10_init 37 = .ok (.aload_n 0, 1) := by decide +kernel
theorem dX10_init_38 : decode cX10_init 38 = .ok (.new 30, 3) := by decide +kernel
theorem dX10_init_41 : decode cX10_init 41 = .ok (.dup, 1) := by decide +kernel
theorem dX10_init_42 : decode cX10_init 42 = .ok (.invokespecial 32, 3) := by decide +kernel
theorem dX10_init_45 : decode cX10_init 45 = .ok (.putfield 33, 3) := by decide +kernel
theorem dX10_init_48 : decode cX10_init 48 = .ok (.aload_n 0, 1) := by decide +kernel
theorem dX10_init_49 : decode cX10_init 49 = .ok (.new 37, 3) := by decide +kernel
theorem dX10_init_52 : decode cX10_init 52 = .ok (.dup, 1) := by decide +kernel
theorem dX10_init_53 : decode cX10_init 53 = .ok (.invokespecial 39, 3) := by decide +kernel
theorem dX10_init_56 : decode cX10_init 56 = .ok (.putfield 40, 3) := by decide +kernel
theorem dX10_init_59 : decode cX10_init 59 = .ok (.aload_n 0, 1) := by decide +kernel
theorem dX10_init_60 : decode cX10_init 60 = .ok (.new 44, 3) := by decide +kernel
theorem dX10_init_63 : decode cX10_init 63 = .ok (.dup, 1) := by decide +kernel
theorem dX10_init_64 : decode cX10_init 64 = .ok (.invokespecial 46, 3) := by decide +kernel
theorem dX10_init_67 : decode cX10_init 67 = .ok (.putfield 47, 3) := by decide +kernel
theorem dX10_init_70 : decode cX10_init 70 = .ok (.aload_n 0, 1) := by decide +kernel
theorem dX10_init_71 : decode cX10_init 71 = .ok (.new 51, 3) := by decide +kernel
theorem dX10_init_74 : decode cX10_init 74 = .ok (.dup, 1) := by decide +kernel
theorem dX10_init_75 : decode cX10_init 75 = .ok (.invokespecial 53, 3) := by decide +kernel
theorem dX10_init_78 : decode cX10_init 78 = .ok (.putfield 54, 3) := by decide +kernel
theorem dX10_init_81 : decode cX10_init 81 = .ok (.aload_n 0, 1) := by decide +kernel
theorem dX10_init_82 : decode cX10_init 82 = .ok (.new 58, 3) := by decide +kernel
theorem dX10_init_85 : decode cX10_init 85 = .ok (.dup, 1) := by decide +kernel
theorem dX10_init_86 : decode cX10_init 86 = .ok (.invokespecial 60, 3) := by decide +kernel
theorem dX10_init_89 : decode cX10_init 89 = .ok (.putfield 61, 3) := by decide +kernel
theorem dX10_init_92 : decode cX10_init 92 = .ok (.aload_n 0, 1) := by decide +kernel
theorem dX10_init_93 : decode cX10_init 93 = .ok (.new 65, 3) := by decide +kernel
theorem dX10_init_96 : decode cX10_init 96 = .ok (.dup, 1) := by decide +kernel
theorem dX10_init_97 : decode cX10_init 97 = .ok (.invokespecial 67, 3) := by decide +kernel
theorem dX10_init_100 : decode cX10_init 100 = .ok (.putfield 68, 3) := by decide +kernel
theorem dX10_init_103 : decode cX10_init 103 = .ok (.aload_n 0, 1) := by decide +kernel
theorem dX10_init_104 : decode cX10_init 104 = .ok (.new 72, 3) := by decide +kernel
theorem dX10_init_107 : decode cX10_init 107 = .ok (.dup, 1) := by decide +kernel
theorem dX10_init_108 : decode cX10_init 108 = .ok (.invokespecial 74, 3) := by decide +kernel
theorem dX10_init_111 : decode cX10_init 111 = .ok (.putfield 75, 3) := by decide +kernel
theorem dX10_init_114 : decode cX10_init 114 = .ok (.return_, 1) := by decide +kernel
theorem dX10_write_0 : decode cX10_write 0 = .ok (.iload_n 1, 1) := by decide +kernel
theorem dX10_write_1 : decode cX10_write 1 = .ok (.iconst 1, 1) := by decide +kernel
theorem dX10_write_2 : decode cX10_write 2 = .ok (.if_icmp .lt 9, 3) := by decide +kernel
theorem dX10_write_5 : decode cX10_write 5 = .ok (.iload_n 1, 1) := by decide +kernel
theorem dX10_write_6 : decode cX10_write 6 = .ok (.bipush 8, 2) := by decide +kernel
theorem dX10_write_8 : decode cX10_write 8 = .ok (.if_icmp .le 6, 3) := by decide +kernel
theorem dX10_write_11 : decode cX10_write 11 = .ok (.bipush (-2), 2) := by decide +kernel
theorem dX10_write_13 : decode cX10_write 13 = .ok (.ireturn, 1) := by decide +kernel
theorem dX10_write_14 : decode cX10_write 14 = .ok (.iload_n 1, 1) := by decide +kernel
theorem dX10_write_15 : decode cX10_write 15 = .ok (.bipush 40, 2) := by decide +kernel
theorem dX10_write_17 : decode cX10_write 17 = .ok (.aload_n 0, 1) := by decide +kernel
theorem dX10_write_18 : decode cX10_write 18 = .ok (.getfield 10, 3) := by decide +kernel
theorem dX10_write_21 : decode cX10_write 21 = .ok (.invokevirtual 79, 3) := by decide +kernel
theorem dX10_write_24 : decode cX10_write 24 = .ok (.isub, 1) := by decide +kernel
theorem dX10_write_25 : decode cX10_write 25 = .ok (.if_icmp .le 6, 3) := by decide +kernel
theorem dX10_write_28 : decode cX10_write 28 = .ok (.bipush (-4), 2) := by decide +kernel
theorem dX10_write_30 : decode cX10_write 30 = .ok (.ireturn, 1) := by decide +kernel
theorem dX10_write_31 : decode cX10_write 31 = .ok (.aload_n 0, 1) := by decide +kernel
theorem dX10_write_32 : decode cX10_write 32 = .ok (.getfield 10, 3) := by decide +kernel
theorem dX10_write_35 : decode cX10_write 35 = .ok (.iload_n 1, 1) := by decide +kernel
theorem dX10_write_36 : decode cX10_write 36 = .ok (.lload_n 2, 1) := by decide +kernel
theorem dX10_write_37 : decode cX10_write 37 = .ok (.invokevirtual 83, 3) := by decide +kernel
theorem dX10_write_40 : decode cX10_write 40 = .ok (.aload_n 0, 1) := by decide +kernel
theorem dX10_write_41 : decode cX10_write 41 = .ok (.getfield 10, 3) := by decide +kernel
theorem dX10_write_44 : decode cX10_write 44 = .ok (.invokevirtual 79, 3) := by decide +kernel
theorem dX10_write_47 : decode cX10_write 47 = .ok (.ireturn, 1) := by decide +kernel
theorem dX10_wipe_0 : decode cX10_wipe 0 = .ok (.aload_n 0, 1) := by decide +kernel
theorem dX10_wipe_1 : decode cX10_wipe 1 = .ok (.getfield 10, 3) := by decide +kernel
theorem dX10_wipe_4 : decode cX10_wipe 4 = .ok (.invokevirtual 79, 3) := by decide +kernel
theorem dX10_wipe_7 : decode cX10_wipe 7 = .ok (.istore_n 1, 1) := by decide +kernel
theorem dX10_wipe_8 : decode cX10_wipe 8 = .ok (.aload_n 0, 1) := by decide +kernel
theorem dX10_wipe_9 : decode cX10_wipe 9 = .ok (.getfield 10, 3) := by decide +kernel
theorem dX10_wipe_12 : decode cX10_wipe 12 = .ok (.invokevirtual 87, 3) := by decide +kernel
theorem dX10_wipe_15 : decode cX10_wipe 15 = .ok (.iload_n 1, 1) := by decide +kernel
theorem dX10_wipe_16 : decode cX10_wipe 16 = .ok (.ireturn, 1) := by decide +kernel
theorem dX10_fault_0 : decode cX10_fault 0 = .ok (.aload_n 0, 1) := by decide +kernel
theorem dX10_fault_1 : decode cX10_fault 1 = .ok (.getfield 19, 3) := by decide +kernel
theorem dX10_fault_4 : decode cX10_fault 4 = .ok (.aload_n 0, 1) := by decide +kernel
theorem dX10_fault_5 : decode cX10_fault 5 = .ok (.getfield 10, 3) := by decide +kernel
theorem dX10_fault_8 : decode cX10_fault 8 = .ok (.invokevirtual 90, 3) := by decide +kernel
theorem dX10_fault_11 : decode cX10_fault 11 = .ok (.ireturn, 1) := by decide +kernel
theorem dX10_table_0 : decode cX10_table 0 = .ok (.aload_n 0, 1) := by decide +kernel
theorem dX10_table_1 : decode cX10_table 1 = .ok (.getfield 19, 3) := by decide +kernel
theorem dX10_table_4 : decode cX10_table 4 = .ok (.aload_n 0, 1) := by decide +kernel
theorem dX10_table_5 : decode cX10_table 5 = .ok (.getfield 10, 3) := by decide +kernel
theorem dX10_table_8 : decode cX10_table 8 = .ok (.invokevirtual 90, 3) := by decide +kernel
theorem dX10_table_11 : decode cX10_table 11 = .ok (.bipush (-9), 2) := by decide +kernel
theorem dX10_table_13 : decode cX10_table 13 = .ok (.if_icmp .eq 6, 3) := by decide +kernel
theorem dX10_table_16 : decode cX10_table 16 = .ok (.bipush (-3), 2) := by decide +kernel
theorem dX10_table_18 : decode cX10_table 18 = .ok (.ireturn, 1) := by decide +kernel
theorem dX10_table_19 : decode cX10_table 19 = .ok (.aload_n 0, 1) := by decide +kernel
theorem dX10_table_20 : decode cX10_table 20 = .ok (.getfield 26, 3) := by decide +kernel
theorem dX10_table_23 : decode cX10_table 23 = .ok (.aload_n 0, 1) := by decide +kernel
theorem dX10_table_24 : decode cX10_table 24 = .ok (.getfield 19, 3) := by decide +kernel
theorem dX10_table_27 : decode cX10_table 27 = .ok (.invokevirtual 94, 3) := by decide +kernel
theorem dX10_table_30 : decode cX10_table 30 = .ok (.invokevirtual 98, 3) := by decide +kernel
theorem dX10_table_33 : decode cX10_table 33 = .ok (.aload_n 0, 1) := by decide +kernel
theorem dX10_table_34 : decode cX10_table 34 = .ok (.getfield 33, 3) := by decide +kernel
theorem dX10_table_37 : decode cX10_table 37 = .ok (.aload_n 0, 1) := by decide +kernel
theorem dX10_table_38 : decode cX10_table 38 = .ok (.getfield 19, 3) := by decide +kernel
theorem dX10_table_41 : decode cX10_table 41 = .ok (.invokevirtual 102, 3) := by decide +kernel
theorem dX10_table_44 : decode cX10_table 44 = .ok (.invokevirtual 106, 3) := by decide +kernel
theorem dX10_table_47 : decode cX10_table 47 = .ok (.invokevirtual 110, 3) := by decide +kernel
theorem dX10_table_50 : decode cX10_table 50 = .ok (.aload_n 0, 1) := by decide +kernel
theorem dX10_table_51 : decode cX10_table 51 = .ok (.getfield 40, 3) := by decide +kernel
theorem dX10_table_54 : decode cX10_table 54 = .ok (.invokevirtual 114, 3) := by decide +kernel
theorem dX10_table_57 : decode cX10_table 57 = .ok (.aload_n 0, 1) := by decide +kernel
theorem dX10_table_58 : decode cX10_table 58 = .ok (.getfield 40, 3) := by decide +kernel
theorem dX10_table_61 : decode cX10_table 61 = .ok (.invokevirtual 117, 3) := by decide +kernel
theorem dX10_table_64 : decode cX10_table 64 = .ok (.aload_n 0, 1) := by decide +kernel
theorem dX10_table_65 : decode cX10_table 65 = .ok (.getfield 33, 3) := by decide +kernel
theorem dX10_table_68 : decode cX10_table 68 = .ok (.invokevirtual 120, 3) := by decide +kernel
theorem dX10_table_71 : decode cX10_table 71 = .ok (.ireturn, 1) := by decide +kernel
theorem dX10_person_0 : decode cX10_person 0 = .ok (.aload_n 0, 1) := by decide +kernel
theorem dX10_person_1 : decode cX10_person 1 = .ok (.getfield 33, 3) := by decide +kernel
theorem dX10_person_4 : decode cX10_person 4 = .ok (.iload_n 1, 1) := by decide +kernel
theorem dX10_person_5 : decode cX10_person 5 = .ok (.invokevirtual 123, 3) := by decide +kernel
theorem dX10_person_8 : decode cX10_person 8 = .ok (.ifCond .ne 5, 3) := by decide +kernel
theorem dX10_person_11 : decode cX10_person 11 = .ok (.iconst (-1), 1) := by decide +kernel
theorem dX10_person_12 : decode cX10_person 12 = .ok (.ireturn, 1) := by decide +kernel
theorem dX10_person_13 : decode cX10_person 13 = .ok (.aload_n 0, 1) := by decide +kernel
theorem dX10_person_14 : decode cX10_person 14 = .ok (.getfield 33, 3) := by decide +kernel
theorem dX10_person_17 : decode cX10_person 17 = .ok (.iload_n 1, 1) := by decide +kernel
theorem dX10_person_18 : decode cX10_person 18 = .ok (.invokevirtual 127, 3) := by decide +kernel
theorem dX10_person_21 : decode cX10_person 21 = .ok (.istore_n 3, 1) := by decide +kernel
theorem dX10_person_22 : decode cX10_person 22 = .ok (.iload_n 2, 1) := by decide +kernel
theorem dX10_person_23 : decode cX10_person 23 = .ok (.tableswitch 78 0 3 #[29, 31, 56, 62], 29) := by decide +kernel
theorem dX10_person_52 : decode cX10_person 52 = .ok (.iload_n 3, 1) := by decide +kernel
theorem dX10_person_53 : decode cX10_person 53 = .ok (.ireturn, 1) := by decide +kernel
theorem dX10_person_54 : decode cX10_person 54 = .ok (.aload_n 0, 1) := by decide +kernel
theorem dX10_person_55 : decode cX10_person 55 = .ok (.getfield 26, 3) := by decide +kernel
theorem dX10_person_58 : decode cX10_person 58 = .ok (.iload_n 3, 1) := by decide +kernel
theorem dX10_person_59 : decode cX10_person 59 = .ok (.aload_n 0, 1) := by decide +kernel
theorem dX10_person_60 : decode cX10_person 60 = .ok (.getfield 33, 3) := by decide +kernel
theorem dX10_person_63 : decode cX10_person 63 = .ok (.iload_n 3, 1) := by decide +kernel
theorem dX10_person_64 : decode cX10_person 64 = .ok (.invokevirtual 131, 3) := by decide +kernel
theorem dX10_person_67 : decode cX10_person 67 = .ok (.invokevirtual 134, 3) := by decide +kernel
theorem dX10_person_70 : decode cX10_person 70 = .ok (.ifCond .eq 7, 3) := by decide +kernel
theorem dX10_person_73 : decode cX10_person 73 = .ok (.iconst 1, 1) := by decide +kernel
theorem dX10_person_74 : decode cX10_person 74 = .ok (.goto 4, 3) := by decide +kernel
theorem dX10_person_77 : decode cX10_person 77 = .ok (.iconst 0, 1) := by decide +kernel
theorem dX10_person_78 : decode cX10_person 78 = .ok (.ireturn, 1) := by decide +kernel
theorem dX10_person_79 : decode cX10_person 79 = .ok (.aload_n 0, 1) := by decide +kernel
theorem dX10_person_80 : decode cX10_person 80 = .ok (.iload_n 1, 1) := by decide +kernel
theorem dX10_person_81 : decode cX10_person 81 = .ok (.invokevirtual 138, 3) := by decide +kernel
theorem dX10_person_84 : decode cX10_person 84 = .ok (.ireturn, 1) := by decide +kernel
theorem dX10_person_85 : decode cX10_person 85 = .ok (.aload_n 0, 1) := by decide +kernel
theorem dX10_person_86 : decode cX10_person 86 = .ok (.getfield 26, 3) := by decide +kernel
theorem dX10_person_89 : decode cX10_person 89 = .ok (.iload_n 3, 1) := by decide +kernel
theorem dX10_person_90 : decode cX10_person 90 = .ok (.aload_n 0, 1) := by decide +kernel
theorem dX10_person_91 : decode cX10_person 91 = .ok (.getfield 33, 3) := by decide +kernel
theorem dX10_person_94 : decode cX10_person 94 = .ok (.invokevirtual 141, 3) := by decide +kernel
theorem dX10_person_97 : decode cX10_person 97 = .ok (.invokevirtual 145, 3) := by decide +kernel
theorem dX10_person_100 : decode cX10_person 100 = .ok (.ireturn, 1) := by decide +kernel
theorem dX10_person_101 : decode cX10_person 101 = .ok (.bipush (-2), 2) := by decide +kernel
theorem dX10_person_103 : decode cX10_person 103 = .ok (.ireturn, 1) := by decide +kernel
theorem dX10_wrote_0 : decode cX10_wrote 0 = .ok (.iload_n 1, 1) := by decide +kernel
theorem dX10_wrote_1 : decode cX10_wrote 1 = .ok (.invokestatic 149, 3) := by decide +kernel
theorem dX10_wrote_4 : decode cX10_wrote 4 = .ok (.ifCond .eq 14, 3) := by decide +kernel
theorem dX10_wrote_7 : decode cX10_wrote 7 = .ok (.aload_n 0, 1) := by decide +kernel
theorem dX10_wrote_8 : decode cX10_wrote 8 = .ok (.getfield 33, 3) := by decide +kernel
theorem dX10_wrote_11 : decode cX10_wrote 11 = .ok (.iload_n 1, 1) := by decide +kernel
theorem dX10_wrote_12 : decode cX10_wrote 12 = .ok (.invokevirtual 131, 3) := by decide +kernel
theorem dX10_wrote_15 : decode cX10_wrote 15 = .ok (.goto 5, 3) := by decide +kernel
theorem dX10_wrote_18 : decode cX10_wrote 18 = .ok (.bipush (-2), 2) := by decide +kernel
theorem dX10_wrote_20 : decode cX10_wrote 20 = .ok (.ireturn, 1) := by decide +kernel
theorem dX10_slip_0 : decode cX10_slip 0 = .ok (.aload_n 0, 1) := by decide +kernel
theorem dX10_slip_1 : decode cX10_slip 1 = .ok (.getfield 33, 3) := by decide +kernel
theorem dX10_slip_4 : decode cX10_slip 4 = .ok (.iload_n 1, 1) := by decide +kernel
theorem dX10_slip_5 : decode cX10_slip 5 = .ok (.invokevirtual 123, 3) := by decide +kernel
theorem dX10_slip_8 : decode cX10_slip 8 = .ok (.ifCond .ne 5, 3) := by decide +kernel
theorem dX10_slip_11 : decode cX10_slip 11 = .ok (.iconst (-1), 1) := by decide +kernel
theorem dX10_slip_12 : decode cX10_slip 12 = .ok (.ireturn, 1) := by decide +kernel
theorem dX10_slip_13 : decode cX10_slip 13 = .ok (.aload_n 0, 1) := by decide +kernel
theorem dX10_slip_14 : decode cX10_slip 14 = .ok (.iload_n 2, 1) := by decide +kernel
theorem dX10_slip_15 : decode cX10_slip 15 = .ok (.invokevirtual 152, 3) := by decide +kernel
theorem dX10_slip_18 : decode cX10_slip 18 = .ok (.istore_n 3, 1) := by decide +kernel
theorem dX10_slip_19 : decode cX10_slip 19 = .ok (.iload_n 3, 1) := by decide +kernel
theorem dX10_slip_20 : decode cX10_slip 20 = .ok (.ifCond .eq 5, 3) := by decide +kernel
theorem dX10_slip_23 : decode cX10_slip 23 = .ok (.iload_n 3, 1) := by decide +kernel
theorem dX10_slip_24 : decode cX10_slip 24 = .ok (.ireturn, 1) := by decide +kernel
theorem dX10_slip_25 : decode cX10_slip 25 = .ok (.aload_n 0, 1) := by decide +kernel
theorem dX10_slip_26 : decode cX10_slip 26 = .ok (.getfield 33, 3) := by decide +kernel
theorem dX10_slip_29 : decode cX10_slip 29 = .ok (.iload_n 1, 1) := by decide +kernel
theorem dX10_slip_30 : decode cX10_slip 30 = .ok (.invokevirtual 127, 3) := by decide +kernel
theorem dX10_slip_33 : decode cX10_slip 33 = .ok (.istore 4, 2) := by decide +kernel
theorem dX10_slip_35 : decode cX10_slip 35 = .ok (.aload_n 0, 1) := by decide +kernel
theorem dX10_slip_36 : decode cX10_slip 36 = .ok (.getfield 40, 3) := by decide +kernel
theorem dX10_slip_39 : decode cX10_slip 39 = .ok (.aload_n 0, 1) := by decide +kernel
theorem dX10_slip_40 : decode cX10_slip 40 = .ok (.getfield 33, 3) := by decide +kernel
theorem dX10_slip_43 : decode cX10_slip 43 = .ok (.invokevirtual 106, 3) := by decide +kernel
theorem dX10_slip_46 : decode cX10_slip 46 = .ok (.invokevirtual 155, 3) := by decide +kernel
theorem dX10_slip_49 : decode cX10_slip 49 = .ok (.aload_n 0, 1) := by decide +kernel
theorem dX10_slip_50 : decode cX10_slip 50 = .ok (.getfield 33, 3) := by decide +kernel
theorem dX10_slip_53 : decode cX10_slip 53 = .ok (.iload_n 1, 1) := by decide +kernel
theorem dX10_slip_54 : decode cX10_slip 54 = .ok (.iload_n 2, 1) := by decide +kernel
theorem dX10_slip_55 : decode cX10_slip 55 = .ok (.invokevirtual 158, 3) := by decide +kernel
theorem dX10_slip_58 : decode cX10_slip 58 = .ok (.iload 4, 2) := by decide +kernel
theorem dX10_slip_60 : decode cX10_slip 60 = .ok (.ireturn, 1) := by decide +kernel
theorem dX10_come_0 : decode cX10_come 0 = .ok (.aload_n 0, 1) := by decide +kernel
theorem dX10_come_1 : decode cX10_come 1 = .ok (.iload_n 1, 1) := by decide +kernel
theorem dX10_come_2 : decode cX10_come 2 = .ok (.invokevirtual 152, 3) := by decide +kernel
theorem dX10_come_5 : decode cX10_come 5 = .ok (.istore_n 2, 1) := by decide +kernel
theorem dX10_come_6 : decode cX10_come 6 = .ok (.iload_n 2, 1) := by decide +kernel
theorem dX10_come_7 : decode cX10_come 7 = .ok (.ifCond .eq 5, 3) := by decide +kernel
theorem dX10_come_10 : decode cX10_come 10 = .ok (.iload_n 2, 1) := by decide +kernel
theorem dX10_come_11 : decode cX10_come 11 = .ok (.ireturn, 1) := by decide +kernel
theorem dX10_come_12 : decode cX10_come 12 = .ok (.aload_n 0, 1) := by decide +kernel
theorem dX10_come_13 : decode cX10_come 13 = .ok (.getfield 33, 3) := by decide +kernel
theorem dX10_come_16 : decode cX10_come 16 = .ok (.invokevirtual 120, 3) := by decide +kernel
theorem dX10_come_19 : decode cX10_come 19 = .ok (.bipush 9, 2) := by decide +kernel
theorem dX10_come_21 : decode cX10_come 21 = .ok (.if_icmp .lt 6, 3) := by decide +kernel
theorem dX10_come_24 : decode cX10_come 24 = .ok (.bipush (-4), 2) := by decide +kernel
theorem dX10_come_26 : decode cX10_come 26 = .ok (.ireturn, 1) := by decide +kernel
theorem dX10_come_27 : decode cX10_come 27 = .ok (.aload_n 0, 1) := by decide +kernel
theorem dX10_come_28 : decode cX10_come 28 = .ok (.getfield 40, 3) := by decide +kernel
theorem dX10_come_31 : decode cX10_come 31 = .ok (.aload_n 0, 1) := by decide +kernel
theorem dX10_come_32 : decode cX10_come 32 = .ok (.getfield 33, 3) := by decide +kernel
theorem dX10_come_35 : decode cX10_come 35 = .ok (.invokevirtual 106, 3) := by decide +kernel
theorem dX10_come_38 : decode cX10_come 38 = .ok (.invokevirtual 155, 3) := by decide +kernel
theorem dX10_come_41 : decode cX10_come 41 = .ok (.aload_n 0, 1) := by decide +kernel
theorem dX10_come_42 : decode cX10_come 42 = .ok (.getfield 33, 3) := by decide +kernel
theorem dX10_come_45 : decode cX10_come 45 = .ok (.iload_n 1, 1) := by decide +kernel
theorem dX10_come_46 : decode cX10_come 46 = .ok (.invokevirtual 162, 3) := by decide +kernel
theorem dX10_come_49 : decode cX10_come 49 = .ok (.aload_n 0, 1) := by decide +kernel
theorem dX10_come_50 : decode cX10_come 50 = .ok (.getfield 33, 3) := by decide +kernel
theorem dX10_come_53 : decode cX10_come 53 = .ok (.invokevirtual 120, 3) := by decide +kernel
theorem dX10_come_56 : decode cX10_come 56 = .ok (.iconst 1, 1) := by decide +kernel
theorem dX10_come_57 : decode cX10_come 57 = .ok (.isub, 1) := by decide +kernel
theorem dX10_come_58 : decode cX10_come 58 = .ok (.ireturn, 1) := by decide +kernel
theorem dX10_leave_0 : decode cX10_leave 0 = .ok (.aload_n 0, 1) := by decide +kernel
theorem dX10_leave_1 : decode cX10_leave 1 = .ok (.getfield 33, 3) := by decide +kernel
theorem dX10_leave_4 : decode cX10_leave 4 = .ok (.iload_n 1, 1) := by decide +kernel
theorem dX10_leave_5 : decode cX10_leave 5 = .ok (.invokevirtual 123, 3) := by decide +kernel
theorem dX10_leave_8 : decode cX10_leave 8 = .ok (.ifCond .ne 5, 3) := by decide +kernel
theorem dX10_leave_11 : decode cX10_leave 11 = .ok (.iconst (-1), 1) := by decide +kernel
theorem dX10_leave_12 : decode cX10_leave 12 = .ok (.ireturn, 1) := by decide +kernel
theorem dX10_leave_13 : decode cX10_leave 13 = .ok (.aload_n 0, 1) := by decide +kernel
theorem dX10_leave_14 : decode cX10_leave 14 = .ok (.getfield 33, 3) := by decide +kernel
theorem dX10_leave_17 : decode cX10_leave 17 = .ok (.iload_n 1, 1) := by decide +kernel
theorem dX10_leave_18 : decode cX10_leave 18 = .ok (.invokevirtual 127, 3) := by decide +kernel
theorem dX10_leave_21 : decode cX10_leave 21 = .ok (.istore_n 2, 1) := by decide +kernel
theorem dX10_leave_22 : decode cX10_leave 22 = .ok (.aload_n 0, 1) := by decide +kernel
theorem dX10_leave_23 : decode cX10_leave 23 = .ok (.getfield 40, 3) := by decide +kernel
theorem dX10_leave_26 : decode cX10_leave 26 = .ok (.aload_n 0, 1) := by decide +kernel
theorem dX10_leave_27 : decode cX10_leave 27 = .ok (.getfield 33, 3) := by decide +kernel
theorem dX10_leave_30 : decode cX10_leave 30 = .ok (.invokevirtual 106, 3) := by decide +kernel
theorem dX10_leave_33 : decode cX10_leave 33 = .ok (.invokevirtual 155, 3) := by decide +kernel
theorem dX10_leave_36 : decode cX10_leave 36 = .ok (.aload_n 0, 1) := by decide +kernel
theorem dX10_leave_37 : decode cX10_leave 37 = .ok (.getfield 33, 3) := by decide +kernel
theorem dX10_leave_40 : decode cX10_leave 40 = .ok (.iload_n 1, 1) := by decide +kernel
theorem dX10_leave_41 : decode cX10_leave 41 = .ok (.invokevirtual 165, 3) := by decide +kernel
theorem dX10_leave_44 : decode cX10_leave 44 = .ok (.iload_n 2, 1) := by decide +kernel
theorem dX10_leave_45 : decode cX10_leave 45 = .ok (.ireturn, 1) := by decide +kernel
theorem dX10_round_0 : decode cX10_round 0 = .ok (.aload_n 0, 1) := by decide +kernel
theorem dX10_round_1 : decode cX10_round 1 = .ok (.getfield 40, 3) := by decide +kernel
theorem dX10_round_4 : decode cX10_round 4 = .ok (.aload_n 0, 1) := by decide +kernel
theorem dX10_round_5 : decode cX10_round 5 = .ok (.getfield 33, 3) := by decide +kernel
theorem dX10_round_8 : decode cX10_round 8 = .ok (.invokevirtual 106, 3) := by decide +kernel
theorem dX10_round_11 : decode cX10_round 11 = .ok (.invokevirtual 155, 3) := by decide +kernel
theorem dX10_round_14 : decode cX10_round 14 = .ok (.aload_n 0, 1) := by decide +kernel
theorem dX10_round_15 : decode cX10_round 15 = .ok (.getfield 61, 3) := by decide +kernel
theorem dX10_round_18 : decode cX10_round 18 = .ok (.aload_n 0, 1) := by decide +kernel
theorem dX10_round_19 : decode cX10_round 19 = .ok (.getfield 26, 3) := by decide +kernel
theorem dX10_round_22 : decode cX10_round 22 = .ok (.aload_n 0, 1) := by decide +kernel
theorem dX10_round_23 : decode cX10_round 23 = .ok (.getfield 33, 3) := by decide +kernel
theorem dX10_round_26 : decode cX10_round 26 = .ok (.invokevirtual 168, 3) := by decide +kernel
theorem dX10_round_29 : decode cX10_round 29 = .ok (.ireturn, 1) := by decide +kernel
theorem dX10_undo_0 : decode cX10_undo 0 = .ok (.aload_n 0, 1) := by decide +kernel
theorem dX10_undo_1 : decode cX10_undo 1 = .ok (.getfield 40, 3) := by decide +kernel
theorem dX10_undo_4 : decode cX10_undo 4 = .ok (.invokevirtual 172, 3) := by decide +kernel
theorem dX10_undo_7 : decode cX10_undo 7 = .ok (.ifCond .ne 6, 3) := by decide +kernel
theorem dX10_undo_10 : decode cX10_undo 10 = .ok (.bipush (-3), 2) := by decide +kernel
theorem dX10_undo_12 : decode cX10_undo 12 = .ok (.ireturn, 1) := by decide +kernel
theorem dX10_undo_13 : decode cX10_undo 13 = .ok (.aload_n 0, 1) := by decide +kernel
theorem dX10_undo_14 : decode cX10_undo 14 = .ok (.getfield 33, 3) := by decide +kernel
theorem dX10_undo_17 : decode cX10_undo 17 = .ok (.aload_n 0, 1) := by decide +kernel
theorem dX10_undo_18 : decode cX10_undo 18 = .ok (.getfield 40, 3) := by decide +kernel
theorem dX10_undo_21 : decode cX10_undo 21 = .ok (.invokevirtual 175, 3) := by decide +kernel
theorem dX10_undo_24 : decode cX10_undo 24 = .ok (.invokevirtual 110, 3) := by decide +kernel
theorem dX10_undo_27 : decode cX10_undo 27 = .ok (.aload_n 0, 1) := by decide +kernel
theorem dX10_undo_28 : decode cX10_undo 28 = .ok (.getfield 40, 3) := by decide +kernel
theorem dX10_undo_31 : decode cX10_undo 31 = .ok (.invokevirtual 172, 3) := by decide +kernel
theorem dX10_undo_34 : decode cX10_undo 34 = .ok (.ireturn, 1) := by decide +kernel
theorem dX10_settled_0 : decode cX10_settled 0 = .ok (.aload_n 0, 1) := by decide +kernel
theorem dX10_settled_1 : decode cX10_settled 1 = .ok (.getfield 61, 3) := by decide +kernel
theorem dX10_settled_4 : decode cX10_settled 4 = .ok (.aload_n 0, 1) := by decide +kernel
theorem dX10_settled_5 : decode cX10_settled 5 = .ok (.getfield 26, 3) := by decide +kernel
theorem dX10_settled_8 : decode cX10_settled 8 = .ok (.aload_n 0, 1) := by decide +kernel
theorem dX10_settled_9 : decode cX10_settled 9 = .ok (.getfield 33, 3) := by decide +kernel
theorem dX10_settled_12 : decode cX10_settled 12 = .ok (.invokevirtual 141, 3) := by decide +kernel
theorem dX10_settled_15 : decode cX10_settled 15 = .ok (.invokevirtual 178, 3) := by decide +kernel
theorem dX10_settled_18 : decode cX10_settled 18 = .ok (.ireturn, 1) := by decide +kernel
theorem dX10_ways_0 : decode cX10_ways 0 = .ok (.iload_n 1, 1) := by decide +kernel
theorem dX10_ways_1 : decode cX10_ways 1 = .ok (.invokestatic 182, 3) := by decide +kernel
theorem dX10_ways_4 : decode cX10_ways 4 = .ok (.ifCond .eq 18, 3) := by decide +kernel
theorem dX10_ways_7 : decode cX10_ways 7 = .ok (.aload_n 0, 1) := by decide +kernel
theorem dX10_ways_8 : decode cX10_ways 8 = .ok (.getfield 47, 3) := by decide +kernel
theorem dX10_ways_11 : decode cX10_ways 11 = .ok (.aload_n 0, 1) := by decide +kernel
theorem dX10_ways_12 : decode cX10_ways 12 = .ok (.getfield 26, 3) := by decide +kernel
theorem dX10_ways_15 : decode cX10_ways 15 = .ok (.iload_n 1, 1) := by decide +kernel
theorem dX10_ways_16 : decode cX10_ways 16 = .ok (.invokevirtual 185, 3) := by decide +kernel
theorem dX10_ways_19 : decode cX10_ways 19 = .ok (.goto 5, 3) := by decide +kernel
theorem dX10_ways_22 : decode cX10_ways 22 = .ok (.bipush (-2), 2) := by decide +kernel
theorem dX10_ways_24 : decode cX10_ways 24 = .ok (.ireturn, 1) := by decide +kernel
theorem dX10_wrong_0 : decode cX10_wrong 0 = .ok (.iload_n 1, 1) := by decide +kernel
theorem dX10_wrong_1 : decode cX10_wrong 1 = .ok (.invokestatic 182, 3) := by decide +kernel
theorem dX10_wrong_4 : decode cX10_wrong 4 = .ok (.ifCond .eq 18, 3) := by decide +kernel
theorem dX10_wrong_7 : decode cX10_wrong 7 = .ok (.aload_n 0, 1) := by decide +kernel
theorem dX10_wrong_8 : decode cX10_wrong 8 = .ok (.getfield 47, 3) := by decide +kernel
theorem dX10_wrong_11 : decode cX10_wrong 11 = .ok (.aload_n 0, 1) := by decide +kernel
theorem dX10_wrong_12 : decode cX10_wrong 12 = .ok (.getfield 26, 3) := by decide +kernel
theorem dX10_wrong_15 : decode cX10_wrong 15 = .ok (.iload_n 1, 1) := by decide +kernel
theorem dX10_wrong_16 : decode cX10_wrong 16 = .ok (.invokevirtual 189, 3) := by decide +kernel
theorem dX10_wrong_19 : decode cX10_wrong 19 = .ok (.goto 5, 3) := by decide +kernel
theorem dX10_wrong_22 : decode cX10_wrong 22 = .ok (.bipush (-2), 2) := by decide +kernel
theorem dX10_wrong_24 : decode cX10_wrong 24 = .ok (.ireturn, 1) := by decide +kernel
theorem dX10_agreed_0 : decode cX10_agreed 0 = .ok (.aload_n 0, 1) := by decide +kernel
theorem dX10_agreed_1 : decode cX10_agreed 1 = .ok (.getfield 33, 3) := by decide +kernel
theorem dX10_agreed_4 : decode cX10_agreed 4 = .ok (.iload_n 1, 1) := by decide +kernel
theorem dX10_agreed_5 : decode cX10_agreed 5 = .ok (.invokevirtual 123, 3) := by decide +kernel
theorem dX10_agreed_8 : decode cX10_agreed 8 = .ok (.ifCond .eq 25, 3) := by decide +kernel
theorem dX10_agreed_11 : decode cX10_agreed 11 = .ok (.aload_n 0, 1) := by decide +kernel
theorem dX10_agreed_12 : decode cX10_agreed 12 = .ok (.getfield 47, 3) := by decide +kernel
theorem dX10_agreed_15 : decode cX10_agreed 15 = .ok (.aload_n 0, 1) := by decide +kernel
theorem dX10_agreed_16 : decode cX10_agreed 16 = .ok (.getfield 26, 3) := by decide +kernel
theorem dX10_agreed_19 : decode cX10_agreed 19 = .ok (.iload_n 1, 1) := by decide +kernel
theorem dX10_agreed_20 : decode cX10_agreed 20 = .ok (.aload_n 0, 1) := by decide +kernel
theorem dX10_agreed_21 : decode cX10_agreed 21 = .ok (.getfield 33, 3) := by decide +kernel
theorem dX10_agreed_24 : decode cX10_agreed 24 = .ok (.invokevirtual 120, 3) := by decide +kernel
theorem dX10_agreed_27 : decode cX10_agreed 27 = .ok (.invokevirtual 192, 3) := by decide +kernel
theorem dX10_agreed_30 : decode cX10_agreed 30 = .ok (.goto 4, 3) := by decide +kernel
theorem dX10_agreed_33 : decode cX10_agreed 33 = .ok (.iconst (-1), 1) := by decide +kernel
theorem dX10_agreed_34 : decode cX10_agreed 34 = .ok (.ireturn, 1) := by decide +kernel
theorem dX10_late_0 : decode cX10_late 0 = .ok (.aload_n 0, 1) := by decide +kernel
theorem dX10_late_1 : decode cX10_late 1 = .ok (.getfield 33, 3) := by decide +kernel
theorem dX10_late_4 : decode cX10_late 4 = .ok (.invokevirtual 120, 3) := by decide +kernel
theorem dX10_late_7 : decode cX10_late 7 = .ok (.bipush 9, 2) := by decide +kernel
theorem dX10_late_9 : decode cX10_late 9 = .ok (.if_icmp .lt 6, 3) := by decide +kernel
theorem dX10_late_12 : decode cX10_late 12 = .ok (.bipush (-4), 2) := by decide +kernel
theorem dX10_late_14 : decode cX10_late 14 = .ok (.ireturn, 1) := by decide +kernel
theorem dX10_late_15 : decode cX10_late 15 = .ok (.aload_n 0, 1) := by decide +kernel
theorem dX10_late_16 : decode cX10_late 16 = .ok (.getfield 47, 3) := by decide +kernel
theorem dX10_late_19 : decode cX10_late 19 = .ok (.aload_n 0, 1) := by decide +kernel
theorem dX10_late_20 : decode cX10_late 20 = .ok (.getfield 26, 3) := by decide +kernel
theorem dX10_late_23 : decode cX10_late 23 = .ok (.aload_n 0, 1) := by decide +kernel
theorem dX10_late_24 : decode cX10_late 24 = .ok (.getfield 33, 3) := by decide +kernel
theorem dX10_late_27 : decode cX10_late 27 = .ok (.invokevirtual 141, 3) := by decide +kernel
theorem dX10_late_30 : decode cX10_late 30 = .ok (.aload_n 0, 1) := by decide +kernel
theorem dX10_late_31 : decode cX10_late 31 = .ok (.getfield 33, 3) := by decide +kernel
theorem dX10_late_34 : decode cX10_late 34 = .ok (.invokevirtual 120, 3) := by decide +kernel
theorem dX10_late_37 : decode cX10_late 37 = .ok (.invokevirtual 196, 3) := by decide +kernel
theorem dX10_late_40 : decode cX10_late 40 = .ok (.ireturn, 1) := by decide +kernel
theorem dX10_tenths_0 : decode cX10_tenths 0 = .ok (.iload_n 1, 1) := by decide +kernel
theorem dX10_tenths_1 : decode cX10_tenths 1 = .ok (.invokestatic 149, 3) := by decide +kernel
theorem dX10_tenths_4 : decode cX10_tenths 4 = .ok (.ifCond .eq 13, 3) := by decide +kernel
theorem dX10_tenths_7 : decode cX10_tenths 7 = .ok (.iload_n 2, 1) := by decide +kernel
theorem dX10_tenths_8 : decode cX10_tenths 8 = .ok (.ifCond .lt 9, 3) := by decide +kernel
theorem dX10_tenths_11 : decode cX10_tenths 11 = .ok (.iload_n 2, 1) := by decide +kernel
theorem dX10_tenths_12 : decode cX10_tenths 12 = .ok (.bipush 10, 2) := by decide +kernel
theorem dX10_tenths_14 : decode cX10_tenths 14 = .ok (.if_icmp .le 6, 3) := by decide +kernel
theorem dX10_tenths_17 : decode cX10_tenths 17 = .ok (.bipush (-2), 2) := by decide +kernel
theorem dX10_tenths_19 : decode cX10_tenths 19 = .ok (.ireturn, 1) := by decide +kernel
theorem dX10_tenths_20 : decode cX10_tenths 20 = .ok (.aload_n 0, 1) := by decide +kernel
theorem dX10_tenths_21 : decode cX10_tenths 21 = .ok (.getfield 54, 3) := by decide +kernel
theorem dX10_tenths_24 : decode cX10_tenths 24 = .ok (.iload_n 1, 1) := by decide +kernel
theorem dX10_tenths_25 : decode cX10_tenths 25 = .ok (.iload_n 2, 1) := by decide +kernel
theorem dX10_tenths_26 : decode cX10_tenths 26 = .ok (.invokevirtual 200, 3) := by decide +kernel
theorem dX10_tenths_29 : decode cX10_tenths 29 = .ok (.ireturn, 1) := by decide +kernel
theorem dX10_allRight_0 : decode cX10_allRight 0 = .ok (.aload_n 0, 1) := by decide +kernel
theorem dX10_allRight_1 : decode cX10_allRight 1 = .ok (.iload_n 1, 1) := by decide +kernel
theorem dX10_allRight_2 : decode cX10_allRight 2 = .ok (.invokevirtual 204, 3) := by decide +kernel
theorem dX10_allRight_5 : decode cX10_allRight 5 = .ok (.istore_n 3, 1) := by decide +kernel
theorem dX10_allRight_6 : decode cX10_allRight 6 = .ok (.iload_n 3, 1) := by decide +kernel
theorem dX10_allRight_7 : decode cX10_allRight 7 = .ok (.ifCond .eq 6, 3) := by decide +kernel
theorem dX10_allRight_10 : decode cX10_allRight 10 = .ok (.iload_n 3, 1) := by decide +kernel
theorem dX10_allRight_11 : decode cX10_allRight 11 = .ok (.i2l, 1) := by decide +kernel
theorem dX10_allRight_12 : decode cX10_allRight 12 = .ok (.lreturn, 1) := by decide +kernel
theorem dX10_allRight_13 : decode cX10_allRight 13 = .ok (.aload_n 0, 1) := by decide +kernel
theorem dX10_allRight_14 : decode cX10_allRight 14 = .ok (.getfield 47, 3) := by decide +kernel
theorem dX10_allRight_17 : decode cX10_allRight 17 = .ok (.aload_n 0, 1) := by decide +kernel
theorem dX10_allRight_18 : decode cX10_allRight 18 = .ok (.getfield 26, 3) := by decide +kernel
theorem dX10_allRight_21 : decode cX10_allRight 21 = .ok (.aload_n 0, 1) := by decide +kernel
theorem dX10_allRight_22 : decode cX10_allRight 22 = .ok (.getfield 54, 3) := by decide +kernel
theorem dX10_allRight_25 : decode cX10_allRight 25 = .ok (.invokevirtual 207, 3) := by decide +kernel
theorem dX10_allRight_28 : decode cX10_allRight 28 = .ok (.iload_n 1, 1) := by decide +kernel
theorem dX10_allRight_29 : decode cX10_allRight 29 = .ok (.invokevirtual 210, 3) := by decide +kernel
theorem dX10_allRight_32 : decode cX10_allRight 32 = .ok (.ldc2_w 214, 3) := by decide +kernel
theorem dX10_allRight_35 : decode cX10_allRight 35 = .ok (.iload_n 1, 1) := by decide +kernel
theorem dX10_allRight_36 : decode cX10_allRight 36 = .ok (.invokestatic 216, 3) := by decide +kernel
theorem dX10_allRight_39 : decode cX10_allRight 39 = .ok (.iload_n 2, 1) := by decide +kernel
theorem dX10_allRight_40 : decode cX10_allRight 40 = .ok (.invokestatic 220, 3) := by decide +kernel
theorem dX10_allRight_43 : decode cX10_allRight 43 = .ok (.lreturn, 1) := by decide +kernel
theorem dX10_mean_0 : decode cX10_mean 0 = .ok (.aload_n 0, 1) := by decide +kernel
theorem dX10_mean_1 : decode cX10_mean 1 = .ok (.iload_n 1, 1) := by decide +kernel
theorem dX10_mean_2 : decode cX10_mean 2 = .ok (.invokevirtual 204, 3) := by decide +kernel
theorem dX10_mean_5 : decode cX10_mean 5 = .ok (.istore_n 3, 1) := by decide +kernel
theorem dX10_mean_6 : decode cX10_mean 6 = .ok (.iload_n 3, 1) := by decide +kernel
theorem dX10_mean_7 : decode cX10_mean 7 = .ok (.ifCond .eq 6, 3) := by decide +kernel
theorem dX10_mean_10 : decode cX10_mean 10 = .ok (.iload_n 3, 1) := by decide +kernel
theorem dX10_mean_11 : decode cX10_mean 11 = .ok (.i2l, 1) := by decide +kernel
theorem dX10_mean_12 : decode cX10_mean 12 = .ok (.lreturn, 1) := by decide +kernel
theorem dX10_mean_13 : decode cX10_mean 13 = .ok (.aload_n 0, 1) := by decide +kernel
theorem dX10_mean_14 : decode cX10_mean 14 = .ok (.getfield 54, 3) := by decide +kernel
theorem dX10_mean_17 : decode cX10_mean 17 = .ok (.aload_n 0, 1) := by decide +kernel
theorem dX10_mean_18 : decode cX10_mean 18 = .ok (.getfield 26, 3) := by decide +kernel
theorem dX10_mean_21 : decode cX10_mean 21 = .ok (.iload_n 1, 1) := by decide +kernel
theorem dX10_mean_22 : decode cX10_mean 22 = .ok (.invokevirtual 224, 3) := by decide +kernel
theorem dX10_mean_25 : decode cX10_mean 25 = .ok (.ldc2_w 214, 3) := by decide +kernel
theorem dX10_mean_28 : decode cX10_mean 28 = .ok (.iload_n 1, 1) := by decide +kernel
theorem dX10_mean_29 : decode cX10_mean 29 = .ok (.invokestatic 216, 3) := by decide +kernel
theorem dX10_mean_32 : decode cX10_mean 32 = .ok (.iload_n 2, 1) := by decide +kernel
theorem dX10_mean_33 : decode cX10_mean 33 = .ok (.invokestatic 220, 3) := by decide +kernel
theorem dX10_mean_36 : decode cX10_mean 36 = .ok (.lreturn, 1) := by decide +kernel
theorem dX10_forget_0 : decode cX10_forget 0 = .ok (.aload_n 0, 1) := by decide +kernel
theorem dX10_forget_1 : decode cX10_forget 1 = .ok (.getfield 33, 3) := by decide +kernel
theorem dX10_forget_4 : decode cX10_forget 4 = .ok (.iload_n 1, 1) := by decide +kernel
theorem dX10_forget_5 : decode cX10_forget 5 = .ok (.invokevirtual 123, 3) := by decide +kernel
theorem dX10_forget_8 : decode cX10_forget 8 = .ok (.ifCond .ne 7, 3) := by decide +kernel
theorem dX10_forget_11 : decode cX10_forget 11 = .ok (.ldc2_w 228, 3) := by decide +kernel
theorem dX10_forget_14 : decode cX10_forget 14 = .ok (.lreturn, 1) := by decide +kernel
theorem dX10_forget_15 : decode cX10_forget 15 = .ok (.iload_n 2, 1) := by decide +kernel
theorem dX10_forget_16 : decode cX10_forget 16 = .ok (.ifCond .lt 9, 3) := by decide +kernel
theorem dX10_forget_19 : decode cX10_forget 19 = .ok (.iload_n 2, 1) := by decide +kernel
theorem dX10_forget_20 : decode cX10_forget 20 = .ok (.bipush 10, 2) := by decide +kernel
theorem dX10_forget_22 : decode cX10_forget 22 = .ok (.if_icmp .le 7, 3) := by decide +kernel
theorem dX10_forget_25 : decode cX10_forget 25 = .ok (.ldc2_w 230, 3) := by decide +kernel
theorem dX10_forget_28 : decode cX10_forget 28 = .ok (.lreturn, 1) := by decide +kernel
theorem dX10_forget_29 : decode cX10_forget 29 = .ok (.aload_n 0, 1) := by decide +kernel
theorem dX10_forget_30 : decode cX10_forget 30 = .ok (.getfield 33, 3) := by decide +kernel
theorem dX10_forget_33 : decode cX10_forget 33 = .ok (.iload_n 1, 1) := by decide +kernel
theorem dX10_forget_34 : decode cX10_forget 34 = .ok (.invokevirtual 127, 3) := by decide +kernel
theorem dX10_forget_37 : decode cX10_forget 37 = .ok (.istore 4, 2) := by decide +kernel
theorem dX10_forget_39 : decode cX10_forget 39 = .ok (.aload_n 0, 1) := by decide +kernel
theorem dX10_forget_40 : decode cX10_forget 40 = .ok (.getfield 33, 3) := by decide +kernel
theorem dX10_forget_43 : decode cX10_forget 43 = .ok (.iload 4, 2) := by decide +kernel
theorem dX10_forget_45 : decode cX10_forget 45 = .ok (.invokevirtual 131, 3) := by decide +kernel
theorem dX10_forget_48 : decode cX10_forget 48 = .ok (.istore 5, 2) := by decide +kernel
theorem dX10_forget_50 : decode cX10_forget 50 = .ok (.aload_n 0, 1) := by decide +kernel
theorem dX10_forget_51 : decode cX10_forget 51 = .ok (.getfield 54, 3) := by decide +kernel
theorem dX10_forget_54 : decode cX10_forget 54 = .ok (.aload_n 0, 1) := by decide +kernel
theorem dX10_forget_55 : decode cX10_forget 55 = .ok (.getfield 26, 3) := by decide +kernel
theorem dX10_forget_58 : decode cX10_forget 58 = .ok (.iload 4, 2) := by decide +kernel
theorem dX10_forget_60 : decode cX10_forget 60 = .ok (.iload 5, 2) := by decide +kernel
theorem dX10_forget_62 : decode cX10_forget 62 = .ok (.iload_n 2, 1) := by decide +kernel
theorem dX10_forget_63 : decode cX10_forget 63 = .ok (.invokevirtual 232, 3) := by decide +kernel
theorem dX10_forget_66 : decode cX10_forget 66 = .ok (.ldc2_w 214, 3) := by decide +kernel
theorem dX10_forget_69 : decode cX10_forget 69 = .ok (.iload 5, 2) := by decide +kernel
theorem dX10_forget_71 : decode cX10_forget 71 = .ok (.invokestatic 216, 3) := by decide +kernel
theorem dX10_forget_74 : decode cX10_forget 74 = .ok (.iload_n 3, 1) := by decide +kernel
theorem dX10_forget_75 : decode cX10_forget 75 = .ok (.invokestatic 220, 3) := by decide +kernel
theorem dX10_forget_78 : decode cX10_forget 78 = .ok (.lreturn, 1) := by decide +kernel
theorem dX10_rests_0 : decode cX10_rests 0 = .ok (.iload_n 1, 1) := by decide +kernel
theorem dX10_rests_1 : decode cX10_rests 1 = .ok (.ifCond .lt 8, 3) := by decide +kernel
theorem dX10_rests_4 : decode cX10_rests 4 = .ok (.iload_n 1, 1) := by decide +kernel
theorem dX10_rests_5 : decode cX10_rests 5 = .ok (.iconst 4, 1) := by decide +kernel
theorem dX10_rests_6 : decode cX10_rests 6 = .ok (.if_icmp .le 8, 3) := by decide +kernel
theorem dX10_rests_9 : decode cX10_rests 9 = .ok (.bipush (-2), 2) := by decide +kernel
theorem dX10_rests_11 : decode cX10_rests 11 = .ok (.goto 15, 3) := by decide +kernel
theorem dX10_rests_14 : decode cX10_rests 14 = .ok (.aload_n 0, 1) := by decide +kernel
theorem dX10_rests_15 : decode cX10_rests 15 = .ok (.getfield 61, 3) := by decide +kernel
theorem dX10_rests_18 : decode cX10_rests 18 = .ok (.aload_n 0, 1) := by decide +kernel
theorem dX10_rests_19 : decode cX10_rests 19 = .ok (.getfield 26, 3) := by decide +kernel
theorem dX10_rests_22 : decode cX10_rests 22 = .ok (.iload_n 1, 1) := by decide +kernel
theorem dX10_rests_23 : decode cX10_rests 23 = .ok (.invokevirtual 236, 3) := by decide +kernel
theorem dX10_rests_26 : decode cX10_rests 26 = .ok (.ireturn, 1) := by decide +kernel
theorem dX10_pay_0 : decode cX10_pay 0 = .ok (.iload_n 1, 1) := by decide +kernel
theorem dX10_pay_1 : decode cX10_pay 1 = .ok (.ifCond .lt 20, 3) := by decide +kernel
theorem dX10_pay_4 : decode cX10_pay 4 = .ok (.iload_n 1, 1) := by decide +kernel
theorem dX10_pay_5 : decode cX10_pay 5 = .ok (.bipush 9, 2) := by decide +kernel
theorem dX10_pay_7 : decode cX10_pay 7 = .ok (.if_icmp .ge 14, 3) := by decide +kernel
theorem dX10_pay_10 : decode cX10_pay 10 = .ok (.iload_n 2, 1) := by decide +kernel
theorem dX10_pay_11 : decode cX10_pay 11 = .ok (.ifCond .lt 10, 3) := by decide +kernel
theorem dX10_pay_14 : decode cX10_pay 14 = .ok (.iload_n 2, 1) := by decide +kernel
theorem dX10_pay_15 : decode cX10_pay 15 = .ok (.sipush 999, 3) := by decide +kernel
theorem dX10_pay_18 : decode cX10_pay 18 = .ok (.if_icmp .le 6, 3) := by decide +kernel
theorem dX10_pay_21 : decode cX10_pay 21 = .ok (.bipush (-2), 2) := by decide +kernel
theorem dX10_pay_23 : decode cX10_pay 23 = .ok (.ireturn, 1) := by decide +kernel
theorem dX10_pay_24 : decode cX10_pay 24 = .ok (.aload_n 0, 1) := by decide +kernel
theorem dX10_pay_25 : decode cX10_pay 25 = .ok (.getfield 68, 3) := by decide +kernel
theorem dX10_pay_28 : decode cX10_pay 28 = .ok (.invokevirtual 239, 3) := by decide +kernel
theorem dX10_pay_31 : decode cX10_pay 31 = .ok (.bipush 12, 2) := by decide +kernel
theorem dX10_pay_33 : decode cX10_pay 33 = .ok (.if_icmp .lt 6, 3) := by decide +kernel
theorem dX10_pay_36 : decode cX10_pay 36 = .ok (.bipush (-4), 2) := by decide +kernel
theorem dX10_pay_38 : decode cX10_pay 38 = .ok (.ireturn, 1) := by decide +kernel
theorem dX10_pay_39 : decode cX10_pay 39 = .ok (.aload_n 0, 1) := by decide +kernel
theorem dX10_pay_40 : decode cX10_pay 40 = .ok (.getfield 68, 3) := by decide +kernel
theorem dX10_pay_43 : decode cX10_pay 43 = .ok (.iload_n 1, 1) := by decide +kernel
theorem dX10_pay_44 : decode cX10_pay 44 = .ok (.iload_n 2, 1) := by decide +kernel
theorem dX10_pay_45 : decode cX10_pay 45 = .ok (.invokevirtual 242, 3) := by decide +kernel
theorem dX10_pay_48 : decode cX10_pay 48 = .ok (.aload_n 0, 1) := by decide +kernel
theorem dX10_pay_49 : decode cX10_pay 49 = .ok (.getfield 68, 3) := by decide +kernel
theorem dX10_pay_52 : decode cX10_pay 52 = .ok (.invokevirtual 239, 3) := by decide +kernel
theorem dX10_pay_55 : decode cX10_pay 55 = .ok (.ireturn, 1) := by decide +kernel
theorem dX10_unpay_0 : decode cX10_unpay 0 = .ok (.aload_n 0, 1) := by decide +kernel
theorem dX10_unpay_1 : decode cX10_unpay 1 = .ok (.getfield 68, 3) := by decide +kernel
theorem dX10_unpay_4 : decode cX10_unpay 4 = .ok (.invokevirtual 239, 3) := by decide +kernel
theorem dX10_unpay_7 : decode cX10_unpay 7 = .ok (.istore_n 1, 1) := by decide +kernel
theorem dX10_unpay_8 : decode cX10_unpay 8 = .ok (.aload_n 0, 1) := by decide +kernel
theorem dX10_unpay_9 : decode cX10_unpay 9 = .ok (.getfield 68, 3) := by decide +kernel
theorem dX10_unpay_12 : decode cX10_unpay 12 = .ok (.invokevirtual 245, 3) := by decide +kernel
theorem dX10_unpay_15 : decode cX10_unpay 15 = .ok (.iload_n 1, 1) := by decide +kernel
theorem dX10_unpay_16 : decode cX10_unpay 16 = .ok (.ireturn, 1) := by decide +kernel
theorem dX10_cheated_0 : decode cX10_cheated 0 = .ok (.iconst 0, 1) := by decide +kernel
theorem dX10_cheated_1 : decode cX10_cheated 1 = .ok (.istore_n 1, 1) := by decide +kernel
theorem dX10_cheated_2 : decode cX10_cheated 2 = .ok (.iload_n 1, 1) := by decide +kernel
theorem dX10_cheated_3 : decode cX10_cheated 3 = .ok (.aload_n 0, 1) := by decide +kernel
theorem dX10_cheated_4 : decode cX10_cheated 4 = .ok (.getfield 33, 3) := by decide +kernel
theorem dX10_cheated_7 : decode cX10_cheated 7 = .ok (.invokevirtual 120, 3) := by decide +kernel
theorem dX10_cheated_10 : decode cX10_cheated 10 = .ok (.if_icmp .ge 27, 3) := by decide +kernel
theorem dX10_cheated_13 : decode cX10_cheated 13 = .ok (.aload_n 0, 1) := by decide +kernel
theorem dX10_cheated_14 : decode cX10_cheated 14 = .ok (.getfield 68, 3) := by decide +kernel
theorem dX10_cheated_17 : decode cX10_cheated 17 = .ok (.iload_n 1, 1) := by decide +kernel
theorem dX10_cheated_18 : decode cX10_cheated 18 = .ok (.aload_n 0, 1) := by decide +kernel
theorem dX10_cheated_19 : decode cX10_cheated 19 = .ok (.iload_n 1, 1) := by decide +kernel
theorem dX10_cheated_20 : decode cX10_cheated 20 = .ok (.invokevirtual 138, 3) := by decide +kernel
theorem dX10_cheated_23 : decode cX10_cheated 23 = .ok (.invokevirtual 246, 3) := by decide +kernel
theorem dX10_cheated_26 : decode cX10_cheated 26 = .ok (.ifCond .eq 5, 3) := by decide +kernel
theorem dX10_cheated_29 : decode cX10_cheated 29 = .ok (.iload_n 1, 1) := by decide +kernel
theorem dX10_cheated_30 : decode cX10_cheated 30 = .ok (.ireturn, 1) := by decide +kernel
theorem dX10_cheated_31 : decode cX10_cheated 31 = .ok (.iinc 1 1, 3) := by decide +kernel
theorem dX10_cheated_34 : decode cX10_cheated 34 = .ok (.goto (-32), 3) := by decide +kernel
theorem dX10_cheated_37 : decode cX10_cheated 37 = .ok (.bipush (-9), 2) := by decide +kernel
theorem dX10_cheated_39 : decode cX10_cheated 39 = .ok (.ireturn, 1) := by decide +kernel
theorem dX10_seed_0 : decode cX10_seed 0 = .ok (.aload_n 0, 1) := by decide +kernel
theorem dX10_seed_1 : decode cX10_seed 1 = .ok (.getfield 75, 3) := by decide +kernel
theorem dX10_seed_4 : decode cX10_seed 4 = .ok (.lload_n 1, 1) := by decide +kernel
theorem dX10_seed_5 : decode cX10_seed 5 = .ok (.invokevirtual 249, 3) := by decide +kernel
theorem dX10_seed_8 : decode cX10_seed 8 = .ok (.lreturn, 1) := by decide +kernel
theorem dX10_won_0 : decode cX10_won 0 = .ok (.aload_n 0, 1) := by decide +kernel
theorem dX10_won_1 : decode cX10_won 1 = .ok (.getfield 33, 3) := by decide +kernel
theorem dX10_won_4 : decode cX10_won 4 = .ok (.iload_n 1, 1) := by decide +kernel
theorem dX10_won_5 : decode cX10_won 5 = .ok (.invokevirtual 123, 3) := by decide +kernel
theorem dX10_won_8 : decode cX10_won 8 = .ok (.ifCond .ne 5, 3) := by decide +kernel
theorem dX10_won_11 : decode cX10_won 11 = .ok (.iconst (-1), 1) := by decide +kernel
theorem dX10_won_12 : decode cX10_won 12 = .ok (.ireturn, 1) := by decide +kernel
theorem dX10_won_13 : decode cX10_won 13 = .ok (.iload_n 2, 1) := by decide +kernel
theorem dX10_won_14 : decode cX10_won 14 = .ok (.iconst 1, 1) := by decide +kernel
theorem dX10_won_15 : decode cX10_won 15 = .ok (.if_icmp .lt 9, 3) := by decide +kernel
theorem dX10_won_18 : decode cX10_won 18 = .ok (.iload_n 2, 1) := by decide +kernel
theorem dX10_won_19 : decode cX10_won 19 = .ok (.bipush 40, 2) := by decide +kernel
theorem dX10_won_21 : decode cX10_won 21 = .ok (.if_icmp .le 6, 3) := by decide +kernel
theorem dX10_won_24 : decode cX10_won 24 = .ok (.bipush (-2), 2) := by decide +kernel
theorem dX10_won_26 : decode cX10_won 26 = .ok (.ireturn, 1) := by decide +kernel
theorem dX10_won_27 : decode cX10_won 27 = .ok (.iconst 0, 1) := by decide +kernel
theorem dX10_won_28 : decode cX10_won 28 = .ok (.istore_n 3, 1) := by decide +kernel
theorem dX10_won_29 : decode cX10_won 29 = .ok (.iconst 0, 1) := by decide +kernel
theorem dX10_won_30 : decode cX10_won 30 = .ok (.istore 4, 2) := by decide +kernel
theorem dX10_won_32 : decode cX10_won 32 = .ok (.iload 4, 2) := by decide +kernel
theorem dX10_won_34 : decode cX10_won 34 = .ok (.iload_n 2, 1) := by decide +kernel
theorem dX10_won_35 : decode cX10_won 35 = .ok (.if_icmp .ge 31, 3) := by decide +kernel
theorem dX10_won_38 : decode cX10_won 38 = .ok (.iload_n 3, 1) := by decide +kernel
theorem dX10_won_39 : decode cX10_won 39 = .ok (.aload_n 0, 1) := by decide +kernel
theorem dX10_won_40 : decode cX10_won 40 = .ok (.getfield 75, 3) := by decide +kernel
theorem dX10_won_43 : decode cX10_won 43 = .ok (.aload_n 0, 1) := by decide +kernel
theorem dX10_won_44 : decode cX10_won 44 = .ok (.getfield 26, 3) := by decide +kernel
theorem dX10_won_47 : decode cX10_won 47 = .ok (.iload_n 1, 1) := by decide +kernel
theorem dX10_won_48 : decode cX10_won 48 = .ok (.aload_n 0, 1) := by decide +kernel
theorem dX10_won_49 : decode cX10_won 49 = .ok (.getfield 33, 3) := by decide +kernel
theorem dX10_won_52 : decode cX10_won 52 = .ok (.invokevirtual 120, 3) := by decide +kernel
theorem dX10_won_55 : decode cX10_won 55 = .ok (.invokevirtual 253, 3) := by decide +kernel
theorem dX10_won_58 : decode cX10_won 58 = .ok (.iadd, 1) := by decide +kernel
theorem dX10_won_59 : decode cX10_won 59 = .ok (.istore_n 3, 1) := by decide +kernel
theorem dX10_won_60 : decode cX10_won 60 = .ok (.iinc 4 1, 3) := by decide +kernel
theorem dX10_won_63 : decode cX10_won 63 = .ok (.goto (-31), 3) := by decide +kernel
theorem dX10_won_66 : decode cX10_won 66 = .ok (.iload_n 3, 1) := by decide +kernel
theorem dX10_won_67 : decode cX10_won 67 = .ok (.ireturn, 1) := by decide +kernel
theorem dX10_keep_0 : decode cX10_keep 0 = .ok (.iload_n 1, 1) := by decide +kernel
theorem dX10_keep_1 : decode cX10_keep 1 = .ok (.invokestatic 256, 3) := by decide +kernel
theorem dX10_keep_4 : decode cX10_keep 4 = .ok (.ifCond .ne 5, 3) := by decide +kernel
theorem dX10_keep_7 : decode cX10_keep 7 = .ok (.iconst (-1), 1) := by decide +kernel
theorem dX10_keep_8 : decode cX10_keep 8 = .ok (.ireturn, 1) := by decide +kernel
theorem dX10_keep_9 : decode cX10_keep 9 = .ok (.aload_n 0, 1) := by decide +kernel
theorem dX10_keep_10 : decode cX10_keep 10 = .ok (.getfield 40, 3) := by decide +kernel
theorem dX10_keep_13 : decode cX10_keep 13 = .ok (.iload_n 1, 1) := by decide +kernel
theorem dX10_keep_14 : decode cX10_keep 14 = .ok (.aload_n 0, 1) := by decide +kernel
theorem dX10_keep_15 : decode cX10_keep 15 = .ok (.getfield 33, 3) := by decide +kernel
theorem dX10_keep_18 : decode cX10_keep 18 = .ok (.invokevirtual 106, 3) := by decide +kernel
theorem dX10_keep_21 : decode cX10_keep 21 = .ok (.invokevirtual 259, 3) := by decide +kernel
theorem dX10_keep_24 : decode cX10_keep 24 = .ok (.aload_n 0, 1) := by decide +kernel
theorem dX10_keep_25 : decode cX10_keep 25 = .ok (.getfield 33, 3) := by decide +kernel
theorem dX10_keep_28 : decode cX10_keep 28 = .ok (.invokevirtual 120, 3) := by decide +kernel
theorem dX10_keep_31 : decode cX10_keep 31 = .ok (.ireturn, 1) := by decide +kernel
theorem dX10_again_0 : decode cX10_again 0 = .ok (.iload_n 1, 1) := by decide +kernel
theorem dX10_again_1 : decode cX10_again 1 = .ok (.invokestatic 256, 3) := by decide +kernel
theorem dX10_again_4 : decode cX10_again 4 = .ok (.ifCond .ne 5, 3) := by decide +kernel
theorem dX10_again_7 : decode cX10_again 7 = .ok (.iconst (-1), 1) := by decide +kernel
theorem dX10_again_8 : decode cX10_again 8 = .ok (.ireturn, 1) := by decide +kernel
theorem dX10_again_9 : decode cX10_again 9 = .ok (.aload_n 0, 1) := by decide +kernel
theorem dX10_again_10 : decode cX10_again 10 = .ok (.getfield 40, 3) := by decide +kernel
theorem dX10_again_13 : decode cX10_again 13 = .ok (.iload_n 1, 1) := by decide +kernel
theorem dX10_again_14 : decode cX10_again 14 = .ok (.invokevirtual 262, 3) := by decide +kernel
theorem dX10_again_17 : decode cX10_again 17 = .ok (.ldc2_w 228, 3) := by decide +kernel
theorem dX10_again_20 : decode cX10_again 20 = .ok (.lcmp, 1) := by decide +kernel
theorem dX10_again_21 : decode cX10_again 21 = .ok (.ifCond .ne 6, 3) := by decide +kernel
theorem dX10_again_24 : decode cX10_again 24 = .ok (.bipush (-3), 2) := by decide +kernel
theorem dX10_again_26 : decode cX10_again 26 = .ok (.ireturn, 1) := by decide +kernel
theorem dX10_again_27 : decode cX10_again 27 = .ok (.aload_n 0, 1) := by decide +kernel
theorem dX10_again_28 : decode cX10_again 28 = .ok (.getfield 33, 3) := by decide +kernel
theorem dX10_again_31 : decode cX10_again 31 = .ok (.aload_n 0, 1) := by decide +kernel
theorem dX10_again_32 : decode cX10_again 32 = .ok (.getfield 40, 3) := by decide +kernel
theorem dX10_again_35 : decode cX10_again 35 = .ok (.iload_n 1, 1) := by decide +kernel
theorem dX10_again_36 : decode cX10_again 36 = .ok (.invokevirtual 262, 3) := by decide +kernel
theorem dX10_again_39 : decode cX10_again 39 = .ok (.invokevirtual 110, 3) := by decide +kernel
theorem dX10_again_42 : decode cX10_again 42 = .ok (.aload_n 0, 1) := by decide +kernel
theorem dX10_again_43 : decode cX10_again 43 = .ok (.getfield 40, 3) := by decide +kernel
theorem dX10_again_46 : decode cX10_again 46 = .ok (.invokevirtual 114, 3) := by decide +kernel
theorem dX10_again_49 : decode cX10_again 49 = .ok (.aload_n 0, 1) := by decide +kernel
theorem dX10_again_50 : decode cX10_again 50 = .ok (.getfield 33, 3) := by decide +kernel
theorem dX10_again_53 : decode cX10_again 53 = .ok (.invokevirtual 120, 3) := by decide +kernel
theorem dX10_again_56 : decode cX10_again 56 = .ok (.ireturn, 1) := by decide +kernel
theorem dX10_count_0 : decode cX10_count 0 = .ok (.iload_n 1, 1) := by decide +kernel
theorem dX10_count_1 : decode cX10_count 1 = .ok (.tableswitch 129 0 9 #[55, 63, 71, 76, 84, 92, 100, 108, 116, 124], 55) := by decide +kernel
theorem dX10_count_56 : decode cX10_count 56 = .ok (.aload_n 0, 1) := by decide +kernel
theorem dX10_count_57 : decode cX10_count 57 = .ok (.getfield 10, 3) := by decide +kernel
theorem dX10_count_60 : decode cX10_count 60 = .ok (.invokevirtual 79, 3) := by decide +kernel
theorem dX10_count_63 : decode cX10_count 63 = .ok (.ireturn, 1) := by decide +kernel
theorem dX10_count_64 : decode cX10_count 64 = .ok (.aload_n 0, 1) := by decide +kernel
theorem dX10_count_65 : decode cX10_count 65 = .ok (.getfield 33, 3) := by decide +kernel
theorem dX10_count_68 : decode cX10_count 68 = .ok (.invokevirtual 120, 3) := by decide +kernel
theorem dX10_count_71 : decode cX10_count 71 = .ok (.ireturn, 1) := by decide +kernel
theorem dX10_count_72 : decode cX10_count 72 = .ok (.aload_n 0, 1) := by decide +kernel
theorem dX10_count_73 : decode cX10_count 73 = .ok (.invokevirtual 266, 3) := by decide +kernel
theorem dX10_count_76 : decode cX10_count 76 = .ok (.ireturn, 1) := by decide +kernel
theorem dX10_count_77 : decode cX10_count 77 = .ok (.aload_n 0, 1) := by decide +kernel
theorem dX10_count_78 : decode cX10_count 78 = .ok (.getfield 26, 3) := by decide +kernel
theorem dX10_count_81 : decode cX10_count 81 = .ok (.invokevirtual 269, 3) := by decide +kernel
theorem dX10_count_84 : decode cX10_count 84 = .ok (.ireturn, 1) := by decide +kernel
theorem dX10_count_85 : decode cX10_count 85 = .ok (.aload_n 0, 1) := by decide +kernel
theorem dX10_count_86 : decode cX10_count 86 = .ok (.getfield 40, 3) := by decide +kernel
theorem dX10_count_89 : decode cX10_count 89 = .ok (.invokevirtual 172, 3) := by decide +kernel
theorem dX10_count_92 : decode cX10_count 92 = .ok (.ireturn, 1) := by decide +kernel
theorem dX10_count_93 : decode cX10_count 93 = .ok (.aload_n 0, 1) := by decide +kernel
theorem dX10_count_94 : decode cX10_count 94 = .ok (.getfield 68, 3) := by decide +kernel
theorem dX10_count_97 : decode cX10_count 97 = .ok (.invokevirtual 239, 3) := by decide +kernel
theorem dX10_count_100 : decode cX10_count 100 = .ok (.ireturn, 1) := by decide +kernel
theorem dX10_count_101 : decode cX10_count 101 = .ok (.aload_n 0, 1) := by decide +kernel
theorem dX10_count_102 : decode cX10_count 102 = .ok (.getfield 26, 3) := by decide +kernel
theorem dX10_count_105 : decode cX10_count 105 = .ok (.invokevirtual 272, 3) := by decide +kernel
theorem dX10_count_108 : decode cX10_count 108 = .ok (.ireturn, 1) := by decide +kernel
theorem dX10_count_109 : decode cX10_count 109 = .ok (.aload_n 0, 1) := by decide +kernel
theorem dX10_count_110 : decode cX10_count 110 = .ok (.getfield 26, 3) := by decide +kernel
theorem dX10_count_113 : decode cX10_count 113 = .ok (.invokevirtual 275, 3) := by decide +kernel
theorem dX10_count_116 : decode cX10_count 116 = .ok (.ireturn, 1) := by decide +kernel
theorem dX10_count_117 : decode cX10_count 117 = .ok (.aload_n 0, 1) := by decide +kernel
theorem dX10_count_118 : decode cX10_count 118 = .ok (.getfield 26, 3) := by decide +kernel
theorem dX10_count_121 : decode cX10_count 121 = .ok (.invokevirtual 278, 3) := by decide +kernel
theorem dX10_count_124 : decode cX10_count 124 = .ok (.ireturn, 1) := by decide +kernel
theorem dX10_count_125 : decode cX10_count 125 = .ok (.aload_n 0, 1) := by decide +kernel
theorem dX10_count_126 : decode cX10_count 126 = .ok (.invokevirtual 281, 3) := by decide +kernel
theorem dX10_count_129 : decode cX10_count 129 = .ok (.ireturn, 1) := by decide +kernel
theorem dX10_count_130 : decode cX10_count 130 = .ok (.bipush (-2), 2) := by decide +kernel
theorem dX10_count_132 : decode cX10_count 132 = .ok (.ireturn, 1) := by decide +kernel
theorem dX10_refusalOfNumber_0 : decode cX10_refusalOfNumber 0 = .ok (.iload_n 1, 1) := by decide +kernel
theorem dX10_refusalOfNumber_1 : decode cX10_refusalOfNumber 1 = .ok (.invokestatic 149, 3) := by decide +kernel
theorem dX10_refusalOfNumber_4 : decode cX10_refusalOfNumber 4 = .ok (.ifCond .ne 6, 3) := by decide +kernel
theorem dX10_refusalOfNumber_7 : decode cX10_refusalOfNumber 7 = .ok (.bipush (-2), 2) := by decide +kernel
theorem dX10_refusalOfNumber_9 : decode cX10_refusalOfNumber 9 = .ok (.ireturn, 1) := by decide +kernel
theorem dX10_refusalOfNumber_10 : decode cX10_refusalOfNumber 10 = .ok (.aload_n 0, 1) := by decide +kernel
theorem dX10_refusalOfNumber_11 : decode cX10_refusalOfNumber 11 = .ok (.getfield 26, 3) := by decide +kernel
theorem dX10_refusalOfNumber_14 : decode cX10_refusalOfNumber 14 = .ok (.iload_n 1, 1) := by decide +kernel
theorem dX10_refusalOfNumber_15 : decode cX10_refusalOfNumber 15 = .ok (.invokevirtual 284, 3) := by decide +kernel
theorem dX10_refusalOfNumber_18 : decode cX10_refusalOfNumber 18 = .ok (.ifCond .eq 7, 3) := by decide +kernel
theorem dX10_refusalOfNumber_21 : decode cX10_refusalOfNumber 21 = .ok (.iconst 0, 1) := by decide +kernel
theorem dX10_refusalOfNumber_22 : decode cX10_refusalOfNumber 22 = .ok (.goto 5, 3) := by decide +kernel
theorem dX10_refusalOfNumber_25 : decode cX10_refusalOfNumber 25 = .ok (.bipush (-3), 2) := by decide +kernel
theorem dX10_refusalOfNumber_27 : decode cX10_refusalOfNumber 27 = .ok (.ireturn, 1) := by decide +kernel
theorem dX10_refusalOfChances_0 : decode cX10_refusalOfChances 0 = .ok (.iload_n 1, 1) := by decide +kernel
theorem dX10_refusalOfChances_1 : decode cX10_refusalOfChances 1 = .ok (.invokestatic 182, 3) := by decide +kernel
theorem dX10_refusalOfChances_4 : decode cX10_refusalOfChances 4 = .ok (.ifCond .ne 6, 3) := by decide +kernel
theorem dX10_refusalOfChances_7 : decode cX10_refusalOfChances 7 = .ok (.bipush (-2), 2) := by decide +kernel
theorem dX10_refusalOfChances_9 : decode cX10_refusalOfChances 9 = .ok (.ireturn, 1) := by decide +kernel
theorem dX10_refusalOfChances_10 : decode cX10_refusalOfChances 10 = .ok (.aload_n 0, 1) := by decide +kernel
theorem dX10_refusalOfChances_11 : decode cX10_refusalOfChances 11 = .ok (.getfield 54, 3) := by decide +kernel
theorem dX10_refusalOfChances_14 : decode cX10_refusalOfChances 14 = .ok (.invokevirtual 287, 3) := by decide +kernel
theorem dX10_refusalOfChances_17 : decode cX10_refusalOfChances 17 = .ok (.ifCond .eq 7, 3) := by decide +kernel
theorem dX10_refusalOfChances_20 : decode cX10_refusalOfChances 20 = .ok (.iconst 0, 1) := by decide +kernel
theorem dX10_refusalOfChances_21 : decode cX10_refusalOfChances 21 = .ok (.goto 5, 3) := by decide +kernel
theorem dX10_refusalOfChances_24 : decode cX10_refusalOfChances 24 = .ok (.bipush (-3), 2) := by decide +kernel
theorem dX10_refusalOfChances_26 : decode cX10_refusalOfChances 26 = .ok (.ireturn, 1) := by decide +kernel
theorem dX10_gainOf_0 : decode cX10_gainOf 0 = .ok (.aload_n 0, 1) := by decide +kernel
theorem dX10_gainOf_1 : decode cX10_gainOf 1 = .ok (.getfield 33, 3) := by decide +kernel
theorem dX10_gainOf_4 : decode cX10_gainOf 4 = .ok (.iload_n 1, 1) := by decide +kernel
theorem dX10_gainOf_5 : decode cX10_gainOf 5 = .ok (.invokevirtual 127, 3) := by decide +kernel
theorem dX10_gainOf_8 : decode cX10_gainOf 8 = .ok (.istore_n 2, 1) := by decide +kernel
theorem dX10_gainOf_9 : decode cX10_gainOf 9 = .ok (.aload_n 0, 1) := by decide +kernel
theorem dX10_gainOf_10 : decode cX10_gainOf 10 = .ok (.getfield 26, 3) := by decide +kernel
theorem dX10_gainOf_13 : decode cX10_gainOf 13 = .ok (.iload_n 2, 1) := by decide +kernel
theorem dX10_gainOf_14 : decode cX10_gainOf 14 = .ok (.aload_n 0, 1) := by decide +kernel
theorem dX10_gainOf_15 : decode cX10_gainOf 15 = .ok (.getfield 33, 3) := by decide +kernel
theorem dX10_gainOf_18 : decode cX10_gainOf 18 = .ok (.iload_n 2, 1) := by decide +kernel
theorem dX10_gainOf_19 : decode cX10_gainOf 19 = .ok (.invokevirtual 131, 3) := by decide +kernel
theorem dX10_gainOf_22 : decode cX10_gainOf 22 = .ok (.aload_n 0, 1) := by decide +kernel
theorem dX10_gainOf_23 : decode cX10_gainOf 23 = .ok (.getfield 26, 3) := by decide +kernel
theorem dX10_gainOf_26 : decode cX10_gainOf 26 = .ok (.aload_n 0, 1) := by decide +kernel
theorem dX10_gainOf_27 : decode cX10_gainOf 27 = .ok (.getfield 33, 3) := by decide +kernel
theorem dX10_gainOf_30 : decode cX10_gainOf 30 = .ok (.invokevirtual 141, 3) := by decide +kernel
theorem dX10_gainOf_33 : decode cX10_gainOf 33 = .ok (.invokevirtual 291, 3) := by decide +kernel
theorem dX10_gainOf_36 : decode cX10_gainOf 36 = .ok (.invokevirtual 295, 3) := by decide +kernel
theorem dX10_gainOf_39 : decode cX10_gainOf 39 = .ok (.ireturn, 1) := by decide +kernel
theorem dX10_rightBits_0 : decode cX10_rightBits 0 = .ok (.iconst 0, 1) := by decide +kernel
theorem dX10_rightBits_1 : decode cX10_rightBits 1 = .ok (.istore_n 1, 1) := by decide +kernel
theorem dX10_rightBits_2 : decode cX10_rightBits 2 = .ok (.iconst 0, 1) := by decide +kernel
theorem dX10_rightBits_3 : decode cX10_rightBits 3 = .ok (.istore_n 2, 1) := by decide +kernel
theorem dX10_rightBits_4 : decode cX10_rightBits 4 = .ok (.iload_n 2, 1) := by decide +kernel
theorem dX10_rightBits_5 : decode cX10_rightBits 5 = .ok (.aload_n 0, 1) := by decide +kernel
theorem dX10_rightBits_6 : decode cX10_rightBits 6 = .ok (.getfield 33, 3) := by decide +kernel
theorem dX10_rightBits_9 : decode cX10_rightBits 9 = .ok (.invokevirtual 120, 3) := by decide +kernel
theorem dX10_rightBits_12 : decode cX10_rightBits 12 = .ok (.if_icmp .ge 43, 3) := by decide +kernel
theorem dX10_rightBits_15 : decode cX10_rightBits 15 = .ok (.aload_n 0, 1) := by decide +kernel
theorem dX10_rightBits_16 : decode cX10_rightBits 16 = .ok (.getfield 33, 3) := by decide +kernel
theorem dX10_rightBits_19 : decode cX10_rightBits 19 = .ok (.iload_n 2, 1) := by decide +kernel
theorem dX10_rightBits_20 : decode cX10_rightBits 20 = .ok (.invokevirtual 127, 3) := by decide +kernel
theorem dX10_rightBits_23 : decode cX10_rightBits 23 = .ok (.istore_n 3, 1) := by decide +kernel
theorem dX10_rightBits_24 : decode cX10_rightBits 24 = .ok (.aload_n 0, 1) := by decide +kernel
theorem dX10_rightBits_25 : decode cX10_rightBits 25 = .ok (.getfield 26, 3) := by decide +kernel
theorem dX10_rightBits_28 : decode cX10_rightBits 28 = .ok (.iload_n 3, 1) := by decide +kernel
theorem dX10_rightBits_29 : decode cX10_rightBits 29 = .ok (.aload_n 0, 1) := by decide +kernel
theorem dX10_rightBits_30 : decode cX10_rightBits 30 = .ok (.getfield 33, 3) := by decide +kernel
theorem dX10_rightBits_33 : decode cX10_rightBits 33 = .ok (.iload_n 3, 1) := by decide +kernel
theorem dX10_rightBits_34 : decode cX10_rightBits 34 = .ok (.invokevirtual 131, 3) := by decide +kernel
theorem dX10_rightBits_37 : decode cX10_rightBits 37 = .ok (.invokevirtual 134, 3) := by decide +kernel
theorem dX10_rightBits_40 : decode cX10_rightBits 40 = .ok (.ifCond .eq 9, 3) := by decide +kernel
theorem dX10_rightBits_43 : decode cX10_rightBits 43 = .ok (.iload_n 1, 1) := by decide +kernel
theorem dX10_rightBits_44 : decode cX10_rightBits 44 = .ok (.iconst 1, 1) := by decide +kernel
theorem dX10_rightBits_45 : decode cX10_rightBits 45 = .ok (.iload_n 2, 1) := by decide +kernel
theorem dX10_rightBits_46 : decode cX10_rightBits 46 = .ok (.ishl, 1) := by decide +kernel
theorem dX10_rightBits_47 : decode cX10_rightBits 47 = .ok (.ior, 1) := by decide +kernel
theorem dX10_rightBits_48 : decode cX10_rightBits 48 = .ok (.istore_n 1, 1) := by decide +kernel
theorem dX10_rightBits_49 : decode cX10_rightBits 49 = .ok (.iinc 2 1, 3) := by decide +kernel
theorem dX10_rightBits_52 : decode cX10_rightBits 52 = .ok (.goto (-48), 3) := by decide +kernel
theorem dX10_rightBits_55 : decode cX10_rightBits 55 = .ok (.iload_n 1, 1) := by decide +kernel
theorem dX10_rightBits_56 : decode cX10_rightBits 56 = .ok (.ireturn, 1) := by decide +kernel
theorem dX10_leftOfPot_0 : decode cX10_leftOfPot 0 = .ok (.aload_n 0, 1) := by decide +kernel
theorem dX10_leftOfPot_1 : decode cX10_leftOfPot 1 = .ok (.getfield 26, 3) := by decide +kernel
theorem dX10_leftOfPot_4 : decode cX10_leftOfPot 4 = .ok (.invokevirtual 272, 3) := by decide +kernel
theorem dX10_leftOfPot_7 : decode cX10_leftOfPot 7 = .ok (.istore_n 1, 1) := by decide +kernel
theorem dX10_leftOfPot_8 : decode cX10_leftOfPot 8 = .ok (.iconst 0, 1) := by decide +kernel
theorem dX10_leftOfPot_9 : decode cX10_leftOfPot 9 = .ok (.istore_n 2, 1) := by decide +kernel
theorem dX10_leftOfPot_10 : decode cX10_leftOfPot 10 = .ok (.iload_n 2, 1) := by decide +kernel
theorem dX10_leftOfPot_11 : decode cX10_leftOfPot 11 = .ok (.aload_n 0, 1) := by decide +kernel
theorem dX10_leftOfPot_12 : decode cX10_leftOfPot 12 = .ok (.getfield 33, 3) := by decide +kernel
theorem dX10_leftOfPot_15 : decode cX10_leftOfPot 15 = .ok (.invokevirtual 120, 3) := by decide +kernel
theorem dX10_leftOfPot_18 : decode cX10_leftOfPot 18 = .ok (.if_icmp .ge 17, 3) := by decide +kernel
theorem dX10_leftOfPot_21 : decode cX10_leftOfPot 21 = .ok (.iload_n 1, 1) := by decide +kernel
theorem dX10_leftOfPot_22 : decode cX10_leftOfPot 22 = .ok (.aload_n 0, 1) := by decide +kernel
theorem dX10_leftOfPot_23 : decode cX10_leftOfPot 23 = .ok (.iload_n 2, 1) := by decide +kernel
theorem dX10_leftOfPot_24 : decode cX10_leftOfPot 24 = .ok (.invokevirtual 138, 3) := by decide +kernel
theorem dX10_leftOfPot_27 : decode cX10_leftOfPot 27 = .ok (.isub, 1) := by decide +kernel
theorem dX10_leftOfPot_28 : decode cX10_leftOfPot 28 = .ok (.istore_n 1, 1) := by decide +kernel
theorem dX10_leftOfPot_29 : decode cX10_leftOfPot 29 = .ok (.iinc 2 1, 3) := by decide +kernel
theorem dX10_leftOfPot_32 : decode cX10_leftOfPot 32 = .ok (.goto (-22), 3) := by decide +kernel
theorem dX10_leftOfPot_35 : decode cX10_leftOfPot 35 = .ok (.iload_n 1, 1) := by decide +kernel
theorem dX10_leftOfPot_36 : decode cX10_leftOfPot 36 = .ok (.ireturn, 1) := by decide +kernel
theorem dX10_isNumber_0 : decode cX10_isNumber 0 = .ok (.iload_n 0, 1) := by decide +kernel
theorem dX10_isNumber_1 : decode cX10_isNumber 1 = .ok (.ifCond .lt 13, 3) := by decide +kernel
theorem dX10_isNumber_4 : decode cX10_isNumber 4 = .ok (.iload_n 0, 1) := by decide +kernel
theorem dX10_isNumber_5 : decode cX10_isNumber 5 = .ok (.bipush 10, 2) := by decide +kernel
theorem dX10_isNumber_7 : decode cX10_isNumber 7 = .ok (.if_icmp .ge 7, 3) := by decide +kernel
theorem dX10_isNumber_10 : decode cX10_isNumber 10 = .ok (.iconst 1, 1) := by decide +kernel
theorem dX10_isNumber_11 : decode cX10_isNumber 11 = .ok (.goto 4, 3) := by decide +kernel
theorem dX10_isNumber_14 : decode cX10_isNumber 14 = .ok (.iconst 0, 1) := by decide +kernel
theorem dX10_isNumber_15 : decode cX10_isNumber 15 = .ok (.ireturn, 1) := by decide +kernel
theorem dX10_isCrowd_0 : decode cX10_isCrowd 0 = .ok (.iload_n 0, 1) := by decide +kernel
theorem dX10_isCrowd_1 : decode cX10_isCrowd 1 = .ok (.ifCond .lt 13, 3) := by decide +kernel
theorem dX10_isCrowd_4 : decode cX10_isCrowd 4 = .ok (.iload_n 0, 1) := by decide +kernel
theorem dX10_isCrowd_5 : decode cX10_isCrowd 5 = .ok (.bipush 9, 2) := by decide +kernel
theorem dX10_isCrowd_7 : decode cX10_isCrowd 7 = .ok (.if_icmp .gt 7, 3) := by decide +kernel
theorem dX10_isCrowd_10 : decode cX10_isCrowd 10 = .ok (.iconst 1, 1) := by decide +kernel
theorem dX10_isCrowd_11 : decode cX10_isCrowd 11 = .ok (.goto 4, 3) := by decide +kernel
theorem dX10_isCrowd_14 : decode cX10_isCrowd 14 = .ok (.iconst 0, 1) := by decide +kernel
theorem dX10_isCrowd_15 : decode cX10_isCrowd 15 = .ok (.ireturn, 1) := by decide +kernel
theorem dX10_isSlot_0 : decode cX10_isSlot 0 = .ok (.iload_n 0, 1) := by decide +kernel
theorem dX10_isSlot_1 : decode cX10_isSlot 1 = .ok (.ifCond .lt 12, 3) := by decide +kernel
theorem dX10_isSlot_4 : decode cX10_isSlot 4 = .ok (.iload_n 0, 1) := by decide +kernel
theorem dX10_isSlot_5 : decode cX10_isSlot 5 = .ok (.iconst 2, 1) := by decide +kernel
theorem dX10_isSlot_6 : decode cX10_isSlot 6 = .ok (.if_icmp .ge 7, 3) := by decide +kernel
theorem dX10_isSlot_9 : decode cX10_isSlot 9 = .ok (.iconst 1, 1) := by decide +kernel
theorem dX10_isSlot_10 : decode cX10_isSlot 10 = .ok (.goto 4, 3) := by decide +kernel
theorem dX10_isSlot_13 : decode cX10_isSlot 13 = .ok (.iconst 0, 1) := by decide +kernel
theorem dX10_isSlot_14 : decode cX10_isSlot 14 = .ok (.ireturn, 1) := by decide +kernel
theorem dX10_leastTerms_0 : decode cX10_leastTerms 0 = .ok (.lload_n 0, 1) := by decide +kernel
theorem dX10_leastTerms_1 : decode cX10_leastTerms 1 = .ok (.lload_n 2, 1) := by decide +kernel
theorem dX10_leastTerms_2 : decode cX10_leastTerms 2 = .ok (.invokestatic 298, 3) := by decide +kernel
theorem dX10_leastTerms_5 : decode cX10_leastTerms 5 = .ok (.lstore 5, 2) := by decide +kernel
theorem dX10_leastTerms_7 : decode cX10_leastTerms 7 = .ok (.lload 5, 2) := by decide +kernel
theorem dX10_leastTerms_9 : decode cX10_leastTerms 9 = .ok (.lconst 1, 1) := by decide +kernel
theorem dX10_leastTerms_10 : decode cX10_leastTerms 10 = .ok (.lcmp, 1) := by decide +kernel
theorem dX10_leastTerms_11 : decode cX10_leastTerms 11 = .ok (.ifCond .ge 7, 3) := by decide +kernel
theorem dX10_leastTerms_14 : decode cX10_leastTerms 14 = .ok (.ldc2_w 302, 3) := by decide +kernel
theorem dX10_leastTerms_17 : decode cX10_leastTerms 17 = .ok (.lreturn, 1) := by decide +kernel
theorem dX10_leastTerms_18 : decode cX10_leastTerms 18 = .ok (.iload 4, 2) := by decide +kernel
theorem dX10_leastTerms_20 : decode cX10_leastTerms 20 = .ok (.ifCond .eq 7, 3) := by decide +kernel
theorem dX10_leastTerms_23 : decode cX10_leastTerms 23 = .ok (.lload_n 0, 1) := by decide +kernel
theorem dX10_leastTerms_24 : decode cX10_leastTerms 24 = .ok (.goto 4, 3) := by decide +kernel
theorem dX10_leastTerms_27 : decode cX10_leastTerms 27 = .ok (.lload_n 2, 1) := by decide +kernel
theorem dX10_leastTerms_28 : decode cX10_leastTerms 28 = .ok (.lload 5, 2) := by decide +kernel
theorem dX10_leastTerms_30 : decode cX10_leastTerms 30 = .ok (.ldiv, 1) := by decide +kernel
theorem dX10_leastTerms_31 : decode cX10_leastTerms 31 = .ok (.lreturn, 1) := by decide +kernel
theorem dX10_commonDivisor_0 : decode cX10_commonDivisor 0 = .ok (.lload_n 0, 1) := by decide +kernel
theorem dX10_commonDivisor_1 : decode cX10_commonDivisor 1 = .ok (.lstore 4, 2) := by decide +kernel
theorem dX10_commonDivisor_3 : decode cX10_commonDivisor 3 = .ok (.lload_n 2, 1) := by decide +kernel
theorem dX10_commonDivisor_4 : decode cX10_commonDivisor 4 = .ok (.lstore 6, 2) := by decide +kernel
theorem dX10_commonDivisor_6 : decode cX10_commonDivisor 6 = .ok (.iconst 0, 1) := by decide +kernel
theorem dX10_commonDivisor_7 : decode cX10_commonDivisor 7 = .ok (.istore 8, 2) := by decide +kernel
theorem dX10_commonDivisor_9 : decode cX10_commonDivisor 9 = .ok (.iload 8, 2) := by decide +kernel
theorem dX10_commonDivisor_11 : decode cX10_commonDivisor 11 = .ok (.sipush 128, 3) := by decide +kernel
theorem dX10_commonDivisor_14 : decode cX10_commonDivisor 14 = .ok (.if_icmp .ge 31, 3) := by decide +kernel
theorem dX10_commonDivisor_17 : decode cX10_commonDivisor 17 = .ok (.lload 6, 2) := by decide +kernel
theorem dX10_commonDivisor_19 : decode cX10_commonDivisor 19 = .ok (.lconst 0, 1) := by decide +kernel
theorem dX10_commonDivisor_20 : decode cX10_commonDivisor 20 = .ok (.lcmp, 1) := by decide +kernel
theorem dX10_commonDivisor_21 : decode cX10_commonDivisor 21 = .ok (.ifCond .eq 24, 3) := by decide +kernel
theorem dX10_commonDivisor_24 : decode cX10_commonDivisor 24 = .ok (.lload 4, 2) := by decide +kernel
theorem dX10_commonDivisor_26 : decode cX10_commonDivisor 26 = .ok (.lload 6, 2) := by decide +kernel
theorem dX10_commonDivisor_28 : decode cX10_commonDivisor 28 = .ok (.lrem, 1) := by decide +kernel
theorem dX10_commonDivisor_29 : decode cX10_commonDivisor 29 = .ok (.lstore 9, 2) := by decide +kernel
theorem dX10_commonDivisor_31 : decode cX10_commonDivisor 31 = .ok (.lload 6, 2) := by decide +kernel
theorem dX10_commonDivisor_33 : decode cX10_commonDivisor 33 = .ok (.lstore 4, 2) := by decide +kernel
theorem dX10_commonDivisor_35 : decode cX10_commonDivisor 35 = .ok (.lload 9, 2) := by decide +kernel
theorem dX10_commonDivisor_37 : decode cX10_commonDivisor 37 = .ok (.lstore 6, 2) := by decide +kernel
theorem dX10_commonDivisor_39 : decode cX10_commonDivisor 39 = .ok (.iinc 8 1, 3) := by decide +kernel
theorem dX10_commonDivisor_42 : decode cX10_commonDivisor 42 = .ok (.goto (-33), 3) := by decide +kernel
theorem dX10_commonDivisor_45 : decode cX10_commonDivisor 45 = .ok (.lload 4, 2) := by decide +kernel
theorem dX10_commonDivisor_47 : decode cX10_commonDivisor 47 = .ok (.lreturn, 1) := by decide +kernel
theorem dX10_power_0 : decode cX10_power 0 = .ok (.lconst 1, 1) := by decide +kernel
theorem dX10_power_1 : decode cX10_power 1 = .ok (.lstore_n 3, 1) := by decide +kernel
theorem dX10_power_2 : decode cX10_power 2 = .ok (.iconst 0, 1) := by decide +kernel
theorem dX10_power_3 : decode cX10_power 3 = .ok (.istore 5, 2) := by decide +kernel
theorem dX10_power_5 : decode cX10_power 5 = .ok (.iload 5, 2) := by decide +kernel
theorem dX10_power_7 : decode cX10_power 7 = .ok (.iload_n 2, 1) := by decide +kernel
theorem dX10_power_8 : decode cX10_power 8 = .ok (.if_icmp .ge 13, 3) := by decide +kernel
theorem dX10_power_11 : decode cX10_power 11 = .ok (.lload_n 3, 1) := by decide +kernel
theorem dX10_power_12 : decode cX10_power 12 = .ok (.lload_n 0, 1) := by decide +kernel
theorem dX10_power_13 : decode cX10_power 13 = .ok (.lmul, 1) := by decide +kernel
theorem dX10_power_14 : decode cX10_power 14 = .ok (.lstore_n 3, 1) := by decide +kernel
theorem dX10_power_15 : decode cX10_power 15 = .ok (.iinc 5 1, 3) := by decide +kernel
theorem dX10_power_18 : decode cX10_power 18 = .ok (.goto (-13), 3) := by decide +kernel
theorem dX10_power_21 : decode cX10_power 21 = .ok (.lload_n 3, 1) := by decide +kernel
theorem dX10_power_22 : decode cX10_power 22 = .ok (.lreturn, 1) := by decide +kernel
theorem dX10_choose_0 : decode cX10_choose 0 = .ok (.iconst 1, 1) := by decide +kernel
theorem dX10_choose_1 : decode cX10_choose 1 = .ok (.istore_n 2, 1) := by decide +kernel
theorem dX10_choose_2 : decode cX10_choose 2 = .ok (.iconst 1, 1) := by decide +kernel
theorem dX10_choose_3 : decode cX10_choose 3 = .ok (.istore_n 3, 1) := by decide +kernel
theorem dX10_choose_4 : decode cX10_choose 4 = .ok (.iload_n 3, 1) := by decide +kernel
theorem dX10_choose_5 : decode cX10_choose 5 = .ok (.iload_n 1, 1) := by decide +kernel
theorem dX10_choose_6 : decode cX10_choose 6 = .ok (.if_icmp .gt 19, 3) := by decide +kernel
theorem dX10_choose_9 : decode cX10_choose 9 = .ok (.iload_n 2, 1) := by decide +kernel
theorem dX10_choose_10 : decode cX10_choose 10 = .ok (.iload_n 0, 1) := by decide +kernel
theorem dX10_choose_11 : decode cX10_choose 11 = .ok (.iload_n 3, 1) := by decide +kernel
theorem dX10_choose_12 : decode cX10_choose 12 = .ok (.isub, 1) := by decide +kernel
theorem dX10_choose_13 : decode cX10_choose 13 = .ok (.iconst 1, 1) := by decide +kernel
theorem dX10_choose_14 : decode cX10_choose 14 = .ok (.iadd, 1) := by decide +kernel
theorem dX10_choose_15 : decode cX10_choose 15 = .ok (.imul, 1) := by decide +kernel
theorem dX10_choose_16 : decode cX10_choose 16 = .ok (.iload_n 3, 1) := by decide +kernel
theorem dX10_choose_17 : decode cX10_choose 17 = .ok (.idiv, 1) := by decide +kernel
theorem dX10_choose_18 : decode cX10_choose 18 = .ok (.istore_n 2, 1) := by decide +kernel
theorem dX10_choose_19 : decode cX10_choose 19 = .ok (.iinc 3 1, 3) := by decide +kernel
theorem dX10_choose_22 : decode cX10_choose 22 = .ok (.goto (-18), 3) := by decide +kernel
theorem dX10_choose_25 : decode cX10_choose 25 = .ok (.iload_n 2, 1) := by decide +kernel
theorem dX10_choose_26 : decode cX10_choose 26 = .ok (.ireturn, 1) := by decide +kernel
theorem dX11_init_0 : decode cX11_init 0 = .ok (.aload_n 0, 1) := by decide +kernel
theorem dX11_init_1 : decode cX11_init 1 = .ok (.invokespecial 1, 3) := by decide +kernel
theorem dX11_init_4 : decode cX11_init 4 = .ok (.aload_n 0, 1) := by decide +kernel
theorem dX11_init_5 : decode cX11_init 5 = .ok (.bipush 9, 2) := by decide +kernel
theorem dX11_init_7 : decode cX11_init 7 = .ok (.newarray .int, 2) := by decide +kernel
theorem dX11_init_9 : decode cX11_init 9 = .ok (.putfield 7, 3) := by decide +kernel
theorem dX11_init_12 : decode cX11_init 12 = .ok (.aload_n 0, 1) := by decide +kernel
theorem dX11_init_13 : decode cX11_init 13 = .ok (.bipush 9, 2) := by decide +kernel
theorem dX11_init_15 : decode cX11_init 15 = .ok (.newarray .int, 2) := by decide +kernel
theorem dX11_init_17 : decode cX11_init 17 = .ok (.putfield 13, 3) := by decide +kernel
theorem dX11_init_20 : decode cX11_init 20 = .ok (.aload_n 0, 1) := by decide +kernel
theorem dX11_init_21 : decode cX11_init 21 = .ok (.bipush 40, 2) := by decide +kernel
theorem dX11_init_23 : decode cX11_init 23 = .ok (.newarray .int, 2) := by decide +kernel
theorem dX11_init_25 : decode cX11_init 25 = .ok (.putfield 16, 3) := by decide +kernel
theorem dX11_init_28 : decode cX11_init 28 = .ok (.aload_n 0, 1) := by decide +kernel
theorem dX11_init_29 : decode cX11_init 29 = .ok (.bipush 10, 2) := by decide +kernel
theorem dX11_init_31 : decode cX11_init 31 = .ok (.newarray .int, 2) := by decide +kernel
theorem dX11_init_33 : decode cX11_init 33 = .ok (.putfield 19, 3) := by decide +kernel
theorem dX11_init_36 : decode cX11_init 36 = .ok (.aload_n 0, 1) := by decide +kernel
theorem dX11_init_37 : decode cX11_init 37 = .ok (.sipush 160, 3) := by decide +kernel
theorem dX11_init_40 : decode cX11_init 40 = .ok (.newarray .int, 2) := by decide +kernel
theorem dX11_init_42 : decode cX11_init 42 = .ok (.putfield 22, 3) := by decide +kernel
theorem dX11_init_45 : decode cX11_init 45 = .ok (.aload_n 0, 1) := by decide +kernel
theorem dX11_init_46 : decode cX11_init 46 = .ok (.bipush 9, 2) := by decide +kernel
theorem dX11_init_48 : decode cX11_init 48 = .ok (.newarray .int, 2) := by decide +kernel
theorem dX11_init_50 : decode cX11_init 50 = .ok (.putfield 25, 3) := by decide +kernel
theorem dX11_init_53 : decode cX11_init 53 = .ok (.aload_n 0, 1) := by decide +kernel
theorem dX11_init_54 : decode cX11_init 54 = .ok (.bipush 11, 2) := by decide +kernel
theorem dX11_init_56 : decode cX11_init 56 = .ok (.newarray .long, 2) := by decide +kernel
theorem dX11_init_58 : decode cX11_init 58 = .ok (.putfield 28, 3) := by decide +kernel
theorem dX11_init_61 : decode cX11_init 61 = .ok (.aload_n 0, 1) := by decide +kernel
theorem dX11_init_62 : decode cX11_init 62 = .ok (.bipush 11, 2) := by decide +kernel
theorem dX11_init_64 : decode cX11_init 64 = .ok (.newarray .long, 2) := by decide +kernel
theorem dX11_init_66 : decode cX11_init 66 = .ok (.putfield 32, 3) := by decide +kernel
theorem dX11_init_69 : decode cX11_init 69 = .ok (.aload_n 0, 1) := by decide +kernel
theorem dX11_init_70 : decode cX11_init 70 = .ok (.bipush 11, 2) := by decide +kernel
theorem dX11_init_72 : decode cX11_init 72 = .ok (.newarray .int, 2) := by decide +kernel
theorem dX11_init_74 : decode cX11_init 74 = .ok (.putfield 35, 3) := by decide +kernel
theorem dX11_init_77 : decode cX11_init 77 = .ok (.aload_n 0, 1) := by decide +kernel
theorem dX11_init_78 : decode cX11_init 78 = .ok (.bipush 11, 2) := by decide +kernel
theorem dX11_init_80 : decode cX11_init 80 = .ok (.newarray .int, 2) := by decide +kernel
theorem dX11_init_82 : decode cX11_init 82 = .ok (.putfield 38, 3) := by decide +kernel
theorem dX11_init_85 : decode cX11_init 85 = .ok (.aload_n 0, 1) := by decide +kernel
theorem dX11_init_86 : decode cX11_init 86 = .ok (.bipush 10, 2) := by decide +kernel
theorem dX11_init_88 : decode cX11_init 88 = .ok (.newarray .int, 2) := by decide +kernel
theorem dX11_init_90 : decode cX11_init 90 = .ok (.putfield 41, 3) := by decide +kernel
theorem dX11_init_93 : decode cX11_init 93 = .ok (.aload_n 0, 1) := by decide +kernel
theorem dX11_init_94 : decode cX11_init 94 = .ok (.bipush 10, 2) := by decide +kernel
theorem dX11_init_96 : decode cX11_init 96 = .ok (.newarray .int, 2) := by decide +kernel
theorem dX11_init_98 : decode cX11_init 98 = .ok (.putfield 44, 3) := by decide +kernel
theorem dX11_init_101 : decode cX11_init 101 = .ok (.aload_n 0, 1) := by decide +kernel
theorem dX11_init_102 : decode cX11_init 102 = .ok (.bipush 12, 2) := by decide +kernel
theorem dX11_init_104 : decode cX11_init 104 = .ok (.newarray .int, 2) := by decide +kernel
theorem dX11_init_106 : decode cX11_init 106 = .ok (.putfield 47, 3) := by decide +kernel
theorem dX11_init_109 : decode cX11_init 109 = .ok (.aload_n 0, 1) := by decide +kernel
theorem dX11_init_110 : decode cX11_init 110 = .ok (.bipush 12, 2) := by decide +kernel
theorem dX11_init_112 : decode cX11_init 112 = .ok (.newarray .int, 2) := by decide +kernel
theorem dX11_init_114 : decode cX11_init 114 = .ok (.putfield 50, 3) := by decide +kernel
theorem dX11_init_117 : decode cX11_init 117 = .ok (.aload_n 0, 1) := by decide +kernel
theorem dX11_init_118 : decode cX11_init 118 = .ok (.iconst 2, 1) := by decide +kernel
theorem dX11_init_119 : decode cX11_init 119 = .ok (.newarray .boolean, 2) := by decide +kernel
theorem dX11_init_121 : decode cX11_init 121 = .ok (.putfield 53, 3) := by decide +kernel
theorem dX11_init_124 : decode cX11_init 124 = .ok (.aload_n 0, 1) := by decide +kernel
theorem dX11_init_125 : decode cX11_init 125 = .ok (.bipush 20, 2) := by decide +kernel
theorem dX11_init_127 : decode cX11_init 127 = .ok (.newarray .int, 2) := by decide +kernel
theorem dX11_init_129 : decode cX11_init 129 = .ok (.putfield 57, 3) := by decide +kernel
theorem dX11_init_132 : decode cX11_init 132 = .ok (.aload_n 0, 1) := by decide +kernel
theorem dX11_init_133 : decode cX11_init 133 = .ok (.getfield 44, 3) := by decide +kernel
theorem dX11_init_136 : decode cX11_init 136 = .ok (.iconst 1, 1) := by decide +kernel
theorem dX11_init_137 : decode cX11_init 137 = .ok (.bipush 10, 2) := by decide +kernel
theorem dX11_init_139 : decode cX11_init 139 = .ok (.iastore, 1) := by decide +kernel
theorem dX11_init_140 : decode cX11_init 140 = .ok (.return_, 1) := by decide +kernel
theorem dX11_in_0 : decode cX11_in 0 = .ok (.lload_n 0, 1) := by decide +kernel
theorem dX11_in_1 : decode cX11_in 1 = .ok (.lload_n 2, 1) := by decide +kernel
theorem dX11_in_2 : decode cX11_in 2 = .ok (.lcmp, 1) := by decide +kernel
theorem dX11_in_3 : decode cX11_in 3 = .ok (.ifCond .lt 14, 3) := by decide +kernel
theorem dX11_in_6 : decode cX11_in 6 = .ok (.lload_n 0, 1) := by decide +kernel
theorem dX11_in_7 : decode cX11_in 7 = .ok (.lload 4, 2) := by decide +kernel
theorem dX11_in_9 : decode cX11_in 9 = .ok (.lcmp, 1) := by decide +kernel
theorem dX11_in_10 : decode cX11_in 10 = .ok (.ifCond .gt 7, 3) := by decide +kernel
theorem dX11_in_13 : decode cX11_in 13 = .ok (.iconst 1, 1) := by decide +kernel
theorem dX11_in_14 : decode cX11_in 14 = .ok (.goto 4, 3) := by decide +kernel
theorem dX11_in_17 : decode cX11_in 17 = .ok (.iconst 0, 1) := by decide +kernel
theorem dX11_in_18 : decode cX11_in 18 = .ok (.ireturn, 1) := by decide +kernel
theorem dX11_write_0 : decode cX11_write 0 = .ok (.iload_n 1, 1) := by decide +kernel
theorem dX11_write_1 : decode cX11_write 1 = .ok (.i2l, 1) := by decide +kernel
theorem dX11_write_2 : decode cX11_write 2 = .ok (.lconst 1, 1) := by decide +kernel
theorem dX11_write_3 : decode cX11_write 3 = .ok (.ldc2_w 60, 3) := by decide +kernel
theorem dX11_write_6 : decode cX11_write 6 = .ok (.invokestatic 62, 3) := by decide +kernel
theorem dX11_write_9 : decode cX11_write 9 = .ok (.ifCond .ne 6, 3) := by decide +kernel
theorem dX11_write_12 : decode cX11_write 12 = .ok (.bipush (-2), 2) := by decide +kernel
theorem dX11_write_14 : decode cX11_write 14 = .ok (.ireturn, 1) := by decide +kernel
theorem dX11_write_15 : decode cX11_write 15 = .ok (.aload_n 0, 1) := by decide +kernel
theorem dX11_write_16 : decode cX11_write 16 = .ok (.getfield 66, 3) := by decide +kernel
theorem dX11_write_19 : decode cX11_write 19 = .ok (.iload_n 1, 1) := by decide +kernel
theorem dX11_write_20 : decode cX11_write 20 = .ok (.iadd, 1) := by decide +kernel
theorem dX11_write_21 : decode cX11_write 21 = .ok (.bipush 40, 2) := by decide +kernel
theorem dX11_write_23 : decode cX11_write 23 = .ok (.if_icmp .le 6, 3) := by decide +kernel
theorem dX11_write_26 : decode cX11_write 26 = .ok (.bipush (-4), 2) := by decide +kernel
