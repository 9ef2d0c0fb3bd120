theorem dX11_write_28 : decode cX11_write 28 = .ok (.ireturn, 1) := by decide +kernel
theorem dX11_write_29 : decode cX11_write 29 = .ok (.iload_n 1, 1) := by decide +kernel
theorem dX11_write_30 : decode cX11_write 30 = .ok (.iconst 1, 1) := by decide +kernel
theorem dX11_write_31 : decode cX11_write 31 = .ok (.isub, 1) := by decide +kernel
theorem dX11_write_32 : decode cX11_write 32 = .ok (.istore 4, 2) := by decide +kernel
theorem dX11_write_34 : decode cX11_write 34 = .ok (.iload 4, 2) := by decide +kernel
theorem dX11_write_36 : decode cX11_write 36 = .ok (.ifCond .lt 40, 3) := by decide +kernel
theorem dX11_write_39 : decode cX11_write 39 = .ok (.aload_n 0, 1) := by decide +kernel
theorem dX11_write_40 : decode cX11_write 40 = .ok (.getfield 16, 3) := by decide +kernel
theorem dX11_write_43 : decode cX11_write 43 = .ok (.aload_n 0, 1) := by decide +kernel
theorem dX11_write_44 : decode cX11_write 44 = .ok (.getfield 66, 3) := by decide +kernel
theorem dX11_write_47 : decode cX11_write 47 = .ok (.lload_n 2, 1) := by decide +kernel
theorem dX11_write_48 : decode cX11_write 48 = .ok (.bipush 8, 2) := by decide +kernel
theorem dX11_write_50 : decode cX11_write 50 = .ok (.iload 4, 2) := by decide +kernel
theorem dX11_write_52 : decode cX11_write 52 = .ok (.imul, 1) := by decide +kernel
theorem dX11_write_53 : decode cX11_write 53 = .ok (.lshr, 1) := by decide +kernel
theorem dX11_write_54 : decode cX11_write 54 = .ok (.ldc2_w 70, 3) := by decide +kernel
theorem dX11_write_57 : decode cX11_write 57 = .ok (.land, 1) := by decide +kernel
theorem dX11_write_58 : decode cX11_write 58 = .ok (.l2i, 1) := by decide +kernel
theorem dX11_write_59 : decode cX11_write 59 = .ok (.iastore, 1) := by decide +kernel
theorem dX11_write_60 : decode cX11_write 60 = .ok (.aload_n 0, 1) := by decide +kernel
theorem dX11_write_61 : decode cX11_write 61 = .ok (.dup, 1) := by decide +kernel
theorem dX11_write_62 : decode cX11_write 62 = .ok (.getfield 66, 3) := by decide +kernel
theorem dX11_write_65 : decode cX11_write 65 = .ok (.iconst 1, 1) := by decide +kernel
theorem dX11_write_66 : decode cX11_write 66 = .ok (.iadd, 1) := by decide +kernel
theorem dX11_write_67 : decode cX11_write 67 = .ok (.putfield 66, 3) := by decide +kernel
theorem dX11_write_70 : decode cX11_write 70 = .ok (.iinc 4 (-1), 3) := by decide +kernel
theorem dX11_write_73 : decode cX11_write 73 = .ok (.goto (-39), 3) := by decide +kernel
theorem dX11_write_76 : decode cX11_write 76 = .ok (.aload_n 0, 1) := by decide +kernel
theorem dX11_write_77 : decode cX11_write 77 = .ok (.getfield 66, 3) := by decide +kernel
theorem dX11_write_80 : decode cX11_write 80 = .ok (.ireturn, 1) := by decide +kernel
theorem dX11_wipe_0 : decode cX11_wipe 0 = .ok (.aload_n 0, 1) := by decide +kernel
theorem dX11_wipe_1 : decode cX11_wipe 1 = .ok (.getfield 66, 3) := by decide +kernel
theorem dX11_wipe_4 : decode cX11_wipe 4 = .ok (.istore_n 1, 1) := by decide +kernel
theorem dX11_wipe_5 : decode cX11_wipe 5 = .ok (.aload_n 0, 1) := by decide +kernel
theorem dX11_wipe_6 : decode cX11_wipe 6 = .ok (.iconst 0, 1) := by decide +kernel
theorem dX11_wipe_7 : decode cX11_wipe 7 = .ok (.putfield 66, 3) := by decide +kernel
theorem dX11_wipe_10 : decode cX11_wipe 10 = .ok (.iload_n 1, 1) := by decide +kernel
theorem dX11_wipe_11 : decode cX11_wipe 11 = .ok (.ireturn, 1) := by decide +kernel
theorem dX11_figure_0 : decode cX11_figure 0 = .ok (.aload_n 0, 1) := by decide +kernel
theorem dX11_figure_1 : decode cX11_figure 1 = .ok (.getfield 72, 3) := by decide +kernel
theorem dX11_figure_4 : decode cX11_figure 4 = .ok (.bipush (-9), 2) := by decide +kernel
theorem dX11_figure_6 : decode cX11_figure 6 = .ok (.if_icmp .ne 29, 3) := by decide +kernel
theorem dX11_figure_9 : decode cX11_figure 9 = .ok (.aload_n 0, 1) := by decide +kernel
theorem dX11_figure_10 : decode cX11_figure 10 = .ok (.getfield 75, 3) := by decide +kernel
theorem dX11_figure_13 : decode cX11_figure 13 = .ok (.aload_n 0, 1) := by decide +kernel
theorem dX11_figure_14 : decode cX11_figure 14 = .ok (.getfield 66, 3) := by decide +kernel
theorem dX11_figure_17 : decode cX11_figure 17 = .ok (.if_icmp .ge 18, 3) := by decide +kernel
theorem dX11_figure_20 : decode cX11_figure 20 = .ok (.aload_n 0, 1) := by decide +kernel
theorem dX11_figure_21 : decode cX11_figure 21 = .ok (.getfield 16, 3) := by decide +kernel
theorem dX11_figure_24 : decode cX11_figure 24 = .ok (.aload_n 0, 1) := by decide +kernel
theorem dX11_figure_25 : decode cX11_figure 25 = .ok (.getfield 75, 3) := by decide +kernel
theorem dX11_figure_28 : decode cX11_figure 28 = .ok (.iaload, 1) := by decide +kernel
theorem dX11_figure_29 : decode cX11_figure 29 = .ok (.bipush 48, 2) := by decide +kernel
theorem dX11_figure_31 : decode cX11_figure 31 = .ok (.isub, 1) := by decide +kernel
theorem dX11_figure_32 : decode cX11_figure 32 = .ok (.goto 4, 3) := by decide +kernel
theorem dX11_figure_35 : decode cX11_figure 35 = .ok (.iconst (-1), 1) := by decide +kernel
theorem dX11_figure_36 : decode cX11_figure 36 = .ok (.istore_n 2, 1) := by decide +kernel
theorem dX11_figure_37 : decode cX11_figure 37 = .ok (.iload_n 2, 1) := by decide +kernel
theorem dX11_figure_38 : decode cX11_figure 38 = .ok (.i2l, 1) := by decide +kernel
theorem dX11_figure_39 : decode cX11_figure 39 = .ok (.lconst 0, 1) := by decide +kernel
theorem dX11_figure_40 : decode cX11_figure 40 = .ok (.ldc2_w 78, 3) := by decide +kernel
theorem dX11_figure_43 : decode cX11_figure 43 = .ok (.invokestatic 62, 3) := by decide +kernel
theorem dX11_figure_46 : decode cX11_figure 46 = .ok (.ifCond .eq 11, 3) := by decide +kernel
theorem dX11_figure_49 : decode cX11_figure 49 = .ok (.iload_n 1, 1) := by decide +kernel
theorem dX11_figure_50 : decode cX11_figure 50 = .ok (.iload_n 2, 1) := by decide +kernel
theorem dX11_figure_51 : decode cX11_figure 51 = .ok (.ishr, 1) := by decide +kernel
theorem dX11_figure_52 : decode cX11_figure 52 = .ok (.iconst 1, 1) := by decide +kernel
theorem dX11_figure_53 : decode cX11_figure 53 = .ok (.iand, 1) := by decide +kernel
theorem dX11_figure_54 : decode cX11_figure 54 = .ok (.ifCond .ne 29, 3) := by decide +kernel
theorem dX11_figure_57 : decode cX11_figure 57 = .ok (.aload_n 0, 1) := by decide +kernel
theorem dX11_figure_58 : decode cX11_figure 58 = .ok (.aload_n 0, 1) := by decide +kernel
theorem dX11_figure_59 : decode cX11_figure 59 = .ok (.getfield 72, 3) := by decide +kernel
theorem dX11_figure_62 : decode cX11_figure 62 = .ok (.bipush (-9), 2) := by decide +kernel
theorem dX11_figure_64 : decode cX11_figure 64 = .ok (.if_icmp .ne 10, 3) := by decide +kernel
theorem dX11_figure_67 : decode cX11_figure 67 = .ok (.aload_n 0, 1) := by decide +kernel
theorem dX11_figure_68 : decode cX11_figure 68 = .ok (.getfield 75, 3) := by decide +kernel
theorem dX11_figure_71 : decode cX11_figure 71 = .ok (.goto 7, 3) := by decide +kernel
theorem dX11_figure_74 : decode cX11_figure 74 = .ok (.aload_n 0, 1) := by decide +kernel
theorem dX11_figure_75 : decode cX11_figure 75 = .ok (.getfield 72, 3) := by decide +kernel
theorem dX11_figure_78 : decode cX11_figure 78 = .ok (.putfield 72, 3) := by decide +kernel
theorem dX11_figure_81 : decode cX11_figure 81 = .ok (.iconst 0, 1) := by decide +kernel
theorem dX11_figure_82 : decode cX11_figure 82 = .ok (.ireturn, 1) := by decide +kernel
theorem dX11_figure_83 : decode cX11_figure 83 = .ok (.aload_n 0, 1) := by decide +kernel
theorem dX11_figure_84 : decode cX11_figure 84 = .ok (.dup, 1) := by decide +kernel
theorem dX11_figure_85 : decode cX11_figure 85 = .ok (.getfield 75, 3) := by decide +kernel
theorem dX11_figure_88 : decode cX11_figure 88 = .ok (.iconst 1, 1) := by decide +kernel
theorem dX11_figure_89 : decode cX11_figure 89 = .ok (.iadd, 1) := by decide +kernel
theorem dX11_figure_90 : decode cX11_figure 90 = .ok (.putfield 75, 3) := by decide +kernel
theorem dX11_figure_93 : decode cX11_figure 93 = .ok (.iload_n 2, 1) := by decide +kernel
theorem dX11_figure_94 : decode cX11_figure 94 = .ok (.ireturn, 1) := by decide +kernel
theorem dX11_ones_0 : decode cX11_ones 0 = .ok (.iconst 0, 1) := by decide +kernel
theorem dX11_ones_1 : decode cX11_ones 1 = .ok (.istore_n 1, 1) := by decide +kernel
theorem dX11_ones_2 : decode cX11_ones 2 = .ok (.iconst 0, 1) := by decide +kernel
theorem dX11_ones_3 : decode cX11_ones 3 = .ok (.istore_n 2, 1) := by decide +kernel
theorem dX11_ones_4 : decode cX11_ones 4 = .ok (.iload_n 2, 1) := by decide +kernel
theorem dX11_ones_5 : decode cX11_ones 5 = .ok (.bipush 10, 2) := by decide +kernel
theorem dX11_ones_7 : decode cX11_ones 7 = .ok (.if_icmp .ge 17, 3) := by decide +kernel
theorem dX11_ones_10 : decode cX11_ones 10 = .ok (.iload_n 1, 1) := by decide +kernel
theorem dX11_ones_11 : decode cX11_ones 11 = .ok (.iload_n 0, 1) := by decide +kernel
theorem dX11_ones_12 : decode cX11_ones 12 = .ok (.iload_n 2, 1) := by decide +kernel
theorem dX11_ones_13 : decode cX11_ones 13 = .ok (.ishr, 1) := by decide +kernel
theorem dX11_ones_14 : decode cX11_ones 14 = .ok (.iconst 1, 1) := by decide +kernel
theorem dX11_ones_15 : decode cX11_ones 15 = .ok (.iand, 1) := by decide +kernel
theorem dX11_ones_16 : decode cX11_ones 16 = .ok (.iadd, 1) := by decide +kernel
theorem dX11_ones_17 : decode cX11_ones 17 = .ok (.istore_n 1, 1) := by decide +kernel
theorem dX11_ones_18 : decode cX11_ones 18 = .ok (.iinc 2 1, 3) := by decide +kernel
theorem dX11_ones_21 : decode cX11_ones 21 = .ok (.goto (-17), 3) := by decide +kernel
theorem dX11_ones_24 : decode cX11_ones 24 = .ok (.iload_n 1, 1) := by decide +kernel
theorem dX11_ones_25 : decode cX11_ones 25 = .ok (.ireturn, 1) := by decide +kernel
theorem dX11_free_0 : decode cX11_free 0 = .ok (.sipush 1023, 3) := by decide +kernel
theorem dX11_free_3 : decode cX11_free 3 = .ok (.aload_n 0, 1) := by decide +kernel
theorem dX11_free_4 : decode cX11_free 4 = .ok (.getfield 80, 3) := by decide +kernel
theorem dX11_free_7 : decode cX11_free 7 = .ok (.iconst (-1), 1) := by decide +kernel
theorem dX11_free_8 : decode cX11_free 8 = .ok (.ixor, 1) := by decide +kernel
theorem dX11_free_9 : decode cX11_free 9 = .ok (.iand, 1) := by decide +kernel
theorem dX11_free_10 : decode cX11_free 10 = .ok (.istore_n 1, 1) := by decide +kernel
theorem dX11_free_11 : decode cX11_free 11 = .ok (.iconst 0, 1) := by decide +kernel
theorem dX11_free_12 : decode cX11_free 12 = .ok (.istore_n 2, 1) := by decide +kernel
theorem dX11_free_13 : decode cX11_free 13 = .ok (.iload_n 2, 1) := by decide +kernel
theorem dX11_free_14 : decode cX11_free 14 = .ok (.aload_n 0, 1) := by decide +kernel
theorem dX11_free_15 : decode cX11_free 15 = .ok (.getfield 83, 3) := by decide +kernel
theorem dX11_free_18 : decode cX11_free 18 = .ok (.if_icmp .ge 22, 3) := by decide +kernel
theorem dX11_free_21 : decode cX11_free 21 = .ok (.iload_n 1, 1) := by decide +kernel
theorem dX11_free_22 : decode cX11_free 22 = .ok (.iconst 1, 1) := by decide +kernel
theorem dX11_free_23 : decode cX11_free 23 = .ok (.aload_n 0, 1) := by decide +kernel
theorem dX11_free_24 : decode cX11_free 24 = .ok (.getfield 7, 3) := by decide +kernel
theorem dX11_free_27 : decode cX11_free 27 = .ok (.iload_n 2, 1) := by decide +kernel
theorem dX11_free_28 : decode cX11_free 28 = .ok (.iaload, 1) := by decide +kernel
theorem dX11_free_29 : decode cX11_free 29 = .ok (.ishl, 1) := by decide +kernel
theorem dX11_free_30 : decode cX11_free 30 = .ok (.iconst (-1), 1) := by decide +kernel
theorem dX11_free_31 : decode cX11_free 31 = .ok (.ixor, 1) := by decide +kernel
theorem dX11_free_32 : decode cX11_free 32 = .ok (.iand, 1) := by decide +kernel
theorem dX11_free_33 : decode cX11_free 33 = .ok (.istore_n 1, 1) := by decide +kernel
theorem dX11_free_34 : decode cX11_free 34 = .ok (.iinc 2 1, 3) := by decide +kernel
theorem dX11_free_37 : decode cX11_free 37 = .ok (.goto (-24), 3) := by decide +kernel
theorem dX11_free_40 : decode cX11_free 40 = .ok (.aload_n 0, 1) := by decide +kernel
theorem dX11_free_41 : decode cX11_free 41 = .ok (.getfield 80, 3) := by decide +kernel
theorem dX11_free_44 : decode cX11_free 44 = .ok (.invokestatic 86, 3) := by decide +kernel
theorem dX11_free_47 : decode cX11_free 47 = .ok (.bipush 9, 2) := by decide +kernel
theorem dX11_free_49 : decode cX11_free 49 = .ok (.if_icmp .ne 7, 3) := by decide +kernel
theorem dX11_free_52 : decode cX11_free 52 = .ok (.iconst 0, 1) := by decide +kernel
theorem dX11_free_53 : decode cX11_free 53 = .ok (.goto 4, 3) := by decide +kernel
theorem dX11_free_56 : decode cX11_free 56 = .ok (.iload_n 1, 1) := by decide +kernel
theorem dX11_free_57 : decode cX11_free 57 = .ok (.ireturn, 1) := by decide +kernel
theorem dX11_readText_0 : decode cX11_readText 0 = .ok (.aload_n 0, 1) := by decide +kernel
theorem dX11_readText_1 : decode cX11_readText 1 = .ok (.iconst 0, 1) := by decide +kernel
theorem dX11_readText_2 : decode cX11_readText 2 = .ok (.putfield 75, 3) := by decide +kernel
theorem dX11_readText_5 : decode cX11_readText 5 = .ok (.aload_n 0, 1) := by decide +kernel
theorem dX11_readText_6 : decode cX11_readText 6 = .ok (.bipush (-9), 2) := by decide +kernel
theorem dX11_readText_8 : decode cX11_readText 8 = .ok (.putfield 72, 3) := by decide +kernel
theorem dX11_readText_11 : decode cX11_readText 11 = .ok (.aload_n 0, 1) := by decide +kernel
theorem dX11_readText_12 : decode cX11_readText 12 = .ok (.iconst 0, 1) := by decide +kernel
theorem dX11_readText_13 : decode cX11_readText 13 = .ok (.putfield 83, 3) := by decide +kernel
theorem dX11_readText_16 : decode cX11_readText 16 = .ok (.aload_n 0, 1) := by decide +kernel
theorem dX11_readText_17 : decode cX11_readText 17 = .ok (.iconst 0, 1) := by decide +kernel
theorem dX11_readText_18 : decode cX11_readText 18 = .ok (.putfield 80, 3) := by decide +kernel
theorem dX11_readText_21 : decode cX11_readText 21 = .ok (.aload_n 0, 1) := by decide +kernel
theorem dX11_readText_22 : decode cX11_readText 22 = .ok (.getfield 66, 3) := by decide +kernel
theorem dX11_readText_25 : decode cX11_readText 25 = .ok (.ifCond .eq 14, 3) := by decide +kernel
theorem dX11_readText_28 : decode cX11_readText 28 = .ok (.aload_n 0, 1) := by decide +kernel
theorem dX11_readText_29 : decode cX11_readText 29 = .ok (.getfield 16, 3) := by decide +kernel
theorem dX11_readText_32 : decode cX11_readText 32 = .ok (.iconst 0, 1) := by decide +kernel
theorem dX11_readText_33 : decode cX11_readText 33 = .ok (.iaload, 1) := by decide +kernel
theorem dX11_readText_34 : decode cX11_readText 34 = .ok (.bipush 84, 2) := by decide +kernel
theorem dX11_readText_36 : decode cX11_readText 36 = .ok (.if_icmp .eq 5, 3) := by decide +kernel
theorem dX11_readText_39 : decode cX11_readText 39 = .ok (.iconst 0, 1) := by decide +kernel
theorem dX11_readText_40 : decode cX11_readText 40 = .ok (.ireturn, 1) := by decide +kernel
theorem dX11_readText_41 : decode cX11_readText 41 = .ok (.aload_n 0, 1) := by decide +kernel
theorem dX11_readText_42 : decode cX11_readText 42 = .ok (.iconst 1, 1) := by decide +kernel
theorem dX11_readText_43 : decode cX11_readText 43 = .ok (.putfield 75, 3) := by decide +kernel
theorem dX11_readText_46 : decode cX11_readText 46 = .ok (.aload_n 0, 1) := by decide +kernel
theorem dX11_readText_47 : decode cX11_readText 47 = .ok (.aload_n 0, 1) := by decide +kernel
theorem dX11_readText_48 : decode cX11_readText 48 = .ok (.bipush 7, 2) := by decide +kernel
theorem dX11_readText_50 : decode cX11_readText 50 = .ok (.invokevirtual 90, 3) := by decide +kernel
theorem dX11_readText_53 : decode cX11_readText 53 = .ok (.putfield 93, 3) := by decide +kernel
theorem dX11_readText_56 : decode cX11_readText 56 = .ok (.aload_n 0, 1) := by decide +kernel
theorem dX11_readText_57 : decode cX11_readText 57 = .ok (.aload_n 0, 1) := by decide +kernel
theorem dX11_readText_58 : decode cX11_readText 58 = .ok (.iconst 3, 1) := by decide +kernel
theorem dX11_readText_59 : decode cX11_readText 59 = .ok (.invokevirtual 90, 3) := by decide +kernel
theorem dX11_readText_62 : decode cX11_readText 62 = .ok (.putfield 96, 3) := by decide +kernel
theorem dX11_readText_65 : decode cX11_readText 65 = .ok (.aload_n 0, 1) := by decide +kernel
theorem dX11_readText_66 : decode cX11_readText 66 = .ok (.sipush 1023, 3) := by decide +kernel
theorem dX11_readText_69 : decode cX11_readText 69 = .ok (.invokevirtual 90, 3) := by decide +kernel
theorem dX11_readText_72 : decode cX11_readText 72 = .ok (.istore_n 1, 1) := by decide +kernel
theorem dX11_readText_73 : decode cX11_readText 73 = .ok (.aload_n 0, 1) := by decide +kernel
theorem dX11_readText_74 : decode cX11_readText 74 = .ok (.sipush 1023, 3) := by decide +kernel
theorem dX11_readText_77 : decode cX11_readText 77 = .ok (.invokevirtual 90, 3) := by decide +kernel
theorem dX11_readText_80 : decode cX11_readText 80 = .ok (.istore_n 2, 1) := by decide +kernel
theorem dX11_readText_81 : decode cX11_readText 81 = .ok (.aload_n 0, 1) := by decide +kernel
theorem dX11_readText_82 : decode cX11_readText 82 = .ok (.bipush 100, 2) := by decide +kernel
theorem dX11_readText_84 : decode cX11_readText 84 = .ok (.iload_n 1, 1) := by decide +kernel
theorem dX11_readText_85 : decode cX11_readText 85 = .ok (.imul, 1) := by decide +kernel
theorem dX11_readText_86 : decode cX11_readText 86 = .ok (.bipush 10, 2) := by decide +kernel
theorem dX11_readText_88 : decode cX11_readText 88 = .ok (.iload_n 2, 1) := by decide +kernel
theorem dX11_readText_89 : decode cX11_readText 89 = .ok (.imul, 1) := by decide +kernel
theorem dX11_readText_90 : decode cX11_readText 90 = .ok (.iadd, 1) := by decide +kernel
theorem dX11_readText_91 : decode cX11_readText 91 = .ok (.aload_n 0, 1) := by decide +kernel
theorem dX11_readText_92 : decode cX11_readText 92 = .ok (.sipush 1023, 3) := by decide +kernel
theorem dX11_readText_95 : decode cX11_readText 95 = .ok (.invokevirtual 90, 3) := by decide +kernel
theorem dX11_readText_98 : decode cX11_readText 98 = .ok (.iadd, 1) := by decide +kernel
theorem dX11_readText_99 : decode cX11_readText 99 = .ok (.putfield 99, 3) := by decide +kernel
theorem dX11_readText_102 : decode cX11_readText 102 = .ok (.aload_n 0, 1) := by decide +kernel
theorem dX11_readText_103 : decode cX11_readText 103 = .ok (.getfield 72, 3) := by decide +kernel
theorem dX11_readText_106 : decode cX11_readText 106 = .ok (.bipush (-9), 2) := by decide +kernel
theorem dX11_readText_108 : decode cX11_readText 108 = .ok (.if_icmp .ne 162, 3) := by decide +kernel
theorem dX11_readText_111 : decode cX11_readText 111 = .ok (.aload_n 0, 1) := by decide +kernel
theorem dX11_readText_112 : decode cX11_readText 112 = .ok (.getfield 75, 3) := by decide +kernel
theorem dX11_readText_115 : decode cX11_readText 115 = .ok (.aload_n 0, 1) := by decide +kernel
theorem dX11_readText_116 : decode cX11_readText 116 = .ok (.getfield 66, 3) := by decide +kernel
theorem dX11_readText_119 : decode cX11_readText 119 = .ok (.if_icmp .ge 151, 3) := by decide +kernel
theorem dX11_readText_122 : decode cX11_readText 122 = .ok (.aload_n 0, 1) := by decide +kernel
theorem dX11_readText_123 : decode cX11_readText 123 = .ok (.getfield 16, 3) := by decide +kernel
theorem dX11_readText_126 : decode cX11_readText 126 = .ok (.aload_n 0, 1) := by decide +kernel
theorem dX11_readText_127 : decode cX11_readText 127 = .ok (.getfield 75, 3) := by decide +kernel
theorem dX11_readText_130 : decode cX11_readText 130 = .ok (.iaload, 1) := by decide +kernel
theorem dX11_readText_131 : decode cX11_readText 131 = .ok (.bipush 78, 2) := by decide +kernel
theorem dX11_readText_133 : decode cX11_readText 133 = .ok (.if_icmp .ne 57, 3) := by decide +kernel
theorem dX11_readText_136 : decode cX11_readText 136 = .ok (.aload_n 0, 1) := by decide +kernel
theorem dX11_readText_137 : decode cX11_readText 137 = .ok (.invokevirtual 102, 3) := by decide +kernel
theorem dX11_readText_140 : decode cX11_readText 140 = .ok (.ifCond .eq 50, 3) := by decide +kernel
theorem dX11_readText_143 : decode cX11_readText 143 = .ok (.aload_n 0, 1) := by decide +kernel
theorem dX11_readText_144 : decode cX11_readText 144 = .ok (.dup, 1) := by decide +kernel
theorem dX11_readText_145 : decode cX11_readText 145 = .ok (.getfield 75, 3) := by decide +kernel
theorem dX11_readText_148 : decode cX11_readText 148 = .ok (.iconst 1, 1) := by decide +kernel
theorem dX11_readText_149 : decode cX11_readText 149 = .ok (.iadd, 1) := by decide +kernel
theorem dX11_readText_150 : decode cX11_readText 150 = .ok (.putfield 75, 3) := by decide +kernel
theorem dX11_readText_153 : decode cX11_readText 153 = .ok (.aload_n 0, 1) := by decide +kernel
theorem dX11_readText_154 : decode cX11_readText 154 = .ok (.aload_n 0, 1) := by decide +kernel
theorem dX11_readText_155 : decode cX11_readText 155 = .ok (.invokevirtual 102, 3) := by decide +kernel
theorem dX11_readText_158 : decode cX11_readText 158 = .ok (.invokevirtual 90, 3) := by decide +kernel
theorem dX11_readText_161 : decode cX11_readText 161 = .ok (.istore_n 3, 1) := by decide +kernel
theorem dX11_readText_162 : decode cX11_readText 162 = .ok (.aload_n 0, 1) := by decide +kernel
theorem dX11_readText_163 : decode cX11_readText 163 = .ok (.dup, 1) := by decide +kernel
theorem dX11_readText_164 : decode cX11_readText 164 = .ok (.getfield 80, 3) := by decide +kernel
theorem dX11_readText_167 : decode cX11_readText 167 = .ok (.aload_n 0, 1) := by decide +kernel
theorem dX11_readText_168 : decode cX11_readText 168 = .ok (.getfield 72, 3) := by decide +kernel
theorem dX11_readText_171 : decode cX11_readText 171 = .ok (.bipush (-9), 2) := by decide +kernel
theorem dX11_readText_173 : decode cX11_readText 173 = .ok (.if_icmp .ne 9, 3) := by decide +kernel
theorem dX11_readText_176 : decode cX11_readText 176 = .ok (.iconst 1, 1) := by decide +kernel
theorem dX11_readText_177 : decode cX11_readText 177 = .ok (.iload_n 3, 1) := by decide +kernel
theorem dX11_readText_178 : decode cX11_readText 178 = .ok (.ishl, 1) := by decide +kernel
theorem dX11_readText_179 : decode cX11_readText 179 = .ok (.goto 4, 3) := by decide +kernel
theorem dX11_readText_182 : decode cX11_readText 182 = .ok (.iconst 0, 1) := by decide +kernel
theorem dX11_readText_183 : decode cX11_readText 183 = .ok (.ior, 1) := by decide +kernel
theorem dX11_readText_184 : decode cX11_readText 184 = .ok (.putfield 80, 3) := by decide +kernel
theorem dX11_readText_187 : decode cX11_readText 187 = .ok (.goto (-85), 3) := by decide +kernel
theorem dX11_readText_190 : decode cX11_readText 190 = .ok (.aload_n 0, 1) := by decide +kernel
theorem dX11_readText_191 : decode cX11_readText 191 = .ok (.getfield 16, 3) := by decide +kernel
theorem dX11_readText_194 : decode cX11_readText 194 = .ok (.aload_n 0, 1) := by decide +kernel
theorem dX11_readText_195 : decode cX11_readText 195 = .ok (.getfield 75, 3) := by decide +kernel
theorem dX11_readText_198 : decode cX11_readText 198 = .ok (.iaload, 1) := by decide +kernel
theorem dX11_readText_199 : decode cX11_readText 199 = .ok (.bipush 80, 2) := by decide +kernel
theorem dX11_readText_201 : decode cX11_readText 201 = .ok (.if_icmp .ne 58, 3) := by decide +kernel
theorem dX11_readText_204 : decode cX11_readText 204 = .ok (.aload_n 0, 1) := by decide +kernel
theorem dX11_readText_205 : decode cX11_readText 205 = .ok (.getfield 83, 3) := by decide +kernel
theorem dX11_readText_208 : decode cX11_readText 208 = .ok (.bipush 9, 2) := by decide +kernel
theorem dX11_readText_210 : decode cX11_readText 210 = .ok (.if_icmp .ge 49, 3) := by decide +kernel
theorem dX11_readText_213 : decode cX11_readText 213 = .ok (.aload_n 0, 1) := by decide +kernel
theorem dX11_readText_214 : decode cX11_readText 214 = .ok (.dup, 1) := by decide +kernel
theorem dX11_readText_215 : decode cX11_readText 215 = .ok (.getfield 75, 3) := by decide +kernel
theorem dX11_readText_218 : decode cX11_readText 218 = .ok (.iconst 1, 1) := by decide +kernel
theorem dX11_readText_219 : decode cX11_readText 219 = .ok (.iadd, 1) := by decide +kernel
theorem dX11_readText_220 : decode cX11_readText 220 = .ok (.putfield 75, 3) := by decide +kernel
theorem dX11_readText_223 : decode cX11_readText 223 = .ok (.aload_n 0, 1) := by decide +kernel
theorem dX11_readText_224 : decode cX11_readText 224 = .ok (.getfield 7, 3) := by decide +kernel
theorem dX11_readText_227 : decode cX11_readText 227 = .ok (.aload_n 0, 1) := by decide +kernel
theorem dX11_readText_228 : decode cX11_readText 228 = .ok (.getfield 83, 3) := by decide +kernel
theorem dX11_readText_231 : decode cX11_readText 231 = .ok (.aload_n 0, 1) := by decide +kernel
theorem dX11_readText_232 : decode cX11_readText 232 = .ok (.sipush 1023, 3) := by decide +kernel
theorem dX11_readText_235 : decode cX11_readText 235 = .ok (.aload_n 0, 1) := by decide +kernel
theorem dX11_readText_236 : decode cX11_readText 236 = .ok (.getfield 80, 3) := by decide +kernel
theorem dX11_readText_239 : decode cX11_readText 239 = .ok (.iconst (-1), 1) := by decide +kernel
theorem dX11_readText_240 : decode cX11_readText 240 = .ok (.ixor, 1) := by decide +kernel
theorem dX11_readText_241 : decode cX11_readText 241 = .ok (.iand, 1) := by decide +kernel
theorem dX11_readText_242 : decode cX11_readText 242 = .ok (.invokevirtual 90, 3) := by decide +kernel
theorem dX11_readText_245 : decode cX11_readText 245 = .ok (.iastore, 1) := by decide +kernel
theorem dX11_readText_246 : decode cX11_readText 246 = .ok (.aload_n 0, 1) := by decide +kernel
theorem dX11_readText_247 : decode cX11_readText 247 = .ok (.dup, 1) := by decide +kernel
theorem dX11_readText_248 : decode cX11_readText 248 = .ok (.getfield 83, 3) := by decide +kernel
theorem dX11_readText_251 : decode cX11_readText 251 = .ok (.iconst 1, 1) := by decide +kernel
theorem dX11_readText_252 : decode cX11_readText 252 = .ok (.iadd, 1) := by decide +kernel
theorem dX11_readText_253 : decode cX11_readText 253 = .ok (.putfield 83, 3) := by decide +kernel
theorem dX11_readText_256 : decode cX11_readText 256 = .ok (.goto (-154), 3) := by decide +kernel
theorem dX11_readText_259 : decode cX11_readText 259 = .ok (.aload_n 0, 1) := by decide +kernel
theorem dX11_readText_260 : decode cX11_readText 260 = .ok (.aload_n 0, 1) := by decide +kernel
theorem dX11_readText_261 : decode cX11_readText 261 = .ok (.getfield 75, 3) := by decide +kernel
theorem dX11_readText_264 : decode cX11_readText 264 = .ok (.putfield 72, 3) := by decide +kernel
theorem dX11_readText_267 : decode cX11_readText 267 = .ok (.goto (-165), 3) := by decide +kernel
theorem dX11_readText_270 : decode cX11_readText 270 = .ok (.aload_n 0, 1) := by decide +kernel
theorem dX11_readText_271 : decode cX11_readText 271 = .ok (.getfield 72, 3) := by decide +kernel
theorem dX11_readText_274 : decode cX11_readText 274 = .ok (.ireturn, 1) := by decide +kernel
theorem dX11_fault_0 : decode cX11_fault 0 = .ok (.aload_n 0, 1) := by decide +kernel
theorem dX11_fault_1 : decode cX11_fault 1 = .ok (.invokevirtual 106, 3) := by decide +kernel
theorem dX11_fault_4 : decode cX11_fault 4 = .ok (.ireturn, 1) := by decide +kernel
theorem dX11_table_0 : decode cX11_table 0 = .ok (.aload_n 0, 1) := by decide +kernel
theorem dX11_table_1 : decode cX11_table 1 = .ok (.invokevirtual 106, 3) := by decide +kernel
theorem dX11_table_4 : decode cX11_table 4 = .ok (.bipush (-9), 2) := by decide +kernel
theorem dX11_table_6 : decode cX11_table 6 = .ok (.if_icmp .eq 6, 3) := by decide +kernel
theorem dX11_table_9 : decode cX11_table 9 = .ok (.bipush (-3), 2) := by decide +kernel
theorem dX11_table_11 : decode cX11_table 11 = .ok (.ireturn, 1) := by decide +kernel
theorem dX11_table_12 : decode cX11_table 12 = .ok (.aload_n 0, 1) := by decide +kernel
theorem dX11_table_13 : decode cX11_table 13 = .ok (.aload_n 0, 1) := by decide +kernel
theorem dX11_table_14 : decode cX11_table 14 = .ok (.getfield 83, 3) := by decide +kernel
theorem dX11_table_17 : decode cX11_table 17 = .ok (.putfield 109, 3) := by decide +kernel
theorem dX11_table_20 : decode cX11_table 20 = .ok (.aload_n 0, 1) := by decide +kernel
theorem dX11_table_21 : decode cX11_table 21 = .ok (.aload_n 0, 1) := by decide +kernel
theorem dX11_table_22 : decode cX11_table 22 = .ok (.getfield 80, 3) := by decide +kernel
theorem dX11_table_25 : decode cX11_table 25 = .ok (.putfield 112, 3) := by decide +kernel
theorem dX11_table_28 : decode cX11_table 28 = .ok (.aload_n 0, 1) := by decide +kernel
theorem dX11_table_29 : decode cX11_table 29 = .ok (.aload_n 0, 1) := by decide +kernel
theorem dX11_table_30 : decode cX11_table 30 = .ok (.getfield 93, 3) := by decide +kernel
theorem dX11_table_33 : decode cX11_table 33 = .ok (.putfield 115, 3) := by decide +kernel
theorem dX11_table_36 : decode cX11_table 36 = .ok (.aload_n 0, 1) := by decide +kernel
theorem dX11_table_37 : decode cX11_table 37 = .ok (.aload_n 0, 1) := by decide +kernel
theorem dX11_table_38 : decode cX11_table 38 = .ok (.getfield 96, 3) := by decide +kernel
theorem dX11_table_41 : decode cX11_table 41 = .ok (.putfield 118, 3) := by decide +kernel
theorem dX11_table_44 : decode cX11_table 44 = .ok (.aload_n 0, 1) := by decide +kernel
theorem dX11_table_45 : decode cX11_table 45 = .ok (.aload_n 0, 1) := by decide +kernel
theorem dX11_table_46 : decode cX11_table 46 = .ok (.getfield 99, 3) := by decide +kernel
theorem dX11_table_49 : decode cX11_table 49 = .ok (.putfield 121, 3) := by decide +kernel
theorem dX11_table_52 : decode cX11_table 52 = .ok (.iconst 0, 1) := by decide +kernel
theorem dX11_table_53 : decode cX11_table 53 = .ok (.istore_n 1, 1) := by decide +kernel
theorem dX11_table_54 : decode cX11_table 54 = .ok (.iload_n 1, 1) := by decide +kernel
theorem dX11_table_55 : decode cX11_table 55 = .ok (.bipush 9, 2) := by decide +kernel
theorem dX11_table_57 : decode cX11_table 57 = .ok (.if_icmp .ge 21, 3) := by decide +kernel
theorem dX11_table_60 : decode cX11_table 60 = .ok (.aload_n 0, 1) := by decide +kernel
theorem dX11_table_61 : decode cX11_table 61 = .ok (.getfield 13, 3) := by decide +kernel
theorem dX11_table_64 : decode cX11_table 64 = .ok (.iload_n 1, 1) := by decide +kernel
theorem dX11_table_65 : decode cX11_table 65 = .ok (.aload_n 0, 1) := by decide +kernel
theorem dX11_table_66 : decode cX11_table 66 = .ok (.getfield 7, 3) := by decide +kernel
theorem dX11_table_69 : decode cX11_table 69 = .ok (.iload_n 1, 1) := by decide +kernel
theorem dX11_table_70 : decode cX11_table 70 = .ok (.iaload, 1) := by decide +kernel
theorem dX11_table_71 : decode cX11_table 71 = .ok (.iastore, 1) := by decide +kernel
theorem dX11_table_72 : decode cX11_table 72 = .ok (.iinc 1 1, 3) := by decide +kernel
theorem dX11_table_75 : decode cX11_table 75 = .ok (.goto (-21), 3) := by decide +kernel
theorem dX11_table_78 : decode cX11_table 78 = .ok (.aload_n 0, 1) := by decide +kernel
theorem dX11_table_79 : decode cX11_table 79 = .ok (.iconst 0, 1) := by decide +kernel
theorem dX11_table_80 : decode cX11_table 80 = .ok (.putfield 124, 3) := by decide +kernel
theorem dX11_table_83 : decode cX11_table 83 = .ok (.aload_n 0, 1) := by decide +kernel
theorem dX11_table_84 : decode cX11_table 84 = .ok (.getfield 53, 3) := by decide +kernel
theorem dX11_table_87 : decode cX11_table 87 = .ok (.iconst 0, 1) := by decide +kernel
theorem dX11_table_88 : decode cX11_table 88 = .ok (.iconst 0, 1) := by decide +kernel
theorem dX11_table_89 : decode cX11_table 89 = .ok (.bastore, 1) := by decide +kernel
theorem dX11_table_90 : decode cX11_table 90 = .ok (.aload_n 0, 1) := by decide +kernel
theorem dX11_table_91 : decode cX11_table 91 = .ok (.getfield 53, 3) := by decide +kernel
theorem dX11_table_94 : decode cX11_table 94 = .ok (.iconst 1, 1) := by decide +kernel
theorem dX11_table_95 : decode cX11_table 95 = .ok (.iconst 0, 1) := by decide +kernel
theorem dX11_table_96 : decode cX11_table 96 = .ok (.bastore, 1) := by decide +kernel
theorem dX11_table_97 : decode cX11_table 97 = .ok (.aload_n 0, 1) := by decide +kernel
theorem dX11_table_98 : decode cX11_table 98 = .ok (.getfield 109, 3) := by decide +kernel
theorem dX11_table_101 : decode cX11_table 101 = .ok (.ireturn, 1) := by decide +kernel
theorem dX11_isPerson_0 : decode cX11_isPerson 0 = .ok (.iload_n 1, 1) := by decide +kernel
theorem dX11_isPerson_1 : decode cX11_isPerson 1 = .ok (.i2l, 1) := by decide +kernel
theorem dX11_isPerson_2 : decode cX11_isPerson 2 = .ok (.lconst 0, 1) := by decide +kernel
theorem dX11_isPerson_3 : decode cX11_isPerson 3 = .ok (.aload_n 0, 1) := by decide +kernel
theorem dX11_isPerson_4 : decode cX11_isPerson 4 = .ok (.getfield 109, 3) := by decide +kernel
theorem dX11_isPerson_7 : decode cX11_isPerson 7 = .ok (.iconst 1, 1) := by decide +kernel
theorem dX11_isPerson_8 : decode cX11_isPerson 8 = .ok (.isub, 1) := by decide +kernel
theorem dX11_isPerson_9 : decode cX11_isPerson 9 = .ok (.i2l, 1) := by decide +kernel
theorem dX11_isPerson_10 : decode cX11_isPerson 10 = .ok (.invokestatic 62, 3) := by decide +kernel
theorem dX11_isPerson_13 : decode cX11_isPerson 13 = .ok (.ireturn, 1) := by decide +kernel
theorem dX11_isBarred_0 : decode cX11_isBarred 0 = .ok (.aload_n 0, 1) := by decide +kernel
theorem dX11_isBarred_1 : decode cX11_isBarred 1 = .ok (.getfield 112, 3) := by decide +kernel
theorem dX11_isBarred_4 : decode cX11_isBarred 4 = .ok (.iload_n 1, 1) := by decide +kernel
theorem dX11_isBarred_5 : decode cX11_isBarred 5 = .ok (.ishr, 1) := by decide +kernel
theorem dX11_isBarred_6 : decode cX11_isBarred 6 = .ok (.iconst 1, 1) := by decide +kernel
theorem dX11_isBarred_7 : decode cX11_isBarred 7 = .ok (.iand, 1) := by decide +kernel
theorem dX11_isBarred_8 : decode cX11_isBarred 8 = .ok (.iconst 1, 1) := by decide +kernel
theorem dX11_isBarred_9 : decode cX11_isBarred 9 = .ok (.if_icmp .ne 7, 3) := by decide +kernel
theorem dX11_isBarred_12 : decode cX11_isBarred 12 = .ok (.iconst 1, 1) := by decide +kernel
theorem dX11_isBarred_13 : decode cX11_isBarred 13 = .ok (.goto 4, 3) := by decide +kernel
theorem dX11_isBarred_16 : decode cX11_isBarred 16 = .ok (.iconst 0, 1) := by decide +kernel
theorem dX11_isBarred_17 : decode cX11_isBarred 17 = .ok (.ireturn, 1) := by decide +kernel
theorem dX11_takeSlips_0 : decode cX11_takeSlips 0 = .ok (.aload_n 0, 1) := by decide +kernel
theorem dX11_takeSlips_1 : decode cX11_takeSlips 1 = .ok (.aload_n 0, 1) := by decide +kernel
theorem dX11_takeSlips_2 : decode cX11_takeSlips 2 = .ok (.getfield 109, 3) := by decide +kernel
theorem dX11_takeSlips_5 : decode cX11_takeSlips 5 = .ok (.putfield 127, 3) := by decide +kernel
theorem dX11_takeSlips_8 : decode cX11_takeSlips 8 = .ok (.iconst 0, 1) := by decide +kernel
theorem dX11_takeSlips_9 : decode cX11_takeSlips 9 = .ok (.istore_n 1, 1) := by decide +kernel
theorem dX11_takeSlips_10 : decode cX11_takeSlips 10 = .ok (.iload_n 1, 1) := by decide +kernel
theorem dX11_takeSlips_11 : decode cX11_takeSlips 11 = .ok (.aload_n 0, 1) := by decide +kernel
theorem dX11_takeSlips_12 : decode cX11_takeSlips 12 = .ok (.getfield 109, 3) := by decide +kernel
theorem dX11_takeSlips_15 : decode cX11_takeSlips 15 = .ok (.if_icmp .ge 21, 3) := by decide +kernel
theorem dX11_takeSlips_18 : decode cX11_takeSlips 18 = .ok (.aload_n 0, 1) := by decide +kernel
theorem dX11_takeSlips_19 : decode cX11_takeSlips 19 = .ok (.getfield 19, 3) := by decide +kernel
theorem dX11_takeSlips_22 : decode cX11_takeSlips 22 = .ok (.iload_n 1, 1) := by decide +kernel
theorem dX11_takeSlips_23 : decode cX11_takeSlips 23 = .ok (.aload_n 0, 1) := by decide +kernel
theorem dX11_takeSlips_24 : decode cX11_takeSlips 24 = .ok (.getfield 13, 3) := by decide +kernel
theorem dX11_takeSlips_27 : decode cX11_takeSlips 27 = .ok (.iload_n 1, 1) := by decide +kernel
theorem dX11_takeSlips_28 : decode cX11_takeSlips 28 = .ok (.iaload, 1) := by decide +kernel
theorem dX11_takeSlips_29 : decode cX11_takeSlips 29 = .ok (.iastore, 1) := by decide +kernel
theorem dX11_takeSlips_30 : decode cX11_takeSlips 30 = .ok (.iinc 1 1, 3) := by decide +kernel
theorem dX11_takeSlips_33 : decode cX11_takeSlips 33 = .ok (.goto (-23), 3) := by decide +kernel
theorem dX11_takeSlips_36 : decode cX11_takeSlips 36 = .ok (.return_, 1) := by decide +kernel
theorem dX11_isFine_0 : decode cX11_isFine 0 = .ok (.aload_n 0, 1) := by decide +kernel
theorem dX11_isFine_1 : decode cX11_isFine 1 = .ok (.getfield 115, 3) := by decide +kernel
theorem dX11_isFine_4 : decode cX11_isFine 4 = .ok (.ifCond .ne 16, 3) := by decide +kernel
theorem dX11_isFine_7 : decode cX11_isFine 7 = .ok (.iload_n 2, 1) := by decide +kernel
theorem dX11_isFine_8 : decode cX11_isFine 8 = .ok (.iload_n 1, 1) := by decide +kernel
theorem dX11_isFine_9 : decode cX11_isFine 9 = .ok (.if_icmp .ne 7, 3) := by decide +kernel
theorem dX11_isFine_12 : decode cX11_isFine 12 = .ok (.iconst 1, 1) := by decide +kernel
theorem dX11_isFine_13 : decode cX11_isFine 13 = .ok (.goto 38, 3) := by decide +kernel
theorem dX11_isFine_16 : decode cX11_isFine 16 = .ok (.iconst 0, 1) := by decide +kernel
theorem dX11_isFine_17 : decode cX11_isFine 17 = .ok (.goto 34, 3) := by decide +kernel
theorem dX11_isFine_20 : decode cX11_isFine 20 = .ok (.aload_n 0, 1) := by decide +kernel
theorem dX11_isFine_21 : decode cX11_isFine 21 = .ok (.getfield 115, 3) := by decide +kernel
theorem dX11_isFine_24 : decode cX11_isFine 24 = .ok (.iconst 1, 1) := by decide +kernel
theorem dX11_isFine_25 : decode cX11_isFine 25 = .ok (.if_icmp .ne 16, 3) := by decide +kernel
theorem dX11_isFine_28 : decode cX11_isFine 28 = .ok (.iload_n 2, 1) := by decide +kernel
theorem dX11_isFine_29 : decode cX11_isFine 29 = .ok (.iload_n 1, 1) := by decide +kernel
theorem dX11_isFine_30 : decode cX11_isFine 30 = .ok (.if_icmp .lt 7, 3) := by decide +kernel
theorem dX11_isFine_33 : decode cX11_isFine 33 = .ok (.iconst 1, 1) := by decide +kernel
theorem dX11_isFine_34 : decode cX11_isFine 34 = .ok (.goto 17, 3) := by decide +kernel
theorem dX11_isFine_37 : decode cX11_isFine 37 = .ok (.iconst 0, 1) := by decide +kernel
theorem dX11_isFine_38 : decode cX11_isFine 38 = .ok (.goto 13, 3) := by decide +kernel
theorem dX11_isFine_41 : decode cX11_isFine 41 = .ok (.iload_n 2, 1) := by decide +kernel
theorem dX11_isFine_42 : decode cX11_isFine 42 = .ok (.iload_n 1, 1) := by decide +kernel
theorem dX11_isFine_43 : decode cX11_isFine 43 = .ok (.if_icmp .gt 7, 3) := by decide +kernel
theorem dX11_isFine_46 : decode cX11_isFine 46 = .ok (.iconst 1, 1) := by decide +kernel
theorem dX11_isFine_47 : decode cX11_isFine 47 = .ok (.goto 4, 3) := by decide +kernel
theorem dX11_isFine_50 : decode cX11_isFine 50 = .ok (.iconst 0, 1) := by decide +kernel
theorem dX11_isFine_51 : decode cX11_isFine 51 = .ok (.ireturn, 1) := by decide +kernel
theorem dX11_wroteIn_0 : decode cX11_wroteIn 0 = .ok (.iconst 0, 1) := by decide +kernel
theorem dX11_wroteIn_1 : decode cX11_wroteIn 1 = .ok (.istore_n 2, 1) := by decide +kernel
theorem dX11_wroteIn_2 : decode cX11_wroteIn 2 = .ok (.iconst 0, 1) := by decide +kernel
theorem dX11_wroteIn_3 : decode cX11_wroteIn 3 = .ok (.istore_n 3, 1) := by decide +kernel
theorem dX11_wroteIn_4 : decode cX11_wroteIn 4 = .ok (.iload_n 3, 1) := by decide +kernel
theorem dX11_wroteIn_5 : decode cX11_wroteIn 5 = .ok (.aload_n 0, 1) := by decide +kernel
theorem dX11_wroteIn_6 : decode cX11_wroteIn 6 = .ok (.getfield 127, 3) := by decide +kernel
theorem dX11_wroteIn_9 : decode cX11_wroteIn 9 = .ok (.if_icmp .ge 27, 3) := by decide +kernel
theorem dX11_wroteIn_12 : decode cX11_wroteIn 12 = .ok (.iload_n 2, 1) := by decide +kernel
theorem dX11_wroteIn_13 : decode cX11_wroteIn 13 = .ok (.aload_n 0, 1) := by decide +kernel
theorem dX11_wroteIn_14 : decode cX11_wroteIn 14 = .ok (.getfield 19, 3) := by decide +kernel
theorem dX11_wroteIn_17 : decode cX11_wroteIn 17 = .ok (.iload_n 3, 1) := by decide +kernel
theorem dX11_wroteIn_18 : decode cX11_wroteIn 18 = .ok (.iaload, 1) := by decide +kernel
theorem dX11_wroteIn_19 : decode cX11_wroteIn 19 = .ok (.iload_n 1, 1) := by decide +kernel
theorem dX11_wroteIn_20 : decode cX11_wroteIn 20 = .ok (.if_icmp .ne 7, 3) := by decide +kernel
theorem dX11_wroteIn_23 : decode cX11_wroteIn 23 = .ok (.iconst 1, 1) := by decide +kernel
theorem dX11_wroteIn_24 : decode cX11_wroteIn 24 = .ok (.goto 4, 3) := by decide +kernel
theorem dX11_wroteIn_27 : decode cX11_wroteIn 27 = .ok (.iconst 0, 1) := by decide +kernel
theorem dX11_wroteIn_28 : decode cX11_wroteIn 28 = .ok (.iadd, 1) := by decide +kernel
theorem dX11_wroteIn_29 : decode cX11_wroteIn 29 = .ok (.istore_n 2, 1) := by decide +kernel
theorem dX11_wroteIn_30 : decode cX11_wroteIn 30 = .ok (.iinc 3 1, 3) := by decide +kernel
theorem dX11_wroteIn_33 : decode cX11_wroteIn 33 = .ok (.goto (-29), 3) := by decide +kernel
theorem dX11_wroteIn_36 : decode cX11_wroteIn 36 = .ok (.iload_n 2, 1) := by decide +kernel
theorem dX11_wroteIn_37 : decode cX11_wroteIn 37 = .ok (.ireturn, 1) := by decide +kernel
theorem dX11_isRight_0 : decode cX11_isRight 0 = .ok (.aload_n 0, 1) := by decide +kernel
theorem dX11_isRight_1 : decode cX11_isRight 1 = .ok (.aload_n 0, 1) := by decide +kernel
theorem dX11_isRight_2 : decode cX11_isRight 2 = .ok (.getfield 19, 3) := by decide +kernel
theorem dX11_isRight_5 : decode cX11_isRight 5 = .ok (.iload_n 1, 1) := by decide +kernel
theorem dX11_isRight_6 : decode cX11_isRight 6 = .ok (.iaload, 1) := by decide +kernel
theorem dX11_isRight_7 : decode cX11_isRight 7 = .ok (.aload_n 0, 1) := by decide +kernel
theorem dX11_isRight_8 : decode cX11_isRight 8 = .ok (.aload_n 0, 1) := by decide +kernel
theorem dX11_isRight_9 : decode cX11_isRight 9 = .ok (.getfield 19, 3) := by decide +kernel
theorem dX11_isRight_12 : decode cX11_isRight 12 = .ok (.iload_n 1, 1) := by decide +kernel
theorem dX11_isRight_13 : decode cX11_isRight 13 = .ok (.iaload, 1) := by decide +kernel
theorem dX11_isRight_14 : decode cX11_isRight 14 = .ok (.invokevirtual 130, 3) := by decide +kernel
theorem dX11_isRight_17 : decode cX11_isRight 17 = .ok (.invokevirtual 133, 3) := by decide +kernel
theorem dX11_isRight_20 : decode cX11_isRight 20 = .ok (.ireturn, 1) := by decide +kernel
theorem dX11_getsOf_0 : decode cX11_getsOf 0 = .ok (.aload_n 0, 1) := by decide +kernel
theorem dX11_getsOf_1 : decode cX11_getsOf 1 = .ok (.iload_n 1, 1) := by decide +kernel
theorem dX11_getsOf_2 : decode cX11_getsOf 2 = .ok (.invokevirtual 137, 3) := by decide +kernel
theorem dX11_getsOf_5 : decode cX11_getsOf 5 = .ok (.ifCond .ne 5, 3) := by decide +kernel
theorem dX11_getsOf_8 : decode cX11_getsOf 8 = .ok (.iconst 0, 1) := by decide +kernel
theorem dX11_getsOf_9 : decode cX11_getsOf 9 = .ok (.ireturn, 1) := by decide +kernel
theorem dX11_getsOf_10 : decode cX11_getsOf 10 = .ok (.iconst 0, 1) := by decide +kernel
theorem dX11_getsOf_11 : decode cX11_getsOf 11 = .ok (.istore_n 2, 1) := by decide +kernel
theorem dX11_getsOf_12 : decode cX11_getsOf 12 = .ok (.iconst 0, 1) := by decide +kernel
theorem dX11_getsOf_13 : decode cX11_getsOf 13 = .ok (.istore_n 3, 1) := by decide +kernel
theorem dX11_getsOf_14 : decode cX11_getsOf 14 = .ok (.iconst 0, 1) := by decide +kernel
theorem dX11_getsOf_15 : decode cX11_getsOf 15 = .ok (.istore 4, 2) := by decide +kernel
theorem dX11_getsOf_17 : decode cX11_getsOf 17 = .ok (.iload 4, 2) := by decide +kernel
theorem dX11_getsOf_19 : decode cX11_getsOf 19 = .ok (.aload_n 0, 1) := by decide +kernel
theorem dX11_getsOf_20 : decode cX11_getsOf 20 = .ok (.getfield 127, 3) := by decide +kernel
theorem dX11_getsOf_23 : decode cX11_getsOf 23 = .ok (.if_icmp .ge 49, 3) := by decide +kernel
theorem dX11_getsOf_26 : decode cX11_getsOf 26 = .ok (.iload_n 2, 1) := by decide +kernel
theorem dX11_getsOf_27 : decode cX11_getsOf 27 = .ok (.aload_n 0, 1) := by decide +kernel
theorem dX11_getsOf_28 : decode cX11_getsOf 28 = .ok (.iload 4, 2) := by decide +kernel
theorem dX11_getsOf_30 : decode cX11_getsOf 30 = .ok (.invokevirtual 137, 3) := by decide +kernel
theorem dX11_getsOf_33 : decode cX11_getsOf 33 = .ok (.ifCond .eq 7, 3) := by decide +kernel
theorem dX11_getsOf_36 : decode cX11_getsOf 36 = .ok (.iconst 1, 1) := by decide +kernel
theorem dX11_getsOf_37 : decode cX11_getsOf 37 = .ok (.goto 4, 3) := by decide +kernel
theorem dX11_getsOf_40 : decode cX11_getsOf 40 = .ok (.iconst 0, 1) := by decide +kernel
theorem dX11_getsOf_41 : decode cX11_getsOf 41 = .ok (.iadd, 1) := by decide +kernel
theorem dX11_getsOf_42 : decode cX11_getsOf 42 = .ok (.istore_n 2, 1) := by decide +kernel
theorem dX11_getsOf_43 : decode cX11_getsOf 43 = .ok (.iload_n 3, 1) := by decide +kernel
theorem dX11_getsOf_44 : decode cX11_getsOf 44 = .ok (.aload_n 0, 1) := by decide +kernel
theorem dX11_getsOf_45 : decode cX11_getsOf 45 = .ok (.iload 4, 2) := by decide +kernel
theorem dX11_getsOf_47 : decode cX11_getsOf 47 = .ok (.invokevirtual 137, 3) := by decide +kernel
theorem dX11_getsOf_50 : decode cX11_getsOf 50 = .ok (.ifCond .eq 13, 3) := by decide +kernel
theorem dX11_getsOf_53 : decode cX11_getsOf 53 = .ok (.aload_n 0, 1) := by decide +kernel
theorem dX11_getsOf_54 : decode cX11_getsOf 54 = .ok (.getfield 19, 3) := by decide +kernel
theorem dX11_getsOf_57 : decode cX11_getsOf 57 = .ok (.iload 4, 2) := by decide +kernel
theorem dX11_getsOf_59 : decode cX11_getsOf 59 = .ok (.iaload, 1) := by decide +kernel
theorem dX11_getsOf_60 : decode cX11_getsOf 60 = .ok (.goto 4, 3) := by decide +kernel
theorem dX11_getsOf_63 : decode cX11_getsOf 63 = .ok (.iconst 0, 1) := by decide +kernel
theorem dX11_getsOf_64 : decode cX11_getsOf 64 = .ok (.iadd, 1) := by decide +kernel
theorem dX11_getsOf_65 : decode cX11_getsOf 65 = .ok (.istore_n 3, 1) := by decide +kernel
theorem dX11_getsOf_66 : decode cX11_getsOf 66 = .ok (.iinc 4 1, 3) := by decide +kernel
theorem dX11_getsOf_69 : decode cX11_getsOf 69 = .ok (.goto (-52), 3) := by decide +kernel
theorem dX11_getsOf_72 : decode cX11_getsOf 72 = .ok (.aload_n 0, 1) := by decide +kernel
theorem dX11_getsOf_73 : decode cX11_getsOf 73 = .ok (.getfield 118, 3) := by decide +kernel
theorem dX11_getsOf_76 : decode cX11_getsOf 76 = .ok (.ifCond .ne 12, 3) := by decide +kernel
theorem dX11_getsOf_79 : decode cX11_getsOf 79 = .ok (.aload_n 0, 1) := by decide +kernel
theorem dX11_getsOf_80 : decode cX11_getsOf 80 = .ok (.getfield 121, 3) := by decide +kernel
theorem dX11_getsOf_83 : decode cX11_getsOf 83 = .ok (.iload_n 2, 1) := by decide +kernel
theorem dX11_getsOf_84 : decode cX11_getsOf 84 = .ok (.idiv, 1) := by decide +kernel
theorem dX11_getsOf_85 : decode cX11_getsOf 85 = .ok (.goto 24, 3) := by decide +kernel
theorem dX11_getsOf_88 : decode cX11_getsOf 88 = .ok (.iload_n 3, 1) := by decide +kernel
theorem dX11_getsOf_89 : decode cX11_getsOf 89 = .ok (.ifCond .ne 7, 3) := by decide +kernel
theorem dX11_getsOf_92 : decode cX11_getsOf 92 = .ok (.iconst 0, 1) := by decide +kernel
theorem dX11_getsOf_93 : decode cX11_getsOf 93 = .ok (.goto 16, 3) := by decide +kernel
theorem dX11_getsOf_96 : decode cX11_getsOf 96 = .ok (.aload_n 0, 1) := by decide +kernel
theorem dX11_getsOf_97 : decode cX11_getsOf 97 = .ok (.getfield 121, 3) := by decide +kernel
theorem dX11_getsOf_100 : decode cX11_getsOf 100 = .ok (.aload_n 0, 1) := by decide +kernel
theorem dX11_getsOf_101 : decode cX11_getsOf 101 = .ok (.getfield 19, 3) := by decide +kernel
theorem dX11_getsOf_104 : decode cX11_getsOf 104 = .ok (.iload_n 1, 1) := by decide +kernel
theorem dX11_getsOf_105 : decode cX11_getsOf 105 = .ok (.iaload, 1) := by decide +kernel
theorem dX11_getsOf_106 : decode cX11_getsOf 106 = .ok (.imul, 1) := by decide +kernel
theorem dX11_getsOf_107 : decode cX11_getsOf 107 = .ok (.iload_n 3, 1) := by decide +kernel
theorem dX11_getsOf_108 : decode cX11_getsOf 108 = .ok (.idiv, 1) := by decide +kernel
theorem dX11_getsOf_109 : decode cX11_getsOf 109 = .ok (.ireturn, 1) := by decide +kernel
theorem dX11_wantOf_0 : decode cX11_wantOf 0 = .ok (.aload_n 0, 1) := by decide +kernel
theorem dX11_wantOf_1 : decode cX11_wantOf 1 = .ok (.getfield 19, 3) := by decide +kernel
theorem dX11_wantOf_4 : decode cX11_wantOf 4 = .ok (.iload_n 1, 1) := by decide +kernel
theorem dX11_wantOf_5 : decode cX11_wantOf 5 = .ok (.iaload, 1) := by decide +kernel
theorem dX11_wantOf_6 : decode cX11_wantOf 6 = .ok (.istore_n 2, 1) := by decide +kernel
theorem dX11_wantOf_7 : decode cX11_wantOf 7 = .ok (.iload_n 2, 1) := by decide +kernel
theorem dX11_wantOf_8 : decode cX11_wantOf 8 = .ok (.istore_n 3, 1) := by decide +kernel
theorem dX11_wantOf_9 : decode cX11_wantOf 9 = .ok (.aload_n 0, 1) := by decide +kernel
theorem dX11_wantOf_10 : decode cX11_wantOf 10 = .ok (.iload_n 1, 1) := by decide +kernel
theorem dX11_wantOf_11 : decode cX11_wantOf 11 = .ok (.invokevirtual 141, 3) := by decide +kernel
theorem dX11_wantOf_14 : decode cX11_wantOf 14 = .ok (.istore 4, 2) := by decide +kernel
theorem dX11_wantOf_16 : decode cX11_wantOf 16 = .ok (.iconst 0, 1) := by decide +kernel
theorem dX11_wantOf_17 : decode cX11_wantOf 17 = .ok (.istore 5, 2) := by decide +kernel
theorem dX11_wantOf_19 : decode cX11_wantOf 19 = .ok (.iload 5, 2) := by decide +kernel
theorem dX11_wantOf_21 : decode cX11_wantOf 21 = .ok (.bipush 10, 2) := by decide +kernel
theorem dX11_wantOf_23 : decode cX11_wantOf 23 = .ok (.if_icmp .ge 63, 3) := by decide +kernel
theorem dX11_wantOf_26 : decode cX11_wantOf 26 = .ok (.aload_n 0, 1) := by decide +kernel
theorem dX11_wantOf_27 : decode cX11_wantOf 27 = .ok (.iload 5, 2) := by decide +kernel
theorem dX11_wantOf_29 : decode cX11_wantOf 29 = .ok (.invokevirtual 144, 3) := by decide +kernel
theorem dX11_wantOf_32 : decode cX11_wantOf 32 = .ok (.ifCond .ne 48, 3) := by decide +kernel
theorem dX11_wantOf_35 : decode cX11_wantOf 35 = .ok (.aload_n 0, 1) := by decide +kernel
theorem dX11_wantOf_36 : decode cX11_wantOf 36 = .ok (.getfield 19, 3) := by decide +kernel
theorem dX11_wantOf_39 : decode cX11_wantOf 39 = .ok (.iload_n 1, 1) := by decide +kernel
theorem dX11_wantOf_40 : decode cX11_wantOf 40 = .ok (.iload 5, 2) := by decide +kernel
theorem dX11_wantOf_42 : decode cX11_wantOf 42 = .ok (.iastore, 1) := by decide +kernel
theorem dX11_wantOf_43 : decode cX11_wantOf 43 = .ok (.aload_n 0, 1) := by decide +kernel
theorem dX11_wantOf_44 : decode cX11_wantOf 44 = .ok (.iload_n 1, 1) := by decide +kernel
theorem dX11_wantOf_45 : decode cX11_wantOf 45 = .ok (.invokevirtual 141, 3) := by decide +kernel
theorem dX11_wantOf_48 : decode cX11_wantOf 48 = .ok (.istore 6, 2) := by decide +kernel
theorem dX11_wantOf_50 : decode cX11_wantOf 50 = .ok (.iload 6, 2) := by decide +kernel
theorem dX11_wantOf_52 : decode cX11_wantOf 52 = .ok (.iload 4, 2) := by decide +kernel
theorem dX11_wantOf_54 : decode cX11_wantOf 54 = .ok (.if_icmp .le 8, 3) := by decide +kernel
theorem dX11_wantOf_57 : decode cX11_wantOf 57 = .ok (.iload 5, 2) := by decide +kernel
theorem dX11_wantOf_59 : decode cX11_wantOf 59 = .ok (.goto 4, 3) := by decide +kernel
theorem dX11_wantOf_62 : decode cX11_wantOf 62 = .ok (.iload_n 3, 1) := by decide +kernel
theorem dX11_wantOf_63 : decode cX11_wantOf 63 = .ok (.istore_n 3, 1) := by decide +kernel
theorem dX11_wantOf_64 : decode cX11_wantOf 64 = .ok (.iload 6, 2) := by decide +kernel
theorem dX11_wantOf_66 : decode cX11_wantOf 66 = .ok (.iload 4, 2) := by decide +kernel
theorem dX11_wantOf_68 : decode cX11_wantOf 68 = .ok (.if_icmp .le 8, 3) := by decide +kernel
theorem dX11_wantOf_71 : decode cX11_wantOf 71 = .ok (.iload 6, 2) := by decide +kernel
theorem dX11_wantOf_73 : decode cX11_wantOf 73 = .ok (.goto 5, 3) := by decide +kernel
theorem dX11_wantOf_76 : decode cX11_wantOf 76 = .ok (.iload 4, 2) := by decide +kernel
theorem dX11_wantOf_78 : decode cX11_wantOf 78 = .ok (.istore 4, 2) := by decide +kernel
theorem dX11_wantOf_80 : decode cX11_wantOf 80 = .ok (.iinc 5 1, 3) := by decide +kernel
theorem dX11_wantOf_83 : decode cX11_wantOf 83 = .ok (.goto (-64), 3) := by decide +kernel
theorem dX11_wantOf_86 : decode cX11_wantOf 86 = .ok (.aload_n 0, 1) := by decide +kernel
theorem dX11_wantOf_87 : decode cX11_wantOf 87 = .ok (.getfield 19, 3) := by decide +kernel
theorem dX11_wantOf_90 : decode cX11_wantOf 90 = .ok (.iload_n 1, 1) := by decide +kernel
theorem dX11_wantOf_91 : decode cX11_wantOf 91 = .ok (.iload_n 2, 1) := by decide +kernel
theorem dX11_wantOf_92 : decode cX11_wantOf 92 = .ok (.iastore, 1) := by decide +kernel
theorem dX11_wantOf_93 : decode cX11_wantOf 93 = .ok (.iload_n 3, 1) := by decide +kernel
theorem dX11_wantOf_94 : decode cX11_wantOf 94 = .ok (.ireturn, 1) := by decide +kernel
theorem dX11_person_0 : decode cX11_person 0 = .ok (.aload_n 0, 1) := by decide +kernel
theorem dX11_person_1 : decode cX11_person 1 = .ok (.iload_n 1, 1) := by decide +kernel
theorem dX11_person_2 : decode cX11_person 2 = .ok (.invokevirtual 147, 3) := by decide +kernel
theorem dX11_person_5 : decode cX11_person 5 = .ok (.ifCond .ne 5, 3) := by decide +kernel
theorem dX11_person_8 : decode cX11_person 8 = .ok (.iconst (-1), 1) := by decide +kernel
theorem dX11_person_9 : decode cX11_person 9 = .ok (.ireturn, 1) := by decide +kernel
theorem dX11_person_10 : decode cX11_person 10 = .ok (.aload_n 0, 1) := by decide +kernel
theorem dX11_person_11 : decode cX11_person 11 = .ok (.invokevirtual 150, 3) := by decide +kernel
theorem dX11_person_14 : decode cX11_person 14 = .ok (.iload_n 2, 1) := by decide +kernel
theorem dX11_person_15 : decode cX11_person 15 = .ok (.tableswitch 62 0 3 #[29, 36, 50, 56], 29) := by decide +kernel
theorem dX11_person_44 : decode cX11_person 44 = .ok (.aload_n 0, 1) := by decide +kernel
theorem dX11_person_45 : decode cX11_person 45 = .ok (.getfield 13, 3) := by decide +kernel
theorem dX11_person_48 : decode cX11_person 48 = .ok (.iload_n 1, 1) := by decide +kernel
theorem dX11_person_49 : decode cX11_person 49 = .ok (.iaload, 1) := by decide +kernel
theorem dX11_person_50 : decode cX11_person 50 = .ok (.ireturn, 1) := by decide +kernel
theorem dX11_person_51 : decode cX11_person 51 = .ok (.aload_n 0, 1) := by decide +kernel
theorem dX11_person_52 : decode cX11_person 52 = .ok (.iload_n 1, 1) := by decide +kernel
theorem dX11_person_53 : decode cX11_person 53 = .ok (.invokevirtual 137, 3) := by decide +kernel
theorem dX11_person_56 : decode cX11_person 56 = .ok (.ifCond .eq 7, 3) := by decide +kernel
theorem dX11_person_59 : decode cX11_person 59 = .ok (.iconst 1, 1) := by decide +kernel
theorem dX11_person_60 : decode cX11_person 60 = .ok (.goto 4, 3) := by decide +kernel
theorem dX11_person_63 : decode cX11_person 63 = .ok (.iconst 0, 1) := by decide +kernel
theorem dX11_person_64 : decode cX11_person 64 = .ok (.ireturn, 1) := by decide +kernel
theorem dX11_person_65 : decode cX11_person 65 = .ok (.aload_n 0, 1) := by decide +kernel
theorem dX11_person_66 : decode cX11_person 66 = .ok (.iload_n 1, 1) := by decide +kernel
theorem dX11_person_67 : decode cX11_person 67 = .ok (.invokevirtual 141, 3) := by decide +kernel
theorem dX11_person_70 : decode cX11_person 70 = .ok (.ireturn, 1) := by decide +kernel
theorem dX11_person_71 : decode cX11_person 71 = .ok (.aload_n 0, 1) := by decide +kernel
theorem dX11_person_72 : decode cX11_person 72 = .ok (.iload_n 1, 1) := by decide +kernel
theorem dX11_person_73 : decode cX11_person 73 = .ok (.invokevirtual 153, 3) := by decide +kernel
theorem dX11_person_76 : decode cX11_person 76 = .ok (.ireturn, 1) := by decide +kernel
theorem dX11_person_77 : decode cX11_person 77 = .ok (.bipush (-2), 2) := by decide +kernel
theorem dX11_person_79 : decode cX11_person 79 = .ok (.ireturn, 1) := by decide +kernel
theorem dX11_wrote_0 : decode cX11_wrote 0 = .ok (.iload_n 1, 1) := by decide +kernel
theorem dX11_wrote_1 : decode cX11_wrote 1 = .ok (.i2l, 1) := by decide +kernel
theorem dX11_wrote_2 : decode cX11_wrote 2 = .ok (.lconst 0, 1) := by decide +kernel
theorem dX11_wrote_3 : decode cX11_wrote 3 = .ok (.ldc2_w 78, 3) := by decide +kernel
theorem dX11_wrote_6 : decode cX11_wrote 6 = .ok (.invokestatic 62, 3) := by decide +kernel
theorem dX11_wrote_9 : decode cX11_wrote 9 = .ok (.ifCond .ne 6, 3) := by decide +kernel
theorem dX11_wrote_12 : decode cX11_wrote 12 = .ok (.bipush (-2), 2) := by decide +kernel
theorem dX11_wrote_14 : decode cX11_wrote 14 = .ok (.ireturn, 1) := by decide +kernel
theorem dX11_wrote_15 : decode cX11_wrote 15 = .ok (.aload_n 0, 1) := by decide +kernel
theorem dX11_wrote_16 : decode cX11_wrote 16 = .ok (.invokevirtual 150, 3) := by decide +kernel
theorem dX11_wrote_19 : decode cX11_wrote 19 = .ok (.aload_n 0, 1) := by decide +kernel
theorem dX11_wrote_20 : decode cX11_wrote 20 = .ok (.iload_n 1, 1) := by decide +kernel
theorem dX11_wrote_21 : decode cX11_wrote 21 = .ok (.invokevirtual 130, 3) := by decide +kernel
theorem dX11_wrote_24 : decode cX11_wrote 24 = .ok (.ireturn, 1) := by decide +kernel
theorem dX11_keepAct_0 : decode cX11_keepAct 0 = .ok (.iconst 0, 1) := by decide +kernel
theorem dX11_keepAct_1 : decode cX11_keepAct 1 = .ok (.istore_n 1, 1) := by decide +kernel
theorem dX11_keepAct_2 : decode cX11_keepAct 2 = .ok (.iload_n 1, 1) := by decide +kernel
theorem dX11_keepAct_3 : decode cX11_keepAct 3 = .ok (.bipush 9, 2) := by decide +kernel
theorem dX11_keepAct_5 : decode cX11_keepAct 5 = .ok (.if_icmp .ge 29, 3) := by decide +kernel
theorem dX11_keepAct_8 : decode cX11_keepAct 8 = .ok (.aload_n 0, 1) := by decide +kernel
theorem dX11_keepAct_9 : decode cX11_keepAct 9 = .ok (.getfield 22, 3) := by decide +kernel
theorem dX11_keepAct_12 : decode cX11_keepAct 12 = .ok (.bipush 10, 2) := by decide +kernel
theorem dX11_keepAct_14 : decode cX11_keepAct 14 = .ok (.aload_n 0, 1) := by decide +kernel
theorem dX11_keepAct_15 : decode cX11_keepAct 15 = .ok (.getfield 156, 3) := by decide +kernel
theorem dX11_keepAct_18 : decode cX11_keepAct 18 = .ok (.imul, 1) := by decide +kernel
theorem dX11_keepAct_19 : decode cX11_keepAct 19 = .ok (.iload_n 1, 1) := by decide +kernel
theorem dX11_keepAct_20 : decode cX11_keepAct 20 = .ok (.iadd, 1) := by decide +kernel
theorem dX11_keepAct_21 : decode cX11_keepAct 21 = .ok (.aload_n 0, 1) := by decide +kernel
theorem dX11_keepAct_22 : decode cX11_keepAct 22 = .ok (.getfield 13, 3) := by decide +kernel
theorem dX11_keepAct_25 : decode cX11_keepAct 25 = .ok (.iload_n 1, 1) := by decide +kernel
theorem dX11_keepAct_26 : decode cX11_keepAct 26 = .ok (.iaload, 1) := by decide +kernel
theorem dX11_keepAct_27 : decode cX11_keepAct 27 = .ok (.iastore, 1) := by decide +kernel
theorem dX11_keepAct_28 : decode cX11_keepAct 28 = .ok (.iinc 1 1, 3) := by decide +kernel
theorem dX11_keepAct_31 : decode cX11_keepAct 31 = .ok (.goto (-29), 3) := by decide +kernel
theorem dX11_keepAct_34 : decode cX11_keepAct 34 = .ok (.aload_n 0, 1) := by decide +kernel
theorem dX11_keepAct_35 : decode cX11_keepAct 35 = .ok (.getfield 22, 3) := by decide +kernel
theorem dX11_keepAct_38 : decode cX11_keepAct 38 = .ok (.bipush 10, 2) := by decide +kernel
theorem dX11_keepAct_40 : decode cX11_keepAct 40 = .ok (.aload_n 0, 1) := by decide +kernel
theorem dX11_keepAct_41 : decode cX11_keepAct 41 = .ok (.getfield 156, 3) := by decide +kernel
theorem dX11_keepAct_44 : decode cX11_keepAct 44 = .ok (.imul, 1) := by decide +kernel
theorem dX11_keepAct_45 : decode cX11_keepAct 45 = .ok (.bipush 9, 2) := by decide +kernel
theorem dX11_keepAct_47 : decode cX11_keepAct 47 = .ok (.iadd, 1) := by decide +kernel
theorem dX11_keepAct_48 : decode cX11_keepAct 48 = .ok (.aload_n 0, 1) := by decide +kernel
theorem dX11_keepAct_49 : decode cX11_keepAct 49 = .ok (.getfield 109, 3) := by decide +kernel
theorem dX11_keepAct_52 : decode cX11_keepAct 52 = .ok (.iastore, 1) := by decide +kernel
theorem dX11_keepAct_53 : decode cX11_keepAct 53 = .ok (.aload_n 0, 1) := by decide +kernel
theorem dX11_keepAct_54 : decode cX11_keepAct 54 = .ok (.aload_n 0, 1) := by decide +kernel
theorem dX11_keepAct_55 : decode cX11_keepAct 55 = .ok (.getfield 156, 3) := by decide +kernel
theorem dX11_keepAct_58 : decode cX11_keepAct 58 = .ok (.iconst 1, 1) := by decide +kernel
theorem dX11_keepAct_59 : decode cX11_keepAct 59 = .ok (.iadd, 1) := by decide +kernel
theorem dX11_keepAct_60 : decode cX11_keepAct 60 = .ok (.bipush 16, 2) := by decide +kernel
theorem dX11_keepAct_62 : decode cX11_keepAct 62 = .ok (.irem, 1) := by decide +kernel
theorem dX11_keepAct_63 : decode cX11_keepAct 63 = .ok (.putfield 156, 3) := by decide +kernel
theorem dX11_keepAct_66 : decode cX11_keepAct 66 = .ok (.aload_n 0, 1) := by decide +kernel
theorem dX11_keepAct_67 : decode cX11_keepAct 67 = .ok (.aload_n 0, 1) := by decide +kernel
theorem dX11_keepAct_68 : decode cX11_keepAct 68 = .ok (.getfield 124, 3) := by decide +kernel
theorem dX11_keepAct_71 : decode cX11_keepAct 71 = .ok (.bipush 16, 2) := by decide +kernel
theorem dX11_keepAct_73 : decode cX11_keepAct 73 = .ok (.if_icmp .ge 12, 3) := by decide +kernel
theorem dX11_keepAct_76 : decode cX11_keepAct 76 = .ok (.aload_n 0, 1) := by decide +kernel
theorem dX11_keepAct_77 : decode cX11_keepAct 77 = .ok (.getfield 124, 3) := by decide +kernel
theorem dX11_keepAct_80 : decode cX11_keepAct 80 = .ok (.iconst 1, 1) := by decide +kernel
theorem dX11_keepAct_81 : decode cX11_keepAct 81 = .ok (.iadd, 1) := by decide +kernel
theorem dX11_keepAct_82 : decode cX11_keepAct 82 = .ok (.goto 5, 3) := by decide +kernel
theorem dX11_keepAct_85 : decode cX11_keepAct 85 = .ok (.bipush 16, 2) := by decide +kernel
theorem dX11_keepAct_87 : decode cX11_keepAct 87 = .ok (.putfield 124, 3) := by decide +kernel
theorem dX11_keepAct_90 : decode cX11_keepAct 90 = .ok (.return_, 1) := by decide +kernel
theorem dX11_slip_0 : decode cX11_slip 0 = .ok (.aload_n 0, 1) := by decide +kernel
theorem dX11_slip_1 : decode cX11_slip 1 = .ok (.iload_n 1, 1) := by decide +kernel
theorem dX11_slip_2 : decode cX11_slip 2 = .ok (.invokevirtual 147, 3) := by decide +kernel
theorem dX11_slip_5 : decode cX11_slip 5 = .ok (.ifCond .ne 5, 3) := by decide +kernel
theorem dX11_slip_8 : decode cX11_slip 8 = .ok (.iconst (-1), 1) := by decide +kernel
theorem dX11_slip_9 : decode cX11_slip 9 = .ok (.ireturn, 1) := by decide +kernel
theorem dX11_slip_10 : decode cX11_slip 10 = .ok (.iload_n 2, 1) := by decide +kernel
theorem dX11_slip_11 : decode cX11_slip 11 = .ok (.i2l, 1) := by decide +kernel
theorem dX11_slip_12 : decode cX11_slip 12 = .ok (.lconst 0, 1) := by decide +kernel
theorem dX11_slip_13 : decode cX11_slip 13 = .ok (.ldc2_w 78, 3) := by decide +kernel
theorem dX11_slip_16 : decode cX11_slip 16 = .ok (.invokestatic 62, 3) := by decide +kernel
theorem dX11_slip_19 : decode cX11_slip 19 = .ok (.ifCond .ne 6, 3) := by decide +kernel
theorem dX11_slip_22 : decode cX11_slip 22 = .ok (.bipush (-2), 2) := by decide +kernel
theorem dX11_slip_24 : decode cX11_slip 24 = .ok (.ireturn, 1) := by decide +kernel
theorem dX11_slip_25 : decode cX11_slip 25 = .ok (.aload_n 0, 1) := by decide +kernel
theorem dX11_slip_26 : decode cX11_slip 26 = .ok (.iload_n 2, 1) := by decide +kernel
theorem dX11_slip_27 : decode cX11_slip 27 = .ok (.invokevirtual 144, 3) := by decide +kernel
theorem dX11_slip_30 : decode cX11_slip 30 = .ok (.ifCond .eq 6, 3) := by decide +kernel
theorem dX11_slip_33 : decode cX11_slip 33 = .ok (.bipush (-3), 2) := by decide +kernel
theorem dX11_slip_35 : decode cX11_slip 35 = .ok (.ireturn, 1) := by decide +kernel
theorem dX11_slip_36 : decode cX11_slip 36 = .ok (.aload_n 0, 1) := by decide +kernel
theorem dX11_slip_37 : decode cX11_slip 37 = .ok (.invokevirtual 159, 3) := by decide +kernel
theorem dX11_slip_40 : decode cX11_slip 40 = .ok (.aload_n 0, 1) := by decide +kernel
theorem dX11_slip_41 : decode cX11_slip 41 = .ok (.getfield 13, 3) := by decide +kernel
theorem dX11_slip_44 : decode cX11_slip 44 = .ok (.iload_n 1, 1) := by decide +kernel
theorem dX11_slip_45 : decode cX11_slip 45 = .ok (.iaload, 1) := by decide +kernel
theorem dX11_slip_46 : decode cX11_slip 46 = .ok (.istore_n 3, 1) := by decide +kernel
theorem dX11_slip_47 : decode cX11_slip 47 = .ok (.aload_n 0, 1) := by decide +kernel
theorem dX11_slip_48 : decode cX11_slip 48 = .ok (.getfield 13, 3) := by decide +kernel
theorem dX11_slip_51 : decode cX11_slip 51 = .ok (.iload_n 1, 1) := by decide +kernel
theorem dX11_slip_52 : decode cX11_slip 52 = .ok (.iload_n 2, 1) := by decide +kernel
theorem dX11_slip_53 : decode cX11_slip 53 = .ok (.iastore, 1) := by decide +kernel
theorem dX11_slip_54 : decode cX11_slip 54 = .ok (.iload_n 3, 1) := by decide +kernel
theorem dX11_slip_55 : decode cX11_slip 55 = .ok (.ireturn, 1) := by decide +kernel
theorem dX11_come_0 : decode cX11_come 0 = .ok (.iload_n 1, 1) := by decide +kernel
theorem dX11_come_1 : decode cX11_come 1 = .ok (.i2l, 1) := by decide +kernel
theorem dX11_come_2 : decode cX11_come 2 = .ok (.lconst 0, 1) := by decide +kernel
theorem dX11_come_3 : decode cX11_come 3 = .ok (.ldc2_w 78, 3) := by decide +kernel
theorem dX11_come_6 : decode cX11_come 6 = .ok (.invokestatic 62, 3) := by decide +kernel
theorem dX11_come_9 : decode cX11_come 9 = .ok (.ifCond .ne 6, 3) := by decide +kernel
theorem dX11_come_12 : decode cX11_come 12 = .ok (.bipush (-2), 2) := by decide +kernel
theorem dX11_come_14 : decode cX11_come 14 = .ok (.ireturn, 1) := by decide +kernel
theorem dX11_come_15 : decode cX11_come 15 = .ok (.aload_n 0, 1) := by decide +kernel
theorem dX11_come_16 : decode cX11_come 16 = .ok (.iload_n 1, 1) := by decide +kernel
theorem dX11_come_17 : decode cX11_come 17 = .ok (.invokevirtual 144, 3) := by decide +kernel
theorem dX11_come_20 : decode cX11_come 20 = .ok (.ifCond .eq 6, 3) := by decide +kernel
theorem dX11_come_23 : decode cX11_come 23 = .ok (.bipush (-3), 2) := by decide +kernel
theorem dX11_come_25 : decode cX11_come 25 = .ok (.ireturn, 1) := by decide +kernel
theorem dX11_come_26 : decode cX11_come 26 = .ok (.aload_n 0, 1) := by decide +kernel
theorem dX11_come_27 : decode cX11_come 27 = .ok (.getfield 109, 3) := by decide +kernel
theorem dX11_come_30 : decode cX11_come 30 = .ok (.bipush 9, 2) := by decide +kernel
theorem dX11_come_32 : decode cX11_come 32 = .ok (.if_icmp .ne 6, 3) := by decide +kernel
theorem dX11_come_35 : decode cX11_come 35 = .ok (.bipush (-4), 2) := by decide +kernel
theorem dX11_come_37 : decode cX11_come 37 = .ok (.ireturn, 1) := by decide +kernel
theorem dX11_come_38 : decode cX11_come 38 = .ok (.aload_n 0, 1) := by decide +kernel
theorem dX11_come_39 : decode cX11_come 39 = .ok (.invokevirtual 159, 3) := by decide +kernel
theorem dX11_come_42 : decode cX11_come 42 = .ok (.aload_n 0, 1) := by decide +kernel
theorem dX11_come_43 : decode cX11_come 43 = .ok (.getfield 13, 3) := by decide +kernel
theorem dX11_come_46 : decode cX11_come 46 = .ok (.aload_n 0, 1) := by decide +kernel
theorem dX11_come_47 : decode cX11_come 47 = .ok (.getfield 109, 3) := by decide +kernel
theorem dX11_come_50 : decode cX11_come 50 = .ok (.iload_n 1, 1) := by decide +kernel
theorem dX11_come_51 : decode cX11_come 51 = .ok (.iastore, 1) := by decide +kernel
theorem dX11_come_52 : decode cX11_come 52 = .ok (.aload_n 0, 1) := by decide +kernel
theorem dX11_come_53 : decode cX11_come 53 = .ok (.dup, 1) := by decide +kernel
theorem dX11_come_54 : decode cX11_come 54 = .ok (.getfield 109, 3) := by decide +kernel
theorem dX11_come_57 : decode cX11_come 57 = .ok (.iconst 1, 1) := by decide +kernel
theorem dX11_come_58 : decode cX11_come 58 = .ok (.iadd, 1) := by decide +kernel
theorem dX11_come_59 : decode cX11_come 59 = .ok (.putfield 109, 3) := by decide +kernel
theorem dX11_come_62 : decode cX11_come 62 = .ok (.aload_n 0, 1) := by decide +kernel
theorem dX11_come_63 : decode cX11_come 63 = .ok (.getfield 109, 3) := by decide +kernel
theorem dX11_come_66 : decode cX11_come 66 = .ok (.iconst 1, 1) := by decide +kernel
theorem dX11_come_67 : decode cX11_come 67 = .ok (.isub, 1) := by decide +kernel
theorem dX11_come_68 : decode cX11_come 68 = .ok (.ireturn, 1) := by decide +kernel
theorem dX11_leave_0 : decode cX11_leave 0 = .ok (.aload_n 0, 1) := by decide +kernel
theorem dX11_leave_1 : decode cX11_leave 1 = .ok (.iload_n 1, 1) := by decide +kernel
theorem dX11_leave_2 : decode cX11_leave 2 = .ok (.invokevirtual 147, 3) := by decide +kernel
theorem dX11_leave_5 : decode cX11_leave 5 = .ok (.ifCond .ne 5, 3) := by decide +kernel
theorem dX11_leave_8 : decode cX11_leave 8 = .ok (.iconst (-1), 1) := by decide +kernel
theorem dX11_leave_9 : decode cX11_leave 9 = .ok (.ireturn, 1) := by decide +kernel
theorem dX11_leave_10 : decode cX11_leave 10 = .ok (.aload_n 0, 1) := by decide +kernel
theorem dX11_leave_11 : decode cX11_leave 11 = .ok (.invokevirtual 159, 3) := by decide +kernel
theorem dX11_leave_14 : decode cX11_leave 14 = .ok (.aload_n 0, 1) := by decide +kernel
theorem dX11_leave_15 : decode cX11_leave 15 = .ok (.getfield 13, 3) := by decide +kernel
theorem dX11_leave_18 : decode cX11_leave 18 = .ok (.iload_n 1, 1) := by decide +kernel
theorem dX11_leave_19 : decode cX11_leave 19 = .ok (.iaload, 1) := by decide +kernel
theorem dX11_leave_20 : decode cX11_leave 20 = .ok (.istore_n 2, 1) := by decide +kernel
theorem dX11_leave_21 : decode cX11_leave 21 = .ok (.aload_n 0, 1) := by decide +kernel
theorem dX11_leave_22 : decode cX11_leave 22 = .ok (.dup, 1) := by decide +kernel
theorem dX11_leave_23 : decode cX11_leave 23 = .ok (.getfield 109, 3) := by decide +kernel
theorem dX11_leave_26 : decode cX11_leave 26 = .ok (.iconst 1, 1) := by decide +kernel
theorem dX11_leave_27 : decode cX11_leave 27 = .ok (.isub, 1) := by decide +kernel
theorem dX11_leave_28 : decode cX11_leave 28 = .ok (.putfield 109, 3) := by decide +kernel
theorem dX11_leave_31 : decode cX11_leave 31 = .ok (.iload_n 1, 1) := by decide +kernel
theorem dX11_leave_32 : decode cX11_leave 32 = .ok (.istore_n 3, 1) := by decide +kernel
theorem dX11_leave_33 : decode cX11_leave 33 = .ok (.iload_n 3, 1) := by decide +kernel
theorem dX11_leave_34 : decode cX11_leave 34 = .ok (.aload_n 0, 1) := by decide +kernel
theorem dX11_leave_35 : decode cX11_leave 35 = .ok (.getfield 109, 3) := by decide +kernel
theorem dX11_leave_38 : decode cX11_leave 38 = .ok (.if_icmp .ge 23, 3) := by decide +kernel
theorem dX11_leave_41 : decode cX11_leave 41 = .ok (.aload_n 0, 1) := by decide +kernel
theorem dX11_leave_42 : decode cX11_leave 42 = .ok (.getfield 13, 3) := by decide +kernel
theorem dX11_leave_45 : decode cX11_leave 45 = .ok (.iload_n 3, 1) := by decide +kernel
theorem dX11_leave_46 : decode cX11_leave 46 = .ok (.aload_n 0, 1) := by decide +kernel
theorem dX11_leave_47 : decode cX11_leave 47 = .ok (.getfield 13, 3) := by decide +kernel
theorem dX11_leave_50 : decode cX11_leave 50 = .ok (.iload_n 3, 1) := by decide +kernel
theorem dX11_leave_51 : decode cX11_leave 51 = .ok (.iconst 1, 1) := by decide +kernel
theorem dX11_leave_52 : decode cX11_leave 52 = .ok (.iadd, 1) := by decide +kernel
theorem dX11_leave_53 : decode cX11_leave 53 = .ok (.iaload, 1) := by decide +kernel
theorem dX11_leave_54 : decode cX11_leave 54 = .ok (.iastore, 1) := by decide +kernel
theorem dX11_leave_55 : decode cX11_leave 55 = .ok (.iinc 3 1, 3) := by decide +kernel
theorem dX11_leave_58 : decode cX11_leave 58 = .ok (.goto (-25), 3) := by decide +kernel
theorem dX11_leave_61 : decode cX11_leave 61 = .ok (.iload_n 2, 1) := by decide +kernel
theorem dX11_leave_62 : decode cX11_leave 62 = .ok (.ireturn, 1) := by decide +kernel
theorem dX11_goRound_0 : decode cX11_goRound 0 = .ok (.iconst 0, 1) := by decide +kernel
theorem dX11_goRound_1 : decode cX11_goRound 1 = .ok (.istore_n 1, 1) := by decide +kernel
theorem dX11_goRound_2 : decode cX11_goRound 2 = .ok (.iconst 0, 1) := by decide +kernel
theorem dX11_goRound_3 : decode cX11_goRound 3 = .ok (.istore_n 2, 1) := by decide +kernel
theorem dX11_goRound_4 : decode cX11_goRound 4 = .ok (.iload_n 2, 1) := by decide +kernel
theorem dX11_goRound_5 : decode cX11_goRound 5 = .ok (.aload_n 0, 1) := by decide +kernel
theorem dX11_goRound_6 : decode cX11_goRound 6 = .ok (.getfield 127, 3) := by decide +kernel
theorem dX11_goRound_9 : decode cX11_goRound 9 = .ok (.if_icmp .ge 63, 3) := by decide +kernel
theorem dX11_goRound_12 : decode cX11_goRound 12 = .ok (.aload_n 0, 1) := by decide +kernel
theorem dX11_goRound_13 : decode cX11_goRound 13 = .ok (.getfield 25, 3) := by decide +kernel
theorem dX11_goRound_16 : decode cX11_goRound 16 = .ok (.iload_n 2, 1) := by decide +kernel
theorem dX11_goRound_17 : decode cX11_goRound 17 = .ok (.aload_n 0, 1) := by decide +kernel
theorem dX11_goRound_18 : decode cX11_goRound 18 = .ok (.getfield 19, 3) := by decide +kernel
theorem dX11_goRound_21 : decode cX11_goRound 21 = .ok (.iload_n 2, 1) := by decide +kernel
theorem dX11_goRound_22 : decode cX11_goRound 22 = .ok (.iaload, 1) := by decide +kernel
theorem dX11_goRound_23 : decode cX11_goRound 23 = .ok (.iastore, 1) := by decide +kernel
theorem dX11_goRound_24 : decode cX11_goRound 24 = .ok (.aload_n 0, 1) := by decide +kernel
theorem dX11_goRound_25 : decode cX11_goRound 25 = .ok (.iload_n 2, 1) := by decide +kernel
theorem dX11_goRound_26 : decode cX11_goRound 26 = .ok (.invokevirtual 137, 3) := by decide +kernel
theorem dX11_goRound_29 : decode cX11_goRound 29 = .ok (.ifCond .ne 37, 3) := by decide +kernel
theorem dX11_goRound_32 : decode cX11_goRound 32 = .ok (.aload_n 0, 1) := by decide +kernel
theorem dX11_goRound_33 : decode cX11_goRound 33 = .ok (.getfield 25, 3) := by decide +kernel
theorem dX11_goRound_36 : decode cX11_goRound 36 = .ok (.iload_n 2, 1) := by decide +kernel
theorem dX11_goRound_37 : decode cX11_goRound 37 = .ok (.aload_n 0, 1) := by decide +kernel
theorem dX11_goRound_38 : decode cX11_goRound 38 = .ok (.iload_n 2, 1) := by decide +kernel
theorem dX11_goRound_39 : decode cX11_goRound 39 = .ok (.invokevirtual 162, 3) := by decide +kernel
theorem dX11_goRound_42 : decode cX11_goRound 42 = .ok (.iastore, 1) := by decide +kernel
theorem dX11_goRound_43 : decode cX11_goRound 43 = .ok (.iload_n 1, 1) := by decide +kernel
theorem dX11_goRound_44 : decode cX11_goRound 44 = .ok (.aload_n 0, 1) := by decide +kernel
theorem dX11_goRound_45 : decode cX11_goRound 45 = .ok (.getfield 25, 3) := by decide +kernel
theorem dX11_goRound_48 : decode cX11_goRound 48 = .ok (.iload_n 2, 1) := by decide +kernel
theorem dX11_goRound_49 : decode cX11_goRound 49 = .ok (.iaload, 1) := by decide +kernel
theorem dX11_goRound_50 : decode cX11_goRound 50 = .ok (.aload_n 0, 1) := by decide +kernel
theorem dX11_goRound_51 : decode cX11_goRound 51 = .ok (.getfield 19, 3) := by decide +kernel
theorem dX11_goRound_54 : decode cX11_goRound 54 = .ok (.iload_n 2, 1) := by decide +kernel
theorem dX11_goRound_55 : decode cX11_goRound 55 = .ok (.iaload, 1) := by decide +kernel
theorem dX11_goRound_56 : decode cX11_goRound 56 = .ok (.if_icmp .eq 7, 3) := by decide +kernel
theorem dX11_goRound_59 : decode cX11_goRound 59 = .ok (.iconst 1, 1) := by decide +kernel
theorem dX11_goRound_60 : decode cX11_goRound 60 = .ok (.goto 4, 3) := by decide +kernel
theorem dX11_goRound_63 : decode cX11_goRound 63 = .ok (.iconst 0, 1) := by decide +kernel
theorem dX11_goRound_64 : decode cX11_goRound 64 = .ok (.iadd, 1) := by decide +kernel
theorem dX11_goRound_65 : decode cX11_goRound 65 = .ok (.istore_n 1, 1) := by decide +kernel
theorem dX11_goRound_66 : decode cX11_goRound 66 = .ok (.iinc 2 1, 3) := by decide +kernel
theorem dX11_goRound_69 : decode cX11_goRound 69 = .ok (.goto (-65), 3) := by decide +kernel
theorem dX11_goRound_72 : decode cX11_goRound 72 = .ok (.iconst 0, 1) := by decide +kernel
theorem dX11_goRound_73 : decode cX11_goRound 73 = .ok (.istore_n 2, 1) := by decide +kernel
theorem dX11_goRound_74 : decode cX11_goRound 74 = .ok (.iload_n 2, 1) := by decide +kernel
theorem dX11_goRound_75 : decode cX11_goRound 75 = .ok (.aload_n 0, 1) := by decide +kernel
theorem dX11_goRound_76 : decode cX11_goRound 76 = .ok (.getfield 127, 3) := by decide +kernel
theorem dX11_goRound_79 : decode cX11_goRound 79 = .ok (.if_icmp .ge 21, 3) := by decide +kernel
theorem dX11_goRound_82 : decode cX11_goRound 82 = .ok (.aload_n 0, 1) := by decide +kernel
theorem dX11_goRound_83 : decode cX11_goRound 83 = .ok (.getfield 19, 3) := by decide +kernel
theorem dX11_goRound_86 : decode cX11_goRound 86 = .ok (.iload_n 2, 1) := by decide +kernel
theorem dX11_goRound_87 : decode cX11_goRound 87 = .ok (.aload_n 0, 1) := by decide +kernel
theorem dX11_goRound_88 : decode cX11_goRound 88 = .ok (.getfield 25, 3) := by decide +kernel
theorem dX11_goRound_91 : decode cX11_goRound 91 = .ok (.iload_n 2, 1) := by decide +kernel
theorem dX11_goRound_92 : decode cX11_goRound 92 = .ok (.iaload, 1) := by decide +kernel
theorem dX11_goRound_93 : decode cX11_goRound 93 = .ok (.iastore, 1) := by decide +kernel
theorem dX11_goRound_94 : decode cX11_goRound 94 = .ok (.iinc 2 1, 3) := by decide +kernel
theorem dX11_goRound_97 : decode cX11_goRound 97 = .ok (.goto (-23), 3) := by decide +kernel
theorem dX11_goRound_100 : decode cX11_goRound 100 = .ok (.iload_n 1, 1) := by decide +kernel
theorem dX11_goRound_101 : decode cX11_goRound 101 = .ok (.ireturn, 1) := by decide +kernel
theorem dX11_rightFor_0 : decode cX11_rightFor 0 = .ok (.aload_n 0, 1) := by decide +kernel
theorem dX11_rightFor_1 : decode cX11_rightFor 1 = .ok (.getfield 19, 3) := by decide +kernel
theorem dX11_rightFor_4 : decode cX11_rightFor 4 = .ok (.iload_n 1, 1) := by decide +kernel
theorem dX11_rightFor_5 : decode cX11_rightFor 5 = .ok (.iaload, 1) := by decide +kernel
theorem dX11_rightFor_6 : decode cX11_rightFor 6 = .ok (.istore_n 2, 1) := by decide +kernel
theorem dX11_rightFor_7 : decode cX11_rightFor 7 = .ok (.iload_n 2, 1) := by decide +kernel
theorem dX11_rightFor_8 : decode cX11_rightFor 8 = .ok (.istore_n 3, 1) := by decide +kernel
theorem dX11_rightFor_9 : decode cX11_rightFor 9 = .ok (.bipush 9, 2) := by decide +kernel
theorem dX11_rightFor_11 : decode cX11_rightFor 11 = .ok (.istore 4, 2) := by decide +kernel
theorem dX11_rightFor_13 : decode cX11_rightFor 13 = .ok (.iload 4, 2) := by decide +kernel
theorem dX11_rightFor_15 : decode cX11_rightFor 15 = .ok (.ifCond .lt 41, 3) := by decide +kernel
theorem dX11_rightFor_18 : decode cX11_rightFor 18 = .ok (.aload_n 0, 1) := by decide +kernel
theorem dX11_rightFor_19 : decode cX11_rightFor 19 = .ok (.getfield 19, 3) := by decide +kernel
theorem dX11_rightFor_22 : decode cX11_rightFor 22 = .ok (.iload_n 1, 1) := by decide +kernel
theorem dX11_rightFor_23 : decode cX11_rightFor 23 = .ok (.iload 4, 2) := by decide +kernel
theorem dX11_rightFor_25 : decode cX11_rightFor 25 = .ok (.iastore, 1) := by decide +kernel
theorem dX11_rightFor_26 : decode cX11_rightFor 26 = .ok (.aload_n 0, 1) := by decide +kernel
theorem dX11_rightFor_27 : decode cX11_rightFor 27 = .ok (.iload 4, 2) := by decide +kernel
theorem dX11_rightFor_29 : decode cX11_rightFor 29 = .ok (.invokevirtual 144, 3) := by decide +kernel
theorem dX11_rightFor_32 : decode cX11_rightFor 32 = .ok (.ifCond .ne 16, 3) := by decide +kernel
theorem dX11_rightFor_35 : decode cX11_rightFor 35 = .ok (.aload_n 0, 1) := by decide +kernel
theorem dX11_rightFor_36 : decode cX11_rightFor 36 = .ok (.iload_n 1, 1) := by decide +kernel
theorem dX11_rightFor_37 : decode cX11_rightFor 37 = .ok (.invokevirtual 137, 3) := by decide +kernel
theorem dX11_rightFor_40 : decode cX11_rightFor 40 = .ok (.ifCond .eq 8, 3) := by decide +kernel
theorem dX11_rightFor_43 : decode cX11_rightFor 43 = .ok (.iload 4, 2) := by decide +kernel
theorem dX11_rightFor_45 : decode cX11_rightFor 45 = .ok (.goto 4, 3) := by decide +kernel
theorem dX11_rightFor_48 : decode cX11_rightFor 48 = .ok (.iload_n 3, 1) := by decide +kernel
theorem dX11_rightFor_49 : decode cX11_rightFor 49 = .ok (.istore_n 3, 1) := by decide +kernel
theorem dX11_rightFor_50 : decode cX11_rightFor 50 = .ok (.iinc 4 (-1), 3) := by decide +kernel
theorem dX11_rightFor_53 : decode cX11_rightFor 53 = .ok (.goto (-40), 3) := by decide +kernel
theorem dX11_rightFor_56 : decode cX11_rightFor 56 = .ok (.aload_n 0, 1) := by decide +kernel
theorem dX11_rightFor_57 : decode cX11_rightFor 57 = .ok (.getfield 19, 3) := by decide +kernel
theorem dX11_rightFor_60 : decode cX11_rightFor 60 = .ok (.iload_n 1, 1) := by decide +kernel
theorem dX11_rightFor_61 : decode cX11_rightFor 61 = .ok (.iload_n 2, 1) := by decide +kernel
theorem dX11_rightFor_62 : decode cX11_rightFor 62 = .ok (.iastore, 1) := by decide +kernel
theorem dX11_rightFor_63 : decode cX11_rightFor 63 = .ok (.iload_n 3, 1) := by decide +kernel
theorem dX11_rightFor_64 : decode cX11_rightFor 64 = .ok (.ireturn, 1) := by decide +kernel
theorem dX11_round_0 : decode cX11_round 0 = .ok (.aload_n 0, 1) := by decide +kernel
theorem dX11_round_1 : decode cX11_round 1 = .ok (.invokevirtual 159, 3) := by decide +kernel
theorem dX11_round_4 : decode cX11_round 4 = .ok (.aload_n 0, 1) := by decide +kernel
theorem dX11_round_5 : decode cX11_round 5 = .ok (.invokevirtual 150, 3) := by decide +kernel
theorem dX11_round_8 : decode cX11_round 8 = .ok (.aload_n 0, 1) := by decide +kernel
theorem dX11_round_9 : decode cX11_round 9 = .ok (.invokevirtual 165, 3) := by decide +kernel
theorem dX11_round_12 : decode cX11_round 12 = .ok (.istore_n 1, 1) := by decide +kernel
theorem dX11_round_13 : decode cX11_round 13 = .ok (.iconst 0, 1) := by decide +kernel
theorem dX11_round_14 : decode cX11_round 14 = .ok (.istore_n 2, 1) := by decide +kernel
theorem dX11_round_15 : decode cX11_round 15 = .ok (.iload_n 2, 1) := by decide +kernel
theorem dX11_round_16 : decode cX11_round 16 = .ok (.aload_n 0, 1) := by decide +kernel
theorem dX11_round_17 : decode cX11_round 17 = .ok (.getfield 109, 3) := by decide +kernel
theorem dX11_round_20 : decode cX11_round 20 = .ok (.if_icmp .ge 21, 3) := by decide +kernel
theorem dX11_round_23 : decode cX11_round 23 = .ok (.aload_n 0, 1) := by decide +kernel
theorem dX11_round_24 : decode cX11_round 24 = .ok (.getfield 13, 3) := by decide +kernel
theorem dX11_round_27 : decode cX11_round 27 = .ok (.iload_n 2, 1) := by decide +kernel
theorem dX11_round_28 : decode cX11_round 28 = .ok (.aload_n 0, 1) := by decide +kernel
theorem dX11_round_29 : decode cX11_round 29 = .ok (.getfield 19, 3) := by decide +kernel
theorem dX11_round_32 : decode cX11_round 32 = .ok (.iload_n 2, 1) := by decide +kernel
theorem dX11_round_33 : decode cX11_round 33 = .ok (.iaload, 1) := by decide +kernel
theorem dX11_round_34 : decode cX11_round 34 = .ok (.iastore, 1) := by decide +kernel
theorem dX11_round_35 : decode cX11_round 35 = .ok (.iinc 2 1, 3) := by decide +kernel
theorem dX11_round_38 : decode cX11_round 38 = .ok (.goto (-23), 3) := by decide +kernel
theorem dX11_round_41 : decode cX11_round 41 = .ok (.iload_n 1, 1) := by decide +kernel
theorem dX11_round_42 : decode cX11_round 42 = .ok (.ireturn, 1) := by decide +kernel
theorem dX11_undo_0 : decode cX11_undo 0 = .ok (.aload_n 0, 1) := by decide +kernel
theorem dX11_undo_1 : decode cX11_undo 1 = .ok (.getfield 124, 3) := by decide +kernel
theorem dX11_undo_4 : decode cX11_undo 4 = .ok (.ifCond .ne 6, 3) := by decide +kernel
theorem dX11_undo_7 : decode cX11_undo 7 = .ok (.bipush (-3), 2) := by decide +kernel
theorem dX11_undo_9 : decode cX11_undo 9 = .ok (.ireturn, 1) := by decide +kernel
theorem dX11_undo_10 : decode cX11_undo 10 = .ok (.aload_n 0, 1) := by decide +kernel
theorem dX11_undo_11 : decode cX11_undo 11 = .ok (.dup, 1) := by decide +kernel
theorem dX11_undo_12 : decode cX11_undo 12 = .ok (.getfield 124, 3) := by decide +kernel
theorem dX11_undo_15 : decode cX11_undo 15 = .ok (.iconst 1, 1) := by decide +kernel
theorem dX11_undo_16 : decode cX11_undo 16 = .ok (.isub, 1) := by decide +kernel
theorem dX11_undo_17 : decode cX11_undo 17 = .ok (.putfield 124, 3) := by decide +kernel
theorem dX11_undo_20 : decode cX11_undo 20 = .ok (.aload_n 0, 1) := by decide +kernel
theorem dX11_undo_21 : decode cX11_undo 21 = .ok (.aload_n 0, 1) := by decide +kernel
theorem dX11_undo_22 : decode cX11_undo 22 = .ok (.getfield 156, 3) := by decide +kernel
theorem dX11_undo_25 : decode cX11_undo 25 = .ok (.bipush 15, 2) := by decide +kernel
theorem dX11_undo_27 : decode cX11_undo 27 = .ok (.iadd, 1) := by decide +kernel
theorem dX11_undo_28 : decode cX11_undo 28 = .ok (.bipush 16, 2) := by decide +kernel
theorem dX11_undo_30 : decode cX11_undo 30 = .ok (.irem, 1) := by decide +kernel
theorem dX11_undo_31 : decode cX11_undo 31 = .ok (.putfield 156, 3) := by decide +kernel
theorem dX11_undo_34 : decode cX11_undo 34 = .ok (.iconst 0, 1) := by decide +kernel
theorem dX11_undo_35 : decode cX11_undo 35 = .ok (.istore_n 1, 1) := by decide +kernel
theorem dX11_undo_36 : decode cX11_undo 36 = .ok (.iload_n 1, 1) := by decide +kernel
theorem dX11_undo_37 : decode cX11_undo 37 = .ok (.bipush 9, 2) := by decide +kernel
theorem dX11_undo_39 : decode cX11_undo 39 = .ok (.if_icmp .ge 29, 3) := by decide +kernel
theorem dX11_undo_42 : decode cX11_undo 42 = .ok (.aload_n 0, 1) := by decide +kernel
theorem dX11_undo_43 : decode cX11_undo 43 = .ok (.getfield 13, 3) := by decide +kernel
theorem dX11_undo_46 : decode cX11_undo 46 = .ok (.iload_n 1, 1) := by decide +kernel
theorem dX11_undo_47 : decode cX11_undo 47 = .ok (.aload_n 0, 1) := by decide +kernel
theorem dX11_undo_48 : decode cX11_undo 48 = .ok (.getfield 22, 3) := by decide +kernel
theorem dX11_undo_51 : decode cX11_undo 51 = .ok (.bipush 10, 2) := by decide +kernel
theorem dX11_undo_53 : decode cX11_undo 53 = .ok (.aload_n 0, 1) := by decide +kernel
theorem dX11_undo_54 : decode cX11_undo 54 = .ok (.getfield 156, 3) := by decide +kernel
theorem dX11_undo_57 : decode cX11_undo 57 = .ok (.imul, 1) := by decide +kernel
theorem dX11_undo_58 : decode cX11_undo 58 = .ok (.iload_n 1, 1) := by decide +kernel
theorem dX11_undo_59 : decode cX11_undo 59 = .ok (.iadd, 1) := by decide +kernel
theorem dX11_undo_60 : decode cX11_undo 60 = .ok (.iaload, 1) := by decide +kernel
theorem dX11_undo_61 : decode cX11_undo 61 = .ok (.iastore, 1) := by decide +kernel
theorem dX11_undo_62 : decode cX11_undo 62 = .ok (.iinc 1 1, 3) := by decide +kernel
theorem dX11_undo_65 : decode cX11_undo 65 = .ok (.goto (-29), 3) := by decide +kernel
theorem dX11_undo_68 : decode cX11_undo 68 = .ok (.aload_n 0, 1) := by decide +kernel
theorem dX11_undo_69 : decode cX11_undo 69 = .ok (.aload_n 0, 1) := by decide +kernel
theorem dX11_undo_70 : decode cX11_undo 70 = .ok (.getfield 22, 3) := by decide +kernel
theorem dX11_undo_73 : decode cX11_undo 73 = .ok (.bipush 10, 2) := by decide +kernel
theorem dX11_undo_75 : decode cX11_undo 75 = .ok (.aload_n 0, 1) := by decide +kernel
theorem dX11_undo_76 : decode cX11_undo 76 = .ok (.getfield 156, 3) := by decide +kernel
theorem dX11_undo_79 : decode cX11_undo 79 = .ok (.imul, 1) := by decide +kernel
theorem dX11_undo_80 : decode cX11_undo 80 = .ok (.bipush 9, 2) := by decide +kernel
theorem dX11_undo_82 : decode cX11_undo 82 = .ok (.iadd, 1) := by decide +kernel
theorem dX11_undo_83 : decode cX11_undo 83 = .ok (.iaload, 1) := by decide +kernel
theorem dX11_undo_84 : decode cX11_undo 84 = .ok (.putfield 109, 3) := by decide +kernel
theorem dX11_undo_87 : decode cX11_undo 87 = .ok (.aload_n 0, 1) := by decide +kernel
theorem dX11_undo_88 : decode cX11_undo 88 = .ok (.getfield 124, 3) := by decide +kernel
theorem dX11_undo_91 : decode cX11_undo 91 = .ok (.ireturn, 1) := by decide +kernel
theorem dX11_settled_0 : decode cX11_settled 0 = .ok (.aload_n 0, 1) := by decide +kernel
theorem dX11_settled_1 : decode cX11_settled 1 = .ok (.invokevirtual 150, 3) := by decide +kernel
theorem dX11_settled_4 : decode cX11_settled 4 = .ok (.iconst 0, 1) := by decide +kernel
theorem dX11_settled_5 : decode cX11_settled 5 = .ok (.istore_n 1, 1) := by decide +kernel
theorem dX11_settled_6 : decode cX11_settled 6 = .ok (.iload_n 1, 1) := by decide +kernel
theorem dX11_settled_7 : decode cX11_settled 7 = .ok (.bipush 60, 2) := by decide +kernel
theorem dX11_settled_9 : decode cX11_settled 9 = .ok (.if_icmp .gt 18, 3) := by decide +kernel
theorem dX11_settled_12 : decode cX11_settled 12 = .ok (.aload_n 0, 1) := by decide +kernel
theorem dX11_settled_13 : decode cX11_settled 13 = .ok (.invokevirtual 165, 3) := by decide +kernel
theorem dX11_settled_16 : decode cX11_settled 16 = .ok (.ifCond .ne 5, 3) := by decide +kernel
theorem dX11_settled_19 : decode cX11_settled 19 = .ok (.iload_n 1, 1) := by decide +kernel
theorem dX11_settled_20 : decode cX11_settled 20 = .ok (.ireturn, 1) := by decide +kernel
theorem dX11_settled_21 : decode cX11_settled 21 = .ok (.iinc 1 1, 3) := by decide +kernel
theorem dX11_settled_24 : decode cX11_settled 24 = .ok (.goto (-18), 3) := by decide +kernel
theorem dX11_settled_27 : decode cX11_settled 27 = .ok (.bipush (-9), 2) := by decide +kernel
theorem dX11_settled_29 : decode cX11_settled 29 = .ok (.ireturn, 1) := by decide +kernel
theorem dX11_over_0 : decode cX11_over 0 = .ok (.lconst 1, 1) := by decide +kernel
theorem dX11_over_1 : decode cX11_over 1 = .ok (.lstore_n 2, 1) := by decide +kernel
theorem dX11_over_2 : decode cX11_over 2 = .ok (.iconst 0, 1) := by decide +kernel
theorem dX11_over_3 : decode cX11_over 3 = .ok (.istore 4, 2) := by decide +kernel
theorem dX11_over_5 : decode cX11_over 5 = .ok (.iload 4, 2) := by decide +kernel
theorem dX11_over_7 : decode cX11_over 7 = .ok (.iload_n 1, 1) := by decide +kernel
theorem dX11_over_8 : decode cX11_over 8 = .ok (.if_icmp .ge 23, 3) := by decide +kernel
theorem dX11_over_11 : decode cX11_over 11 = .ok (.lload_n 2, 1) := by decide +kernel
theorem dX11_over_12 : decode cX11_over 12 = .ok (.iload_n 0, 1) := by decide +kernel
theorem dX11_over_13 : decode cX11_over 13 = .ok (.iload 4, 2) := by decide +kernel
theorem dX11_over_15 : decode cX11_over 15 = .ok (.isub, 1) := by decide +kernel
theorem dX11_over_16 : decode cX11_over 16 = .ok (.i2l, 1) := by decide +kernel
theorem dX11_over_17 : decode cX11_over 17 = .ok (.lmul, 1) := by decide +kernel
theorem dX11_over_18 : decode cX11_over 18 = .ok (.iload 4, 2) := by decide +kernel
theorem dX11_over_20 : decode cX11_over 20 = .ok (.iconst 1, 1) := by decide +kernel
theorem dX11_over_21 : decode cX11_over 21 = .ok (.iadd, 1) := by decide +kernel
theorem dX11_over_22 : decode cX11_over 22 = .ok (.i2l, 1) := by decide +kernel
theorem dX11_over_23 : decode cX11_over 23 = .ok (.ldiv, 1) := by decide +kernel
theorem dX11_over_24 : decode cX11_over 24 = .ok (.lstore_n 2, 1) := by decide +kernel
theorem dX11_over_25 : decode cX11_over 25 = .ok (.iinc 4 1, 3) := by decide +kernel
theorem dX11_over_28 : decode cX11_over 28 = .ok (.goto (-23), 3) := by decide +kernel
theorem dX11_over_31 : decode cX11_over 31 = .ok (.lload_n 2, 1) := by decide +kernel
theorem dX11_over_32 : decode cX11_over 32 = .ok (.lreturn, 1) := by decide +kernel
theorem dX11_power_0 : decode cX11_power 0 = .ok (.lconst 1, 1) := by decide +kernel
theorem dX11_power_1 : decode cX11_power 1 = .ok (.lstore_n 2, 1) := by decide +kernel
theorem dX11_power_2 : decode cX11_power 2 = .ok (.iconst 0, 1) := by decide +kernel
theorem dX11_power_3 : decode cX11_power 3 = .ok (.istore 4, 2) := by decide +kernel
theorem dX11_power_5 : decode cX11_power 5 = .ok (.iload 4, 2) := by decide +kernel
theorem dX11_power_7 : decode cX11_power 7 = .ok (.iload_n 1, 1) := by decide +kernel
theorem dX11_power_8 : decode cX11_power 8 = .ok (.if_icmp .ge 14, 3) := by decide +kernel
theorem dX11_power_11 : decode cX11_power 11 = .ok (.lload_n 2, 1) := by decide +kernel
theorem dX11_power_12 : decode cX11_power 12 = .ok (.iload_n 0, 1) := by decide +kernel
theorem dX11_power_13 : decode cX11_power 13 = .ok (.i2l, 1) := by decide +kernel
theorem dX11_power_14 : decode cX11_power 14 = .ok (.lmul, 1) := by decide +kernel
theorem dX11_power_15 : decode cX11_power 15 = .ok (.lstore_n 2, 1) := by decide +kernel
theorem dX11_power_16 : decode cX11_power 16 = .ok (.iinc 4 1, 3) := by decide +kernel
theorem dX11_power_19 : decode cX11_power 19 = .ok (.goto (-14), 3) := by decide +kernel
theorem dX11_power_22 : decode cX11_power 22 = .ok (.lload_n 2, 1) := by decide +kernel
theorem dX11_power_23 : decode cX11_power 23 = .ok (.lreturn, 1) := by decide +kernel
theorem dX11_layWays_0 : decode cX11_layWays 0 = .ok (.iconst 0, 1) := by decide +kernel
theorem dX11_layWays_1 : decode cX11_layWays 1 = .ok (.istore_n 3, 1) := by decide +kernel
theorem dX11_layWays_2 : decode cX11_layWays 2 = .ok (.iload_n 3, 1) := by decide +kernel
theorem dX11_layWays_3 : decode cX11_layWays 3 = .ok (.bipush 11, 2) := by decide +kernel
theorem dX11_layWays_5 : decode cX11_layWays 5 = .ok (.if_icmp .ge 24, 3) := by decide +kernel
theorem dX11_layWays_8 : decode cX11_layWays 8 = .ok (.aload_n 0, 1) := by decide +kernel
theorem dX11_layWays_9 : decode cX11_layWays 9 = .ok (.getfield 28, 3) := by decide +kernel
theorem dX11_layWays_12 : decode cX11_layWays 12 = .ok (.iload_n 3, 1) := by decide +kernel
theorem dX11_layWays_13 : decode cX11_layWays 13 = .ok (.iload_n 3, 1) := by decide +kernel
theorem dX11_layWays_14 : decode cX11_layWays 14 = .ok (.ifCond .ne 7, 3) := by decide +kernel
theorem dX11_layWays_17 : decode cX11_layWays 17 = .ok (.lconst 1, 1) := by decide +kernel
theorem dX11_layWays_18 : decode cX11_layWays 18 = .ok (.goto 4, 3) := by decide +kernel
theorem dX11_layWays_21 : decode cX11_layWays 21 = .ok (.lconst 0, 1) := by decide +kernel
theorem dX11_layWays_22 : decode cX11_layWays 22 = .ok (.lastore, 1) := by decide +kernel
theorem dX11_layWays_23 : decode cX11_layWays 23 = .ok (.iinc 3 1, 3) := by decide +kernel
theorem dX11_layWays_26 : decode cX11_layWays 26 = .ok (.goto (-24), 3) := by decide +kernel
theorem dX11_layWays_29 : decode cX11_layWays 29 = .ok (.iconst 0, 1) := by decide +kernel
theorem dX11_layWays_30 : decode cX11_layWays 30 = .ok (.istore_n 3, 1) := by decide +kernel
theorem dX11_layWays_31 : decode cX11_layWays 31 = .ok (.iload_n 3, 1) := by decide +kernel
theorem dX11_layWays_32 : decode cX11_layWays 32 = .ok (.bipush 10, 2) := by decide +kernel
theorem dX11_layWays_34 : decode cX11_layWays 34 = .ok (.if_icmp .ge 191, 3) := by decide +kernel
theorem dX11_layWays_37 : decode cX11_layWays 37 = .ok (.iconst 0, 1) := by decide +kernel
theorem dX11_layWays_38 : decode cX11_layWays 38 = .ok (.istore 4, 2) := by decide +kernel
theorem dX11_layWays_40 : decode cX11_layWays 40 = .ok (.iload 4, 2) := by decide +kernel
theorem dX11_layWays_42 : decode cX11_layWays 42 = .ok (.iload_n 1, 1) := by decide +kernel
theorem dX11_layWays_43 : decode cX11_layWays 43 = .ok (.if_icmp .gt 17, 3) := by decide +kernel
theorem dX11_layWays_46 : decode cX11_layWays 46 = .ok (.aload_n 0, 1) := by decide +kernel
theorem dX11_layWays_47 : decode cX11_layWays 47 = .ok (.getfield 32, 3) := by decide +kernel
theorem dX11_layWays_50 : decode cX11_layWays 50 = .ok (.iload 4, 2) := by decide +kernel
theorem dX11_layWays_52 : decode cX11_layWays 52 = .ok (.lconst 0, 1) := by decide +kernel
theorem dX11_layWays_53 : decode cX11_layWays 53 = .ok (.lastore, 1) := by decide +kernel
theorem dX11_layWays_54 : decode cX11_layWays 54 = .ok (.iinc 4 1, 3) := by decide +kernel
theorem dX11_layWays_57 : decode cX11_layWays 57 = .ok (.goto (-17), 3) := by decide +kernel
theorem dX11_layWays_60 : decode cX11_layWays 60 = .ok (.iload_n 2, 1) := by decide +kernel
theorem dX11_layWays_61 : decode cX11_layWays 61 = .ok (.ifCond .eq 12, 3) := by decide +kernel
theorem dX11_layWays_64 : decode cX11_layWays 64 = .ok (.aload_n 0, 1) := by decide +kernel
theorem dX11_layWays_65 : decode cX11_layWays 65 = .ok (.getfield 44, 3) := by decide +kernel
theorem dX11_layWays_68 : decode cX11_layWays 68 = .ok (.iload_n 3, 1) := by decide +kernel
theorem dX11_layWays_69 : decode cX11_layWays 69 = .ok (.iaload, 1) := by decide +kernel
theorem dX11_layWays_70 : decode cX11_layWays 70 = .ok (.goto 16, 3) := by decide +kernel
theorem dX11_layWays_73 : decode cX11_layWays 73 = .ok (.aload_n 0, 1) := by decide +kernel
theorem dX11_layWays_74 : decode cX11_layWays 74 = .ok (.iload_n 3, 1) := by decide +kernel
theorem dX11_layWays_75 : decode cX11_layWays 75 = .ok (.invokevirtual 144, 3) := by decide +kernel
theorem dX11_layWays_78 : decode cX11_layWays 78 = .ok (.ifCond .eq 7, 3) := by decide +kernel
theorem dX11_layWays_81 : decode cX11_layWays 81 = .ok (.iconst 0, 1) := by decide +kernel
theorem dX11_layWays_82 : decode cX11_layWays 82 = .ok (.goto 4, 3) := by decide +kernel
theorem dX11_layWays_85 : decode cX11_layWays 85 = .ok (.iconst 1, 1) := by decide +kernel
theorem dX11_layWays_86 : decode cX11_layWays 86 = .ok (.istore 4, 2) := by decide +kernel
theorem dX11_layWays_88 : decode cX11_layWays 88 = .ok (.iconst 0, 1) := by decide +kernel
theorem dX11_layWays_89 : decode cX11_layWays 89 = .ok (.istore 5, 2) := by decide +kernel
theorem dX11_layWays_91 : decode cX11_layWays 91 = .ok (.iload 5, 2) := by decide +kernel
theorem dX11_layWays_93 : decode cX11_layWays 93 = .ok (.iload_n 1, 1) := by decide +kernel
theorem dX11_layWays_94 : decode cX11_layWays 94 = .ok (.if_icmp .gt 96, 3) := by decide +kernel
theorem dX11_layWays_97 : decode cX11_layWays 97 = .ok (.iconst 0, 1) := by decide +kernel
theorem dX11_layWays_98 : decode cX11_layWays 98 = .ok (.istore 6, 2) := by decide +kernel
theorem dX11_layWays_100 : decode cX11_layWays 100 = .ok (.iload 6, 2) := by decide +kernel
theorem dX11_layWays_102 : decode cX11_layWays 102 = .ok (.iload_n 1, 1) := by decide +kernel
theorem dX11_layWays_103 : decode cX11_layWays 103 = .ok (.iload 5, 2) := by decide +kernel
theorem dX11_layWays_105 : decode cX11_layWays 105 = .ok (.isub, 1) := by decide +kernel
theorem dX11_layWays_106 : decode cX11_layWays 106 = .ok (.if_icmp .gt 78, 3) := by decide +kernel
theorem dX11_layWays_109 : decode cX11_layWays 109 = .ok (.iload 6, 2) := by decide +kernel
theorem dX11_layWays_111 : decode cX11_layWays 111 = .ok (.ifCond .eq 13, 3) := by decide +kernel
theorem dX11_layWays_114 : decode cX11_layWays 114 = .ok (.aload_n 0, 1) := by decide +kernel
theorem dX11_layWays_115 : decode cX11_layWays 115 = .ok (.iload_n 3, 1) := by decide +kernel
theorem dX11_layWays_116 : decode cX11_layWays 116 = .ok (.iload 6, 2) := by decide +kernel
theorem dX11_layWays_118 : decode cX11_layWays 118 = .ok (.invokevirtual 133, 3) := by decide +kernel
theorem dX11_layWays_121 : decode cX11_layWays 121 = .ok (.ifCond .eq 7, 3) := by decide +kernel
theorem dX11_layWays_124 : decode cX11_layWays 124 = .ok (.iconst 1, 1) := by decide +kernel
theorem dX11_layWays_125 : decode cX11_layWays 125 = .ok (.goto 4, 3) := by decide +kernel
theorem dX11_layWays_128 : decode cX11_layWays 128 = .ok (.iconst 0, 1) := by decide +kernel
theorem dX11_layWays_129 : decode cX11_layWays 129 = .ok (.istore 7, 2) := by decide +kernel
theorem dX11_layWays_131 : decode cX11_layWays 131 = .ok (.aload_n 0, 1) := by decide +kernel
theorem dX11_layWays_132 : decode cX11_layWays 132 = .ok (.getfield 32, 3) := by decide +kernel
theorem dX11_layWays_135 : decode cX11_layWays 135 = .ok (.iload 5, 2) := by decide +kernel
theorem dX11_layWays_137 : decode cX11_layWays 137 = .ok (.iload 6, 2) := by decide +kernel
theorem dX11_layWays_139 : decode cX11_layWays 139 = .ok (.iadd, 1) := by decide +kernel
theorem dX11_layWays_140 : decode cX11_layWays 140 = .ok (.dup2, 1) := by decide +kernel
theorem dX11_layWays_141 : decode cX11_layWays 141 = .ok (.laload, 1) := by decide +kernel
theorem dX11_layWays_142 : decode cX11_layWays 142 = .ok (.iload 7, 2) := by decide +kernel
theorem dX11_layWays_144 : decode cX11_layWays 144 = .ok (.ifCond .eq 31, 3) := by decide +kernel
theorem dX11_layWays_147 : decode cX11_layWays 147 = .ok (.aload_n 0, 1) := by decide +kernel
theorem dX11_layWays_148 : decode cX11_layWays 148 = .ok (.getfield 28, 3) := by decide +kernel
theorem dX11_layWays_151 : decode cX11_layWays 151 = .ok (.iload 5, 2) := by decide +kernel
theorem dX11_layWays_153 : decode cX11_layWays 153 = .ok (.laload, 1) := by decide +kernel
theorem dX11_layWays_154 : decode cX11_layWays 154 = .ok (.iload_n 1, 1) := by decide +kernel
theorem dX11_layWays_155 : decode cX11_layWays 155 = .ok (.iload 5, 2) := by decide +kernel
theorem dX11_layWays_157 : decode cX11_layWays 157 = .ok (.isub, 1) := by decide +kernel
theorem dX11_layWays_158 : decode cX11_layWays 158 = .ok (.iload 6, 2) := by decide +kernel
theorem dX11_layWays_160 : decode cX11_layWays 160 = .ok (.invokestatic 168, 3) := by decide +kernel
theorem dX11_layWays_163 : decode cX11_layWays 163 = .ok (.lmul, 1) := by decide +kernel
theorem dX11_layWays_164 : decode cX11_layWays 164 = .ok (.iload 4, 2) := by decide +kernel
theorem dX11_layWays_166 : decode cX11_layWays 166 = .ok (.iload 6, 2) := by decide +kernel
theorem dX11_layWays_168 : decode cX11_layWays 168 = .ok (.invokestatic 172, 3) := by decide +kernel
theorem dX11_layWays_171 : decode cX11_layWays 171 = .ok (.lmul, 1) := by decide +kernel
theorem dX11_layWays_172 : decode cX11_layWays 172 = .ok (.goto 4, 3) := by decide +kernel
theorem dX11_layWays_175 : decode cX11_layWays 175 = .ok (.lconst 0, 1) := by decide +kernel
theorem dX11_layWays_176 : decode cX11_layWays 176 = .ok (.ladd, 1) := by decide +kernel
theorem dX11_layWays_177 : decode cX11_layWays 177 = .ok (.lastore, 1) := by decide +kernel
theorem dX11_layWays_178 : decode cX11_layWays 178 = .ok (.iinc 6 1, 3) := by decide +kernel
theorem dX11_layWays_181 : decode cX11_layWays 181 = .ok (.goto (-81), 3) := by decide +kernel
theorem dX11_layWays_184 : decode cX11_layWays 184 = .ok (.iinc 5 1, 3) := by decide +kernel
theorem dX11_layWays_187 : decode cX11_layWays 187 = .ok (.goto (-96), 3) := by decide +kernel
theorem dX11_layWays_190 : decode cX11_layWays 190 = .ok (.iconst 0, 1) := by decide +kernel
theorem dX11_layWays_191 : decode cX11_layWays 191 = .ok (.istore 5, 2) := by decide +kernel
theorem dX11_layWays_193 : decode cX11_layWays 193 = .ok (.iload 5, 2) := by decide +kernel
theorem dX11_layWays_195 : decode cX11_layWays 195 = .ok (.iload_n 1, 1) := by decide +kernel
theorem dX11_layWays_196 : decode cX11_layWays 196 = .ok (.if_icmp .gt 23, 3) := by decide +kernel
theorem dX11_layWays_199 : decode cX11_layWays 199 = .ok (.aload_n 0, 1) := by decide +kernel
theorem dX11_layWays_200 : decode cX11_layWays 200 = .ok (.getfield 28, 3) := by decide +kernel
theorem dX11_layWays_203 : decode cX11_layWays 203 = .ok (.iload 5, 2) := by decide +kernel
theorem dX11_layWays_205 : decode cX11_layWays 205 = .ok (.aload_n 0, 1) := by decide +kernel
theorem dX11_layWays_206 : decode cX11_layWays 206 = .ok (.getfield 32, 3) := by decide +kernel
theorem dX11_layWays_209 : decode cX11_layWays 209 = .ok (.iload 5, 2) := by decide +kernel
theorem dX11_layWays_211 : decode cX11_layWays 211 = .ok (.laload, 1) := by decide +kernel
theorem dX11_layWays_212 : decode cX11_layWays 212 = .ok (.lastore, 1) := by decide +kernel
theorem dX11_layWays_213 : decode cX11_layWays 213 = .ok (.iinc 5 1, 3) := by decide +kernel
theorem dX11_layWays_216 : decode cX11_layWays 216 = .ok (.goto (-23), 3) := by decide +kernel
theorem dX11_layWays_219 : decode cX11_layWays 219 = .ok (.iinc 3 1, 3) := by decide +kernel
theorem dX11_layWays_222 : decode cX11_layWays 222 = .ok (.goto (-191), 3) := by decide +kernel
theorem dX11_layWays_225 : decode cX11_layWays 225 = .ok (.aload_n 0, 1) := by decide +kernel
theorem dX11_layWays_226 : decode cX11_layWays 226 = .ok (.getfield 28, 3) := by decide +kernel
theorem dX11_layWays_229 : decode cX11_layWays 229 = .ok (.iload_n 1, 1) := by decide +kernel
theorem dX11_layWays_230 : decode cX11_layWays 230 = .ok (.laload, 1) := by decide +kernel
theorem dX11_layWays_231 : decode cX11_layWays 231 = .ok (.lreturn, 1) := by decide +kernel
theorem dX11_ways_0 : decode cX11_ways 0 = .ok (.iload_n 1, 1) := by decide +kernel
theorem dX11_ways_1 : decode cX11_ways 1 = .ok (.i2l, 1) := by decide +kernel
theorem dX11_ways_2 : decode cX11_ways 2 = .ok (.lconst 0, 1) := by decide +kernel
theorem dX11_ways_3 : decode cX11_ways 3 = .ok (.ldc2_w 78, 3) := by decide +kernel
theorem dX11_ways_6 : decode cX11_ways 6 = .ok (.invokestatic 62, 3) := by decide +kernel
theorem dX11_ways_9 : decode cX11_ways 9 = .ok (.ifCond .eq 13, 3) := by decide +kernel
theorem dX11_ways_12 : decode cX11_ways 12 = .ok (.aload_n 0, 1) := by decide +kernel
theorem dX11_ways_13 : decode cX11_ways 13 = .ok (.iload_n 1, 1) := by decide +kernel
theorem dX11_ways_14 : decode cX11_ways 14 = .ok (.iconst 0, 1) := by decide +kernel
theorem dX11_ways_15 : decode cX11_ways 15 = .ok (.invokevirtual 175, 3) := by decide +kernel
theorem dX11_ways_18 : decode cX11_ways 18 = .ok (.l2i, 1) := by decide +kernel
theorem dX11_ways_19 : decode cX11_ways 19 = .ok (.goto 5, 3) := by decide +kernel
theorem dX11_ways_22 : decode cX11_ways 22 = .ok (.bipush (-2), 2) := by decide +kernel
theorem dX11_ways_24 : decode cX11_ways 24 = .ok (.ireturn, 1) := by decide +kernel
theorem dX11_wrong_0 : decode cX11_wrong 0 = .ok (.iload_n 1, 1) := by decide +kernel
theorem dX11_wrong_1 : decode cX11_wrong 1 = .ok (.i2l, 1) := by decide +kernel
theorem dX11_wrong_2 : decode cX11_wrong 2 = .ok (.lconst 0, 1) := by decide +kernel
theorem dX11_wrong_3 : decode cX11_wrong 3 = .ok (.ldc2_w 78, 3) := by decide +kernel
theorem dX11_wrong_6 : decode cX11_wrong 6 = .ok (.invokestatic 62, 3) := by decide +kernel
theorem dX11_wrong_9 : decode cX11_wrong 9 = .ok (.ifCond .ne 6, 3) := by decide +kernel
theorem dX11_wrong_12 : decode cX11_wrong 12 = .ok (.bipush (-2), 2) := by decide +kernel
theorem dX11_wrong_14 : decode cX11_wrong 14 = .ok (.ireturn, 1) := by decide +kernel
theorem dX11_wrong_15 : decode cX11_wrong 15 = .ok (.iconst 0, 1) := by decide +kernel
theorem dX11_wrong_16 : decode cX11_wrong 16 = .ok (.istore_n 2, 1) := by decide +kernel
theorem dX11_wrong_17 : decode cX11_wrong 17 = .ok (.iload_n 2, 1) := by decide +kernel
theorem dX11_wrong_18 : decode cX11_wrong 18 = .ok (.bipush 11, 2) := by decide +kernel
theorem dX11_wrong_20 : decode cX11_wrong 20 = .ok (.if_icmp .ge 25, 3) := by decide +kernel
theorem dX11_wrong_23 : decode cX11_wrong 23 = .ok (.aload_n 0, 1) := by decide +kernel
theorem dX11_wrong_24 : decode cX11_wrong 24 = .ok (.getfield 35, 3) := by decide +kernel
theorem dX11_wrong_27 : decode cX11_wrong 27 = .ok (.iload_n 2, 1) := by decide +kernel
theorem dX11_wrong_28 : decode cX11_wrong 28 = .ok (.iload_n 2, 1) := by decide +kernel
theorem dX11_wrong_29 : decode cX11_wrong 29 = .ok (.ifCond .ne 7, 3) := by decide +kernel
theorem dX11_wrong_32 : decode cX11_wrong 32 = .ok (.iconst 0, 1) := by decide +kernel
theorem dX11_wrong_33 : decode cX11_wrong 33 = .ok (.goto 5, 3) := by decide +kernel
theorem dX11_wrong_36 : decode cX11_wrong 36 = .ok (.bipush 99, 2) := by decide +kernel
theorem dX11_wrong_38 : decode cX11_wrong 38 = .ok (.iastore, 1) := by decide +kernel
theorem dX11_wrong_39 : decode cX11_wrong 39 = .ok (.iinc 2 1, 3) := by decide +kernel
theorem dX11_wrong_42 : decode cX11_wrong 42 = .ok (.goto (-25), 3) := by decide +kernel
theorem dX11_wrong_45 : decode cX11_wrong 45 = .ok (.iconst 0, 1) := by decide +kernel
theorem dX11_wrong_46 : decode cX11_wrong 46 = .ok (.istore_n 2, 1) := by decide +kernel
theorem dX11_wrong_47 : decode cX11_wrong 47 = .ok (.iload_n 2, 1) := by decide +kernel
theorem dX11_wrong_48 : decode cX11_wrong 48 = .ok (.bipush 10, 2) := by decide +kernel
theorem dX11_wrong_50 : decode cX11_wrong 50 = .ok (.if_icmp .ge 138, 3) := by decide +kernel
theorem dX11_wrong_53 : decode cX11_wrong 53 = .ok (.iconst 0, 1) := by decide +kernel
theorem dX11_wrong_54 : decode cX11_wrong 54 = .ok (.istore_n 3, 1) := by decide +kernel
theorem dX11_wrong_55 : decode cX11_wrong 55 = .ok (.iload_n 3, 1) := by decide +kernel
theorem dX11_wrong_56 : decode cX11_wrong 56 = .ok (.iload_n 1, 1) := by decide +kernel
theorem dX11_wrong_57 : decode cX11_wrong 57 = .ok (.if_icmp .gt 100, 3) := by decide +kernel
theorem dX11_wrong_60 : decode cX11_wrong 60 = .ok (.aload_n 0, 1) := by decide +kernel
theorem dX11_wrong_61 : decode cX11_wrong 61 = .ok (.getfield 38, 3) := by decide +kernel
theorem dX11_wrong_64 : decode cX11_wrong 64 = .ok (.iload_n 3, 1) := by decide +kernel
theorem dX11_wrong_65 : decode cX11_wrong 65 = .ok (.aload_n 0, 1) := by decide +kernel
theorem dX11_wrong_66 : decode cX11_wrong 66 = .ok (.getfield 35, 3) := by decide +kernel
theorem dX11_wrong_69 : decode cX11_wrong 69 = .ok (.iload_n 3, 1) := by decide +kernel
theorem dX11_wrong_70 : decode cX11_wrong 70 = .ok (.iaload, 1) := by decide +kernel
theorem dX11_wrong_71 : decode cX11_wrong 71 = .ok (.iastore, 1) := by decide +kernel
theorem dX11_wrong_72 : decode cX11_wrong 72 = .ok (.iconst 1, 1) := by decide +kernel
theorem dX11_wrong_73 : decode cX11_wrong 73 = .ok (.istore 4, 2) := by decide +kernel
theorem dX11_wrong_75 : decode cX11_wrong 75 = .ok (.iload 4, 2) := by decide +kernel
theorem dX11_wrong_77 : decode cX11_wrong 77 = .ok (.iload_n 3, 1) := by decide +kernel
theorem dX11_wrong_78 : decode cX11_wrong 78 = .ok (.if_icmp .gt 73, 3) := by decide +kernel
theorem dX11_wrong_81 : decode cX11_wrong 81 = .ok (.aload_n 0, 1) := by decide +kernel
theorem dX11_wrong_82 : decode cX11_wrong 82 = .ok (.iload_n 2, 1) := by decide +kernel
theorem dX11_wrong_83 : decode cX11_wrong 83 = .ok (.invokevirtual 144, 3) := by decide +kernel
theorem dX11_wrong_86 : decode cX11_wrong 86 = .ok (.ifCond .ne 65, 3) := by decide +kernel
theorem dX11_wrong_89 : decode cX11_wrong 89 = .ok (.aload_n 0, 1) := by decide +kernel
theorem dX11_wrong_90 : decode cX11_wrong 90 = .ok (.getfield 35, 3) := by decide +kernel
theorem dX11_wrong_93 : decode cX11_wrong 93 = .ok (.iload_n 3, 1) := by decide +kernel
theorem dX11_wrong_94 : decode cX11_wrong 94 = .ok (.iload 4, 2) := by decide +kernel
theorem dX11_wrong_96 : decode cX11_wrong 96 = .ok (.isub, 1) := by decide +kernel
theorem dX11_wrong_97 : decode cX11_wrong 97 = .ok (.iaload, 1) := by decide +kernel
theorem dX11_wrong_98 : decode cX11_wrong 98 = .ok (.aload_n 0, 1) := by decide +kernel
theorem dX11_wrong_99 : decode cX11_wrong 99 = .ok (.iload_n 2, 1) := by decide +kernel
theorem dX11_wrong_100 : decode cX11_wrong 100 = .ok (.iload 4, 2) := by decide +kernel
theorem dX11_wrong_102 : decode cX11_wrong 102 = .ok (.invokevirtual 133, 3) := by decide +kernel
theorem dX11_wrong_105 : decode cX11_wrong 105 = .ok (.ifCond .eq 7, 3) := by decide +kernel
theorem dX11_wrong_108 : decode cX11_wrong 108 = .ok (.iconst 0, 1) := by decide +kernel
theorem dX11_wrong_109 : decode cX11_wrong 109 = .ok (.goto 5, 3) := by decide +kernel
theorem dX11_wrong_112 : decode cX11_wrong 112 = .ok (.iload 4, 2) := by decide +kernel
theorem dX11_wrong_114 : decode cX11_wrong 114 = .ok (.iadd, 1) := by decide +kernel
theorem dX11_wrong_115 : decode cX11_wrong 115 = .ok (.istore 5, 2) := by decide +kernel
theorem dX11_wrong_117 : decode cX11_wrong 117 = .ok (.aload_n 0, 1) := by decide +kernel
theorem dX11_wrong_118 : decode cX11_wrong 118 = .ok (.getfield 38, 3) := by decide +kernel
theorem dX11_wrong_121 : decode cX11_wrong 121 = .ok (.iload_n 3, 1) := by decide +kernel
theorem dX11_wrong_122 : decode cX11_wrong 122 = .ok (.iload 5, 2) := by decide +kernel
theorem dX11_wrong_124 : decode cX11_wrong 124 = .ok (.aload_n 0, 1) := by decide +kernel
theorem dX11_wrong_125 : decode cX11_wrong 125 = .ok (.getfield 38, 3) := by decide +kernel
theorem dX11_wrong_128 : decode cX11_wrong 128 = .ok (.iload_n 3, 1) := by decide +kernel
theorem dX11_wrong_129 : decode cX11_wrong 129 = .ok (.iaload, 1) := by decide +kernel
theorem dX11_wrong_130 : decode cX11_wrong 130 = .ok (.if_icmp .ge 8, 3) := by decide +kernel
theorem dX11_wrong_133 : decode cX11_wrong 133 = .ok (.iload 5, 2) := by decide +kernel
theorem dX11_wrong_135 : decode cX11_wrong 135 = .ok (.goto 9, 3) := by decide +kernel
theorem dX11_wrong_138 : decode cX11_wrong 138 = .ok (.aload_n 0, 1) := by decide +kernel
theorem dX11_wrong_139 : decode cX11_wrong 139 = .ok (.getfield 38, 3) := by decide +kernel
theorem dX11_wrong_142 : decode cX11_wrong 142 = .ok (.iload_n 3, 1) := by decide +kernel
theorem dX11_wrong_143 : decode cX11_wrong 143 = .ok (.iaload, 1) := by decide +kernel
theorem dX11_wrong_144 : decode cX11_wrong 144 = .ok (.iastore, 1) := by decide +kernel
theorem dX11_wrong_145 : decode cX11_wrong 145 = .ok (.iinc 4 1, 3) := by decide +kernel
theorem dX11_wrong_148 : decode cX11_wrong 148 = .ok (.goto (-73), 3) := by decide +kernel
theorem dX11_wrong_151 : decode cX11_wrong 151 = .ok (.iinc 3 1, 3) := by decide +kernel
theorem dX11_wrong_154 : decode cX11_wrong 154 = .ok (.goto (-99), 3) := by decide +kernel
theorem dX11_wrong_157 : decode cX11_wrong 157 = .ok (.iconst 0, 1) := by decide +kernel
theorem dX11_wrong_158 : decode cX11_wrong 158 = .ok (.istore_n 3, 1) := by decide +kernel
theorem dX11_wrong_159 : decode cX11_wrong 159 = .ok (.iload_n 3, 1) := by decide +kernel
theorem dX11_wrong_160 : decode cX11_wrong 160 = .ok (.iload_n 1, 1) := by decide +kernel
theorem dX11_wrong_161 : decode cX11_wrong 161 = .ok (.if_icmp .gt 21, 3) := by decide +kernel
theorem dX11_wrong_164 : decode cX11_wrong 164 = .ok (.aload_n 0, 1) := by decide +kernel
theorem dX11_wrong_165 : decode cX11_wrong 165 = .ok (.getfield 35, 3) := by decide +kernel
theorem dX11_wrong_168 : decode cX11_wrong 168 = .ok (.iload_n 3, 1) := by decide +kernel
theorem dX11_wrong_169 : decode cX11_wrong 169 = .ok (.aload_n 0, 1) := by decide +kernel
theorem dX11_wrong_170 : decode cX11_wrong 170 = .ok (.getfield 38, 3) := by decide +kernel
theorem dX11_wrong_173 : decode cX11_wrong 173 = .ok (.iload_n 3, 1) := by decide +kernel
theorem dX11_wrong_174 : decode cX11_wrong 174 = .ok (.iaload, 1) := by decide +kernel
theorem dX11_wrong_175 : decode cX11_wrong 175 = .ok (.iastore, 1) := by decide +kernel
theorem dX11_wrong_176 : decode cX11_wrong 176 = .ok (.iinc 3 1, 3) := by decide +kernel
theorem dX11_wrong_179 : decode cX11_wrong 179 = .ok (.goto (-20), 3) := by decide +kernel
theorem dX11_wrong_182 : decode cX11_wrong 182 = .ok (.iinc 2 1, 3) := by decide +kernel
theorem dX11_wrong_185 : decode cX11_wrong 185 = .ok (.goto (-138), 3) := by decide +kernel
theorem dX11_wrong_188 : decode cX11_wrong 188 = .ok (.aload_n 0, 1) := by decide +kernel
theorem dX11_wrong_189 : decode cX11_wrong 189 = .ok (.getfield 35, 3) := by decide +kernel
theorem dX11_wrong_192 : decode cX11_wrong 192 = .ok (.iload_n 1, 1) := by decide +kernel
theorem dX11_wrong_193 : decode cX11_wrong 193 = .ok (.iaload, 1) := by decide +kernel
theorem dX11_wrong_194 : decode cX11_wrong 194 = .ok (.ireturn, 1) := by decide +kernel
theorem dX11_canBe_0 : decode cX11_canBe 0 = .ok (.iconst 0, 1) := by decide +kernel
theorem dX11_canBe_1 : decode cX11_canBe 1 = .ok (.istore_n 2, 1) := by decide +kernel
theorem dX11_canBe_2 : decode cX11_canBe 2 = .ok (.iload_n 2, 1) := by decide +kernel
theorem dX11_canBe_3 : decode cX11_canBe 3 = .ok (.bipush 11, 2) := by decide +kernel
theorem dX11_canBe_5 : decode cX11_canBe 5 = .ok (.if_icmp .ge 25, 3) := by decide +kernel
theorem dX11_canBe_8 : decode cX11_canBe 8 = .ok (.aload_n 0, 1) := by decide +kernel
theorem dX11_canBe_9 : decode cX11_canBe 9 = .ok (.getfield 35, 3) := by decide +kernel
theorem dX11_canBe_12 : decode cX11_canBe 12 = .ok (.iload_n 2, 1) := by decide +kernel
theorem dX11_canBe_13 : decode cX11_canBe 13 = .ok (.iload_n 2, 1) := by decide +kernel
theorem dX11_canBe_14 : decode cX11_canBe 14 = .ok (.ifCond .ne 7, 3) := by decide +kernel
theorem dX11_canBe_17 : decode cX11_canBe 17 = .ok (.iconst 0, 1) := by decide +kernel
theorem dX11_canBe_18 : decode cX11_canBe 18 = .ok (.goto 5, 3) := by decide +kernel
theorem dX11_canBe_21 : decode cX11_canBe 21 = .ok (.bipush 99, 2) := by decide +kernel
theorem dX11_canBe_23 : decode cX11_canBe 23 = .ok (.iastore, 1) := by decide +kernel
theorem dX11_canBe_24 : decode cX11_canBe 24 = .ok (.iinc 2 1, 3) := by decide +kernel
theorem dX11_canBe_27 : decode cX11_canBe 27 = .ok (.goto (-25), 3) := by decide +kernel
theorem dX11_canBe_30 : decode cX11_canBe 30 = .ok (.iconst 0, 1) := by decide +kernel
theorem dX11_canBe_31 : decode cX11_canBe 31 = .ok (.istore_n 2, 1) := by decide +kernel
theorem dX11_canBe_32 : decode cX11_canBe 32 = .ok (.iload_n 2, 1) := by decide +kernel
theorem dX11_canBe_33 : decode cX11_canBe 33 = .ok (.bipush 10, 2) := by decide +kernel
theorem dX11_canBe_35 : decode cX11_canBe 35 = .ok (.if_icmp .ge 138, 3) := by decide +kernel
theorem dX11_canBe_38 : decode cX11_canBe 38 = .ok (.iconst 0, 1) := by decide +kernel
theorem dX11_canBe_39 : decode cX11_canBe 39 = .ok (.istore_n 3, 1) := by decide +kernel
theorem dX11_canBe_40 : decode cX11_canBe 40 = .ok (.iload_n 3, 1) := by decide +kernel
theorem dX11_canBe_41 : decode cX11_canBe 41 = .ok (.iload_n 1, 1) := by decide +kernel
theorem dX11_canBe_42 : decode cX11_canBe 42 = .ok (.if_icmp .gt 100, 3) := by decide +kernel
theorem dX11_canBe_45 : decode cX11_canBe 45 = .ok (.aload_n 0, 1) := by decide +kernel
theorem dX11_canBe_46 : decode cX11_canBe 46 = .ok (.getfield 38, 3) := by decide +kernel
theorem dX11_canBe_49 : decode cX11_canBe 49 = .ok (.iload_n 3, 1) := by decide +kernel
theorem dX11_canBe_50 : decode cX11_canBe 50 = .ok (.bipush 99, 2) := by decide +kernel
theorem dX11_canBe_52 : decode cX11_canBe 52 = .ok (.iastore, 1) := by decide +kernel
theorem dX11_canBe_53 : decode cX11_canBe 53 = .ok (.aload_n 0, 1) := by decide +kernel
theorem dX11_canBe_54 : decode cX11_canBe 54 = .ok (.getfield 41, 3) := by decide +kernel
theorem dX11_canBe_57 : decode cX11_canBe 57 = .ok (.iload_n 2, 1) := by decide +kernel
theorem dX11_canBe_58 : decode cX11_canBe 58 = .ok (.iaload, 1) := by decide +kernel
theorem dX11_canBe_59 : decode cX11_canBe 59 = .ok (.istore 4, 2) := by decide +kernel
theorem dX11_canBe_61 : decode cX11_canBe 61 = .ok (.iload 4, 2) := by decide +kernel
theorem dX11_canBe_63 : decode cX11_canBe 63 = .ok (.iload_n 3, 1) := by decide +kernel
theorem dX11_canBe_64 : decode cX11_canBe 64 = .ok (.if_icmp .gt 72, 3) := by decide +kernel
theorem dX11_canBe_67 : decode cX11_canBe 67 = .ok (.iload 4, 2) := by decide +kernel
theorem dX11_canBe_69 : decode cX11_canBe 69 = .ok (.ifCond .eq 21, 3) := by decide +kernel
theorem dX11_canBe_72 : decode cX11_canBe 72 = .ok (.aload_n 0, 1) := by decide +kernel
theorem dX11_canBe_73 : decode cX11_canBe 73 = .ok (.iload_n 2, 1) := by decide +kernel
theorem dX11_canBe_74 : decode cX11_canBe 74 = .ok (.invokevirtual 144, 3) := by decide +kernel
theorem dX11_canBe_77 : decode cX11_canBe 77 = .ok (.ifCond .ne 17, 3) := by decide +kernel
theorem dX11_canBe_80 : decode cX11_canBe 80 = .ok (.aload_n 0, 1) := by decide +kernel
theorem dX11_canBe_81 : decode cX11_canBe 81 = .ok (.iload_n 2, 1) := by decide +kernel
theorem dX11_canBe_82 : decode cX11_canBe 82 = .ok (.iload 4, 2) := by decide +kernel
theorem dX11_canBe_84 : decode cX11_canBe 84 = .ok (.invokevirtual 133, 3) := by decide +kernel
theorem dX11_canBe_87 : decode cX11_canBe 87 = .ok (.ifCond .eq 7, 3) := by decide +kernel
theorem dX11_canBe_90 : decode cX11_canBe 90 = .ok (.iconst 1, 1) := by decide +kernel
theorem dX11_canBe_91 : decode cX11_canBe 91 = .ok (.goto 4, 3) := by decide +kernel
theorem dX11_canBe_94 : decode cX11_canBe 94 = .ok (.iconst 0, 1) := by decide +kernel
theorem dX11_canBe_95 : decode cX11_canBe 95 = .ok (.istore 5, 2) := by decide +kernel
theorem dX11_canBe_97 : decode cX11_canBe 97 = .ok (.aload_n 0, 1) := by decide +kernel
theorem dX11_canBe_98 : decode cX11_canBe 98 = .ok (.getfield 38, 3) := by decide +kernel
theorem dX11_canBe_101 : decode cX11_canBe 101 = .ok (.iload_n 3, 1) := by decide +kernel
theorem dX11_canBe_102 : decode cX11_canBe 102 = .ok (.iload 5, 2) := by decide +kernel
theorem dX11_canBe_104 : decode cX11_canBe 104 = .ok (.ifCond .eq 19, 3) := by decide +kernel
theorem dX11_canBe_107 : decode cX11_canBe 107 = .ok (.aload_n 0, 1) := by decide +kernel
theorem dX11_canBe_108 : decode cX11_canBe 108 = .ok (.getfield 35, 3) := by decide +kernel
theorem dX11_canBe_111 : decode cX11_canBe 111 = .ok (.iload_n 3, 1) := by decide +kernel
theorem dX11_canBe_112 : decode cX11_canBe 112 = .ok (.iload 4, 2) := by decide +kernel
theorem dX11_canBe_114 : decode cX11_canBe 114 = .ok (.isub, 1) := by decide +kernel
theorem dX11_canBe_115 : decode cX11_canBe 115 = .ok (.iaload, 1) := by decide +kernel
theorem dX11_canBe_116 : decode cX11_canBe 116 = .ok (.ifCond .ne 7, 3) := by decide +kernel
theorem dX11_canBe_119 : decode cX11_canBe 119 = .ok (.iconst 0, 1) := by decide +kernel
theorem dX11_canBe_120 : decode cX11_canBe 120 = .ok (.goto 9, 3) := by decide +kernel
theorem dX11_canBe_123 : decode cX11_canBe 123 = .ok (.aload_n 0, 1) := by decide +kernel
theorem dX11_canBe_124 : decode cX11_canBe 124 = .ok (.getfield 38, 3) := by decide +kernel
theorem dX11_canBe_127 : decode cX11_canBe 127 = .ok (.iload_n 3, 1) := by decide +kernel
theorem dX11_canBe_128 : decode cX11_canBe 128 = .ok (.iaload, 1) := by decide +kernel
theorem dX11_canBe_129 : decode cX11_canBe 129 = .ok (.iastore, 1) := by decide +kernel
theorem dX11_canBe_130 : decode cX11_canBe 130 = .ok (.iinc 4 1, 3) := by decide +kernel
theorem dX11_canBe_133 : decode cX11_canBe 133 = .ok (.goto (-72), 3) := by decide +kernel
theorem dX11_canBe_136 : decode cX11_canBe 136 = .ok (.iinc 3 1, 3) := by decide +kernel
theorem dX11_canBe_139 : decode cX11_canBe 139 = .ok (.goto (-99), 3) := by decide +kernel
theorem dX11_canBe_142 : decode cX11_canBe 142 = .ok (.iconst 0, 1) := by decide +kernel
theorem dX11_canBe_143 : decode cX11_canBe 143 = .ok (.istore_n 3, 1) := by decide +kernel
theorem dX11_canBe_144 : decode cX11_canBe 144 = .ok (.iload_n 3, 1) := by decide +kernel
theorem dX11_canBe_145 : decode cX11_canBe 145 = .ok (.iload_n 1, 1) := by decide +kernel
theorem dX11_canBe_146 : decode cX11_canBe 146 = .ok (.if_icmp .gt 21, 3) := by decide +kernel
theorem dX11_canBe_149 : decode cX11_canBe 149 = .ok (.aload_n 0, 1) := by decide +kernel
theorem dX11_canBe_150 : decode cX11_canBe 150 = .ok (.getfield 35, 3) := by decide +kernel
theorem dX11_canBe_153 : decode cX11_canBe 153 = .ok (.iload_n 3, 1) := by decide +kernel
theorem dX11_canBe_154 : decode cX11_canBe 154 = .ok (.aload_n 0, 1) := by decide +kernel
theorem dX11_canBe_155 : decode cX11_canBe 155 = .ok (.getfield 38, 3) := by decide +kernel
theorem dX11_canBe_158 : decode cX11_canBe 158 = .ok (.iload_n 3, 1) := by decide +kernel
theorem dX11_canBe_159 : decode cX11_canBe 159 = .ok (.iaload, 1) := by decide +kernel
theorem dX11_canBe_160 : decode cX11_canBe 160 = .ok (.iastore, 1) := by decide +kernel
theorem dX11_canBe_161 : decode cX11_canBe 161 = .ok (.iinc 3 1, 3) := by decide +kernel
theorem dX11_canBe_164 : decode cX11_canBe 164 = .ok (.goto (-20), 3) := by decide +kernel
theorem dX11_canBe_167 : decode cX11_canBe 167 = .ok (.iinc 2 1, 3) := by decide +kernel
theorem dX11_canBe_170 : decode cX11_canBe 170 = .ok (.goto (-138), 3) := by decide +kernel
theorem dX11_canBe_173 : decode cX11_canBe 173 = .ok (.aload_n 0, 1) := by decide +kernel
theorem dX11_canBe_174 : decode cX11_canBe 174 = .ok (.getfield 35, 3) := by decide +kernel
theorem dX11_canBe_177 : decode cX11_canBe 177 = .ok (.iload_n 1, 1) := by decide +kernel
theorem dX11_canBe_178 : decode cX11_canBe 178 = .ok (.iaload, 1) := by decide +kernel
theorem dX11_canBe_179 : decode cX11_canBe 179 = .ok (.ifCond .ne 7, 3) := by decide +kernel
theorem dX11_canBe_182 : decode cX11_canBe 182 = .ok (.iconst 1, 1) := by decide +kernel
theorem dX11_canBe_183 : decode cX11_canBe 183 = .ok (.goto 4, 3) := by decide +kernel
theorem dX11_canBe_186 : decode cX11_canBe 186 = .ok (.iconst 0, 1) := by decide +kernel
theorem dX11_canBe_187 : decode cX11_canBe 187 = .ok (.ireturn, 1) := by decide +kernel
theorem dX11_agreed_0 : decode cX11_agreed 0 = .ok (.aload_n 0, 1) := by decide +kernel
theorem dX11_agreed_1 : decode cX11_agreed 1 = .ok (.iload_n 1, 1) := by decide +kernel
theorem dX11_agreed_2 : decode cX11_agreed 2 = .ok (.invokevirtual 147, 3) := by decide +kernel
theorem dX11_agreed_5 : decode cX11_agreed 5 = .ok (.ifCond .ne 5, 3) := by decide +kernel
theorem dX11_agreed_8 : decode cX11_agreed 8 = .ok (.iconst (-1), 1) := by decide +kernel
theorem dX11_agreed_9 : decode cX11_agreed 9 = .ok (.ireturn, 1) := by decide +kernel
theorem dX11_agreed_10 : decode cX11_agreed 10 = .ok (.iconst 0, 1) := by decide +kernel
theorem dX11_agreed_11 : decode cX11_agreed 11 = .ok (.istore_n 2, 1) := by decide +kernel
theorem dX11_agreed_12 : decode cX11_agreed 12 = .ok (.iload_n 2, 1) := by decide +kernel
theorem dX11_agreed_13 : decode cX11_agreed 13 = .ok (.bipush 10, 2) := by decide +kernel
theorem dX11_agreed_15 : decode cX11_agreed 15 = .ok (.if_icmp .ge 16, 3) := by decide +kernel
theorem dX11_agreed_18 : decode cX11_agreed 18 = .ok (.aload_n 0, 1) := by decide +kernel
theorem dX11_agreed_19 : decode cX11_agreed 19 = .ok (.getfield 41, 3) := by decide +kernel
theorem dX11_agreed_22 : decode cX11_agreed 22 = .ok (.iload_n 2, 1) := by decide +kernel
theorem dX11_agreed_23 : decode cX11_agreed 23 = .ok (.iconst 0, 1) := by decide +kernel
theorem dX11_agreed_24 : decode cX11_agreed 24 = .ok (.iastore, 1) := by decide +kernel
theorem dX11_agreed_25 : decode cX11_agreed 25 = .ok (.iinc 2 1, 3) := by decide +kernel
theorem dX11_agreed_28 : decode cX11_agreed 28 = .ok (.goto (-16), 3) := by decide +kernel
theorem dX11_agreed_31 : decode cX11_agreed 31 = .ok (.aload_n 0, 1) := by decide +kernel
theorem dX11_agreed_32 : decode cX11_agreed 32 = .ok (.aload_n 0, 1) := by decide +kernel
theorem dX11_agreed_33 : decode cX11_agreed 33 = .ok (.getfield 109, 3) := by decide +kernel
theorem dX11_agreed_36 : decode cX11_agreed 36 = .ok (.invokevirtual 179, 3) := by decide +kernel
theorem dX11_agreed_39 : decode cX11_agreed 39 = .ok (.ifCond .ne 6, 3) := by decide +kernel
theorem dX11_agreed_42 : decode cX11_agreed 42 = .ok (.bipush (-9), 2) := by decide +kernel
theorem dX11_agreed_44 : decode cX11_agreed 44 = .ok (.ireturn, 1) := by decide +kernel
theorem dX11_agreed_45 : decode cX11_agreed 45 = .ok (.bipush (-9), 2) := by decide +kernel
theorem dX11_agreed_47 : decode cX11_agreed 47 = .ok (.istore_n 2, 1) := by decide +kernel
theorem dX11_agreed_48 : decode cX11_agreed 48 = .ok (.iconst 0, 1) := by decide +kernel
theorem dX11_agreed_49 : decode cX11_agreed 49 = .ok (.istore_n 3, 1) := by decide +kernel
theorem dX11_agreed_50 : decode cX11_agreed 50 = .ok (.iload_n 3, 1) := by decide +kernel
theorem dX11_agreed_51 : decode cX11_agreed 51 = .ok (.iload_n 1, 1) := by decide +kernel
theorem dX11_agreed_52 : decode cX11_agreed 52 = .ok (.if_icmp .gt 64, 3) := by decide +kernel
theorem dX11_agreed_55 : decode cX11_agreed 55 = .ok (.iconst 0, 1) := by decide +kernel
theorem dX11_agreed_56 : decode cX11_agreed 56 = .ok (.istore 4, 2) := by decide +kernel
theorem dX11_agreed_58 : decode cX11_agreed 58 = .ok (.aload_n 0, 1) := by decide +kernel
theorem dX11_agreed_59 : decode cX11_agreed 59 = .ok (.getfield 41, 3) := by decide +kernel
theorem dX11_agreed_62 : decode cX11_agreed 62 = .ok (.iconst 0, 1) := by decide +kernel
theorem dX11_agreed_63 : decode cX11_agreed 63 = .ok (.dup2, 1) := by decide +kernel
theorem dX11_agreed_64 : decode cX11_agreed 64 = .ok (.iaload, 1) := by decide +kernel
theorem dX11_agreed_65 : decode cX11_agreed 65 = .ok (.iconst 1, 1) := by decide +kernel
theorem dX11_agreed_66 : decode cX11_agreed 66 = .ok (.iadd, 1) := by decide +kernel
theorem dX11_agreed_67 : decode cX11_agreed 67 = .ok (.iastore, 1) := by decide +kernel
theorem dX11_agreed_68 : decode cX11_agreed 68 = .ok (.aload_n 0, 1) := by decide +kernel
theorem dX11_agreed_69 : decode cX11_agreed 69 = .ok (.aload_n 0, 1) := by decide +kernel
theorem dX11_agreed_70 : decode cX11_agreed 70 = .ok (.getfield 109, 3) := by decide +kernel
theorem dX11_agreed_73 : decode cX11_agreed 73 = .ok (.invokevirtual 179, 3) := by decide +kernel
theorem dX11_agreed_76 : decode cX11_agreed 76 = .ok (.ifCond .ne 31, 3) := by decide +kernel
theorem dX11_agreed_79 : decode cX11_agreed 79 = .ok (.aload_n 0, 1) := by decide +kernel
theorem dX11_agreed_80 : decode cX11_agreed 80 = .ok (.getfield 41, 3) := by decide +kernel
theorem dX11_agreed_83 : decode cX11_agreed 83 = .ok (.iload 4, 2) := by decide +kernel
theorem dX11_agreed_85 : decode cX11_agreed 85 = .ok (.dup2, 1) := by decide +kernel
theorem dX11_agreed_86 : decode cX11_agreed 86 = .ok (.iaload, 1) := by decide +kernel
theorem dX11_agreed_87 : decode cX11_agreed 87 = .ok (.iconst 1, 1) := by decide +kernel
theorem dX11_agreed_88 : decode cX11_agreed 88 = .ok (.isub, 1) := by decide +kernel
theorem dX11_agreed_89 : decode cX11_agreed 89 = .ok (.iastore, 1) := by decide +kernel
theorem dX11_agreed_90 : decode cX11_agreed 90 = .ok (.iinc 4 1, 3) := by decide +kernel
theorem dX11_agreed_93 : decode cX11_agreed 93 = .ok (.aload_n 0, 1) := by decide +kernel
theorem dX11_agreed_94 : decode cX11_agreed 94 = .ok (.getfield 41, 3) := by decide +kernel
theorem dX11_agreed_97 : decode cX11_agreed 97 = .ok (.iload 4, 2) := by decide +kernel
theorem dX11_agreed_99 : decode cX11_agreed 99 = .ok (.dup2, 1) := by decide +kernel
theorem dX11_agreed_100 : decode cX11_agreed 100 = .ok (.iaload, 1) := by decide +kernel
theorem dX11_agreed_101 : decode cX11_agreed 101 = .ok (.iconst 1, 1) := by decide +kernel
theorem dX11_agreed_102 : decode cX11_agreed 102 = .ok (.iadd, 1) := by decide +kernel
theorem dX11_agreed_103 : decode cX11_agreed 103 = .ok (.iastore, 1) := by decide +kernel
theorem dX11_agreed_104 : decode cX11_agreed 104 = .ok (.goto (-36), 3) := by decide +kernel
theorem dX11_agreed_107 : decode cX11_agreed 107 = .ok (.iload 4, 2) := by decide +kernel
theorem dX11_agreed_109 : decode cX11_agreed 109 = .ok (.istore_n 2, 1) := by decide +kernel
theorem dX11_agreed_110 : decode cX11_agreed 110 = .ok (.iinc 3 1, 3) := by decide +kernel
theorem dX11_agreed_113 : decode cX11_agreed 113 = .ok (.goto (-63), 3) := by decide +kernel
theorem dX11_agreed_116 : decode cX11_agreed 116 = .ok (.iload_n 2, 1) := by decide +kernel
theorem dX11_agreed_117 : decode cX11_agreed 117 = .ok (.ireturn, 1) := by decide +kernel
theorem dX11_late_0 : decode cX11_late 0 = .ok (.aload_n 0, 1) := by decide +kernel
theorem dX11_late_1 : decode cX11_late 1 = .ok (.getfield 109, 3) := by decide +kernel
theorem dX11_late_4 : decode cX11_late 4 = .ok (.bipush 9, 2) := by decide +kernel
theorem dX11_late_6 : decode cX11_late 6 = .ok (.if_icmp .ne 6, 3) := by decide +kernel
theorem dX11_late_9 : decode cX11_late 9 = .ok (.bipush (-4), 2) := by decide +kernel
theorem dX11_late_11 : decode cX11_late 11 = .ok (.ireturn, 1) := by decide +kernel
theorem dX11_late_12 : decode cX11_late 12 = .ok (.aload_n 0, 1) := by decide +kernel
theorem dX11_late_13 : decode cX11_late 13 = .ok (.invokevirtual 150, 3) := by decide +kernel
theorem dX11_late_16 : decode cX11_late 16 = .ok (.iconst 0, 1) := by decide +kernel
theorem dX11_late_17 : decode cX11_late 17 = .ok (.istore_n 1, 1) := by decide +kernel
theorem dX11_late_18 : decode cX11_late 18 = .ok (.iload_n 1, 1) := by decide +kernel
theorem dX11_late_19 : decode cX11_late 19 = .ok (.bipush 11, 2) := by decide +kernel
theorem dX11_late_21 : decode cX11_late 21 = .ok (.if_icmp .ge 25, 3) := by decide +kernel
theorem dX11_late_24 : decode cX11_late 24 = .ok (.aload_n 0, 1) := by decide +kernel
theorem dX11_late_25 : decode cX11_late 25 = .ok (.getfield 35, 3) := by decide +kernel
theorem dX11_late_28 : decode cX11_late 28 = .ok (.iload_n 1, 1) := by decide +kernel
theorem dX11_late_29 : decode cX11_late 29 = .ok (.iload_n 1, 1) := by decide +kernel
theorem dX11_late_30 : decode cX11_late 30 = .ok (.ifCond .ne 7, 3) := by decide +kernel
theorem dX11_late_33 : decode cX11_late 33 = .ok (.iconst 0, 1) := by decide +kernel
theorem dX11_late_34 : decode cX11_late 34 = .ok (.goto 5, 3) := by decide +kernel
theorem dX11_late_37 : decode cX11_late 37 = .ok (.bipush (-9), 2) := by decide +kernel
theorem dX11_late_39 : decode cX11_late 39 = .ok (.iastore, 1) := by decide +kernel
theorem dX11_late_40 : decode cX11_late 40 = .ok (.iinc 1 1, 3) := by decide +kernel
theorem dX11_late_43 : decode cX11_late 43 = .ok (.goto (-25), 3) := by decide +kernel
theorem dX11_late_46 : decode cX11_late 46 = .ok (.aload_n 0, 1) := by decide +kernel
theorem dX11_late_47 : decode cX11_late 47 = .ok (.getfield 109, 3) := by decide +kernel
theorem dX11_late_50 : decode cX11_late 50 = .ok (.iconst 1, 1) := by decide +kernel
theorem dX11_late_51 : decode cX11_late 51 = .ok (.iadd, 1) := by decide +kernel
theorem dX11_late_52 : decode cX11_late 52 = .ok (.istore_n 1, 1) := by decide +kernel
theorem dX11_late_53 : decode cX11_late 53 = .ok (.iconst 0, 1) := by decide +kernel
theorem dX11_late_54 : decode cX11_late 54 = .ok (.istore_n 2, 1) := by decide +kernel
theorem dX11_late_55 : decode cX11_late 55 = .ok (.iload_n 2, 1) := by decide +kernel
theorem dX11_late_56 : decode cX11_late 56 = .ok (.bipush 10, 2) := by decide +kernel
theorem dX11_late_58 : decode cX11_late 58 = .ok (.if_icmp .ge 195, 3) := by decide +kernel
theorem dX11_late_61 : decode cX11_late 61 = .ok (.aload_n 0, 1) := by decide +kernel
theorem dX11_late_62 : decode cX11_late 62 = .ok (.iload_n 2, 1) := by decide +kernel
theorem dX11_late_63 : decode cX11_late 63 = .ok (.invokevirtual 130, 3) := by decide +kernel
theorem dX11_late_66 : decode cX11_late 66 = .ok (.istore_n 3, 1) := by decide +kernel
theorem dX11_late_67 : decode cX11_late 67 = .ok (.iconst 0, 1) := by decide +kernel
theorem dX11_late_68 : decode cX11_late 68 = .ok (.istore 4, 2) := by decide +kernel
theorem dX11_late_70 : decode cX11_late 70 = .ok (.iload 4, 2) := by decide +kernel
theorem dX11_late_72 : decode cX11_late 72 = .ok (.iload_n 1, 1) := by decide +kernel
theorem dX11_late_73 : decode cX11_late 73 = .ok (.if_icmp .gt 145, 3) := by decide +kernel
theorem dX11_late_76 : decode cX11_late 76 = .ok (.aload_n 0, 1) := by decide +kernel
theorem dX11_late_77 : decode cX11_late 77 = .ok (.getfield 38, 3) := by decide +kernel
