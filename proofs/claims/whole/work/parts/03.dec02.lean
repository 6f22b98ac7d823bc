theorem dX9_take_44 : decode cX9_take 44 = .ok (.bastore, 1) := by decide +kernel
theorem dX9_take_45 : decode cX9_take 45 = .ok (.aload_n 0, 1) := by decide +kernel
theorem dX9_take_46 : decode cX9_take 46 = .ok (.iconst 0, 1) := by decide +kernel
theorem dX9_take_47 : decode cX9_take 47 = .ok (.putfield 112, 3) := by decide +kernel
theorem dX9_take_50 : decode cX9_take 50 = .ok (.aload_n 0, 1) := by decide +kernel
theorem dX9_take_51 : decode cX9_take 51 = .ok (.iconst 0, 1) := by decide +kernel
theorem dX9_take_52 : decode cX9_take 52 = .ok (.putfield 115, 3) := by decide +kernel
theorem dX9_take_55 : decode cX9_take 55 = .ok (.aload_n 0, 1) := by decide +kernel
theorem dX9_take_56 : decode cX9_take 56 = .ok (.iconst 0, 1) := by decide +kernel
theorem dX9_take_57 : decode cX9_take 57 = .ok (.putfield 118, 3) := by decide +kernel
theorem dX9_take_60 : decode cX9_take 60 = .ok (.aload_n 0, 1) := by decide +kernel
theorem dX9_take_61 : decode cX9_take 61 = .ok (.iconst 0, 1) := by decide +kernel
theorem dX9_take_62 : decode cX9_take 62 = .ok (.putfield 121, 3) := by decide +kernel
theorem dX9_take_65 : decode cX9_take 65 = .ok (.aload_n 0, 1) := by decide +kernel
theorem dX9_take_66 : decode cX9_take 66 = .ok (.iconst 0, 1) := by decide +kernel
theorem dX9_take_67 : decode cX9_take 67 = .ok (.putfield 124, 3) := by decide +kernel
theorem dX9_take_70 : decode cX9_take 70 = .ok (.iconst 0, 1) := by decide +kernel
theorem dX9_take_71 : decode cX9_take 71 = .ok (.istore_n 1, 1) := by decide +kernel
theorem dX9_take_72 : decode cX9_take 72 = .ok (.iload_n 1, 1) := by decide +kernel
theorem dX9_take_73 : decode cX9_take 73 = .ok (.iconst 3, 1) := by decide +kernel
theorem dX9_take_74 : decode cX9_take 74 = .ok (.if_icmp .ge 30, 3) := by decide +kernel
theorem dX9_take_77 : decode cX9_take 77 = .ok (.aload_n 0, 1) := by decide +kernel
theorem dX9_take_78 : decode cX9_take 78 = .ok (.getfield 39, 3) := by decide +kernel
theorem dX9_take_81 : decode cX9_take 81 = .ok (.iload_n 1, 1) := by decide +kernel
theorem dX9_take_82 : decode cX9_take 82 = .ok (.iconst 0, 1) := by decide +kernel
theorem dX9_take_83 : decode cX9_take 83 = .ok (.iastore, 1) := by decide +kernel
theorem dX9_take_84 : decode cX9_take 84 = .ok (.aload_n 0, 1) := by decide +kernel
theorem dX9_take_85 : decode cX9_take 85 = .ok (.getfield 42, 3) := by decide +kernel
theorem dX9_take_88 : decode cX9_take 88 = .ok (.iload_n 1, 1) := by decide +kernel
theorem dX9_take_89 : decode cX9_take 89 = .ok (.iconst 0, 1) := by decide +kernel
theorem dX9_take_90 : decode cX9_take 90 = .ok (.iastore, 1) := by decide +kernel
theorem dX9_take_91 : decode cX9_take 91 = .ok (.aload_n 0, 1) := by decide +kernel
theorem dX9_take_92 : decode cX9_take 92 = .ok (.getfield 45, 3) := by decide +kernel
theorem dX9_take_95 : decode cX9_take 95 = .ok (.iload_n 1, 1) := by decide +kernel
theorem dX9_take_96 : decode cX9_take 96 = .ok (.iconst 5, 1) := by decide +kernel
theorem dX9_take_97 : decode cX9_take 97 = .ok (.iastore, 1) := by decide +kernel
theorem dX9_take_98 : decode cX9_take 98 = .ok (.iinc 1 1, 3) := by decide +kernel
theorem dX9_take_101 : decode cX9_take 101 = .ok (.goto (-29), 3) := by decide +kernel
theorem dX9_take_104 : decode cX9_take 104 = .ok (.return_, 1) := by decide +kernel
theorem dX9_write_0 : decode cX9_write 0 = .ok (.iload_n 1, 1) := by decide +kernel
theorem dX9_write_1 : decode cX9_write 1 = .ok (.i2l, 1) := by decide +kernel
theorem dX9_write_2 : decode cX9_write 2 = .ok (.lconst 1, 1) := by decide +kernel
theorem dX9_write_3 : decode cX9_write 3 = .ok (.ldc2_w 127, 3) := by decide +kernel
theorem dX9_write_6 : decode cX9_write 6 = .ok (.invokestatic 104, 3) := by decide +kernel
theorem dX9_write_9 : decode cX9_write 9 = .ok (.ifCond .ne 6, 3) := by decide +kernel
theorem dX9_write_12 : decode cX9_write 12 = .ok (.bipush (-2), 2) := by decide +kernel
theorem dX9_write_14 : decode cX9_write 14 = .ok (.ireturn, 1) := by decide +kernel
theorem dX9_write_15 : decode cX9_write 15 = .ok (.aload_n 0, 1) := by decide +kernel
theorem dX9_write_16 : decode cX9_write 16 = .ok (.getfield 129, 3) := by decide +kernel
theorem dX9_write_19 : decode cX9_write 19 = .ok (.iload_n 1, 1) := by decide +kernel
theorem dX9_write_20 : decode cX9_write 20 = .ok (.iadd, 1) := by decide +kernel
theorem dX9_write_21 : decode cX9_write 21 = .ok (.bipush 64, 2) := by decide +kernel
theorem dX9_write_23 : decode cX9_write 23 = .ok (.if_icmp .le 6, 3) := by decide +kernel
theorem dX9_write_26 : decode cX9_write 26 = .ok (.bipush (-4), 2) := by decide +kernel
theorem dX9_write_28 : decode cX9_write 28 = .ok (.ireturn, 1) := by decide +kernel
theorem dX9_write_29 : decode cX9_write 29 = .ok (.iload_n 1, 1) := by decide +kernel
theorem dX9_write_30 : decode cX9_write 30 = .ok (.iconst 1, 1) := by decide +kernel
theorem dX9_write_31 : decode cX9_write 31 = .ok (.isub, 1) := by decide +kernel
theorem dX9_write_32 : decode cX9_write 32 = .ok (.istore 4, 2) := by decide +kernel
theorem dX9_write_34 : decode cX9_write 34 = .ok (.iload 4, 2) := by decide +kernel
theorem dX9_write_36 : decode cX9_write 36 = .ok (.ifCond .lt 40, 3) := by decide +kernel
theorem dX9_write_39 : decode cX9_write 39 = .ok (.aload_n 0, 1) := by decide +kernel
theorem dX9_write_40 : decode cX9_write 40 = .ok (.getfield 20, 3) := by decide +kernel
theorem dX9_write_43 : decode cX9_write 43 = .ok (.aload_n 0, 1) := by decide +kernel
theorem dX9_write_44 : decode cX9_write 44 = .ok (.getfield 129, 3) := by decide +kernel
theorem dX9_write_47 : decode cX9_write 47 = .ok (.lload_n 2, 1) := by decide +kernel
theorem dX9_write_48 : decode cX9_write 48 = .ok (.bipush 8, 2) := by decide +kernel
theorem dX9_write_50 : decode cX9_write 50 = .ok (.iload 4, 2) := by decide +kernel
theorem dX9_write_52 : decode cX9_write 52 = .ok (.imul, 1) := by decide +kernel
theorem dX9_write_53 : decode cX9_write 53 = .ok (.lshr, 1) := by decide +kernel
theorem dX9_write_54 : decode cX9_write 54 = .ok (.ldc2_w 132, 3) := by decide +kernel
theorem dX9_write_57 : decode cX9_write 57 = .ok (.land, 1) := by decide +kernel
theorem dX9_write_58 : decode cX9_write 58 = .ok (.l2i, 1) := by decide +kernel
theorem dX9_write_59 : decode cX9_write 59 = .ok (.iastore, 1) := by decide +kernel
theorem dX9_write_60 : decode cX9_write 60 = .ok (.aload_n 0, 1) := by decide +kernel
theorem dX9_write_61 : decode cX9_write 61 = .ok (.dup, 1) := by decide +kernel
theorem dX9_write_62 : decode cX9_write 62 = .ok (.getfield 129, 3) := by decide +kernel
theorem dX9_write_65 : decode cX9_write 65 = .ok (.iconst 1, 1) := by decide +kernel
theorem dX9_write_66 : decode cX9_write 66 = .ok (.iadd, 1) := by decide +kernel
theorem dX9_write_67 : decode cX9_write 67 = .ok (.putfield 129, 3) := by decide +kernel
theorem dX9_write_70 : decode cX9_write 70 = .ok (.iinc 4 (-1), 3) := by decide +kernel
theorem dX9_write_73 : decode cX9_write 73 = .ok (.goto (-39), 3) := by decide +kernel
theorem dX9_write_76 : decode cX9_write 76 = .ok (.aload_n 0, 1) := by decide +kernel
theorem dX9_write_77 : decode cX9_write 77 = .ok (.getfield 129, 3) := by decide +kernel
theorem dX9_write_80 : decode cX9_write 80 = .ok (.ireturn, 1) := by decide +kernel
theorem dX9_wipe_0 : decode cX9_wipe 0 = .ok (.aload_n 0, 1) := by decide +kernel
theorem dX9_wipe_1 : decode cX9_wipe 1 = .ok (.getfield 129, 3) := by decide +kernel
theorem dX9_wipe_4 : decode cX9_wipe 4 = .ok (.istore_n 1, 1) := by decide +kernel
theorem dX9_wipe_5 : decode cX9_wipe 5 = .ok (.aload_n 0, 1) := by decide +kernel
theorem dX9_wipe_6 : decode cX9_wipe 6 = .ok (.iconst 0, 1) := by decide +kernel
theorem dX9_wipe_7 : decode cX9_wipe 7 = .ok (.putfield 129, 3) := by decide +kernel
theorem dX9_wipe_10 : decode cX9_wipe 10 = .ok (.iload_n 1, 1) := by decide +kernel
theorem dX9_wipe_11 : decode cX9_wipe 11 = .ok (.ireturn, 1) := by decide +kernel
theorem dX9_figure_0 : decode cX9_figure 0 = .ok (.aload_n 0, 1) := by decide +kernel
theorem dX9_figure_1 : decode cX9_figure 1 = .ok (.getfield 134, 3) := by decide +kernel
theorem dX9_figure_4 : decode cX9_figure 4 = .ok (.bipush (-9), 2) := by decide +kernel
theorem dX9_figure_6 : decode cX9_figure 6 = .ok (.if_icmp .ne 29, 3) := by decide +kernel
theorem dX9_figure_9 : decode cX9_figure 9 = .ok (.aload_n 0, 1) := by decide +kernel
theorem dX9_figure_10 : decode cX9_figure 10 = .ok (.getfield 137, 3) := by decide +kernel
theorem dX9_figure_13 : decode cX9_figure 13 = .ok (.aload_n 0, 1) := by decide +kernel
theorem dX9_figure_14 : decode cX9_figure 14 = .ok (.getfield 129, 3) := by decide +kernel
theorem dX9_figure_17 : decode cX9_figure 17 = .ok (.if_icmp .ge 18, 3) := by decide +kernel
theorem dX9_figure_20 : decode cX9_figure 20 = .ok (.aload_n 0, 1) := by decide +kernel
theorem dX9_figure_21 : decode cX9_figure 21 = .ok (.getfield 20, 3) := by decide +kernel
theorem dX9_figure_24 : decode cX9_figure 24 = .ok (.aload_n 0, 1) := by decide +kernel
theorem dX9_figure_25 : decode cX9_figure 25 = .ok (.getfield 137, 3) := by decide +kernel
theorem dX9_figure_28 : decode cX9_figure 28 = .ok (.iaload, 1) := by decide +kernel
theorem dX9_figure_29 : decode cX9_figure 29 = .ok (.bipush 48, 2) := by decide +kernel
theorem dX9_figure_31 : decode cX9_figure 31 = .ok (.isub, 1) := by decide +kernel
theorem dX9_figure_32 : decode cX9_figure 32 = .ok (.goto 4, 3) := by decide +kernel
theorem dX9_figure_35 : decode cX9_figure 35 = .ok (.iconst (-1), 1) := by decide +kernel
theorem dX9_figure_36 : decode cX9_figure 36 = .ok (.istore_n 2, 1) := by decide +kernel
theorem dX9_figure_37 : decode cX9_figure 37 = .ok (.iload_n 2, 1) := by decide +kernel
theorem dX9_figure_38 : decode cX9_figure 38 = .ok (.i2l, 1) := by decide +kernel
theorem dX9_figure_39 : decode cX9_figure 39 = .ok (.lconst 0, 1) := by decide +kernel
theorem dX9_figure_40 : decode cX9_figure 40 = .ok (.ldc2_w 140, 3) := by decide +kernel
theorem dX9_figure_43 : decode cX9_figure 43 = .ok (.invokestatic 104, 3) := by decide +kernel
theorem dX9_figure_46 : decode cX9_figure 46 = .ok (.ifCond .eq 11, 3) := by decide +kernel
theorem dX9_figure_49 : decode cX9_figure 49 = .ok (.iload_n 1, 1) := by decide +kernel
theorem dX9_figure_50 : decode cX9_figure 50 = .ok (.iload_n 2, 1) := by decide +kernel
theorem dX9_figure_51 : decode cX9_figure 51 = .ok (.ishr, 1) := by decide +kernel
theorem dX9_figure_52 : decode cX9_figure 52 = .ok (.iconst 1, 1) := by decide +kernel
theorem dX9_figure_53 : decode cX9_figure 53 = .ok (.iand, 1) := by decide +kernel
theorem dX9_figure_54 : decode cX9_figure 54 = .ok (.ifCond .ne 29, 3) := by decide +kernel
theorem dX9_figure_57 : decode cX9_figure 57 = .ok (.aload_n 0, 1) := by decide +kernel
theorem dX9_figure_58 : decode cX9_figure 58 = .ok (.aload_n 0, 1) := by decide +kernel
theorem dX9_figure_59 : decode cX9_figure 59 = .ok (.getfield 134, 3) := by decide +kernel
theorem dX9_figure_62 : decode cX9_figure 62 = .ok (.bipush (-9), 2) := by decide +kernel
theorem dX9_figure_64 : decode cX9_figure 64 = .ok (.if_icmp .ne 10, 3) := by decide +kernel
theorem dX9_figure_67 : decode cX9_figure 67 = .ok (.aload_n 0, 1) := by decide +kernel
theorem dX9_figure_68 : decode cX9_figure 68 = .ok (.getfield 137, 3) := by decide +kernel
theorem dX9_figure_71 : decode cX9_figure 71 = .ok (.goto 7, 3) := by decide +kernel
theorem dX9_figure_74 : decode cX9_figure 74 = .ok (.aload_n 0, 1) := by decide +kernel
theorem dX9_figure_75 : decode cX9_figure 75 = .ok (.getfield 134, 3) := by decide +kernel
theorem dX9_figure_78 : decode cX9_figure 78 = .ok (.putfield 134, 3) := by decide +kernel
theorem dX9_figure_81 : decode cX9_figure 81 = .ok (.iconst 0, 1) := by decide +kernel
theorem dX9_figure_82 : decode cX9_figure 82 = .ok (.ireturn, 1) := by decide +kernel
theorem dX9_figure_83 : decode cX9_figure 83 = .ok (.aload_n 0, 1) := by decide +kernel
theorem dX9_figure_84 : decode cX9_figure 84 = .ok (.dup, 1) := by decide +kernel
theorem dX9_figure_85 : decode cX9_figure 85 = .ok (.getfield 137, 3) := by decide +kernel
theorem dX9_figure_88 : decode cX9_figure 88 = .ok (.iconst 1, 1) := by decide +kernel
theorem dX9_figure_89 : decode cX9_figure 89 = .ok (.iadd, 1) := by decide +kernel
theorem dX9_figure_90 : decode cX9_figure 90 = .ok (.putfield 137, 3) := by decide +kernel
theorem dX9_figure_93 : decode cX9_figure 93 = .ok (.iload_n 2, 1) := by decide +kernel
theorem dX9_figure_94 : decode cX9_figure 94 = .ok (.ireturn, 1) := by decide +kernel
theorem dX9_open_0 : decode cX9_open 0 = .ok (.iconst 0, 1) := by decide +kernel
theorem dX9_open_1 : decode cX9_open 1 = .ok (.istore_n 3, 1) := by decide +kernel
theorem dX9_open_2 : decode cX9_open 2 = .ok (.iconst 0, 1) := by decide +kernel
theorem dX9_open_3 : decode cX9_open 3 = .ok (.istore 4, 2) := by decide +kernel
theorem dX9_open_5 : decode cX9_open 5 = .ok (.iload 4, 2) := by decide +kernel
theorem dX9_open_7 : decode cX9_open 7 = .ok (.iload_n 2, 1) := by decide +kernel
theorem dX9_open_8 : decode cX9_open 8 = .ok (.if_icmp .ge 32, 3) := by decide +kernel
theorem dX9_open_11 : decode cX9_open 11 = .ok (.iload_n 3, 1) := by decide +kernel
theorem dX9_open_12 : decode cX9_open 12 = .ok (.aload_n 0, 1) := by decide +kernel
theorem dX9_open_13 : decode cX9_open 13 = .ok (.getfield 16, 3) := by decide +kernel
theorem dX9_open_16 : decode cX9_open 16 = .ok (.iload_n 1, 1) := by decide +kernel
theorem dX9_open_17 : decode cX9_open 17 = .ok (.iload 4, 2) := by decide +kernel
theorem dX9_open_19 : decode cX9_open 19 = .ok (.iadd, 1) := by decide +kernel
theorem dX9_open_20 : decode cX9_open 20 = .ok (.baload, 1) := by decide +kernel
theorem dX9_open_21 : decode cX9_open 21 = .ok (.ifCond .eq 7, 3) := by decide +kernel
theorem dX9_open_24 : decode cX9_open 24 = .ok (.iconst 0, 1) := by decide +kernel
theorem dX9_open_25 : decode cX9_open 25 = .ok (.goto 7, 3) := by decide +kernel
theorem dX9_open_28 : decode cX9_open 28 = .ok (.iconst 1, 1) := by decide +kernel
theorem dX9_open_29 : decode cX9_open 29 = .ok (.iload 4, 2) := by decide +kernel
theorem dX9_open_31 : decode cX9_open 31 = .ok (.ishl, 1) := by decide +kernel
theorem dX9_open_32 : decode cX9_open 32 = .ok (.ior, 1) := by decide +kernel
theorem dX9_open_33 : decode cX9_open 33 = .ok (.istore_n 3, 1) := by decide +kernel
theorem dX9_open_34 : decode cX9_open 34 = .ok (.iinc 4 1, 3) := by decide +kernel
theorem dX9_open_37 : decode cX9_open 37 = .ok (.goto (-32), 3) := by decide +kernel
theorem dX9_open_40 : decode cX9_open 40 = .ok (.iload_n 3, 1) := by decide +kernel
theorem dX9_open_41 : decode cX9_open 41 = .ok (.ireturn, 1) := by decide +kernel
theorem dX9_readText_0 : decode cX9_readText 0 = .ok (.aload_n 0, 1) := by decide +kernel
theorem dX9_readText_1 : decode cX9_readText 1 = .ok (.invokevirtual 96, 3) := by decide +kernel
theorem dX9_readText_4 : decode cX9_readText 4 = .ok (.aload_n 0, 1) := by decide +kernel
theorem dX9_readText_5 : decode cX9_readText 5 = .ok (.iconst 0, 1) := by decide +kernel
theorem dX9_readText_6 : decode cX9_readText 6 = .ok (.putfield 137, 3) := by decide +kernel
theorem dX9_readText_9 : decode cX9_readText 9 = .ok (.aload_n 0, 1) := by decide +kernel
theorem dX9_readText_10 : decode cX9_readText 10 = .ok (.bipush (-9), 2) := by decide +kernel
theorem dX9_readText_12 : decode cX9_readText 12 = .ok (.putfield 134, 3) := by decide +kernel
theorem dX9_readText_15 : decode cX9_readText 15 = .ok (.aload_n 0, 1) := by decide +kernel
theorem dX9_readText_16 : decode cX9_readText 16 = .ok (.iconst 0, 1) := by decide +kernel
theorem dX9_readText_17 : decode cX9_readText 17 = .ok (.putfield 142, 3) := by decide +kernel
theorem dX9_readText_20 : decode cX9_readText 20 = .ok (.aload_n 0, 1) := by decide +kernel
theorem dX9_readText_21 : decode cX9_readText 21 = .ok (.getfield 129, 3) := by decide +kernel
theorem dX9_readText_24 : decode cX9_readText 24 = .ok (.ifCond .eq 14, 3) := by decide +kernel
theorem dX9_readText_27 : decode cX9_readText 27 = .ok (.aload_n 0, 1) := by decide +kernel
theorem dX9_readText_28 : decode cX9_readText 28 = .ok (.getfield 20, 3) := by decide +kernel
theorem dX9_readText_31 : decode cX9_readText 31 = .ok (.iconst 0, 1) := by decide +kernel
theorem dX9_readText_32 : decode cX9_readText 32 = .ok (.iaload, 1) := by decide +kernel
theorem dX9_readText_33 : decode cX9_readText 33 = .ok (.bipush 78, 2) := by decide +kernel
theorem dX9_readText_35 : decode cX9_readText 35 = .ok (.if_icmp .eq 5, 3) := by decide +kernel
theorem dX9_readText_38 : decode cX9_readText 38 = .ok (.iconst 0, 1) := by decide +kernel
theorem dX9_readText_39 : decode cX9_readText 39 = .ok (.ireturn, 1) := by decide +kernel
theorem dX9_readText_40 : decode cX9_readText 40 = .ok (.aload_n 0, 1) := by decide +kernel
theorem dX9_readText_41 : decode cX9_readText 41 = .ok (.iconst 1, 1) := by decide +kernel
theorem dX9_readText_42 : decode cX9_readText 42 = .ok (.putfield 137, 3) := by decide +kernel
theorem dX9_readText_45 : decode cX9_readText 45 = .ok (.aload_n 0, 1) := by decide +kernel
theorem dX9_readText_46 : decode cX9_readText 46 = .ok (.getfield 7, 3) := by decide +kernel
theorem dX9_readText_49 : decode cX9_readText 49 = .ok (.iconst 0, 1) := by decide +kernel
theorem dX9_readText_50 : decode cX9_readText 50 = .ok (.aload_n 0, 1) := by decide +kernel
theorem dX9_readText_51 : decode cX9_readText 51 = .ok (.bipush 14, 2) := by decide +kernel
theorem dX9_readText_53 : decode cX9_readText 53 = .ok (.invokevirtual 145, 3) := by decide +kernel
theorem dX9_readText_56 : decode cX9_readText 56 = .ok (.iastore, 1) := by decide +kernel
theorem dX9_readText_57 : decode cX9_readText 57 = .ok (.aload_n 0, 1) := by decide +kernel
theorem dX9_readText_58 : decode cX9_readText 58 = .ok (.iconst 1, 1) := by decide +kernel
theorem dX9_readText_59 : decode cX9_readText 59 = .ok (.putfield 142, 3) := by decide +kernel
theorem dX9_readText_62 : decode cX9_readText 62 = .ok (.aload_n 0, 1) := by decide +kernel
theorem dX9_readText_63 : decode cX9_readText 63 = .ok (.getfield 134, 3) := by decide +kernel
theorem dX9_readText_66 : decode cX9_readText 66 = .ok (.bipush (-9), 2) := by decide +kernel
theorem dX9_readText_68 : decode cX9_readText 68 = .ok (.if_icmp .ne 40, 3) := by decide +kernel
theorem dX9_readText_71 : decode cX9_readText 71 = .ok (.aload_n 0, 1) := by decide +kernel
theorem dX9_readText_72 : decode cX9_readText 72 = .ok (.getfield 137, 3) := by decide +kernel
theorem dX9_readText_75 : decode cX9_readText 75 = .ok (.aload_n 0, 1) := by decide +kernel
theorem dX9_readText_76 : decode cX9_readText 76 = .ok (.getfield 129, 3) := by decide +kernel
theorem dX9_readText_79 : decode cX9_readText 79 = .ok (.if_icmp .ge 29, 3) := by decide +kernel
theorem dX9_readText_82 : decode cX9_readText 82 = .ok (.aload_n 0, 1) := by decide +kernel
theorem dX9_readText_83 : decode cX9_readText 83 = .ok (.aload_n 0, 1) := by decide +kernel
theorem dX9_readText_84 : decode cX9_readText 84 = .ok (.getfield 20, 3) := by decide +kernel
theorem dX9_readText_87 : decode cX9_readText 87 = .ok (.aload_n 0, 1) := by decide +kernel
theorem dX9_readText_88 : decode cX9_readText 88 = .ok (.getfield 137, 3) := by decide +kernel
theorem dX9_readText_91 : decode cX9_readText 91 = .ok (.iaload, 1) := by decide +kernel
theorem dX9_readText_92 : decode cX9_readText 92 = .ok (.invokevirtual 149, 3) := by decide +kernel
theorem dX9_readText_95 : decode cX9_readText 95 = .ok (.aload_n 0, 1) := by decide +kernel
theorem dX9_readText_96 : decode cX9_readText 96 = .ok (.dup, 1) := by decide +kernel
theorem dX9_readText_97 : decode cX9_readText 97 = .ok (.getfield 142, 3) := by decide +kernel
theorem dX9_readText_100 : decode cX9_readText 100 = .ok (.iconst 1, 1) := by decide +kernel
theorem dX9_readText_101 : decode cX9_readText 101 = .ok (.iadd, 1) := by decide +kernel
theorem dX9_readText_102 : decode cX9_readText 102 = .ok (.putfield 142, 3) := by decide +kernel
theorem dX9_readText_105 : decode cX9_readText 105 = .ok (.goto (-43), 3) := by decide +kernel
theorem dX9_readText_108 : decode cX9_readText 108 = .ok (.aload_n 0, 1) := by decide +kernel
theorem dX9_readText_109 : decode cX9_readText 109 = .ok (.getfield 134, 3) := by decide +kernel
theorem dX9_readText_112 : decode cX9_readText 112 = .ok (.ireturn, 1) := by decide +kernel
theorem dX9_readPart_0 : decode cX9_readPart 0 = .ok (.aload_n 0, 1) := by decide +kernel
theorem dX9_readPart_1 : decode cX9_readPart 1 = .ok (.getfield 7, 3) := by decide +kernel
theorem dX9_readPart_4 : decode cX9_readPart 4 = .ok (.iconst 0, 1) := by decide +kernel
theorem dX9_readPart_5 : decode cX9_readPart 5 = .ok (.iaload, 1) := by decide +kernel
theorem dX9_readPart_6 : decode cX9_readPart 6 = .ok (.istore_n 2, 1) := by decide +kernel
theorem dX9_readPart_7 : decode cX9_readPart 7 = .ok (.iconst 0, 1) := by decide +kernel
theorem dX9_readPart_8 : decode cX9_readPart 8 = .ok (.istore_n 3, 1) := by decide +kernel
theorem dX9_readPart_9 : decode cX9_readPart 9 = .ok (.iconst 0, 1) := by decide +kernel
theorem dX9_readPart_10 : decode cX9_readPart 10 = .ok (.istore 4, 2) := by decide +kernel
theorem dX9_readPart_12 : decode cX9_readPart 12 = .ok (.iload 4, 2) := by decide +kernel
theorem dX9_readPart_14 : decode cX9_readPart 14 = .ok (.iload_n 2, 1) := by decide +kernel
theorem dX9_readPart_15 : decode cX9_readPart 15 = .ok (.if_icmp .ge 35, 3) := by decide +kernel
theorem dX9_readPart_18 : decode cX9_readPart 18 = .ok (.iload_n 3, 1) := by decide +kernel
theorem dX9_readPart_19 : decode cX9_readPart 19 = .ok (.aload_n 0, 1) := by decide +kernel
theorem dX9_readPart_20 : decode cX9_readPart 20 = .ok (.bipush 10, 2) := by decide +kernel
theorem dX9_readPart_22 : decode cX9_readPart 22 = .ok (.iconst 3, 1) := by decide +kernel
theorem dX9_readPart_23 : decode cX9_readPart 23 = .ok (.iload 4, 2) := by decide +kernel
theorem dX9_readPart_25 : decode cX9_readPart 25 = .ok (.imul, 1) := by decide +kernel
theorem dX9_readPart_26 : decode cX9_readPart 26 = .ok (.iadd, 1) := by decide +kernel
theorem dX9_readPart_27 : decode cX9_readPart 27 = .ok (.iconst 3, 1) := by decide +kernel
theorem dX9_readPart_28 : decode cX9_readPart 28 = .ok (.invokevirtual 153, 3) := by decide +kernel
theorem dX9_readPart_31 : decode cX9_readPart 31 = .ok (.ifCond .eq 10, 3) := by decide +kernel
theorem dX9_readPart_34 : decode cX9_readPart 34 = .ok (.iconst 1, 1) := by decide +kernel
theorem dX9_readPart_35 : decode cX9_readPart 35 = .ok (.iload 4, 2) := by decide +kernel
theorem dX9_readPart_37 : decode cX9_readPart 37 = .ok (.ishl, 1) := by decide +kernel
theorem dX9_readPart_38 : decode cX9_readPart 38 = .ok (.goto 4, 3) := by decide +kernel
theorem dX9_readPart_41 : decode cX9_readPart 41 = .ok (.iconst 0, 1) := by decide +kernel
theorem dX9_readPart_42 : decode cX9_readPart 42 = .ok (.ior, 1) := by decide +kernel
theorem dX9_readPart_43 : decode cX9_readPart 43 = .ok (.istore_n 3, 1) := by decide +kernel
theorem dX9_readPart_44 : decode cX9_readPart 44 = .ok (.iinc 4 1, 3) := by decide +kernel
theorem dX9_readPart_47 : decode cX9_readPart 47 = .ok (.goto (-35), 3) := by decide +kernel
theorem dX9_readPart_50 : decode cX9_readPart 50 = .ok (.iload_n 1, 1) := by decide +kernel
theorem dX9_readPart_51 : decode cX9_readPart 51 = .ok (.bipush 67, 2) := by decide +kernel
theorem dX9_readPart_53 : decode cX9_readPart 53 = .ok (.if_icmp .ne 7, 3) := by decide +kernel
theorem dX9_readPart_56 : decode cX9_readPart 56 = .ok (.iconst 4, 1) := by decide +kernel
theorem dX9_readPart_57 : decode cX9_readPart 57 = .ok (.goto 26, 3) := by decide +kernel
theorem dX9_readPart_60 : decode cX9_readPart 60 = .ok (.iload_n 1, 1) := by decide +kernel
theorem dX9_readPart_61 : decode cX9_readPart 61 = .ok (.bipush 80, 2) := by decide +kernel
theorem dX9_readPart_63 : decode cX9_readPart 63 = .ok (.if_icmp .ne 7, 3) := by decide +kernel
theorem dX9_readPart_66 : decode cX9_readPart 66 = .ok (.iconst 5, 1) := by decide +kernel
theorem dX9_readPart_67 : decode cX9_readPart 67 = .ok (.goto 16, 3) := by decide +kernel
theorem dX9_readPart_70 : decode cX9_readPart 70 = .ok (.iload_n 1, 1) := by decide +kernel
theorem dX9_readPart_71 : decode cX9_readPart 71 = .ok (.bipush 82, 2) := by decide +kernel
theorem dX9_readPart_73 : decode cX9_readPart 73 = .ok (.if_icmp .ne 8, 3) := by decide +kernel
theorem dX9_readPart_76 : decode cX9_readPart 76 = .ok (.bipush 6, 2) := by decide +kernel
theorem dX9_readPart_78 : decode cX9_readPart 78 = .ok (.goto 5, 3) := by decide +kernel
theorem dX9_readPart_81 : decode cX9_readPart 81 = .ok (.bipush (-9), 2) := by decide +kernel
theorem dX9_readPart_83 : decode cX9_readPart 83 = .ok (.istore 4, 2) := by decide +kernel
theorem dX9_readPart_85 : decode cX9_readPart 85 = .ok (.iload_n 1, 1) := by decide +kernel
theorem dX9_readPart_86 : decode cX9_readPart 86 = .ok (.bipush 75, 2) := by decide +kernel
theorem dX9_readPart_88 : decode cX9_readPart 88 = .ok (.if_icmp .ne 63, 3) := by decide +kernel
theorem dX9_readPart_91 : decode cX9_readPart 91 = .ok (.aload_n 0, 1) := by decide +kernel
theorem dX9_readPart_92 : decode cX9_readPart 92 = .ok (.iconst 1, 1) := by decide +kernel
theorem dX9_readPart_93 : decode cX9_readPart 93 = .ok (.iconst 3, 1) := by decide +kernel
theorem dX9_readPart_94 : decode cX9_readPart 94 = .ok (.invokevirtual 153, 3) := by decide +kernel
theorem dX9_readPart_97 : decode cX9_readPart 97 = .ok (.ifCond .eq 54, 3) := by decide +kernel
theorem dX9_readPart_100 : decode cX9_readPart 100 = .ok (.aload_n 0, 1) := by decide +kernel
theorem dX9_readPart_101 : decode cX9_readPart 101 = .ok (.dup, 1) := by decide +kernel
theorem dX9_readPart_102 : decode cX9_readPart 102 = .ok (.getfield 137, 3) := by decide +kernel
theorem dX9_readPart_105 : decode cX9_readPart 105 = .ok (.iconst 1, 1) := by decide +kernel
theorem dX9_readPart_106 : decode cX9_readPart 106 = .ok (.iadd, 1) := by decide +kernel
theorem dX9_readPart_107 : decode cX9_readPart 107 = .ok (.putfield 137, 3) := by decide +kernel
theorem dX9_readPart_110 : decode cX9_readPart 110 = .ok (.aload_n 0, 1) := by decide +kernel
theorem dX9_readPart_111 : decode cX9_readPart 111 = .ok (.aload_n 0, 1) := by decide +kernel
theorem dX9_readPart_112 : decode cX9_readPart 112 = .ok (.iconst 1, 1) := by decide +kernel
theorem dX9_readPart_113 : decode cX9_readPart 113 = .ok (.iconst 3, 1) := by decide +kernel
theorem dX9_readPart_114 : decode cX9_readPart 114 = .ok (.invokevirtual 153, 3) := by decide +kernel
theorem dX9_readPart_117 : decode cX9_readPart 117 = .ok (.invokevirtual 145, 3) := by decide +kernel
theorem dX9_readPart_120 : decode cX9_readPart 120 = .ok (.istore 5, 2) := by decide +kernel
theorem dX9_readPart_122 : decode cX9_readPart 122 = .ok (.aload_n 0, 1) := by decide +kernel
theorem dX9_readPart_123 : decode cX9_readPart 123 = .ok (.getfield 16, 3) := by decide +kernel
theorem dX9_readPart_126 : decode cX9_readPart 126 = .ok (.iconst 1, 1) := by decide +kernel
theorem dX9_readPart_127 : decode cX9_readPart 127 = .ok (.iload 5, 2) := by decide +kernel
theorem dX9_readPart_129 : decode cX9_readPart 129 = .ok (.iadd, 1) := by decide +kernel
theorem dX9_readPart_130 : decode cX9_readPart 130 = .ok (.iconst 1, 1) := by decide +kernel
theorem dX9_readPart_131 : decode cX9_readPart 131 = .ok (.bastore, 1) := by decide +kernel
theorem dX9_readPart_132 : decode cX9_readPart 132 = .ok (.aload_n 0, 1) := by decide +kernel
theorem dX9_readPart_133 : decode cX9_readPart 133 = .ok (.getfield 7, 3) := by decide +kernel
theorem dX9_readPart_136 : decode cX9_readPart 136 = .ok (.iconst 1, 1) := by decide +kernel
theorem dX9_readPart_137 : decode cX9_readPart 137 = .ok (.iload 5, 2) := by decide +kernel
theorem dX9_readPart_139 : decode cX9_readPart 139 = .ok (.iadd, 1) := by decide +kernel
theorem dX9_readPart_140 : decode cX9_readPart 140 = .ok (.aload_n 0, 1) := by decide +kernel
theorem dX9_readPart_141 : decode cX9_readPart 141 = .ok (.sipush 1022, 3) := by decide +kernel
theorem dX9_readPart_144 : decode cX9_readPart 144 = .ok (.invokevirtual 145, 3) := by decide +kernel
theorem dX9_readPart_147 : decode cX9_readPart 147 = .ok (.iastore, 1) := by decide +kernel
theorem dX9_readPart_148 : decode cX9_readPart 148 = .ok (.goto 259, 3) := by decide +kernel
theorem dX9_readPart_151 : decode cX9_readPart 151 = .ok (.iload_n 1, 1) := by decide +kernel
theorem dX9_readPart_152 : decode cX9_readPart 152 = .ok (.bipush 87, 2) := by decide +kernel
theorem dX9_readPart_154 : decode cX9_readPart 154 = .ok (.if_icmp .ne 94, 3) := by decide +kernel
theorem dX9_readPart_157 : decode cX9_readPart 157 = .ok (.iload_n 3, 1) := by decide +kernel
theorem dX9_readPart_158 : decode cX9_readPart 158 = .ok (.ifCond .eq 90, 3) := by decide +kernel
theorem dX9_readPart_161 : decode cX9_readPart 161 = .ok (.aload_n 0, 1) := by decide +kernel
theorem dX9_readPart_162 : decode cX9_readPart 162 = .ok (.dup, 1) := by decide +kernel
theorem dX9_readPart_163 : decode cX9_readPart 163 = .ok (.getfield 137, 3) := by decide +kernel
theorem dX9_readPart_166 : decode cX9_readPart 166 = .ok (.iconst 1, 1) := by decide +kernel
theorem dX9_readPart_167 : decode cX9_readPart 167 = .ok (.iadd, 1) := by decide +kernel
theorem dX9_readPart_168 : decode cX9_readPart 168 = .ok (.putfield 137, 3) := by decide +kernel
theorem dX9_readPart_171 : decode cX9_readPart 171 = .ok (.aload_n 0, 1) := by decide +kernel
theorem dX9_readPart_172 : decode cX9_readPart 172 = .ok (.iload_n 3, 1) := by decide +kernel
theorem dX9_readPart_173 : decode cX9_readPart 173 = .ok (.invokevirtual 145, 3) := by decide +kernel
theorem dX9_readPart_176 : decode cX9_readPart 176 = .ok (.istore 5, 2) := by decide +kernel
theorem dX9_readPart_178 : decode cX9_readPart 178 = .ok (.iconst 3, 1) := by decide +kernel
theorem dX9_readPart_179 : decode cX9_readPart 179 = .ok (.iload 5, 2) := by decide +kernel
theorem dX9_readPart_181 : decode cX9_readPart 181 = .ok (.imul, 1) := by decide +kernel
theorem dX9_readPart_182 : decode cX9_readPart 182 = .ok (.aload_n 0, 1) := by decide +kernel
theorem dX9_readPart_183 : decode cX9_readPart 183 = .ok (.aload_n 0, 1) := by decide +kernel
theorem dX9_readPart_184 : decode cX9_readPart 184 = .ok (.bipush 10, 2) := by decide +kernel
theorem dX9_readPart_186 : decode cX9_readPart 186 = .ok (.iconst 3, 1) := by decide +kernel
theorem dX9_readPart_187 : decode cX9_readPart 187 = .ok (.iload 5, 2) := by decide +kernel
theorem dX9_readPart_189 : decode cX9_readPart 189 = .ok (.imul, 1) := by decide +kernel
theorem dX9_readPart_190 : decode cX9_readPart 190 = .ok (.iadd, 1) := by decide +kernel
theorem dX9_readPart_191 : decode cX9_readPart 191 = .ok (.iconst 3, 1) := by decide +kernel
theorem dX9_readPart_192 : decode cX9_readPart 192 = .ok (.invokevirtual 153, 3) := by decide +kernel
theorem dX9_readPart_195 : decode cX9_readPart 195 = .ok (.invokevirtual 145, 3) := by decide +kernel
theorem dX9_readPart_198 : decode cX9_readPart 198 = .ok (.iadd, 1) := by decide +kernel
theorem dX9_readPart_199 : decode cX9_readPart 199 = .ok (.istore 6, 2) := by decide +kernel
theorem dX9_readPart_201 : decode cX9_readPart 201 = .ok (.aload_n 0, 1) := by decide +kernel
theorem dX9_readPart_202 : decode cX9_readPart 202 = .ok (.getfield 16, 3) := by decide +kernel
theorem dX9_readPart_205 : decode cX9_readPart 205 = .ok (.bipush 10, 2) := by decide +kernel
theorem dX9_readPart_207 : decode cX9_readPart 207 = .ok (.iload 6, 2) := by decide +kernel
theorem dX9_readPart_209 : decode cX9_readPart 209 = .ok (.iadd, 1) := by decide +kernel
theorem dX9_readPart_210 : decode cX9_readPart 210 = .ok (.iconst 1, 1) := by decide +kernel
theorem dX9_readPart_211 : decode cX9_readPart 211 = .ok (.bastore, 1) := by decide +kernel
theorem dX9_readPart_212 : decode cX9_readPart 212 = .ok (.aload_n 0, 1) := by decide +kernel
theorem dX9_readPart_213 : decode cX9_readPart 213 = .ok (.getfield 7, 3) := by decide +kernel
theorem dX9_readPart_216 : decode cX9_readPart 216 = .ok (.bipush 10, 2) := by decide +kernel
theorem dX9_readPart_218 : decode cX9_readPart 218 = .ok (.iload 6, 2) := by decide +kernel
theorem dX9_readPart_220 : decode cX9_readPart 220 = .ok (.iadd, 1) := by decide +kernel
theorem dX9_readPart_221 : decode cX9_readPart 221 = .ok (.aload_n 0, 1) := by decide +kernel
theorem dX9_readPart_222 : decode cX9_readPart 222 = .ok (.bipush 15, 2) := by decide +kernel
theorem dX9_readPart_224 : decode cX9_readPart 224 = .ok (.invokevirtual 145, 3) := by decide +kernel
theorem dX9_readPart_227 : decode cX9_readPart 227 = .ok (.iastore, 1) := by decide +kernel
theorem dX9_readPart_228 : decode cX9_readPart 228 = .ok (.aload_n 0, 1) := by decide +kernel
theorem dX9_readPart_229 : decode cX9_readPart 229 = .ok (.getfield 7, 3) := by decide +kernel
theorem dX9_readPart_232 : decode cX9_readPart 232 = .ok (.bipush 19, 2) := by decide +kernel
theorem dX9_readPart_234 : decode cX9_readPart 234 = .ok (.iload 6, 2) := by decide +kernel
theorem dX9_readPart_236 : decode cX9_readPart 236 = .ok (.iadd, 1) := by decide +kernel
theorem dX9_readPart_237 : decode cX9_readPart 237 = .ok (.aload_n 0, 1) := by decide +kernel
theorem dX9_readPart_238 : decode cX9_readPart 238 = .ok (.sipush 1023, 3) := by decide +kernel
theorem dX9_readPart_241 : decode cX9_readPart 241 = .ok (.invokevirtual 145, 3) := by decide +kernel
theorem dX9_readPart_244 : decode cX9_readPart 244 = .ok (.iastore, 1) := by decide +kernel
theorem dX9_readPart_245 : decode cX9_readPart 245 = .ok (.goto 162, 3) := by decide +kernel
theorem dX9_readPart_248 : decode cX9_readPart 248 = .ok (.iload_n 1, 1) := by decide +kernel
theorem dX9_readPart_249 : decode cX9_readPart 249 = .ok (.bipush 71, 2) := by decide +kernel
theorem dX9_readPart_251 : decode cX9_readPart 251 = .ok (.if_icmp .ne 81, 3) := by decide +kernel
theorem dX9_readPart_254 : decode cX9_readPart 254 = .ok (.iload_n 2, 1) := by decide +kernel
theorem dX9_readPart_255 : decode cX9_readPart 255 = .ok (.iconst 1, 1) := by decide +kernel
theorem dX9_readPart_256 : decode cX9_readPart 256 = .ok (.if_icmp .le 76, 3) := by decide +kernel
theorem dX9_readPart_259 : decode cX9_readPart 259 = .ok (.aload_n 0, 1) := by decide +kernel
theorem dX9_readPart_260 : decode cX9_readPart 260 = .ok (.bipush 7, 2) := by decide +kernel
theorem dX9_readPart_262 : decode cX9_readPart 262 = .ok (.iload_n 2, 1) := by decide +kernel
theorem dX9_readPart_263 : decode cX9_readPart 263 = .ok (.invokevirtual 153, 3) := by decide +kernel
theorem dX9_readPart_266 : decode cX9_readPart 266 = .ok (.ifCond .eq 66, 3) := by decide +kernel
theorem dX9_readPart_269 : decode cX9_readPart 269 = .ok (.aload_n 0, 1) := by decide +kernel
theorem dX9_readPart_270 : decode cX9_readPart 270 = .ok (.dup, 1) := by decide +kernel
theorem dX9_readPart_271 : decode cX9_readPart 271 = .ok (.getfield 137, 3) := by decide +kernel
theorem dX9_readPart_274 : decode cX9_readPart 274 = .ok (.iconst 1, 1) := by decide +kernel
theorem dX9_readPart_275 : decode cX9_readPart 275 = .ok (.iadd, 1) := by decide +kernel
theorem dX9_readPart_276 : decode cX9_readPart 276 = .ok (.putfield 137, 3) := by decide +kernel
theorem dX9_readPart_279 : decode cX9_readPart 279 = .ok (.aload_n 0, 1) := by decide +kernel
theorem dX9_readPart_280 : decode cX9_readPart 280 = .ok (.aload_n 0, 1) := by decide +kernel
theorem dX9_readPart_281 : decode cX9_readPart 281 = .ok (.bipush 7, 2) := by decide +kernel
theorem dX9_readPart_283 : decode cX9_readPart 283 = .ok (.iload_n 2, 1) := by decide +kernel
theorem dX9_readPart_284 : decode cX9_readPart 284 = .ok (.invokevirtual 153, 3) := by decide +kernel
theorem dX9_readPart_287 : decode cX9_readPart 287 = .ok (.invokevirtual 145, 3) := by decide +kernel
theorem dX9_readPart_290 : decode cX9_readPart 290 = .ok (.istore 5, 2) := by decide +kernel
theorem dX9_readPart_292 : decode cX9_readPart 292 = .ok (.aload_n 0, 1) := by decide +kernel
theorem dX9_readPart_293 : decode cX9_readPart 293 = .ok (.getfield 16, 3) := by decide +kernel
theorem dX9_readPart_296 : decode cX9_readPart 296 = .ok (.bipush 7, 2) := by decide +kernel
theorem dX9_readPart_298 : decode cX9_readPart 298 = .ok (.iload 5, 2) := by decide +kernel
theorem dX9_readPart_300 : decode cX9_readPart 300 = .ok (.iadd, 1) := by decide +kernel
theorem dX9_readPart_301 : decode cX9_readPart 301 = .ok (.iconst 1, 1) := by decide +kernel
theorem dX9_readPart_302 : decode cX9_readPart 302 = .ok (.bastore, 1) := by decide +kernel
theorem dX9_readPart_303 : decode cX9_readPart 303 = .ok (.aload_n 0, 1) := by decide +kernel
theorem dX9_readPart_304 : decode cX9_readPart 304 = .ok (.getfield 7, 3) := by decide +kernel
theorem dX9_readPart_307 : decode cX9_readPart 307 = .ok (.bipush 7, 2) := by decide +kernel
theorem dX9_readPart_309 : decode cX9_readPart 309 = .ok (.iload 5, 2) := by decide +kernel
theorem dX9_readPart_311 : decode cX9_readPart 311 = .ok (.iadd, 1) := by decide +kernel
theorem dX9_readPart_312 : decode cX9_readPart 312 = .ok (.aload_n 0, 1) := by decide +kernel
theorem dX9_readPart_313 : decode cX9_readPart 313 = .ok (.iconst 1, 1) := by decide +kernel
theorem dX9_readPart_314 : decode cX9_readPart 314 = .ok (.iload_n 2, 1) := by decide +kernel
theorem dX9_readPart_315 : decode cX9_readPart 315 = .ok (.ishl, 1) := by decide +kernel
theorem dX9_readPart_316 : decode cX9_readPart 316 = .ok (.iconst 1, 1) := by decide +kernel
theorem dX9_readPart_317 : decode cX9_readPart 317 = .ok (.isub, 1) := by decide +kernel
theorem dX9_readPart_318 : decode cX9_readPart 318 = .ok (.iconst 1, 1) := by decide +kernel
theorem dX9_readPart_319 : decode cX9_readPart 319 = .ok (.iload 5, 2) := by decide +kernel
theorem dX9_readPart_321 : decode cX9_readPart 321 = .ok (.ishl, 1) := by decide +kernel
theorem dX9_readPart_322 : decode cX9_readPart 322 = .ok (.iconst (-1), 1) := by decide +kernel
theorem dX9_readPart_323 : decode cX9_readPart 323 = .ok (.ixor, 1) := by decide +kernel
theorem dX9_readPart_324 : decode cX9_readPart 324 = .ok (.iand, 1) := by decide +kernel
theorem dX9_readPart_325 : decode cX9_readPart 325 = .ok (.invokevirtual 145, 3) := by decide +kernel
theorem dX9_readPart_328 : decode cX9_readPart 328 = .ok (.iastore, 1) := by decide +kernel
theorem dX9_readPart_329 : decode cX9_readPart 329 = .ok (.goto 78, 3) := by decide +kernel
theorem dX9_readPart_332 : decode cX9_readPart 332 = .ok (.iload 4, 2) := by decide +kernel
theorem dX9_readPart_334 : decode cX9_readPart 334 = .ok (.bipush (-9), 2) := by decide +kernel
theorem dX9_readPart_336 : decode cX9_readPart 336 = .ok (.if_icmp .eq 63, 3) := by decide +kernel
theorem dX9_readPart_339 : decode cX9_readPart 339 = .ok (.aload_n 0, 1) := by decide +kernel
theorem dX9_readPart_340 : decode cX9_readPart 340 = .ok (.getfield 16, 3) := by decide +kernel
theorem dX9_readPart_343 : decode cX9_readPart 343 = .ok (.iload 4, 2) := by decide +kernel
theorem dX9_readPart_345 : decode cX9_readPart 345 = .ok (.baload, 1) := by decide +kernel
theorem dX9_readPart_346 : decode cX9_readPart 346 = .ok (.ifCond .ne 53, 3) := by decide +kernel
theorem dX9_readPart_349 : decode cX9_readPart 349 = .ok (.aload_n 0, 1) := by decide +kernel
theorem dX9_readPart_350 : decode cX9_readPart 350 = .ok (.dup, 1) := by decide +kernel
theorem dX9_readPart_351 : decode cX9_readPart 351 = .ok (.getfield 137, 3) := by decide +kernel
theorem dX9_readPart_354 : decode cX9_readPart 354 = .ok (.iconst 1, 1) := by decide +kernel
theorem dX9_readPart_355 : decode cX9_readPart 355 = .ok (.iadd, 1) := by decide +kernel
theorem dX9_readPart_356 : decode cX9_readPart 356 = .ok (.putfield 137, 3) := by decide +kernel
theorem dX9_readPart_359 : decode cX9_readPart 359 = .ok (.aload_n 0, 1) := by decide +kernel
theorem dX9_readPart_360 : decode cX9_readPart 360 = .ok (.getfield 16, 3) := by decide +kernel
theorem dX9_readPart_363 : decode cX9_readPart 363 = .ok (.iload 4, 2) := by decide +kernel
theorem dX9_readPart_365 : decode cX9_readPart 365 = .ok (.iconst 1, 1) := by decide +kernel
theorem dX9_readPart_366 : decode cX9_readPart 366 = .ok (.bastore, 1) := by decide +kernel
theorem dX9_readPart_367 : decode cX9_readPart 367 = .ok (.aload_n 0, 1) := by decide +kernel
theorem dX9_readPart_368 : decode cX9_readPart 368 = .ok (.sipush 1023, 3) := by decide +kernel
theorem dX9_readPart_371 : decode cX9_readPart 371 = .ok (.invokevirtual 145, 3) := by decide +kernel
theorem dX9_readPart_374 : decode cX9_readPart 374 = .ok (.istore 5, 2) := by decide +kernel
theorem dX9_readPart_376 : decode cX9_readPart 376 = .ok (.aload_n 0, 1) := by decide +kernel
theorem dX9_readPart_377 : decode cX9_readPart 377 = .ok (.getfield 7, 3) := by decide +kernel
theorem dX9_readPart_380 : decode cX9_readPart 380 = .ok (.iload 4, 2) := by decide +kernel
theorem dX9_readPart_382 : decode cX9_readPart 382 = .ok (.bipush 10, 2) := by decide +kernel
theorem dX9_readPart_384 : decode cX9_readPart 384 = .ok (.iload 5, 2) := by decide +kernel
theorem dX9_readPart_386 : decode cX9_readPart 386 = .ok (.imul, 1) := by decide +kernel
theorem dX9_readPart_387 : decode cX9_readPart 387 = .ok (.aload_n 0, 1) := by decide +kernel
theorem dX9_readPart_388 : decode cX9_readPart 388 = .ok (.sipush 1023, 3) := by decide +kernel
theorem dX9_readPart_391 : decode cX9_readPart 391 = .ok (.invokevirtual 145, 3) := by decide +kernel
theorem dX9_readPart_394 : decode cX9_readPart 394 = .ok (.iadd, 1) := by decide +kernel
theorem dX9_readPart_395 : decode cX9_readPart 395 = .ok (.iastore, 1) := by decide +kernel
theorem dX9_readPart_396 : decode cX9_readPart 396 = .ok (.goto 11, 3) := by decide +kernel
theorem dX9_readPart_399 : decode cX9_readPart 399 = .ok (.aload_n 0, 1) := by decide +kernel
theorem dX9_readPart_400 : decode cX9_readPart 400 = .ok (.aload_n 0, 1) := by decide +kernel
theorem dX9_readPart_401 : decode cX9_readPart 401 = .ok (.getfield 137, 3) := by decide +kernel
theorem dX9_readPart_404 : decode cX9_readPart 404 = .ok (.putfield 134, 3) := by decide +kernel
theorem dX9_readPart_407 : decode cX9_readPart 407 = .ok (.return_, 1) := by decide +kernel
theorem dX9_fault_0 : decode cX9_fault 0 = .ok (.aload_n 0, 1) := by decide +kernel
theorem dX9_fault_1 : decode cX9_fault 1 = .ok (.invokevirtual 157, 3) := by decide +kernel
theorem dX9_fault_4 : decode cX9_fault 4 = .ok (.ireturn, 1) := by decide +kernel
theorem dX9_town_0 : decode cX9_town 0 = .ok (.aload_n 0, 1) := by decide +kernel
theorem dX9_town_1 : decode cX9_town 1 = .ok (.invokevirtual 157, 3) := by decide +kernel
theorem dX9_town_4 : decode cX9_town 4 = .ok (.bipush (-9), 2) := by decide +kernel
theorem dX9_town_6 : decode cX9_town 6 = .ok (.if_icmp .eq 6, 3) := by decide +kernel
theorem dX9_town_9 : decode cX9_town 9 = .ok (.bipush (-3), 2) := by decide +kernel
theorem dX9_town_11 : decode cX9_town 11 = .ok (.ireturn, 1) := by decide +kernel
theorem dX9_town_12 : decode cX9_town 12 = .ok (.aload_n 0, 1) := by decide +kernel
theorem dX9_town_13 : decode cX9_town 13 = .ok (.invokevirtual 99, 3) := by decide +kernel
theorem dX9_town_16 : decode cX9_town 16 = .ok (.aload_n 0, 1) := by decide +kernel
theorem dX9_town_17 : decode cX9_town 17 = .ok (.getfield 142, 3) := by decide +kernel
theorem dX9_town_20 : decode cX9_town 20 = .ok (.ireturn, 1) := by decide +kernel
theorem dX9_isCorner_0 : decode cX9_isCorner 0 = .ok (.iload_n 1, 1) := by decide +kernel
theorem dX9_isCorner_1 : decode cX9_isCorner 1 = .ok (.i2l, 1) := by decide +kernel
theorem dX9_isCorner_2 : decode cX9_isCorner 2 = .ok (.lconst 0, 1) := by decide +kernel
theorem dX9_isCorner_3 : decode cX9_isCorner 3 = .ok (.aload_n 0, 1) := by decide +kernel
theorem dX9_isCorner_4 : decode cX9_isCorner 4 = .ok (.getfield 13, 3) := by decide +kernel
theorem dX9_isCorner_7 : decode cX9_isCorner 7 = .ok (.iconst 0, 1) := by decide +kernel
theorem dX9_isCorner_8 : decode cX9_isCorner 8 = .ok (.iaload, 1) := by decide +kernel
theorem dX9_isCorner_9 : decode cX9_isCorner 9 = .ok (.iconst 1, 1) := by decide +kernel
theorem dX9_isCorner_10 : decode cX9_isCorner 10 = .ok (.isub, 1) := by decide +kernel
theorem dX9_isCorner_11 : decode cX9_isCorner 11 = .ok (.i2l, 1) := by decide +kernel
theorem dX9_isCorner_12 : decode cX9_isCorner 12 = .ok (.invokestatic 104, 3) := by decide +kernel
theorem dX9_isCorner_15 : decode cX9_isCorner 15 = .ok (.ireturn, 1) := by decide +kernel
theorem dX9_isKind_0 : decode cX9_isKind 0 = .ok (.iload_n 0, 1) := by decide +kernel
theorem dX9_isKind_1 : decode cX9_isKind 1 = .ok (.i2l, 1) := by decide +kernel
theorem dX9_isKind_2 : decode cX9_isKind 2 = .ok (.lconst 0, 1) := by decide +kernel
theorem dX9_isKind_3 : decode cX9_isKind 3 = .ok (.ldc2_w 161, 3) := by decide +kernel
theorem dX9_isKind_6 : decode cX9_isKind 6 = .ok (.invokestatic 104, 3) := by decide +kernel
theorem dX9_isKind_9 : decode cX9_isKind 9 = .ok (.ireturn, 1) := by decide +kernel
theorem dX9_wants_0 : decode cX9_wants 0 = .ok (.aload_n 0, 1) := by decide +kernel
theorem dX9_wants_1 : decode cX9_wants 1 = .ok (.iload_n 1, 1) := by decide +kernel
theorem dX9_wants_2 : decode cX9_wants 2 = .ok (.invokevirtual 163, 3) := by decide +kernel
theorem dX9_wants_5 : decode cX9_wants 5 = .ok (.ifCond .eq 10, 3) := by decide +kernel
theorem dX9_wants_8 : decode cX9_wants 8 = .ok (.iload_n 2, 1) := by decide +kernel
theorem dX9_wants_9 : decode cX9_wants 9 = .ok (.invokestatic 167, 3) := by decide +kernel
theorem dX9_wants_12 : decode cX9_wants 12 = .ok (.ifCond .ne 5, 3) := by decide +kernel
theorem dX9_wants_15 : decode cX9_wants 15 = .ok (.iconst (-1), 1) := by decide +kernel
theorem dX9_wants_16 : decode cX9_wants 16 = .ok (.ireturn, 1) := by decide +kernel
theorem dX9_wants_17 : decode cX9_wants 17 = .ok (.iload_n 3, 1) := by decide +kernel
theorem dX9_wants_18 : decode cX9_wants 18 = .ok (.ifCond .ne 19, 3) := by decide +kernel
theorem dX9_wants_21 : decode cX9_wants 21 = .ok (.aload_n 0, 1) := by decide +kernel
theorem dX9_wants_22 : decode cX9_wants 22 = .ok (.getfield 13, 3) := by decide +kernel
theorem dX9_wants_25 : decode cX9_wants 25 = .ok (.bipush 10, 2) := by decide +kernel
theorem dX9_wants_27 : decode cX9_wants 27 = .ok (.iconst 3, 1) := by decide +kernel
theorem dX9_wants_28 : decode cX9_wants 28 = .ok (.iload_n 1, 1) := by decide +kernel
theorem dX9_wants_29 : decode cX9_wants 29 = .ok (.imul, 1) := by decide +kernel
theorem dX9_wants_30 : decode cX9_wants 30 = .ok (.iadd, 1) := by decide +kernel
theorem dX9_wants_31 : decode cX9_wants 31 = .ok (.iload_n 2, 1) := by decide +kernel
theorem dX9_wants_32 : decode cX9_wants 32 = .ok (.iadd, 1) := by decide +kernel
theorem dX9_wants_33 : decode cX9_wants 33 = .ok (.iaload, 1) := by decide +kernel
theorem dX9_wants_34 : decode cX9_wants 34 = .ok (.goto 26, 3) := by decide +kernel
theorem dX9_wants_37 : decode cX9_wants 37 = .ok (.iload_n 3, 1) := by decide +kernel
theorem dX9_wants_38 : decode cX9_wants 38 = .ok (.iconst 1, 1) := by decide +kernel
theorem dX9_wants_39 : decode cX9_wants 39 = .ok (.if_icmp .ne 19, 3) := by decide +kernel
theorem dX9_wants_42 : decode cX9_wants 42 = .ok (.aload_n 0, 1) := by decide +kernel
theorem dX9_wants_43 : decode cX9_wants 43 = .ok (.getfield 13, 3) := by decide +kernel
theorem dX9_wants_46 : decode cX9_wants 46 = .ok (.bipush 19, 2) := by decide +kernel
theorem dX9_wants_48 : decode cX9_wants 48 = .ok (.iconst 3, 1) := by decide +kernel
theorem dX9_wants_49 : decode cX9_wants 49 = .ok (.iload_n 1, 1) := by decide +kernel
theorem dX9_wants_50 : decode cX9_wants 50 = .ok (.imul, 1) := by decide +kernel
theorem dX9_wants_51 : decode cX9_wants 51 = .ok (.iadd, 1) := by decide +kernel
theorem dX9_wants_52 : decode cX9_wants 52 = .ok (.iload_n 2, 1) := by decide +kernel
theorem dX9_wants_53 : decode cX9_wants 53 = .ok (.iadd, 1) := by decide +kernel
theorem dX9_wants_54 : decode cX9_wants 54 = .ok (.iaload, 1) := by decide +kernel
theorem dX9_wants_55 : decode cX9_wants 55 = .ok (.goto 5, 3) := by decide +kernel
theorem dX9_wants_58 : decode cX9_wants 58 = .ok (.bipush (-2), 2) := by decide +kernel
theorem dX9_wants_60 : decode cX9_wants 60 = .ok (.ireturn, 1) := by decide +kernel
theorem dX9_about_0 : decode cX9_about 0 = .ok (.iload_n 1, 1) := by decide +kernel
theorem dX9_about_1 : decode cX9_about 1 = .ok (.i2l, 1) := by decide +kernel
theorem dX9_about_2 : decode cX9_about 2 = .ok (.lconst 0, 1) := by decide +kernel
theorem dX9_about_3 : decode cX9_about 3 = .ok (.ldc2_w 140, 3) := by decide +kernel
theorem dX9_about_6 : decode cX9_about 6 = .ok (.invokestatic 104, 3) := by decide +kernel
theorem dX9_about_9 : decode cX9_about 9 = .ok (.ifCond .ne 6, 3) := by decide +kernel
theorem dX9_about_12 : decode cX9_about 12 = .ok (.bipush (-2), 2) := by decide +kernel
theorem dX9_about_14 : decode cX9_about 14 = .ok (.ireturn, 1) := by decide +kernel
theorem dX9_about_15 : decode cX9_about 15 = .ok (.iload_n 1, 1) := by decide +kernel
theorem dX9_about_16 : decode cX9_about 16 = .ok (.bipush 6, 2) := by decide +kernel
theorem dX9_about_18 : decode cX9_about 18 = .ok (.if_icmp .le 18, 3) := by decide +kernel
theorem dX9_about_21 : decode cX9_about 21 = .ok (.aload_n 0, 1) := by decide +kernel
theorem dX9_about_22 : decode cX9_about 22 = .ok (.iload_n 1, 1) := by decide +kernel
theorem dX9_about_23 : decode cX9_about 23 = .ok (.bipush 7, 2) := by decide +kernel
theorem dX9_about_25 : decode cX9_about 25 = .ok (.isub, 1) := by decide +kernel
theorem dX9_about_26 : decode cX9_about 26 = .ok (.invokevirtual 163, 3) := by decide +kernel
theorem dX9_about_29 : decode cX9_about 29 = .ok (.ifCond .ne 7, 3) := by decide +kernel
theorem dX9_about_32 : decode cX9_about 32 = .ok (.iconst (-1), 1) := by decide +kernel
theorem dX9_about_33 : decode cX9_about 33 = .ok (.goto 9, 3) := by decide +kernel
theorem dX9_about_36 : decode cX9_about 36 = .ok (.aload_n 0, 1) := by decide +kernel
theorem dX9_about_37 : decode cX9_about 37 = .ok (.getfield 13, 3) := by decide +kernel
theorem dX9_about_40 : decode cX9_about 40 = .ok (.iload_n 1, 1) := by decide +kernel
theorem dX9_about_41 : decode cX9_about 41 = .ok (.iaload, 1) := by decide +kernel
theorem dX9_about_42 : decode cX9_about 42 = .ok (.ireturn, 1) := by decide +kernel
theorem dX9_all_0 : decode cX9_all 0 = .ok (.ldc2_w 170, 3) := by decide +kernel
theorem dX9_all_3 : decode cX9_all 3 = .ok (.aload_n 0, 1) := by decide +kernel
theorem dX9_all_4 : decode cX9_all 4 = .ok (.getfield 13, 3) := by decide +kernel
theorem dX9_all_7 : decode cX9_all 7 = .ok (.iconst 1, 1) := by decide +kernel
theorem dX9_all_8 : decode cX9_all 8 = .ok (.iaload, 1) := by decide +kernel
theorem dX9_all_9 : decode cX9_all 9 = .ok (.aload_n 0, 1) := by decide +kernel
theorem dX9_all_10 : decode cX9_all 10 = .ok (.getfield 13, 3) := by decide +kernel
theorem dX9_all_13 : decode cX9_all 13 = .ok (.iconst 2, 1) := by decide +kernel
theorem dX9_all_14 : decode cX9_all 14 = .ok (.iaload, 1) := by decide +kernel
theorem dX9_all_15 : decode cX9_all 15 = .ok (.iadd, 1) := by decide +kernel
theorem dX9_all_16 : decode cX9_all 16 = .ok (.aload_n 0, 1) := by decide +kernel
theorem dX9_all_17 : decode cX9_all 17 = .ok (.getfield 13, 3) := by decide +kernel
theorem dX9_all_20 : decode cX9_all 20 = .ok (.iconst 3, 1) := by decide +kernel
theorem dX9_all_21 : decode cX9_all 21 = .ok (.iaload, 1) := by decide +kernel
theorem dX9_all_22 : decode cX9_all 22 = .ok (.iadd, 1) := by decide +kernel
theorem dX9_all_23 : decode cX9_all 23 = .ok (.i2l, 1) := by decide +kernel
theorem dX9_all_24 : decode cX9_all 24 = .ok (.lmul, 1) := by decide +kernel
theorem dX9_all_25 : decode cX9_all 25 = .ok (.lreturn, 1) := by decide +kernel
theorem dX9_six_0 : decode cX9_six 0 = .ok (.aload_n 0, 1) := by decide +kernel
theorem dX9_six_1 : decode cX9_six 1 = .ok (.getfield 13, 3) := by decide +kernel
theorem dX9_six_4 : decode cX9_six 4 = .ok (.bipush 19, 2) := by decide +kernel
theorem dX9_six_6 : decode cX9_six 6 = .ok (.iconst 3, 1) := by decide +kernel
theorem dX9_six_7 : decode cX9_six 7 = .ok (.iload_n 1, 1) := by decide +kernel
theorem dX9_six_8 : decode cX9_six 8 = .ok (.imul, 1) := by decide +kernel
theorem dX9_six_9 : decode cX9_six 9 = .ok (.iadd, 1) := by decide +kernel
theorem dX9_six_10 : decode cX9_six 10 = .ok (.iload_n 2, 1) := by decide +kernel
theorem dX9_six_11 : decode cX9_six 11 = .ok (.iadd, 1) := by decide +kernel
theorem dX9_six_12 : decode cX9_six 12 = .ok (.iaload, 1) := by decide +kernel
theorem dX9_six_13 : decode cX9_six 13 = .ok (.istore 4, 2) := by decide +kernel
theorem dX9_six_15 : decode cX9_six 15 = .ok (.lconst 1, 1) := by decide +kernel
theorem dX9_six_16 : decode cX9_six 16 = .ok (.lstore 5, 2) := by decide +kernel
theorem dX9_six_18 : decode cX9_six 18 = .ok (.iconst 0, 1) := by decide +kernel
theorem dX9_six_19 : decode cX9_six 19 = .ok (.istore 7, 2) := by decide +kernel
theorem dX9_six_21 : decode cX9_six 21 = .ok (.iload 7, 2) := by decide +kernel
theorem dX9_six_23 : decode cX9_six 23 = .ok (.bipush 6, 2) := by decide +kernel
theorem dX9_six_25 : decode cX9_six 25 = .ok (.if_icmp .ge 32, 3) := by decide +kernel
theorem dX9_six_28 : decode cX9_six 28 = .ok (.lload 5, 2) := by decide +kernel
theorem dX9_six_30 : decode cX9_six 30 = .ok (.iload 7, 2) := by decide +kernel
theorem dX9_six_32 : decode cX9_six 32 = .ok (.iload_n 3, 1) := by decide +kernel
theorem dX9_six_33 : decode cX9_six 33 = .ok (.if_icmp .ge 9, 3) := by decide +kernel
theorem dX9_six_36 : decode cX9_six 36 = .ok (.iload 4, 2) := by decide +kernel
theorem dX9_six_38 : decode cX9_six 38 = .ok (.i2l, 1) := by decide +kernel
theorem dX9_six_39 : decode cX9_six 39 = .ok (.goto 9, 3) := by decide +kernel
theorem dX9_six_42 : decode cX9_six 42 = .ok (.bipush 10, 2) := by decide +kernel
theorem dX9_six_44 : decode cX9_six 44 = .ok (.iload 4, 2) := by decide +kernel
theorem dX9_six_46 : decode cX9_six 46 = .ok (.isub, 1) := by decide +kernel
theorem dX9_six_47 : decode cX9_six 47 = .ok (.i2l, 1) := by decide +kernel
theorem dX9_six_48 : decode cX9_six 48 = .ok (.lmul, 1) := by decide +kernel
theorem dX9_six_49 : decode cX9_six 49 = .ok (.lstore 5, 2) := by decide +kernel
theorem dX9_six_51 : decode cX9_six 51 = .ok (.iinc 7 1, 3) := by decide +kernel
theorem dX9_six_54 : decode cX9_six 54 = .ok (.goto (-33), 3) := by decide +kernel
theorem dX9_six_57 : decode cX9_six 57 = .ok (.iload_n 3, 1) := by decide +kernel
theorem dX9_six_58 : decode cX9_six 58 = .ok (.ifCond .eq 9, 3) := by decide +kernel
theorem dX9_six_61 : decode cX9_six 61 = .ok (.iload_n 3, 1) := by decide +kernel
theorem dX9_six_62 : decode cX9_six 62 = .ok (.bipush 6, 2) := by decide +kernel
theorem dX9_six_64 : decode cX9_six 64 = .ok (.if_icmp .ne 7, 3) := by decide +kernel
theorem dX9_six_67 : decode cX9_six 67 = .ok (.lconst 1, 1) := by decide +kernel
theorem dX9_six_68 : decode cX9_six 68 = .ok (.goto 33, 3) := by decide +kernel
theorem dX9_six_71 : decode cX9_six 71 = .ok (.iload_n 3, 1) := by decide +kernel
theorem dX9_six_72 : decode cX9_six 72 = .ok (.iconst 1, 1) := by decide +kernel
theorem dX9_six_73 : decode cX9_six 73 = .ok (.if_icmp .eq 8, 3) := by decide +kernel
theorem dX9_six_76 : decode cX9_six 76 = .ok (.iload_n 3, 1) := by decide +kernel
theorem dX9_six_77 : decode cX9_six 77 = .ok (.iconst 5, 1) := by decide +kernel
theorem dX9_six_78 : decode cX9_six 78 = .ok (.if_icmp .ne 9, 3) := by decide +kernel
theorem dX9_six_81 : decode cX9_six 81 = .ok (.ldc2_w 172, 3) := by decide +kernel
theorem dX9_six_84 : decode cX9_six 84 = .ok (.goto 17, 3) := by decide +kernel
theorem dX9_six_87 : decode cX9_six 87 = .ok (.iload_n 3, 1) := by decide +kernel
theorem dX9_six_88 : decode cX9_six 88 = .ok (.iconst 3, 1) := by decide +kernel
theorem dX9_six_89 : decode cX9_six 89 = .ok (.if_icmp .ne 9, 3) := by decide +kernel
theorem dX9_six_92 : decode cX9_six 92 = .ok (.ldc2_w 174, 3) := by decide +kernel
theorem dX9_six_95 : decode cX9_six 95 = .ok (.goto 6, 3) := by decide +kernel
theorem dX9_six_98 : decode cX9_six 98 = .ok (.ldc2_w 176, 3) := by decide +kernel
theorem dX9_six_101 : decode cX9_six 101 = .ok (.lstore 7, 2) := by decide +kernel
theorem dX9_six_103 : decode cX9_six 103 = .ok (.lload 5, 2) := by decide +kernel
theorem dX9_six_105 : decode cX9_six 105 = .ok (.lload 7, 2) := by decide +kernel
theorem dX9_six_107 : decode cX9_six 107 = .ok (.lmul, 1) := by decide +kernel
theorem dX9_six_108 : decode cX9_six 108 = .ok (.lreturn, 1) := by decide +kernel
theorem dX9_mean_0 : decode cX9_mean 0 = .ok (.lconst 0, 1) := by decide +kernel
theorem dX9_mean_1 : decode cX9_mean 1 = .ok (.lstore 4, 2) := by decide +kernel
theorem dX9_mean_3 : decode cX9_mean 3 = .ok (.iconst 0, 1) := by decide +kernel
theorem dX9_mean_4 : decode cX9_mean 4 = .ok (.istore 6, 2) := by decide +kernel
theorem dX9_mean_6 : decode cX9_mean 6 = .ok (.iload 6, 2) := by decide +kernel
theorem dX9_mean_8 : decode cX9_mean 8 = .ok (.iconst 3, 1) := by decide +kernel
theorem dX9_mean_9 : decode cX9_mean 9 = .ok (.if_icmp .ge 109, 3) := by decide +kernel
theorem dX9_mean_12 : decode cX9_mean 12 = .ok (.iconst 0, 1) := by decide +kernel
theorem dX9_mean_13 : decode cX9_mean 13 = .ok (.istore 7, 2) := by decide +kernel
theorem dX9_mean_15 : decode cX9_mean 15 = .ok (.iload 7, 2) := by decide +kernel
theorem dX9_mean_17 : decode cX9_mean 17 = .ok (.bipush 7, 2) := by decide +kernel
theorem dX9_mean_19 : decode cX9_mean 19 = .ok (.if_icmp .ge 93, 3) := by decide +kernel
theorem dX9_mean_22 : decode cX9_mean 22 = .ok (.bipush 6, 2) := by decide +kernel
theorem dX9_mean_24 : decode cX9_mean 24 = .ok (.aload_n 0, 1) := by decide +kernel
theorem dX9_mean_25 : decode cX9_mean 25 = .ok (.getfield 13, 3) := by decide +kernel
theorem dX9_mean_28 : decode cX9_mean 28 = .ok (.bipush 10, 2) := by decide +kernel
theorem dX9_mean_30 : decode cX9_mean 30 = .ok (.iconst 3, 1) := by decide +kernel
theorem dX9_mean_31 : decode cX9_mean 31 = .ok (.iload_n 1, 1) := by decide +kernel
theorem dX9_mean_32 : decode cX9_mean 32 = .ok (.imul, 1) := by decide +kernel
theorem dX9_mean_33 : decode cX9_mean 33 = .ok (.iadd, 1) := by decide +kernel
theorem dX9_mean_34 : decode cX9_mean 34 = .ok (.iload 6, 2) := by decide +kernel
theorem dX9_mean_36 : decode cX9_mean 36 = .ok (.iadd, 1) := by decide +kernel
theorem dX9_mean_37 : decode cX9_mean 37 = .ok (.iaload, 1) := by decide +kernel
theorem dX9_mean_38 : decode cX9_mean 38 = .ok (.imul, 1) := by decide +kernel
theorem dX9_mean_39 : decode cX9_mean 39 = .ok (.iload 7, 2) := by decide +kernel
theorem dX9_mean_41 : decode cX9_mean 41 = .ok (.iadd, 1) := by decide +kernel
theorem dX9_mean_42 : decode cX9_mean 42 = .ok (.istore 8, 2) := by decide +kernel
theorem dX9_mean_44 : decode cX9_mean 44 = .ok (.iload_n 3, 1) := by decide +kernel
theorem dX9_mean_45 : decode cX9_mean 45 = .ok (.ifCond .eq 17, 3) := by decide +kernel
theorem dX9_mean_48 : decode cX9_mean 48 = .ok (.iload 8, 2) := by decide +kernel
theorem dX9_mean_50 : decode cX9_mean 50 = .ok (.iload_n 2, 1) := by decide +kernel
theorem dX9_mean_51 : decode cX9_mean 51 = .ok (.if_icmp .le 7, 3) := by decide +kernel
theorem dX9_mean_54 : decode cX9_mean 54 = .ok (.lconst 1, 1) := by decide +kernel
theorem dX9_mean_55 : decode cX9_mean 55 = .ok (.goto 21, 3) := by decide +kernel
theorem dX9_mean_58 : decode cX9_mean 58 = .ok (.lconst 0, 1) := by decide +kernel
theorem dX9_mean_59 : decode cX9_mean 59 = .ok (.goto 17, 3) := by decide +kernel
theorem dX9_mean_62 : decode cX9_mean 62 = .ok (.iload 8, 2) := by decide +kernel
theorem dX9_mean_64 : decode cX9_mean 64 = .ok (.iload_n 2, 1) := by decide +kernel
theorem dX9_mean_65 : decode cX9_mean 65 = .ok (.if_icmp .ge 9, 3) := by decide +kernel
theorem dX9_mean_68 : decode cX9_mean 68 = .ok (.iload 8, 2) := by decide +kernel
theorem dX9_mean_70 : decode cX9_mean 70 = .ok (.i2l, 1) := by decide +kernel
theorem dX9_mean_71 : decode cX9_mean 71 = .ok (.goto 5, 3) := by decide +kernel
theorem dX9_mean_74 : decode cX9_mean 74 = .ok (.iload_n 2, 1) := by decide +kernel
theorem dX9_mean_75 : decode cX9_mean 75 = .ok (.i2l, 1) := by decide +kernel
theorem dX9_mean_76 : decode cX9_mean 76 = .ok (.lstore 9, 2) := by decide +kernel
theorem dX9_mean_78 : decode cX9_mean 78 = .ok (.lload 4, 2) := by decide +kernel
theorem dX9_mean_80 : decode cX9_mean 80 = .ok (.aload_n 0, 1) := by decide +kernel
theorem dX9_mean_81 : decode cX9_mean 81 = .ok (.getfield 13, 3) := by decide +kernel
theorem dX9_mean_84 : decode cX9_mean 84 = .ok (.iconst 1, 1) := by decide +kernel
theorem dX9_mean_85 : decode cX9_mean 85 = .ok (.iload 6, 2) := by decide +kernel
theorem dX9_mean_87 : decode cX9_mean 87 = .ok (.iadd, 1) := by decide +kernel
theorem dX9_mean_88 : decode cX9_mean 88 = .ok (.iaload, 1) := by decide +kernel
theorem dX9_mean_89 : decode cX9_mean 89 = .ok (.i2l, 1) := by decide +kernel
theorem dX9_mean_90 : decode cX9_mean 90 = .ok (.aload_n 0, 1) := by decide +kernel
theorem dX9_mean_91 : decode cX9_mean 91 = .ok (.iload_n 1, 1) := by decide +kernel
theorem dX9_mean_92 : decode cX9_mean 92 = .ok (.iload 6, 2) := by decide +kernel
theorem dX9_mean_94 : decode cX9_mean 94 = .ok (.iload 7, 2) := by decide +kernel
theorem dX9_mean_96 : decode cX9_mean 96 = .ok (.invokevirtual 178, 3) := by decide +kernel
theorem dX9_mean_99 : decode cX9_mean 99 = .ok (.lmul, 1) := by decide +kernel
theorem dX9_mean_100 : decode cX9_mean 100 = .ok (.lload 9, 2) := by decide +kernel
theorem dX9_mean_102 : decode cX9_mean 102 = .ok (.lmul, 1) := by decide +kernel
theorem dX9_mean_103 : decode cX9_mean 103 = .ok (.ladd, 1) := by decide +kernel
theorem dX9_mean_104 : decode cX9_mean 104 = .ok (.lstore 4, 2) := by decide +kernel
theorem dX9_mean_106 : decode cX9_mean 106 = .ok (.iinc 7 1, 3) := by decide +kernel
theorem dX9_mean_109 : decode cX9_mean 109 = .ok (.goto (-94), 3) := by decide +kernel
theorem dX9_mean_112 : decode cX9_mean 112 = .ok (.iinc 6 1, 3) := by decide +kernel
theorem dX9_mean_115 : decode cX9_mean 115 = .ok (.goto (-109), 3) := by decide +kernel
theorem dX9_mean_118 : decode cX9_mean 118 = .ok (.lload 4, 2) := by decide +kernel
theorem dX9_mean_120 : decode cX9_mean 120 = .ok (.lreturn, 1) := by decide +kernel
theorem dX9_part_0 : decode cX9_part 0 = .ok (.lload_n 0, 1) := by decide +kernel
theorem dX9_part_1 : decode cX9_part 1 = .ok (.lconst 0, 1) := by decide +kernel
theorem dX9_part_2 : decode cX9_part 2 = .ok (.lcmp, 1) := by decide +kernel
theorem dX9_part_3 : decode cX9_part 3 = .ok (.ifCond .ge 8, 3) := by decide +kernel
theorem dX9_part_6 : decode cX9_part 6 = .ok (.lload_n 0, 1) := by decide +kernel
theorem dX9_part_7 : decode cX9_part 7 = .ok (.lneg, 1) := by decide +kernel
theorem dX9_part_8 : decode cX9_part 8 = .ok (.goto 4, 3) := by decide +kernel
theorem dX9_part_11 : decode cX9_part 11 = .ok (.lload_n 0, 1) := by decide +kernel
theorem dX9_part_12 : decode cX9_part 12 = .ok (.lstore 5, 2) := by decide +kernel
theorem dX9_part_14 : decode cX9_part 14 = .ok (.lload_n 2, 1) := by decide +kernel
theorem dX9_part_15 : decode cX9_part 15 = .ok (.lstore 7, 2) := by decide +kernel
theorem dX9_part_17 : decode cX9_part 17 = .ok (.lload 7, 2) := by decide +kernel
theorem dX9_part_19 : decode cX9_part 19 = .ok (.lconst 0, 1) := by decide +kernel
theorem dX9_part_20 : decode cX9_part 20 = .ok (.lcmp, 1) := by decide +kernel
theorem dX9_part_21 : decode cX9_part 21 = .ok (.ifCond .eq 21, 3) := by decide +kernel
theorem dX9_part_24 : decode cX9_part 24 = .ok (.lload 5, 2) := by decide +kernel
theorem dX9_part_26 : decode cX9_part 26 = .ok (.lload 7, 2) := by decide +kernel
theorem dX9_part_28 : decode cX9_part 28 = .ok (.lrem, 1) := by decide +kernel
theorem dX9_part_29 : decode cX9_part 29 = .ok (.lstore 9, 2) := by decide +kernel
theorem dX9_part_31 : decode cX9_part 31 = .ok (.lload 7, 2) := by decide +kernel
theorem dX9_part_33 : decode cX9_part 33 = .ok (.lstore 5, 2) := by decide +kernel
theorem dX9_part_35 : decode cX9_part 35 = .ok (.lload 9, 2) := by decide +kernel
theorem dX9_part_37 : decode cX9_part 37 = .ok (.lstore 7, 2) := by decide +kernel
theorem dX9_part_39 : decode cX9_part 39 = .ok (.goto (-22), 3) := by decide +kernel
theorem dX9_part_42 : decode cX9_part 42 = .ok (.iload 4, 2) := by decide +kernel
theorem dX9_part_44 : decode cX9_part 44 = .ok (.ifCond .eq 10, 3) := by decide +kernel
theorem dX9_part_47 : decode cX9_part 47 = .ok (.lload_n 0, 1) := by decide +kernel
theorem dX9_part_48 : decode cX9_part 48 = .ok (.lload 5, 2) := by decide +kernel
theorem dX9_part_50 : decode cX9_part 50 = .ok (.ldiv, 1) := by decide +kernel
theorem dX9_part_51 : decode cX9_part 51 = .ok (.goto 7, 3) := by decide +kernel
theorem dX9_part_54 : decode cX9_part 54 = .ok (.lload_n 2, 1) := by decide +kernel
theorem dX9_part_55 : decode cX9_part 55 = .ok (.lload 5, 2) := by decide +kernel
theorem dX9_part_57 : decode cX9_part 57 = .ok (.ldiv, 1) := by decide +kernel
theorem dX9_part_58 : decode cX9_part 58 = .ok (.lreturn, 1) := by decide +kernel
theorem dX9_sold_0 : decode cX9_sold 0 = .ok (.aload_n 0, 1) := by decide +kernel
theorem dX9_sold_1 : decode cX9_sold 1 = .ok (.iload_n 1, 1) := by decide +kernel
theorem dX9_sold_2 : decode cX9_sold 2 = .ok (.invokevirtual 163, 3) := by decide +kernel
theorem dX9_sold_5 : decode cX9_sold 5 = .ok (.ifCond .ne 7, 3) := by decide +kernel
theorem dX9_sold_8 : decode cX9_sold 8 = .ok (.ldc2_w 182, 3) := by decide +kernel
theorem dX9_sold_11 : decode cX9_sold 11 = .ok (.lreturn, 1) := by decide +kernel
theorem dX9_sold_12 : decode cX9_sold 12 = .ok (.iload_n 2, 1) := by decide +kernel
theorem dX9_sold_13 : decode cX9_sold 13 = .ok (.i2l, 1) := by decide +kernel
theorem dX9_sold_14 : decode cX9_sold 14 = .ok (.lconst 0, 1) := by decide +kernel
theorem dX9_sold_15 : decode cX9_sold 15 = .ok (.ldc2_w 184, 3) := by decide +kernel
theorem dX9_sold_18 : decode cX9_sold 18 = .ok (.invokestatic 104, 3) := by decide +kernel
theorem dX9_sold_21 : decode cX9_sold 21 = .ok (.ifCond .eq 21, 3) := by decide +kernel
theorem dX9_sold_24 : decode cX9_sold 24 = .ok (.aload_n 0, 1) := by decide +kernel
theorem dX9_sold_25 : decode cX9_sold 25 = .ok (.iload_n 1, 1) := by decide +kernel
theorem dX9_sold_26 : decode cX9_sold 26 = .ok (.iload_n 2, 1) := by decide +kernel
theorem dX9_sold_27 : decode cX9_sold 27 = .ok (.iconst 0, 1) := by decide +kernel
theorem dX9_sold_28 : decode cX9_sold 28 = .ok (.invokevirtual 186, 3) := by decide +kernel
theorem dX9_sold_31 : decode cX9_sold 31 = .ok (.aload_n 0, 1) := by decide +kernel
theorem dX9_sold_32 : decode cX9_sold 32 = .ok (.invokevirtual 190, 3) := by decide +kernel
theorem dX9_sold_35 : decode cX9_sold 35 = .ok (.iload_n 3, 1) := by decide +kernel
theorem dX9_sold_36 : decode cX9_sold 36 = .ok (.invokestatic 194, 3) := by decide +kernel
theorem dX9_sold_39 : decode cX9_sold 39 = .ok (.goto 6, 3) := by decide +kernel
theorem dX9_sold_42 : decode cX9_sold 42 = .ok (.ldc2_w 198, 3) := by decide +kernel
theorem dX9_sold_45 : decode cX9_sold 45 = .ok (.lreturn, 1) := by decide +kernel
theorem dX9_out_0 : decode cX9_out 0 = .ok (.aload_n 0, 1) := by decide +kernel
theorem dX9_out_1 : decode cX9_out 1 = .ok (.iload_n 1, 1) := by decide +kernel
theorem dX9_out_2 : decode cX9_out 2 = .ok (.invokevirtual 163, 3) := by decide +kernel
theorem dX9_out_5 : decode cX9_out 5 = .ok (.ifCond .ne 7, 3) := by decide +kernel
theorem dX9_out_8 : decode cX9_out 8 = .ok (.ldc2_w 182, 3) := by decide +kernel
theorem dX9_out_11 : decode cX9_out 11 = .ok (.lreturn, 1) := by decide +kernel
theorem dX9_out_12 : decode cX9_out 12 = .ok (.iload_n 2, 1) := by decide +kernel
theorem dX9_out_13 : decode cX9_out 13 = .ok (.i2l, 1) := by decide +kernel
theorem dX9_out_14 : decode cX9_out 14 = .ok (.lconst 0, 1) := by decide +kernel
theorem dX9_out_15 : decode cX9_out 15 = .ok (.ldc2_w 184, 3) := by decide +kernel
theorem dX9_out_18 : decode cX9_out 18 = .ok (.invokestatic 104, 3) := by decide +kernel
theorem dX9_out_21 : decode cX9_out 21 = .ok (.ifCond .eq 21, 3) := by decide +kernel
theorem dX9_out_24 : decode cX9_out 24 = .ok (.aload_n 0, 1) := by decide +kernel
theorem dX9_out_25 : decode cX9_out 25 = .ok (.iload_n 1, 1) := by decide +kernel
theorem dX9_out_26 : decode cX9_out 26 = .ok (.iload_n 2, 1) := by decide +kernel
theorem dX9_out_27 : decode cX9_out 27 = .ok (.iconst 1, 1) := by decide +kernel
theorem dX9_out_28 : decode cX9_out 28 = .ok (.invokevirtual 186, 3) := by decide +kernel
theorem dX9_out_31 : decode cX9_out 31 = .ok (.aload_n 0, 1) := by decide +kernel
theorem dX9_out_32 : decode cX9_out 32 = .ok (.invokevirtual 190, 3) := by decide +kernel
theorem dX9_out_35 : decode cX9_out 35 = .ok (.iload_n 3, 1) := by decide +kernel
theorem dX9_out_36 : decode cX9_out 36 = .ok (.invokestatic 194, 3) := by decide +kernel
theorem dX9_out_39 : decode cX9_out 39 = .ok (.goto 6, 3) := by decide +kernel
theorem dX9_out_42 : decode cX9_out 42 = .ok (.ldc2_w 198, 3) := by decide +kernel
theorem dX9_out_45 : decode cX9_out 45 = .ok (.lreturn, 1) := by decide +kernel
theorem dX9_give_0 : decode cX9_give 0 = .ok (.iconst 0, 1) := by decide +kernel
theorem dX9_give_1 : decode cX9_give 1 = .ok (.istore_n 3, 1) := by decide +kernel
theorem dX9_give_2 : decode cX9_give 2 = .ok (.iload_n 3, 1) := by decide +kernel
theorem dX9_give_3 : decode cX9_give 3 = .ok (.iconst 3, 1) := by decide +kernel
theorem dX9_give_4 : decode cX9_give 4 = .ok (.if_icmp .ge 16, 3) := by decide +kernel
theorem dX9_give_7 : decode cX9_give 7 = .ok (.aload_n 0, 1) := by decide +kernel
theorem dX9_give_8 : decode cX9_give 8 = .ok (.getfield 23, 3) := by decide +kernel
theorem dX9_give_11 : decode cX9_give 11 = .ok (.iload_n 3, 1) := by decide +kernel
theorem dX9_give_12 : decode cX9_give 12 = .ok (.iconst 0, 1) := by decide +kernel
theorem dX9_give_13 : decode cX9_give 13 = .ok (.iastore, 1) := by decide +kernel
theorem dX9_give_14 : decode cX9_give 14 = .ok (.iinc 3 1, 3) := by decide +kernel
theorem dX9_give_17 : decode cX9_give 17 = .ok (.goto (-15), 3) := by decide +kernel
theorem dX9_give_20 : decode cX9_give 20 = .ok (.iconst 0, 1) := by decide +kernel
theorem dX9_give_21 : decode cX9_give 21 = .ok (.istore_n 3, 1) := by decide +kernel
theorem dX9_give_22 : decode cX9_give 22 = .ok (.iload_n 3, 1) := by decide +kernel
theorem dX9_give_23 : decode cX9_give 23 = .ok (.iload_n 1, 1) := by decide +kernel
theorem dX9_give_24 : decode cX9_give 24 = .ok (.if_icmp .ge 118, 3) := by decide +kernel
theorem dX9_give_27 : decode cX9_give 27 = .ok (.bipush (-9), 2) := by decide +kernel
theorem dX9_give_29 : decode cX9_give 29 = .ok (.istore 4, 2) := by decide +kernel
theorem dX9_give_31 : decode cX9_give 31 = .ok (.ldc2_w 182, 3) := by decide +kernel
theorem dX9_give_34 : decode cX9_give 34 = .ok (.lstore 5, 2) := by decide +kernel
theorem dX9_give_36 : decode cX9_give 36 = .ok (.iconst 0, 1) := by decide +kernel
theorem dX9_give_37 : decode cX9_give 37 = .ok (.istore 7, 2) := by decide +kernel
theorem dX9_give_39 : decode cX9_give 39 = .ok (.iload 7, 2) := by decide +kernel
theorem dX9_give_41 : decode cX9_give 41 = .ok (.aload_n 0, 1) := by decide +kernel
theorem dX9_give_42 : decode cX9_give 42 = .ok (.getfield 13, 3) := by decide +kernel
theorem dX9_give_45 : decode cX9_give 45 = .ok (.iconst 0, 1) := by decide +kernel
theorem dX9_give_46 : decode cX9_give 46 = .ok (.iaload, 1) := by decide +kernel
theorem dX9_give_47 : decode cX9_give 47 = .ok (.if_icmp .ge 71, 3) := by decide +kernel
theorem dX9_give_50 : decode cX9_give 50 = .ok (.iload 7, 2) := by decide +kernel
theorem dX9_give_52 : decode cX9_give 52 = .ok (.iload_n 2, 1) := by decide +kernel
theorem dX9_give_53 : decode cX9_give 53 = .ok (.if_icmp .ne 9, 3) := by decide +kernel
theorem dX9_give_56 : decode cX9_give 56 = .ok (.ldc2_w 182, 3) := by decide +kernel
theorem dX9_give_59 : decode cX9_give 59 = .ok (.goto 17, 3) := by decide +kernel
theorem dX9_give_62 : decode cX9_give 62 = .ok (.aload_n 0, 1) := by decide +kernel
theorem dX9_give_63 : decode cX9_give 63 = .ok (.iload 7, 2) := by decide +kernel
theorem dX9_give_65 : decode cX9_give 65 = .ok (.aload_n 0, 1) := by decide +kernel
theorem dX9_give_66 : decode cX9_give 66 = .ok (.getfield 23, 3) := by decide +kernel
theorem dX9_give_69 : decode cX9_give 69 = .ok (.iload 7, 2) := by decide +kernel
theorem dX9_give_71 : decode cX9_give 71 = .ok (.iaload, 1) := by decide +kernel
theorem dX9_give_72 : decode cX9_give 72 = .ok (.iconst 1, 1) := by decide +kernel
theorem dX9_give_73 : decode cX9_give 73 = .ok (.invokevirtual 186, 3) := by decide +kernel
theorem dX9_give_76 : decode cX9_give 76 = .ok (.lstore 8, 2) := by decide +kernel
theorem dX9_give_78 : decode cX9_give 78 = .ok (.lload 8, 2) := by decide +kernel
theorem dX9_give_80 : decode cX9_give 80 = .ok (.lload 5, 2) := by decide +kernel
theorem dX9_give_82 : decode cX9_give 82 = .ok (.lcmp, 1) := by decide +kernel
theorem dX9_give_83 : decode cX9_give 83 = .ok (.ifCond .le 8, 3) := by decide +kernel
theorem dX9_give_86 : decode cX9_give 86 = .ok (.iload 7, 2) := by decide +kernel
theorem dX9_give_88 : decode cX9_give 88 = .ok (.goto 5, 3) := by decide +kernel
theorem dX9_give_91 : decode cX9_give 91 = .ok (.iload 4, 2) := by decide +kernel
theorem dX9_give_93 : decode cX9_give 93 = .ok (.istore 4, 2) := by decide +kernel
theorem dX9_give_95 : decode cX9_give 95 = .ok (.lload 8, 2) := by decide +kernel
theorem dX9_give_97 : decode cX9_give 97 = .ok (.lload 5, 2) := by decide +kernel
theorem dX9_give_99 : decode cX9_give 99 = .ok (.lcmp, 1) := by decide +kernel
theorem dX9_give_100 : decode cX9_give 100 = .ok (.ifCond .le 8, 3) := by decide +kernel
theorem dX9_give_103 : decode cX9_give 103 = .ok (.lload 8, 2) := by decide +kernel
theorem dX9_give_105 : decode cX9_give 105 = .ok (.goto 5, 3) := by decide +kernel
theorem dX9_give_108 : decode cX9_give 108 = .ok (.lload 5, 2) := by decide +kernel
theorem dX9_give_110 : decode cX9_give 110 = .ok (.lstore 5, 2) := by decide +kernel
theorem dX9_give_112 : decode cX9_give 112 = .ok (.iinc 7 1, 3) := by decide +kernel
theorem dX9_give_115 : decode cX9_give 115 = .ok (.goto (-76), 3) := by decide +kernel
theorem dX9_give_118 : decode cX9_give 118 = .ok (.iload 4, 2) := by decide +kernel
theorem dX9_give_120 : decode cX9_give 120 = .ok (.bipush (-9), 2) := by decide +kernel
theorem dX9_give_122 : decode cX9_give 122 = .ok (.if_icmp .eq 14, 3) := by decide +kernel
theorem dX9_give_125 : decode cX9_give 125 = .ok (.aload_n 0, 1) := by decide +kernel
theorem dX9_give_126 : decode cX9_give 126 = .ok (.getfield 23, 3) := by decide +kernel
theorem dX9_give_129 : decode cX9_give 129 = .ok (.iload 4, 2) := by decide +kernel
theorem dX9_give_131 : decode cX9_give 131 = .ok (.dup2, 1) := by decide +kernel
theorem dX9_give_132 : decode cX9_give 132 = .ok (.iaload, 1) := by decide +kernel
theorem dX9_give_133 : decode cX9_give 133 = .ok (.iconst 1, 1) := by decide +kernel
theorem dX9_give_134 : decode cX9_give 134 = .ok (.iadd, 1) := by decide +kernel
theorem dX9_give_135 : decode cX9_give 135 = .ok (.iastore, 1) := by decide +kernel
theorem dX9_give_136 : decode cX9_give 136 = .ok (.iinc 3 1, 3) := by decide +kernel
theorem dX9_give_139 : decode cX9_give 139 = .ok (.goto (-117), 3) := by decide +kernel
theorem dX9_give_142 : decode cX9_give 142 = .ok (.return_, 1) := by decide +kernel
theorem dX9_earns_0 : decode cX9_earns 0 = .ok (.lconst 0, 1) := by decide +kernel
theorem dX9_earns_1 : decode cX9_earns 1 = .ok (.lstore_n 2, 1) := by decide +kernel
theorem dX9_earns_2 : decode cX9_earns 2 = .ok (.iconst 0, 1) := by decide +kernel
theorem dX9_earns_3 : decode cX9_earns 3 = .ok (.istore 4, 2) := by decide +kernel
theorem dX9_earns_5 : decode cX9_earns 5 = .ok (.iload 4, 2) := by decide +kernel
theorem dX9_earns_7 : decode cX9_earns 7 = .ok (.aload_n 0, 1) := by decide +kernel
theorem dX9_earns_8 : decode cX9_earns 8 = .ok (.getfield 13, 3) := by decide +kernel
theorem dX9_earns_11 : decode cX9_earns 11 = .ok (.iconst 0, 1) := by decide +kernel
theorem dX9_earns_12 : decode cX9_earns 12 = .ok (.iaload, 1) := by decide +kernel
theorem dX9_earns_13 : decode cX9_earns 13 = .ok (.if_icmp .ge 26, 3) := by decide +kernel
theorem dX9_earns_16 : decode cX9_earns 16 = .ok (.lload_n 2, 1) := by decide +kernel
theorem dX9_earns_17 : decode cX9_earns 17 = .ok (.aload_n 0, 1) := by decide +kernel
theorem dX9_earns_18 : decode cX9_earns 18 = .ok (.iload 4, 2) := by decide +kernel
theorem dX9_earns_20 : decode cX9_earns 20 = .ok (.aload_n 0, 1) := by decide +kernel
theorem dX9_earns_21 : decode cX9_earns 21 = .ok (.getfield 23, 3) := by decide +kernel
theorem dX9_earns_24 : decode cX9_earns 24 = .ok (.iload 4, 2) := by decide +kernel
theorem dX9_earns_26 : decode cX9_earns 26 = .ok (.iaload, 1) := by decide +kernel
theorem dX9_earns_27 : decode cX9_earns 27 = .ok (.iconst 0, 1) := by decide +kernel
theorem dX9_earns_28 : decode cX9_earns 28 = .ok (.invokevirtual 186, 3) := by decide +kernel
theorem dX9_earns_31 : decode cX9_earns 31 = .ok (.ladd, 1) := by decide +kernel
theorem dX9_earns_32 : decode cX9_earns 32 = .ok (.lstore_n 2, 1) := by decide +kernel
theorem dX9_earns_33 : decode cX9_earns 33 = .ok (.iinc 4 1, 3) := by decide +kernel
theorem dX9_earns_36 : decode cX9_earns 36 = .ok (.goto (-31), 3) := by decide +kernel
theorem dX9_earns_39 : decode cX9_earns 39 = .ok (.lload_n 2, 1) := by decide +kernel
theorem dX9_earns_40 : decode cX9_earns 40 = .ok (.aload_n 0, 1) := by decide +kernel
theorem dX9_earns_41 : decode cX9_earns 41 = .ok (.getfield 13, 3) := by decide +kernel
theorem dX9_earns_44 : decode cX9_earns 44 = .ok (.iconst 5, 1) := by decide +kernel
theorem dX9_earns_45 : decode cX9_earns 45 = .ok (.iaload, 1) := by decide +kernel
theorem dX9_earns_46 : decode cX9_earns 46 = .ok (.i2l, 1) := by decide +kernel
theorem dX9_earns_47 : decode cX9_earns 47 = .ok (.lmul, 1) := by decide +kernel
theorem dX9_earns_48 : decode cX9_earns 48 = .ok (.iload_n 1, 1) := by decide +kernel
theorem dX9_earns_49 : decode cX9_earns 49 = .ok (.i2l, 1) := by decide +kernel
theorem dX9_earns_50 : decode cX9_earns 50 = .ok (.aload_n 0, 1) := by decide +kernel
theorem dX9_earns_51 : decode cX9_earns 51 = .ok (.invokevirtual 190, 3) := by decide +kernel
theorem dX9_earns_54 : decode cX9_earns 54 = .ok (.lmul, 1) := by decide +kernel
theorem dX9_earns_55 : decode cX9_earns 55 = .ok (.lload_n 2, 1) := by decide +kernel
theorem dX9_earns_56 : decode cX9_earns 56 = .ok (.lsub, 1) := by decide +kernel
theorem dX9_earns_57 : decode cX9_earns 57 = .ok (.aload_n 0, 1) := by decide +kernel
theorem dX9_earns_58 : decode cX9_earns 58 = .ok (.getfield 13, 3) := by decide +kernel
theorem dX9_earns_61 : decode cX9_earns 61 = .ok (.bipush 6, 2) := by decide +kernel
theorem dX9_earns_63 : decode cX9_earns 63 = .ok (.iaload, 1) := by decide +kernel
theorem dX9_earns_64 : decode cX9_earns 64 = .ok (.i2l, 1) := by decide +kernel
theorem dX9_earns_65 : decode cX9_earns 65 = .ok (.lmul, 1) := by decide +kernel
theorem dX9_earns_66 : decode cX9_earns 66 = .ok (.ladd, 1) := by decide +kernel
theorem dX9_earns_67 : decode cX9_earns 67 = .ok (.iload_n 1, 1) := by decide +kernel
theorem dX9_earns_68 : decode cX9_earns 68 = .ok (.i2l, 1) := by decide +kernel
theorem dX9_earns_69 : decode cX9_earns 69 = .ok (.aload_n 0, 1) := by decide +kernel
theorem dX9_earns_70 : decode cX9_earns 70 = .ok (.invokevirtual 190, 3) := by decide +kernel
theorem dX9_earns_73 : decode cX9_earns 73 = .ok (.lmul, 1) := by decide +kernel
theorem dX9_earns_74 : decode cX9_earns 74 = .ok (.aload_n 0, 1) := by decide +kernel
theorem dX9_earns_75 : decode cX9_earns 75 = .ok (.getfield 13, 3) := by decide +kernel
theorem dX9_earns_78 : decode cX9_earns 78 = .ok (.iconst 4, 1) := by decide +kernel
theorem dX9_earns_79 : decode cX9_earns 79 = .ok (.iaload, 1) := by decide +kernel
theorem dX9_earns_80 : decode cX9_earns 80 = .ok (.i2l, 1) := by decide +kernel
theorem dX9_earns_81 : decode cX9_earns 81 = .ok (.lmul, 1) := by decide +kernel
theorem dX9_earns_82 : decode cX9_earns 82 = .ok (.lsub, 1) := by decide +kernel
theorem dX9_earns_83 : decode cX9_earns 83 = .ok (.lreturn, 1) := by decide +kernel
theorem dX9_given_0 : decode cX9_given 0 = .ok (.aload_n 0, 1) := by decide +kernel
theorem dX9_given_1 : decode cX9_given 1 = .ok (.iload_n 2, 1) := by decide +kernel
theorem dX9_given_2 : decode cX9_given 2 = .ok (.invokevirtual 163, 3) := by decide +kernel
theorem dX9_given_5 : decode cX9_given 5 = .ok (.ifCond .ne 5, 3) := by decide +kernel
theorem dX9_given_8 : decode cX9_given 8 = .ok (.iconst (-1), 1) := by decide +kernel
theorem dX9_given_9 : decode cX9_given 9 = .ok (.ireturn, 1) := by decide +kernel
theorem dX9_given_10 : decode cX9_given 10 = .ok (.iload_n 1, 1) := by decide +kernel
theorem dX9_given_11 : decode cX9_given 11 = .ok (.i2l, 1) := by decide +kernel
theorem dX9_given_12 : decode cX9_given 12 = .ok (.lconst 0, 1) := by decide +kernel
theorem dX9_given_13 : decode cX9_given 13 = .ok (.ldc2_w 184, 3) := by decide +kernel
theorem dX9_given_16 : decode cX9_given 16 = .ok (.invokestatic 104, 3) := by decide +kernel
theorem dX9_given_19 : decode cX9_given 19 = .ok (.ifCond .ne 6, 3) := by decide +kernel
theorem dX9_given_22 : decode cX9_given 22 = .ok (.bipush (-2), 2) := by decide +kernel
theorem dX9_given_24 : decode cX9_given 24 = .ok (.ireturn, 1) := by decide +kernel
theorem dX9_given_25 : decode cX9_given 25 = .ok (.aload_n 0, 1) := by decide +kernel
theorem dX9_given_26 : decode cX9_given 26 = .ok (.iload_n 1, 1) := by decide +kernel
theorem dX9_given_27 : decode cX9_given 27 = .ok (.iconst (-1), 1) := by decide +kernel
theorem dX9_given_28 : decode cX9_given 28 = .ok (.invokevirtual 200, 3) := by decide +kernel
theorem dX9_given_31 : decode cX9_given 31 = .ok (.aload_n 0, 1) := by decide +kernel
theorem dX9_given_32 : decode cX9_given 32 = .ok (.getfield 23, 3) := by decide +kernel
theorem dX9_given_35 : decode cX9_given 35 = .ok (.iload_n 2, 1) := by decide +kernel
theorem dX9_given_36 : decode cX9_given 36 = .ok (.iaload, 1) := by decide +kernel
theorem dX9_given_37 : decode cX9_given 37 = .ok (.ireturn, 1) := by decide +kernel
theorem dX9_earned_0 : decode cX9_earned 0 = .ok (.iload_n 1, 1) := by decide +kernel
theorem dX9_earned_1 : decode cX9_earned 1 = .ok (.i2l, 1) := by decide +kernel
theorem dX9_earned_2 : decode cX9_earned 2 = .ok (.lconst 0, 1) := by decide +kernel
theorem dX9_earned_3 : decode cX9_earned 3 = .ok (.ldc2_w 184, 3) := by decide +kernel
theorem dX9_earned_6 : decode cX9_earned 6 = .ok (.invokestatic 104, 3) := by decide +kernel
theorem dX9_earned_9 : decode cX9_earned 9 = .ok (.ifCond .ne 7, 3) := by decide +kernel
theorem dX9_earned_12 : decode cX9_earned 12 = .ok (.ldc2_w 198, 3) := by decide +kernel
theorem dX9_earned_15 : decode cX9_earned 15 = .ok (.lreturn, 1) := by decide +kernel
theorem dX9_earned_16 : decode cX9_earned 16 = .ok (.aload_n 0, 1) := by decide +kernel
theorem dX9_earned_17 : decode cX9_earned 17 = .ok (.iload_n 1, 1) := by decide +kernel
theorem dX9_earned_18 : decode cX9_earned 18 = .ok (.iconst (-1), 1) := by decide +kernel
theorem dX9_earned_19 : decode cX9_earned 19 = .ok (.invokevirtual 200, 3) := by decide +kernel
theorem dX9_earned_22 : decode cX9_earned 22 = .ok (.aload_n 0, 1) := by decide +kernel
theorem dX9_earned_23 : decode cX9_earned 23 = .ok (.iload_n 1, 1) := by decide +kernel
theorem dX9_earned_24 : decode cX9_earned 24 = .ok (.invokevirtual 204, 3) := by decide +kernel
theorem dX9_earned_27 : decode cX9_earned 27 = .ok (.aload_n 0, 1) := by decide +kernel
theorem dX9_earned_28 : decode cX9_earned 28 = .ok (.invokevirtual 190, 3) := by decide +kernel
theorem dX9_earned_31 : decode cX9_earned 31 = .ok (.iload_n 2, 1) := by decide +kernel
theorem dX9_earned_32 : decode cX9_earned 32 = .ok (.invokestatic 194, 3) := by decide +kernel
theorem dX9_earned_35 : decode cX9_earned 35 = .ok (.lstore_n 3, 1) := by decide +kernel
theorem dX9_earned_36 : decode cX9_earned 36 = .ok (.iload_n 2, 1) := by decide +kernel
theorem dX9_earned_37 : decode cX9_earned 37 = .ok (.ifCond .eq 11, 3) := by decide +kernel
theorem dX9_earned_40 : decode cX9_earned 40 = .ok (.ldc2_w 170, 3) := by decide +kernel
theorem dX9_earned_43 : decode cX9_earned 43 = .ok (.lload_n 3, 1) := by decide +kernel
theorem dX9_earned_44 : decode cX9_earned 44 = .ok (.ladd, 1) := by decide +kernel
theorem dX9_earned_45 : decode cX9_earned 45 = .ok (.goto 4, 3) := by decide +kernel
theorem dX9_earned_48 : decode cX9_earned 48 = .ok (.lload_n 3, 1) := by decide +kernel
theorem dX9_earned_49 : decode cX9_earned 49 = .ok (.lreturn, 1) := by decide +kernel
theorem dX9_print_0 : decode cX9_print 0 = .ok (.iconst 0, 1) := by decide +kernel
theorem dX9_print_1 : decode cX9_print 1 = .ok (.istore_n 1, 1) := by decide +kernel
theorem dX9_print_2 : decode cX9_print 2 = .ok (.lconst 0, 1) := by decide +kernel
theorem dX9_print_3 : decode cX9_print 3 = .ok (.lstore_n 2, 1) := by decide +kernel
theorem dX9_print_4 : decode cX9_print 4 = .ok (.iconst 0, 1) := by decide +kernel
theorem dX9_print_5 : decode cX9_print 5 = .ok (.istore 4, 2) := by decide +kernel
theorem dX9_print_7 : decode cX9_print 7 = .ok (.iload 4, 2) := by decide +kernel
theorem dX9_print_9 : decode cX9_print 9 = .ok (.bipush 61, 2) := by decide +kernel
theorem dX9_print_11 : decode cX9_print 11 = .ok (.if_icmp .ge 62, 3) := by decide +kernel
theorem dX9_print_14 : decode cX9_print 14 = .ok (.aload_n 0, 1) := by decide +kernel
theorem dX9_print_15 : decode cX9_print 15 = .ok (.iload 4, 2) := by decide +kernel
theorem dX9_print_17 : decode cX9_print 17 = .ok (.iconst (-1), 1) := by decide +kernel
theorem dX9_print_18 : decode cX9_print 18 = .ok (.invokevirtual 200, 3) := by decide +kernel
theorem dX9_print_21 : decode cX9_print 21 = .ok (.aload_n 0, 1) := by decide +kernel
theorem dX9_print_22 : decode cX9_print 22 = .ok (.iload 4, 2) := by decide +kernel
theorem dX9_print_24 : decode cX9_print 24 = .ok (.invokevirtual 204, 3) := by decide +kernel
theorem dX9_print_27 : decode cX9_print 27 = .ok (.lstore 5, 2) := by decide +kernel
theorem dX9_print_29 : decode cX9_print 29 = .ok (.iload 4, 2) := by decide +kernel
theorem dX9_print_31 : decode cX9_print 31 = .ok (.ifCond .eq 10, 3) := by decide +kernel
theorem dX9_print_34 : decode cX9_print 34 = .ok (.lload 5, 2) := by decide +kernel
theorem dX9_print_36 : decode cX9_print 36 = .ok (.lload_n 2, 1) := by decide +kernel
theorem dX9_print_37 : decode cX9_print 37 = .ok (.lcmp, 1) := by decide +kernel
theorem dX9_print_38 : decode cX9_print 38 = .ok (.ifCond .le 8, 3) := by decide +kernel
theorem dX9_print_41 : decode cX9_print 41 = .ok (.iload 4, 2) := by decide +kernel
theorem dX9_print_43 : decode cX9_print 43 = .ok (.goto 4, 3) := by decide +kernel
theorem dX9_print_46 : decode cX9_print 46 = .ok (.iload_n 1, 1) := by decide +kernel
theorem dX9_print_47 : decode cX9_print 47 = .ok (.istore_n 1, 1) := by decide +kernel
theorem dX9_print_48 : decode cX9_print 48 = .ok (.iload 4, 2) := by decide +kernel
theorem dX9_print_50 : decode cX9_print 50 = .ok (.ifCond .eq 10, 3) := by decide +kernel
theorem dX9_print_53 : decode cX9_print 53 = .ok (.lload 5, 2) := by decide +kernel
theorem dX9_print_55 : decode cX9_print 55 = .ok (.lload_n 2, 1) := by decide +kernel
theorem dX9_print_56 : decode cX9_print 56 = .ok (.lcmp, 1) := by decide +kernel
theorem dX9_print_57 : decode cX9_print 57 = .ok (.ifCond .le 8, 3) := by decide +kernel
theorem dX9_print_60 : decode cX9_print 60 = .ok (.lload 5, 2) := by decide +kernel
theorem dX9_print_62 : decode cX9_print 62 = .ok (.goto 4, 3) := by decide +kernel
theorem dX9_print_65 : decode cX9_print 65 = .ok (.lload_n 2, 1) := by decide +kernel
theorem dX9_print_66 : decode cX9_print 66 = .ok (.lstore_n 2, 1) := by decide +kernel
theorem dX9_print_67 : decode cX9_print 67 = .ok (.iinc 4 1, 3) := by decide +kernel
theorem dX9_print_70 : decode cX9_print 70 = .ok (.goto (-63), 3) := by decide +kernel
theorem dX9_print_73 : decode cX9_print 73 = .ok (.iload_n 1, 1) := by decide +kernel
theorem dX9_print_74 : decode cX9_print 74 = .ok (.ireturn, 1) := by decide +kernel
theorem dX9_loss_0 : decode cX9_loss 0 = .ok (.aload_n 0, 1) := by decide +kernel
theorem dX9_loss_1 : decode cX9_loss 1 = .ok (.iload_n 2, 1) := by decide +kernel
theorem dX9_loss_2 : decode cX9_loss 2 = .ok (.invokevirtual 163, 3) := by decide +kernel
theorem dX9_loss_5 : decode cX9_loss 5 = .ok (.ifCond .ne 7, 3) := by decide +kernel
theorem dX9_loss_8 : decode cX9_loss 8 = .ok (.ldc2_w 182, 3) := by decide +kernel
theorem dX9_loss_11 : decode cX9_loss 11 = .ok (.lreturn, 1) := by decide +kernel
theorem dX9_loss_12 : decode cX9_loss 12 = .ok (.iload_n 1, 1) := by decide +kernel
theorem dX9_loss_13 : decode cX9_loss 13 = .ok (.i2l, 1) := by decide +kernel
theorem dX9_loss_14 : decode cX9_loss 14 = .ok (.lconst 0, 1) := by decide +kernel
theorem dX9_loss_15 : decode cX9_loss 15 = .ok (.ldc2_w 184, 3) := by decide +kernel
theorem dX9_loss_18 : decode cX9_loss 18 = .ok (.invokestatic 104, 3) := by decide +kernel
theorem dX9_loss_21 : decode cX9_loss 21 = .ok (.ifCond .eq 14, 3) := by decide +kernel
theorem dX9_loss_24 : decode cX9_loss 24 = .ok (.iload_n 3, 1) := by decide +kernel
theorem dX9_loss_25 : decode cX9_loss 25 = .ok (.i2l, 1) := by decide +kernel
theorem dX9_loss_26 : decode cX9_loss 26 = .ok (.lconst 0, 1) := by decide +kernel
theorem dX9_loss_27 : decode cX9_loss 27 = .ok (.iload_n 1, 1) := by decide +kernel
theorem dX9_loss_28 : decode cX9_loss 28 = .ok (.i2l, 1) := by decide +kernel
theorem dX9_loss_29 : decode cX9_loss 29 = .ok (.invokestatic 104, 3) := by decide +kernel
theorem dX9_loss_32 : decode cX9_loss 32 = .ok (.ifCond .ne 7, 3) := by decide +kernel
theorem dX9_loss_35 : decode cX9_loss 35 = .ok (.ldc2_w 198, 3) := by decide +kernel
theorem dX9_loss_38 : decode cX9_loss 38 = .ok (.lreturn, 1) := by decide +kernel
theorem dX9_loss_39 : decode cX9_loss 39 = .ok (.aload_n 0, 1) := by decide +kernel
theorem dX9_loss_40 : decode cX9_loss 40 = .ok (.iload_n 1, 1) := by decide +kernel
theorem dX9_loss_41 : decode cX9_loss 41 = .ok (.iconst (-1), 1) := by decide +kernel
theorem dX9_loss_42 : decode cX9_loss 42 = .ok (.invokevirtual 200, 3) := by decide +kernel
theorem dX9_loss_45 : decode cX9_loss 45 = .ok (.aload_n 0, 1) := by decide +kernel
theorem dX9_loss_46 : decode cX9_loss 46 = .ok (.iload_n 1, 1) := by decide +kernel
theorem dX9_loss_47 : decode cX9_loss 47 = .ok (.invokevirtual 204, 3) := by decide +kernel
theorem dX9_loss_50 : decode cX9_loss 50 = .ok (.lstore 5, 2) := by decide +kernel
theorem dX9_loss_52 : decode cX9_loss 52 = .ok (.aload_n 0, 1) := by decide +kernel
theorem dX9_loss_53 : decode cX9_loss 53 = .ok (.iload_n 1, 1) := by decide +kernel
theorem dX9_loss_54 : decode cX9_loss 54 = .ok (.iload_n 3, 1) := by decide +kernel
theorem dX9_loss_55 : decode cX9_loss 55 = .ok (.isub, 1) := by decide +kernel
theorem dX9_loss_56 : decode cX9_loss 56 = .ok (.iload_n 2, 1) := by decide +kernel
theorem dX9_loss_57 : decode cX9_loss 57 = .ok (.invokevirtual 200, 3) := by decide +kernel
theorem dX9_loss_60 : decode cX9_loss 60 = .ok (.aload_n 0, 1) := by decide +kernel
theorem dX9_loss_61 : decode cX9_loss 61 = .ok (.getfield 23, 3) := by decide +kernel
theorem dX9_loss_64 : decode cX9_loss 64 = .ok (.iload_n 2, 1) := by decide +kernel
theorem dX9_loss_65 : decode cX9_loss 65 = .ok (.iload_n 3, 1) := by decide +kernel
theorem dX9_loss_66 : decode cX9_loss 66 = .ok (.iastore, 1) := by decide +kernel
theorem dX9_loss_67 : decode cX9_loss 67 = .ok (.lload 5, 2) := by decide +kernel
theorem dX9_loss_69 : decode cX9_loss 69 = .ok (.aload_n 0, 1) := by decide +kernel
theorem dX9_loss_70 : decode cX9_loss 70 = .ok (.iload_n 1, 1) := by decide +kernel
theorem dX9_loss_71 : decode cX9_loss 71 = .ok (.invokevirtual 204, 3) := by decide +kernel
theorem dX9_loss_74 : decode cX9_loss 74 = .ok (.lsub, 1) := by decide +kernel
theorem dX9_loss_75 : decode cX9_loss 75 = .ok (.aload_n 0, 1) := by decide +kernel
theorem dX9_loss_76 : decode cX9_loss 76 = .ok (.invokevirtual 190, 3) := by decide +kernel
theorem dX9_loss_79 : decode cX9_loss 79 = .ok (.iload 4, 2) := by decide +kernel
theorem dX9_loss_81 : decode cX9_loss 81 = .ok (.invokestatic 194, 3) := by decide +kernel
theorem dX9_loss_84 : decode cX9_loss 84 = .ok (.lreturn, 1) := by decide +kernel
theorem dX9_see_0 : decode cX9_see 0 = .ok (.aload_n 0, 1) := by decide +kernel
theorem dX9_see_1 : decode cX9_see 1 = .ok (.iload_n 1, 1) := by decide +kernel
theorem dX9_see_2 : decode cX9_see 2 = .ok (.invokevirtual 163, 3) := by decide +kernel
theorem dX9_see_5 : decode cX9_see 5 = .ok (.ifCond .ne 5, 3) := by decide +kernel
theorem dX9_see_8 : decode cX9_see 8 = .ok (.iconst (-1), 1) := by decide +kernel
theorem dX9_see_9 : decode cX9_see 9 = .ok (.ireturn, 1) := by decide +kernel
theorem dX9_see_10 : decode cX9_see 10 = .ok (.iload_n 2, 1) := by decide +kernel
theorem dX9_see_11 : decode cX9_see 11 = .ok (.i2l, 1) := by decide +kernel
theorem dX9_see_12 : decode cX9_see 12 = .ok (.lconst 0, 1) := by decide +kernel
theorem dX9_see_13 : decode cX9_see 13 = .ok (.ldc2_w 140, 3) := by decide +kernel
theorem dX9_see_16 : decode cX9_see 16 = .ok (.invokestatic 104, 3) := by decide +kernel
theorem dX9_see_19 : decode cX9_see 19 = .ok (.ifCond .ne 6, 3) := by decide +kernel
theorem dX9_see_22 : decode cX9_see 22 = .ok (.bipush (-2), 2) := by decide +kernel
theorem dX9_see_24 : decode cX9_see 24 = .ok (.ireturn, 1) := by decide +kernel
theorem dX9_see_25 : decode cX9_see 25 = .ok (.aload_n 0, 1) := by decide +kernel
theorem dX9_see_26 : decode cX9_see 26 = .ok (.getfield 108, 3) := by decide +kernel
theorem dX9_see_29 : decode cX9_see 29 = .ok (.bipush 8, 2) := by decide +kernel
theorem dX9_see_31 : decode cX9_see 31 = .ok (.if_icmp .ne 6, 3) := by decide +kernel
theorem dX9_see_34 : decode cX9_see 34 = .ok (.bipush (-4), 2) := by decide +kernel
theorem dX9_see_36 : decode cX9_see 36 = .ok (.ireturn, 1) := by decide +kernel
theorem dX9_see_37 : decode cX9_see 37 = .ok (.aload_n 0, 1) := by decide +kernel
theorem dX9_see_38 : decode cX9_see 38 = .ok (.getfield 26, 3) := by decide +kernel
theorem dX9_see_41 : decode cX9_see 41 = .ok (.aload_n 0, 1) := by decide +kernel
theorem dX9_see_42 : decode cX9_see 42 = .ok (.getfield 108, 3) := by decide +kernel
theorem dX9_see_45 : decode cX9_see 45 = .ok (.iload_n 1, 1) := by decide +kernel
theorem dX9_see_46 : decode cX9_see 46 = .ok (.iastore, 1) := by decide +kernel
theorem dX9_see_47 : decode cX9_see 47 = .ok (.aload_n 0, 1) := by decide +kernel
theorem dX9_see_48 : decode cX9_see 48 = .ok (.getfield 29, 3) := by decide +kernel
theorem dX9_see_51 : decode cX9_see 51 = .ok (.aload_n 0, 1) := by decide +kernel
theorem dX9_see_52 : decode cX9_see 52 = .ok (.getfield 108, 3) := by decide +kernel
theorem dX9_see_55 : decode cX9_see 55 = .ok (.iload_n 2, 1) := by decide +kernel
theorem dX9_see_56 : decode cX9_see 56 = .ok (.iastore, 1) := by decide +kernel
theorem dX9_see_57 : decode cX9_see 57 = .ok (.aload_n 0, 1) := by decide +kernel
theorem dX9_see_58 : decode cX9_see 58 = .ok (.dup, 1) := by decide +kernel
theorem dX9_see_59 : decode cX9_see 59 = .ok (.getfield 108, 3) := by decide +kernel
theorem dX9_see_62 : decode cX9_see 62 = .ok (.iconst 1, 1) := by decide +kernel
theorem dX9_see_63 : decode cX9_see 63 = .ok (.iadd, 1) := by decide +kernel
theorem dX9_see_64 : decode cX9_see 64 = .ok (.putfield 108, 3) := by decide +kernel
theorem dX9_see_67 : decode cX9_see 67 = .ok (.aload_n 0, 1) := by decide +kernel
theorem dX9_see_68 : decode cX9_see 68 = .ok (.getfield 108, 3) := by decide +kernel
theorem dX9_see_71 : decode cX9_see 71 = .ok (.ireturn, 1) := by decide +kernel
theorem dX9_unsee_0 : decode cX9_unsee 0 = .ok (.aload_n 0, 1) := by decide +kernel
theorem dX9_unsee_1 : decode cX9_unsee 1 = .ok (.getfield 108, 3) := by decide +kernel
theorem dX9_unsee_4 : decode cX9_unsee 4 = .ok (.istore_n 1, 1) := by decide +kernel
theorem dX9_unsee_5 : decode cX9_unsee 5 = .ok (.aload_n 0, 1) := by decide +kernel
theorem dX9_unsee_6 : decode cX9_unsee 6 = .ok (.iconst 0, 1) := by decide +kernel
theorem dX9_unsee_7 : decode cX9_unsee 7 = .ok (.putfield 108, 3) := by decide +kernel
theorem dX9_unsee_10 : decode cX9_unsee 10 = .ok (.iload_n 1, 1) := by decide +kernel
theorem dX9_unsee_11 : decode cX9_unsee 11 = .ok (.ireturn, 1) := by decide +kernel
theorem dX9_weight_0 : decode cX9_weight 0 = .ok (.aload_n 0, 1) := by decide +kernel
theorem dX9_weight_1 : decode cX9_weight 1 = .ok (.getfield 13, 3) := by decide +kernel
theorem dX9_weight_4 : decode cX9_weight 4 = .ok (.iconst 1, 1) := by decide +kernel
theorem dX9_weight_5 : decode cX9_weight 5 = .ok (.iload_n 1, 1) := by decide +kernel
theorem dX9_weight_6 : decode cX9_weight 6 = .ok (.iadd, 1) := by decide +kernel
theorem dX9_weight_7 : decode cX9_weight 7 = .ok (.iaload, 1) := by decide +kernel
theorem dX9_weight_8 : decode cX9_weight 8 = .ok (.i2l, 1) := by decide +kernel
theorem dX9_weight_9 : decode cX9_weight 9 = .ok (.lstore_n 2, 1) := by decide +kernel
theorem dX9_weight_10 : decode cX9_weight 10 = .ok (.iconst 0, 1) := by decide +kernel
theorem dX9_weight_11 : decode cX9_weight 11 = .ok (.istore 4, 2) := by decide +kernel
theorem dX9_weight_13 : decode cX9_weight 13 = .ok (.iload 4, 2) := by decide +kernel
theorem dX9_weight_15 : decode cX9_weight 15 = .ok (.aload_n 0, 1) := by decide +kernel
theorem dX9_weight_16 : decode cX9_weight 16 = .ok (.getfield 108, 3) := by decide +kernel
theorem dX9_weight_19 : decode cX9_weight 19 = .ok (.if_icmp .ge 96, 3) := by decide +kernel
theorem dX9_weight_22 : decode cX9_weight 22 = .ok (.aload_n 0, 1) := by decide +kernel
theorem dX9_weight_23 : decode cX9_weight 23 = .ok (.getfield 13, 3) := by decide +kernel
theorem dX9_weight_26 : decode cX9_weight 26 = .ok (.bipush 10, 2) := by decide +kernel
theorem dX9_weight_28 : decode cX9_weight 28 = .ok (.iconst 3, 1) := by decide +kernel
theorem dX9_weight_29 : decode cX9_weight 29 = .ok (.aload_n 0, 1) := by decide +kernel
theorem dX9_weight_30 : decode cX9_weight 30 = .ok (.getfield 26, 3) := by decide +kernel
theorem dX9_weight_33 : decode cX9_weight 33 = .ok (.iload 4, 2) := by decide +kernel
theorem dX9_weight_35 : decode cX9_weight 35 = .ok (.iaload, 1) := by decide +kernel
theorem dX9_weight_36 : decode cX9_weight 36 = .ok (.imul, 1) := by decide +kernel
theorem dX9_weight_37 : decode cX9_weight 37 = .ok (.iadd, 1) := by decide +kernel
theorem dX9_weight_38 : decode cX9_weight 38 = .ok (.iload_n 1, 1) := by decide +kernel
theorem dX9_weight_39 : decode cX9_weight 39 = .ok (.iadd, 1) := by decide +kernel
theorem dX9_weight_40 : decode cX9_weight 40 = .ok (.iaload, 1) := by decide +kernel
theorem dX9_weight_41 : decode cX9_weight 41 = .ok (.istore 5, 2) := by decide +kernel
theorem dX9_weight_43 : decode cX9_weight 43 = .ok (.aload_n 0, 1) := by decide +kernel
theorem dX9_weight_44 : decode cX9_weight 44 = .ok (.getfield 13, 3) := by decide +kernel
theorem dX9_weight_47 : decode cX9_weight 47 = .ok (.bipush 19, 2) := by decide +kernel
theorem dX9_weight_49 : decode cX9_weight 49 = .ok (.iconst 3, 1) := by decide +kernel
theorem dX9_weight_50 : decode cX9_weight 50 = .ok (.aload_n 0, 1) := by decide +kernel
theorem dX9_weight_51 : decode cX9_weight 51 = .ok (.getfield 26, 3) := by decide +kernel
theorem dX9_weight_54 : decode cX9_weight 54 = .ok (.iload 4, 2) := by decide +kernel
theorem dX9_weight_56 : decode cX9_weight 56 = .ok (.iaload, 1) := by decide +kernel
theorem dX9_weight_57 : decode cX9_weight 57 = .ok (.imul, 1) := by decide +kernel
theorem dX9_weight_58 : decode cX9_weight 58 = .ok (.iadd, 1) := by decide +kernel
theorem dX9_weight_59 : decode cX9_weight 59 = .ok (.iload_n 1, 1) := by decide +kernel
theorem dX9_weight_60 : decode cX9_weight 60 = .ok (.iadd, 1) := by decide +kernel
theorem dX9_weight_61 : decode cX9_weight 61 = .ok (.iaload, 1) := by decide +kernel
theorem dX9_weight_62 : decode cX9_weight 62 = .ok (.istore 6, 2) := by decide +kernel
theorem dX9_weight_64 : decode cX9_weight 64 = .ok (.lload_n 2, 1) := by decide +kernel
theorem dX9_weight_65 : decode cX9_weight 65 = .ok (.aload_n 0, 1) := by decide +kernel
theorem dX9_weight_66 : decode cX9_weight 66 = .ok (.getfield 29, 3) := by decide +kernel
theorem dX9_weight_69 : decode cX9_weight 69 = .ok (.iload 4, 2) := by decide +kernel
theorem dX9_weight_71 : decode cX9_weight 71 = .ok (.iaload, 1) := by decide +kernel
theorem dX9_weight_72 : decode cX9_weight 72 = .ok (.iload 5, 2) := by decide +kernel
theorem dX9_weight_74 : decode cX9_weight 74 = .ok (.iconst 1, 1) := by decide +kernel
theorem dX9_weight_75 : decode cX9_weight 75 = .ok (.iadd, 1) := by decide +kernel
theorem dX9_weight_76 : decode cX9_weight 76 = .ok (.if_icmp .ne 9, 3) := by decide +kernel
theorem dX9_weight_79 : decode cX9_weight 79 = .ok (.iload 6, 2) := by decide +kernel
theorem dX9_weight_81 : decode cX9_weight 81 = .ok (.i2l, 1) := by decide +kernel
theorem dX9_weight_82 : decode cX9_weight 82 = .ok (.goto 25, 3) := by decide +kernel
theorem dX9_weight_85 : decode cX9_weight 85 = .ok (.aload_n 0, 1) := by decide +kernel
theorem dX9_weight_86 : decode cX9_weight 86 = .ok (.getfield 29, 3) := by decide +kernel
theorem dX9_weight_89 : decode cX9_weight 89 = .ok (.iload 4, 2) := by decide +kernel
theorem dX9_weight_91 : decode cX9_weight 91 = .ok (.iaload, 1) := by decide +kernel
theorem dX9_weight_92 : decode cX9_weight 92 = .ok (.iload 5, 2) := by decide +kernel
theorem dX9_weight_94 : decode cX9_weight 94 = .ok (.if_icmp .ne 12, 3) := by decide +kernel
theorem dX9_weight_97 : decode cX9_weight 97 = .ok (.bipush 10, 2) := by decide +kernel
theorem dX9_weight_99 : decode cX9_weight 99 = .ok (.iload 6, 2) := by decide +kernel
theorem dX9_weight_101 : decode cX9_weight 101 = .ok (.isub, 1) := by decide +kernel
theorem dX9_weight_102 : decode cX9_weight 102 = .ok (.i2l, 1) := by decide +kernel
theorem dX9_weight_103 : decode cX9_weight 103 = .ok (.goto 4, 3) := by decide +kernel
theorem dX9_weight_106 : decode cX9_weight 106 = .ok (.lconst 0, 1) := by decide +kernel
theorem dX9_weight_107 : decode cX9_weight 107 = .ok (.lmul, 1) := by decide +kernel
theorem dX9_weight_108 : decode cX9_weight 108 = .ok (.lstore_n 2, 1) := by decide +kernel
theorem dX9_weight_109 : decode cX9_weight 109 = .ok (.iinc 4 1, 3) := by decide +kernel
theorem dX9_weight_112 : decode cX9_weight 112 = .ok (.goto (-99), 3) := by decide +kernel
theorem dX9_weight_115 : decode cX9_weight 115 = .ok (.lload_n 2, 1) := by decide +kernel
theorem dX9_weight_116 : decode cX9_weight 116 = .ok (.lreturn, 1) := by decide +kernel
theorem dX9_allWeights_0 : decode cX9_allWeights 0 = .ok (.aload_n 0, 1) := by decide +kernel
theorem dX9_allWeights_1 : decode cX9_allWeights 1 = .ok (.iconst 0, 1) := by decide +kernel
theorem dX9_allWeights_2 : decode cX9_allWeights 2 = .ok (.invokevirtual 208, 3) := by decide +kernel
theorem dX9_allWeights_5 : decode cX9_allWeights 5 = .ok (.aload_n 0, 1) := by decide +kernel
theorem dX9_allWeights_6 : decode cX9_allWeights 6 = .ok (.iconst 1, 1) := by decide +kernel
theorem dX9_allWeights_7 : decode cX9_allWeights 7 = .ok (.invokevirtual 208, 3) := by decide +kernel
theorem dX9_allWeights_10 : decode cX9_allWeights 10 = .ok (.ladd, 1) := by decide +kernel
theorem dX9_allWeights_11 : decode cX9_allWeights 11 = .ok (.aload_n 0, 1) := by decide +kernel
theorem dX9_allWeights_12 : decode cX9_allWeights 12 = .ok (.iconst 2, 1) := by decide +kernel
theorem dX9_allWeights_13 : decode cX9_allWeights 13 = .ok (.invokevirtual 208, 3) := by decide +kernel
theorem dX9_allWeights_16 : decode cX9_allWeights 16 = .ok (.ladd, 1) := by decide +kernel
theorem dX9_allWeights_17 : decode cX9_allWeights 17 = .ok (.lreturn, 1) := by decide +kernel
theorem dX9_likely_0 : decode cX9_likely 0 = .ok (.iload_n 1, 1) := by decide +kernel
theorem dX9_likely_1 : decode cX9_likely 1 = .ok (.invokestatic 167, 3) := by decide +kernel
theorem dX9_likely_4 : decode cX9_likely 4 = .ok (.ifCond .ne 7, 3) := by decide +kernel
theorem dX9_likely_7 : decode cX9_likely 7 = .ok (.ldc2_w 182, 3) := by decide +kernel
theorem dX9_likely_10 : decode cX9_likely 10 = .ok (.lreturn, 1) := by decide +kernel
theorem dX9_likely_11 : decode cX9_likely 11 = .ok (.aload_n 0, 1) := by decide +kernel
theorem dX9_likely_12 : decode cX9_likely 12 = .ok (.invokevirtual 211, 3) := by decide +kernel
theorem dX9_likely_15 : decode cX9_likely 15 = .ok (.lconst 0, 1) := by decide +kernel
theorem dX9_likely_16 : decode cX9_likely 16 = .ok (.lcmp, 1) := by decide +kernel
theorem dX9_likely_17 : decode cX9_likely 17 = .ok (.ifCond .ne 9, 3) := by decide +kernel
theorem dX9_likely_20 : decode cX9_likely 20 = .ok (.ldc2_w 214, 3) := by decide +kernel
theorem dX9_likely_23 : decode cX9_likely 23 = .ok (.goto 16, 3) := by decide +kernel
theorem dX9_likely_26 : decode cX9_likely 26 = .ok (.aload_n 0, 1) := by decide +kernel
theorem dX9_likely_27 : decode cX9_likely 27 = .ok (.iload_n 1, 1) := by decide +kernel
theorem dX9_likely_28 : decode cX9_likely 28 = .ok (.invokevirtual 208, 3) := by decide +kernel
theorem dX9_likely_31 : decode cX9_likely 31 = .ok (.aload_n 0, 1) := by decide +kernel
theorem dX9_likely_32 : decode cX9_likely 32 = .ok (.invokevirtual 211, 3) := by decide +kernel
theorem dX9_likely_35 : decode cX9_likely 35 = .ok (.iload_n 2, 1) := by decide +kernel
theorem dX9_likely_36 : decode cX9_likely 36 = .ok (.invokestatic 194, 3) := by decide +kernel
theorem dX9_likely_39 : decode cX9_likely 39 = .ok (.lreturn, 1) := by decide +kernel
theorem dX9_likeliest_0 : decode cX9_likeliest 0 = .ok (.aload_n 0, 1) := by decide +kernel
theorem dX9_likeliest_1 : decode cX9_likeliest 1 = .ok (.invokevirtual 211, 3) := by decide +kernel
theorem dX9_likeliest_4 : decode cX9_likeliest 4 = .ok (.lconst 0, 1) := by decide +kernel
theorem dX9_likeliest_5 : decode cX9_likeliest 5 = .ok (.lcmp, 1) := by decide +kernel
theorem dX9_likeliest_6 : decode cX9_likeliest 6 = .ok (.ifCond .ne 6, 3) := by decide +kernel
theorem dX9_likeliest_9 : decode cX9_likeliest 9 = .ok (.bipush (-3), 2) := by decide +kernel
theorem dX9_likeliest_11 : decode cX9_likeliest 11 = .ok (.ireturn, 1) := by decide +kernel
theorem dX9_likeliest_12 : decode cX9_likeliest 12 = .ok (.aload_n 0, 1) := by decide +kernel
theorem dX9_likeliest_13 : decode cX9_likeliest 13 = .ok (.iconst 1, 1) := by decide +kernel
theorem dX9_likeliest_14 : decode cX9_likeliest 14 = .ok (.invokevirtual 208, 3) := by decide +kernel
theorem dX9_likeliest_17 : decode cX9_likeliest 17 = .ok (.aload_n 0, 1) := by decide +kernel
theorem dX9_likeliest_18 : decode cX9_likeliest 18 = .ok (.iconst 0, 1) := by decide +kernel
theorem dX9_likeliest_19 : decode cX9_likeliest 19 = .ok (.invokevirtual 208, 3) := by decide +kernel
theorem dX9_likeliest_22 : decode cX9_likeliest 22 = .ok (.lcmp, 1) := by decide +kernel
theorem dX9_likeliest_23 : decode cX9_likeliest 23 = .ok (.ifCond .le 7, 3) := by decide +kernel
theorem dX9_likeliest_26 : decode cX9_likeliest 26 = .ok (.iconst 1, 1) := by decide +kernel
theorem dX9_likeliest_27 : decode cX9_likeliest 27 = .ok (.goto 4, 3) := by decide +kernel
theorem dX9_likeliest_30 : decode cX9_likeliest 30 = .ok (.iconst 0, 1) := by decide +kernel
theorem dX9_likeliest_31 : decode cX9_likeliest 31 = .ok (.istore_n 1, 1) := by decide +kernel
theorem dX9_likeliest_32 : decode cX9_likeliest 32 = .ok (.aload_n 0, 1) := by decide +kernel
theorem dX9_likeliest_33 : decode cX9_likeliest 33 = .ok (.iconst 2, 1) := by decide +kernel
theorem dX9_likeliest_34 : decode cX9_likeliest 34 = .ok (.invokevirtual 208, 3) := by decide +kernel
theorem dX9_likeliest_37 : decode cX9_likeliest 37 = .ok (.aload_n 0, 1) := by decide +kernel
theorem dX9_likeliest_38 : decode cX9_likeliest 38 = .ok (.iload_n 1, 1) := by decide +kernel
theorem dX9_likeliest_39 : decode cX9_likeliest 39 = .ok (.invokevirtual 208, 3) := by decide +kernel
theorem dX9_likeliest_42 : decode cX9_likeliest 42 = .ok (.lcmp, 1) := by decide +kernel
theorem dX9_likeliest_43 : decode cX9_likeliest 43 = .ok (.ifCond .le 7, 3) := by decide +kernel
theorem dX9_likeliest_46 : decode cX9_likeliest 46 = .ok (.iconst 2, 1) := by decide +kernel
theorem dX9_likeliest_47 : decode cX9_likeliest 47 = .ok (.goto 4, 3) := by decide +kernel
theorem dX9_likeliest_50 : decode cX9_likeliest 50 = .ok (.iload_n 1, 1) := by decide +kernel
theorem dX9_likeliest_51 : decode cX9_likeliest 51 = .ok (.ireturn, 1) := by decide +kernel
theorem dX9_pair_0 : decode cX9_pair 0 = .ok (.bipush 10, 2) := by decide +kernel
theorem dX9_pair_2 : decode cX9_pair 2 = .ok (.aload_n 0, 1) := by decide +kernel
theorem dX9_pair_3 : decode cX9_pair 3 = .ok (.getfield 13, 3) := by decide +kernel
theorem dX9_pair_6 : decode cX9_pair 6 = .ok (.bipush 10, 2) := by decide +kernel
theorem dX9_pair_8 : decode cX9_pair 8 = .ok (.iconst 3, 1) := by decide +kernel
theorem dX9_pair_9 : decode cX9_pair 9 = .ok (.iload_n 1, 1) := by decide +kernel
theorem dX9_pair_10 : decode cX9_pair 10 = .ok (.imul, 1) := by decide +kernel
theorem dX9_pair_11 : decode cX9_pair 11 = .ok (.iadd, 1) := by decide +kernel
theorem dX9_pair_12 : decode cX9_pair 12 = .ok (.iload_n 2, 1) := by decide +kernel
theorem dX9_pair_13 : decode cX9_pair 13 = .ok (.iadd, 1) := by decide +kernel
theorem dX9_pair_14 : decode cX9_pair 14 = .ok (.iaload, 1) := by decide +kernel
theorem dX9_pair_15 : decode cX9_pair 15 = .ok (.imul, 1) := by decide +kernel
theorem dX9_pair_16 : decode cX9_pair 16 = .ok (.aload_n 0, 1) := by decide +kernel
theorem dX9_pair_17 : decode cX9_pair 17 = .ok (.getfield 13, 3) := by decide +kernel
theorem dX9_pair_20 : decode cX9_pair 20 = .ok (.bipush 19, 2) := by decide +kernel
theorem dX9_pair_22 : decode cX9_pair 22 = .ok (.iconst 3, 1) := by decide +kernel
theorem dX9_pair_23 : decode cX9_pair 23 = .ok (.iload_n 1, 1) := by decide +kernel
theorem dX9_pair_24 : decode cX9_pair 24 = .ok (.imul, 1) := by decide +kernel
theorem dX9_pair_25 : decode cX9_pair 25 = .ok (.iadd, 1) := by decide +kernel
theorem dX9_pair_26 : decode cX9_pair 26 = .ok (.iload_n 2, 1) := by decide +kernel
theorem dX9_pair_27 : decode cX9_pair 27 = .ok (.iadd, 1) := by decide +kernel
theorem dX9_pair_28 : decode cX9_pair 28 = .ok (.iaload, 1) := by decide +kernel
theorem dX9_pair_29 : decode cX9_pair 29 = .ok (.iadd, 1) := by decide +kernel
theorem dX9_pair_30 : decode cX9_pair 30 = .ok (.ireturn, 1) := by decide +kernel
theorem dX9_ask_0 : decode cX9_ask 0 = .ok (.aload_n 0, 1) := by decide +kernel
theorem dX9_ask_1 : decode cX9_ask 1 = .ok (.invokevirtual 211, 3) := by decide +kernel
theorem dX9_ask_4 : decode cX9_ask 4 = .ok (.lconst 0, 1) := by decide +kernel
theorem dX9_ask_5 : decode cX9_ask 5 = .ok (.lcmp, 1) := by decide +kernel
theorem dX9_ask_6 : decode cX9_ask 6 = .ok (.ifCond .ne 6, 3) := by decide +kernel
theorem dX9_ask_9 : decode cX9_ask 9 = .ok (.bipush (-3), 2) := by decide +kernel
theorem dX9_ask_11 : decode cX9_ask 11 = .ok (.ireturn, 1) := by decide +kernel
theorem dX9_ask_12 : decode cX9_ask 12 = .ok (.iconst 0, 1) := by decide +kernel
theorem dX9_ask_13 : decode cX9_ask 13 = .ok (.istore_n 1, 1) := by decide +kernel
theorem dX9_ask_14 : decode cX9_ask 14 = .ok (.iconst 0, 1) := by decide +kernel
theorem dX9_ask_15 : decode cX9_ask 15 = .ok (.istore_n 2, 1) := by decide +kernel
theorem dX9_ask_16 : decode cX9_ask 16 = .ok (.iconst 0, 1) := by decide +kernel
theorem dX9_ask_17 : decode cX9_ask 17 = .ok (.istore_n 3, 1) := by decide +kernel
theorem dX9_ask_18 : decode cX9_ask 18 = .ok (.iload_n 3, 1) := by decide +kernel
theorem dX9_ask_19 : decode cX9_ask 19 = .ok (.aload_n 0, 1) := by decide +kernel
theorem dX9_ask_20 : decode cX9_ask 20 = .ok (.getfield 13, 3) := by decide +kernel
theorem dX9_ask_23 : decode cX9_ask 23 = .ok (.iconst 0, 1) := by decide +kernel
theorem dX9_ask_24 : decode cX9_ask 24 = .ok (.iaload, 1) := by decide +kernel
theorem dX9_ask_25 : decode cX9_ask 25 = .ok (.if_icmp .ge 141, 3) := by decide +kernel
theorem dX9_ask_28 : decode cX9_ask 28 = .ok (.iconst 0, 1) := by decide +kernel
theorem dX9_ask_29 : decode cX9_ask 29 = .ok (.istore 4, 2) := by decide +kernel
theorem dX9_ask_31 : decode cX9_ask 31 = .ok (.iconst 0, 1) := by decide +kernel
theorem dX9_ask_32 : decode cX9_ask 32 = .ok (.istore 5, 2) := by decide +kernel
theorem dX9_ask_34 : decode cX9_ask 34 = .ok (.iload 5, 2) := by decide +kernel
theorem dX9_ask_36 : decode cX9_ask 36 = .ok (.iconst 3, 1) := by decide +kernel
theorem dX9_ask_37 : decode cX9_ask 37 = .ok (.if_icmp .ge 98, 3) := by decide +kernel
theorem dX9_ask_40 : decode cX9_ask 40 = .ok (.aload_n 0, 1) := by decide +kernel
theorem dX9_ask_41 : decode cX9_ask 41 = .ok (.iload 5, 2) := by decide +kernel
theorem dX9_ask_43 : decode cX9_ask 43 = .ok (.invokevirtual 208, 3) := by decide +kernel
theorem dX9_ask_46 : decode cX9_ask 46 = .ok (.lconst 0, 1) := by decide +kernel
theorem dX9_ask_47 : decode cX9_ask 47 = .ok (.lcmp, 1) := by decide +kernel
theorem dX9_ask_48 : decode cX9_ask 48 = .ok (.ifCond .le 7, 3) := by decide +kernel
theorem dX9_ask_51 : decode cX9_ask 51 = .ok (.iconst 1, 1) := by decide +kernel
theorem dX9_ask_52 : decode cX9_ask 52 = .ok (.goto 4, 3) := by decide +kernel
theorem dX9_ask_55 : decode cX9_ask 55 = .ok (.iconst 0, 1) := by decide +kernel
theorem dX9_ask_56 : decode cX9_ask 56 = .ok (.istore 6, 2) := by decide +kernel
theorem dX9_ask_58 : decode cX9_ask 58 = .ok (.iconst 0, 1) := by decide +kernel
theorem dX9_ask_59 : decode cX9_ask 59 = .ok (.istore 7, 2) := by decide +kernel
theorem dX9_ask_61 : decode cX9_ask 61 = .ok (.iload 7, 2) := by decide +kernel
theorem dX9_ask_63 : decode cX9_ask 63 = .ok (.iload 5, 2) := by decide +kernel
theorem dX9_ask_65 : decode cX9_ask 65 = .ok (.if_icmp .ge 49, 3) := by decide +kernel
theorem dX9_ask_68 : decode cX9_ask 68 = .ok (.iload 6, 2) := by decide +kernel
theorem dX9_ask_70 : decode cX9_ask 70 = .ok (.ifCond .eq 35, 3) := by decide +kernel
theorem dX9_ask_73 : decode cX9_ask 73 = .ok (.aload_n 0, 1) := by decide +kernel
theorem dX9_ask_74 : decode cX9_ask 74 = .ok (.iload 7, 2) := by decide +kernel
theorem dX9_ask_76 : decode cX9_ask 76 = .ok (.invokevirtual 208, 3) := by decide +kernel
theorem dX9_ask_79 : decode cX9_ask 79 = .ok (.lconst 0, 1) := by decide +kernel
theorem dX9_ask_80 : decode cX9_ask 80 = .ok (.lcmp, 1) := by decide +kernel
theorem dX9_ask_81 : decode cX9_ask 81 = .ok (.ifCond .eq 20, 3) := by decide +kernel
theorem dX9_ask_84 : decode cX9_ask 84 = .ok (.aload_n 0, 1) := by decide +kernel
theorem dX9_ask_85 : decode cX9_ask 85 = .ok (.iload_n 3, 1) := by decide +kernel
theorem dX9_ask_86 : decode cX9_ask 86 = .ok (.iload 7, 2) := by decide +kernel
theorem dX9_ask_88 : decode cX9_ask 88 = .ok (.invokevirtual 216, 3) := by decide +kernel
theorem dX9_ask_91 : decode cX9_ask 91 = .ok (.aload_n 0, 1) := by decide +kernel
theorem dX9_ask_92 : decode cX9_ask 92 = .ok (.iload_n 3, 1) := by decide +kernel
theorem dX9_ask_93 : decode cX9_ask 93 = .ok (.iload 5, 2) := by decide +kernel
theorem dX9_ask_95 : decode cX9_ask 95 = .ok (.invokevirtual 216, 3) := by decide +kernel
theorem dX9_ask_98 : decode cX9_ask 98 = .ok (.if_icmp .eq 7, 3) := by decide +kernel
theorem dX9_ask_101 : decode cX9_ask 101 = .ok (.iconst 1, 1) := by decide +kernel
theorem dX9_ask_102 : decode cX9_ask 102 = .ok (.goto 4, 3) := by decide +kernel
theorem dX9_ask_105 : decode cX9_ask 105 = .ok (.iconst 0, 1) := by decide +kernel
theorem dX9_ask_106 : decode cX9_ask 106 = .ok (.istore 6, 2) := by decide +kernel
theorem dX9_ask_108 : decode cX9_ask 108 = .ok (.iinc 7 1, 3) := by decide +kernel
theorem dX9_ask_111 : decode cX9_ask 111 = .ok (.goto (-50), 3) := by decide +kernel
theorem dX9_ask_114 : decode cX9_ask 114 = .ok (.iload 4, 2) := by decide +kernel
theorem dX9_ask_116 : decode cX9_ask 116 = .ok (.iload 6, 2) := by decide +kernel
theorem dX9_ask_118 : decode cX9_ask 118 = .ok (.ifCond .eq 7, 3) := by decide +kernel
theorem dX9_ask_121 : decode cX9_ask 121 = .ok (.iconst 1, 1) := by decide +kernel
theorem dX9_ask_122 : decode cX9_ask 122 = .ok (.goto 4, 3) := by decide +kernel
theorem dX9_ask_125 : decode cX9_ask 125 = .ok (.iconst 0, 1) := by decide +kernel
theorem dX9_ask_126 : decode cX9_ask 126 = .ok (.iadd, 1) := by decide +kernel
theorem dX9_ask_127 : decode cX9_ask 127 = .ok (.istore 4, 2) := by decide +kernel
theorem dX9_ask_129 : decode cX9_ask 129 = .ok (.iinc 5 1, 3) := by decide +kernel
theorem dX9_ask_132 : decode cX9_ask 132 = .ok (.goto (-98), 3) := by decide +kernel
theorem dX9_ask_135 : decode cX9_ask 135 = .ok (.iload 4, 2) := by decide +kernel
theorem dX9_ask_137 : decode cX9_ask 137 = .ok (.iload_n 2, 1) := by decide +kernel
theorem dX9_ask_138 : decode cX9_ask 138 = .ok (.if_icmp .le 7, 3) := by decide +kernel
theorem dX9_ask_141 : decode cX9_ask 141 = .ok (.iload_n 3, 1) := by decide +kernel
theorem dX9_ask_142 : decode cX9_ask 142 = .ok (.goto 4, 3) := by decide +kernel
theorem dX9_ask_145 : decode cX9_ask 145 = .ok (.iload_n 1, 1) := by decide +kernel
theorem dX9_ask_146 : decode cX9_ask 146 = .ok (.istore_n 1, 1) := by decide +kernel
theorem dX9_ask_147 : decode cX9_ask 147 = .ok (.iload 4, 2) := by decide +kernel
theorem dX9_ask_149 : decode cX9_ask 149 = .ok (.iload_n 2, 1) := by decide +kernel
theorem dX9_ask_150 : decode cX9_ask 150 = .ok (.if_icmp .le 8, 3) := by decide +kernel
theorem dX9_ask_153 : decode cX9_ask 153 = .ok (.iload 4, 2) := by decide +kernel
theorem dX9_ask_155 : decode cX9_ask 155 = .ok (.goto 4, 3) := by decide +kernel
theorem dX9_ask_158 : decode cX9_ask 158 = .ok (.iload_n 2, 1) := by decide +kernel
theorem dX9_ask_159 : decode cX9_ask 159 = .ok (.istore_n 2, 1) := by decide +kernel
theorem dX9_ask_160 : decode cX9_ask 160 = .ok (.iinc 3 1, 3) := by decide +kernel
theorem dX9_ask_163 : decode cX9_ask 163 = .ok (.goto (-145), 3) := by decide +kernel
theorem dX9_ask_166 : decode cX9_ask 166 = .ok (.iload_n 1, 1) := by decide +kernel
theorem dX9_ask_167 : decode cX9_ask 167 = .ok (.ireturn, 1) := by decide +kernel
theorem dX9_place_0 : decode cX9_place 0 = .ok (.sipush 169, 3) := by decide +kernel
theorem dX9_place_3 : decode cX9_place 3 = .ok (.iload_n 0, 1) := by decide +kernel
theorem dX9_place_4 : decode cX9_place 4 = .ok (.imul, 1) := by decide +kernel
theorem dX9_place_5 : decode cX9_place 5 = .ok (.bipush 13, 2) := by decide +kernel
theorem dX9_place_7 : decode cX9_place 7 = .ok (.iload_n 1, 1) := by decide +kernel
theorem dX9_place_8 : decode cX9_place 8 = .ok (.imul, 1) := by decide +kernel
theorem dX9_place_9 : decode cX9_place 9 = .ok (.iadd, 1) := by decide +kernel
theorem dX9_place_10 : decode cX9_place 10 = .ok (.iload_n 2, 1) := by decide +kernel
theorem dX9_place_11 : decode cX9_place 11 = .ok (.iadd, 1) := by decide +kernel
theorem dX9_place_12 : decode cX9_place 12 = .ok (.ireturn, 1) := by decide +kernel
theorem dX9_lesser_0 : decode cX9_lesser 0 = .ok (.iload_n 0, 1) := by decide +kernel
theorem dX9_lesser_1 : decode cX9_lesser 1 = .ok (.iload_n 1, 1) := by decide +kernel
theorem dX9_lesser_2 : decode cX9_lesser 2 = .ok (.if_icmp .ge 7, 3) := by decide +kernel
theorem dX9_lesser_5 : decode cX9_lesser 5 = .ok (.iload_n 0, 1) := by decide +kernel
theorem dX9_lesser_6 : decode cX9_lesser 6 = .ok (.goto 4, 3) := by decide +kernel
theorem dX9_lesser_9 : decode cX9_lesser 9 = .ok (.iload_n 1, 1) := by decide +kernel
theorem dX9_lesser_10 : decode cX9_lesser 10 = .ok (.ireturn, 1) := by decide +kernel
theorem dX9_halfHour_0 : decode cX9_halfHour 0 = .ok (.aload_n 0, 1) := by decide +kernel
theorem dX9_halfHour_1 : decode cX9_halfHour 1 = .ok (.getfield 13, 3) := by decide +kernel
theorem dX9_halfHour_4 : decode cX9_halfHour 4 = .ok (.bipush 10, 2) := by decide +kernel
theorem dX9_halfHour_6 : decode cX9_halfHour 6 = .ok (.iconst 3, 1) := by decide +kernel
theorem dX9_halfHour_7 : decode cX9_halfHour 7 = .ok (.iload_n 1, 1) := by decide +kernel
theorem dX9_halfHour_8 : decode cX9_halfHour 8 = .ok (.imul, 1) := by decide +kernel
theorem dX9_halfHour_9 : decode cX9_halfHour 9 = .ok (.iadd, 1) := by decide +kernel
theorem dX9_halfHour_10 : decode cX9_halfHour 10 = .ok (.iload_n 3, 1) := by decide +kernel
theorem dX9_halfHour_11 : decode cX9_halfHour 11 = .ok (.iadd, 1) := by decide +kernel
theorem dX9_halfHour_12 : decode cX9_halfHour 12 = .ok (.iaload, 1) := by decide +kernel
theorem dX9_halfHour_13 : decode cX9_halfHour 13 = .ok (.istore 9, 2) := by decide +kernel
theorem dX9_halfHour_15 : decode cX9_halfHour 15 = .ok (.aload_n 0, 1) := by decide +kernel
theorem dX9_halfHour_16 : decode cX9_halfHour 16 = .ok (.getfield 13, 3) := by decide +kernel
theorem dX9_halfHour_19 : decode cX9_halfHour 19 = .ok (.bipush 19, 2) := by decide +kernel
theorem dX9_halfHour_21 : decode cX9_halfHour 21 = .ok (.iconst 3, 1) := by decide +kernel
theorem dX9_halfHour_22 : decode cX9_halfHour 22 = .ok (.iload_n 1, 1) := by decide +kernel
theorem dX9_halfHour_23 : decode cX9_halfHour 23 = .ok (.imul, 1) := by decide +kernel
theorem dX9_halfHour_24 : decode cX9_halfHour 24 = .ok (.iadd, 1) := by decide +kernel
theorem dX9_halfHour_25 : decode cX9_halfHour 25 = .ok (.iload_n 3, 1) := by decide +kernel
theorem dX9_halfHour_26 : decode cX9_halfHour 26 = .ok (.iadd, 1) := by decide +kernel
theorem dX9_halfHour_27 : decode cX9_halfHour 27 = .ok (.iaload, 1) := by decide +kernel
theorem dX9_halfHour_28 : decode cX9_halfHour 28 = .ok (.istore 10, 2) := by decide +kernel
theorem dX9_halfHour_30 : decode cX9_halfHour 30 = .ok (.aload_n 0, 1) := by decide +kernel
theorem dX9_halfHour_31 : decode cX9_halfHour 31 = .ok (.getfield 13, 3) := by decide +kernel
theorem dX9_halfHour_34 : decode cX9_halfHour 34 = .ok (.bipush 10, 2) := by decide +kernel
theorem dX9_halfHour_36 : decode cX9_halfHour 36 = .ok (.iconst 3, 1) := by decide +kernel
theorem dX9_halfHour_37 : decode cX9_halfHour 37 = .ok (.iload_n 2, 1) := by decide +kernel
theorem dX9_halfHour_38 : decode cX9_halfHour 38 = .ok (.imul, 1) := by decide +kernel
theorem dX9_halfHour_39 : decode cX9_halfHour 39 = .ok (.iadd, 1) := by decide +kernel
theorem dX9_halfHour_40 : decode cX9_halfHour 40 = .ok (.iload_n 3, 1) := by decide +kernel
theorem dX9_halfHour_41 : decode cX9_halfHour 41 = .ok (.iadd, 1) := by decide +kernel
theorem dX9_halfHour_42 : decode cX9_halfHour 42 = .ok (.iaload, 1) := by decide +kernel
theorem dX9_halfHour_43 : decode cX9_halfHour 43 = .ok (.istore 11, 2) := by decide +kernel
theorem dX9_halfHour_45 : decode cX9_halfHour 45 = .ok (.aload_n 0, 1) := by decide +kernel
theorem dX9_halfHour_46 : decode cX9_halfHour 46 = .ok (.getfield 13, 3) := by decide +kernel
theorem dX9_halfHour_49 : decode cX9_halfHour 49 = .ok (.bipush 19, 2) := by decide +kernel
theorem dX9_halfHour_51 : decode cX9_halfHour 51 = .ok (.iconst 3, 1) := by decide +kernel
theorem dX9_halfHour_52 : decode cX9_halfHour 52 = .ok (.iload_n 2, 1) := by decide +kernel
theorem dX9_halfHour_53 : decode cX9_halfHour 53 = .ok (.imul, 1) := by decide +kernel
theorem dX9_halfHour_54 : decode cX9_halfHour 54 = .ok (.iadd, 1) := by decide +kernel
theorem dX9_halfHour_55 : decode cX9_halfHour 55 = .ok (.iload_n 3, 1) := by decide +kernel
theorem dX9_halfHour_56 : decode cX9_halfHour 56 = .ok (.iadd, 1) := by decide +kernel
theorem dX9_halfHour_57 : decode cX9_halfHour 57 = .ok (.iaload, 1) := by decide +kernel
theorem dX9_halfHour_58 : decode cX9_halfHour 58 = .ok (.istore 12, 2) := by decide +kernel
theorem dX9_halfHour_60 : decode cX9_halfHour 60 = .ok (.lconst 0, 1) := by decide +kernel
theorem dX9_halfHour_61 : decode cX9_halfHour 61 = .ok (.lstore 13, 2) := by decide +kernel
theorem dX9_halfHour_63 : decode cX9_halfHour 63 = .ok (.iconst 0, 1) := by decide +kernel
theorem dX9_halfHour_64 : decode cX9_halfHour 64 = .ok (.istore 15, 2) := by decide +kernel
theorem dX9_halfHour_66 : decode cX9_halfHour 66 = .ok (.iload 15, 2) := by decide +kernel
theorem dX9_halfHour_68 : decode cX9_halfHour 68 = .ok (.iconst 4, 1) := by decide +kernel
theorem dX9_halfHour_69 : decode cX9_halfHour 69 = .ok (.if_icmp .ge 113, 3) := by decide +kernel
theorem dX9_halfHour_72 : decode cX9_halfHour 72 = .ok (.iload 15, 2) := by decide +kernel
theorem dX9_halfHour_74 : decode cX9_halfHour 74 = .ok (.iconst 2, 1) := by decide +kernel
theorem dX9_halfHour_75 : decode cX9_halfHour 75 = .ok (.irem, 1) := by decide +kernel
theorem dX9_halfHour_76 : decode cX9_halfHour 76 = .ok (.ifCond .ne 11, 3) := by decide +kernel
theorem dX9_halfHour_79 : decode cX9_halfHour 79 = .ok (.bipush 10, 2) := by decide +kernel
theorem dX9_halfHour_81 : decode cX9_halfHour 81 = .ok (.iload 10, 2) := by decide +kernel
theorem dX9_halfHour_83 : decode cX9_halfHour 83 = .ok (.isub, 1) := by decide +kernel
theorem dX9_halfHour_84 : decode cX9_halfHour 84 = .ok (.goto 5, 3) := by decide +kernel
theorem dX9_halfHour_87 : decode cX9_halfHour 87 = .ok (.iload 10, 2) := by decide +kernel
theorem dX9_halfHour_89 : decode cX9_halfHour 89 = .ok (.iload 15, 2) := by decide +kernel
theorem dX9_halfHour_91 : decode cX9_halfHour 91 = .ok (.iconst 2, 1) := by decide +kernel
theorem dX9_halfHour_92 : decode cX9_halfHour 92 = .ok (.idiv, 1) := by decide +kernel
theorem dX9_halfHour_93 : decode cX9_halfHour 93 = .ok (.ifCond .ne 11, 3) := by decide +kernel
theorem dX9_halfHour_96 : decode cX9_halfHour 96 = .ok (.bipush 10, 2) := by decide +kernel
theorem dX9_halfHour_98 : decode cX9_halfHour 98 = .ok (.iload 12, 2) := by decide +kernel
theorem dX9_halfHour_100 : decode cX9_halfHour 100 = .ok (.isub, 1) := by decide +kernel
theorem dX9_halfHour_101 : decode cX9_halfHour 101 = .ok (.goto 5, 3) := by decide +kernel
theorem dX9_halfHour_104 : decode cX9_halfHour 104 = .ok (.iload 12, 2) := by decide +kernel
theorem dX9_halfHour_106 : decode cX9_halfHour 106 = .ok (.imul, 1) := by decide +kernel
theorem dX9_halfHour_107 : decode cX9_halfHour 107 = .ok (.istore 16, 2) := by decide +kernel
theorem dX9_halfHour_109 : decode cX9_halfHour 109 = .ok (.iload 4, 2) := by decide +kernel
theorem dX9_halfHour_111 : decode cX9_halfHour 111 = .ok (.iload 9, 2) := by decide +kernel
theorem dX9_halfHour_113 : decode cX9_halfHour 113 = .ok (.iload 15, 2) := by decide +kernel
theorem dX9_halfHour_115 : decode cX9_halfHour 115 = .ok (.iconst 2, 1) := by decide +kernel
theorem dX9_halfHour_116 : decode cX9_halfHour 116 = .ok (.irem, 1) := by decide +kernel
theorem dX9_halfHour_117 : decode cX9_halfHour 117 = .ok (.iadd, 1) := by decide +kernel
theorem dX9_halfHour_118 : decode cX9_halfHour 118 = .ok (.invokestatic 219, 3) := by decide +kernel
theorem dX9_halfHour_121 : decode cX9_halfHour 121 = .ok (.istore 17, 2) := by decide +kernel
theorem dX9_halfHour_123 : decode cX9_halfHour 123 = .ok (.iload 5, 2) := by decide +kernel
theorem dX9_halfHour_125 : decode cX9_halfHour 125 = .ok (.iload 11, 2) := by decide +kernel
theorem dX9_halfHour_127 : decode cX9_halfHour 127 = .ok (.iload 15, 2) := by decide +kernel
theorem dX9_halfHour_129 : decode cX9_halfHour 129 = .ok (.iconst 2, 1) := by decide +kernel
theorem dX9_halfHour_130 : decode cX9_halfHour 130 = .ok (.idiv, 1) := by decide +kernel
theorem dX9_halfHour_131 : decode cX9_halfHour 131 = .ok (.iadd, 1) := by decide +kernel
theorem dX9_halfHour_132 : decode cX9_halfHour 132 = .ok (.invokestatic 219, 3) := by decide +kernel
theorem dX9_halfHour_135 : decode cX9_halfHour 135 = .ok (.istore 18, 2) := by decide +kernel
theorem dX9_halfHour_137 : decode cX9_halfHour 137 = .ok (.lload 13, 2) := by decide +kernel
theorem dX9_halfHour_139 : decode cX9_halfHour 139 = .ok (.iload 16, 2) := by decide +kernel
theorem dX9_halfHour_141 : decode cX9_halfHour 141 = .ok (.i2l, 1) := by decide +kernel
theorem dX9_halfHour_142 : decode cX9_halfHour 142 = .ok (.iload 17, 2) := by decide +kernel
theorem dX9_halfHour_144 : decode cX9_halfHour 144 = .ok (.iload 18, 2) := by decide +kernel
theorem dX9_halfHour_146 : decode cX9_halfHour 146 = .ok (.iadd, 1) := by decide +kernel
theorem dX9_halfHour_147 : decode cX9_halfHour 147 = .ok (.i2l, 1) := by decide +kernel
theorem dX9_halfHour_148 : decode cX9_halfHour 148 = .ok (.lload 7, 2) := by decide +kernel
theorem dX9_halfHour_150 : decode cX9_halfHour 150 = .ok (.lmul, 1) := by decide +kernel
theorem dX9_halfHour_151 : decode cX9_halfHour 151 = .ok (.aload_n 0, 1) := by decide +kernel
theorem dX9_halfHour_152 : decode cX9_halfHour 152 = .ok (.getfield 36, 3) := by decide +kernel
theorem dX9_halfHour_155 : decode cX9_halfHour 155 = .ok (.iload 4, 2) := by decide +kernel
theorem dX9_halfHour_157 : decode cX9_halfHour 157 = .ok (.iload 17, 2) := by decide +kernel
theorem dX9_halfHour_159 : decode cX9_halfHour 159 = .ok (.isub, 1) := by decide +kernel
theorem dX9_halfHour_160 : decode cX9_halfHour 160 = .ok (.iload 5, 2) := by decide +kernel
theorem dX9_halfHour_162 : decode cX9_halfHour 162 = .ok (.iload 18, 2) := by decide +kernel
theorem dX9_halfHour_164 : decode cX9_halfHour 164 = .ok (.isub, 1) := by decide +kernel
theorem dX9_halfHour_165 : decode cX9_halfHour 165 = .ok (.iload 6, 2) := by decide +kernel
theorem dX9_halfHour_167 : decode cX9_halfHour 167 = .ok (.invokestatic 222, 3) := by decide +kernel
theorem dX9_halfHour_170 : decode cX9_halfHour 170 = .ok (.laload, 1) := by decide +kernel
theorem dX9_halfHour_171 : decode cX9_halfHour 171 = .ok (.ladd, 1) := by decide +kernel
theorem dX9_halfHour_172 : decode cX9_halfHour 172 = .ok (.lmul, 1) := by decide +kernel
theorem dX9_halfHour_173 : decode cX9_halfHour 173 = .ok (.ladd, 1) := by decide +kernel
theorem dX9_halfHour_174 : decode cX9_halfHour 174 = .ok (.lstore 13, 2) := by decide +kernel
theorem dX9_halfHour_176 : decode cX9_halfHour 176 = .ok (.iinc 15 1, 3) := by decide +kernel
theorem dX9_halfHour_179 : decode cX9_halfHour 179 = .ok (.goto (-113), 3) := by decide +kernel
theorem dX9_halfHour_182 : decode cX9_halfHour 182 = .ok (.lload 13, 2) := by decide +kernel
theorem dX9_halfHour_184 : decode cX9_halfHour 184 = .ok (.lreturn, 1) := by decide +kernel
theorem dX9_layGift_0 : decode cX9_layGift 0 = .ok (.aload_n 0, 1) := by decide +kernel
theorem dX9_layGift_1 : decode cX9_layGift 1 = .ok (.iload_n 1, 1) := by decide +kernel
theorem dX9_layGift_2 : decode cX9_layGift 2 = .ok (.iload_n 2, 1) := by decide +kernel
theorem dX9_layGift_3 : decode cX9_layGift 3 = .ok (.iload_n 3, 1) := by decide +kernel
theorem dX9_layGift_4 : decode cX9_layGift 4 = .ok (.iload 4, 2) := by decide +kernel
theorem dX9_layGift_6 : decode cX9_layGift 6 = .ok (.iload 5, 2) := by decide +kernel
theorem dX9_layGift_8 : decode cX9_layGift 8 = .ok (.iload 6, 2) := by decide +kernel
theorem dX9_layGift_10 : decode cX9_layGift 10 = .ok (.lload 7, 2) := by decide +kernel
theorem dX9_layGift_12 : decode cX9_layGift 12 = .ok (.invokevirtual 226, 3) := by decide +kernel
theorem dX9_layGift_15 : decode cX9_layGift 15 = .ok (.lstore 9, 2) := by decide +kernel
theorem dX9_layGift_17 : decode cX9_layGift 17 = .ok (.aload_n 0, 1) := by decide +kernel
theorem dX9_layGift_18 : decode cX9_layGift 18 = .ok (.iconst 0, 1) := by decide +kernel
theorem dX9_layGift_19 : decode cX9_layGift 19 = .ok (.putfield 230, 3) := by decide +kernel
theorem dX9_layGift_22 : decode cX9_layGift 22 = .ok (.iconst 1, 1) := by decide +kernel
theorem dX9_layGift_23 : decode cX9_layGift 23 = .ok (.istore 11, 2) := by decide +kernel
theorem dX9_layGift_25 : decode cX9_layGift 25 = .ok (.iload 11, 2) := by decide +kernel
theorem dX9_layGift_27 : decode cX9_layGift 27 = .ok (.iload 6, 2) := by decide +kernel
theorem dX9_layGift_29 : decode cX9_layGift 29 = .ok (.if_icmp .gt 134, 3) := by decide +kernel
theorem dX9_layGift_32 : decode cX9_layGift 32 = .ok (.aload_n 0, 1) := by decide +kernel
theorem dX9_layGift_33 : decode cX9_layGift 33 = .ok (.iload_n 1, 1) := by decide +kernel
theorem dX9_layGift_34 : decode cX9_layGift 34 = .ok (.iload_n 2, 1) := by decide +kernel
theorem dX9_layGift_35 : decode cX9_layGift 35 = .ok (.iload_n 3, 1) := by decide +kernel
theorem dX9_layGift_36 : decode cX9_layGift 36 = .ok (.iload 4, 2) := by decide +kernel
theorem dX9_layGift_38 : decode cX9_layGift 38 = .ok (.iload 11, 2) := by decide +kernel
theorem dX9_layGift_40 : decode cX9_layGift 40 = .ok (.iadd, 1) := by decide +kernel
theorem dX9_layGift_41 : decode cX9_layGift 41 = .ok (.iload 5, 2) := by decide +kernel
theorem dX9_layGift_43 : decode cX9_layGift 43 = .ok (.iload 6, 2) := by decide +kernel
theorem dX9_layGift_45 : decode cX9_layGift 45 = .ok (.iload 11, 2) := by decide +kernel
theorem dX9_layGift_47 : decode cX9_layGift 47 = .ok (.isub, 1) := by decide +kernel
theorem dX9_layGift_48 : decode cX9_layGift 48 = .ok (.lload 7, 2) := by decide +kernel
theorem dX9_layGift_50 : decode cX9_layGift 50 = .ok (.invokevirtual 226, 3) := by decide +kernel
theorem dX9_layGift_53 : decode cX9_layGift 53 = .ok (.lstore 12, 2) := by decide +kernel
theorem dX9_layGift_55 : decode cX9_layGift 55 = .ok (.aload_n 0, 1) := by decide +kernel
theorem dX9_layGift_56 : decode cX9_layGift 56 = .ok (.lload 12, 2) := by decide +kernel
theorem dX9_layGift_58 : decode cX9_layGift 58 = .ok (.lload 9, 2) := by decide +kernel
theorem dX9_layGift_60 : decode cX9_layGift 60 = .ok (.lcmp, 1) := by decide +kernel
theorem dX9_layGift_61 : decode cX9_layGift 61 = .ok (.ifCond .le 8, 3) := by decide +kernel
theorem dX9_layGift_64 : decode cX9_layGift 64 = .ok (.iload 11, 2) := by decide +kernel
theorem dX9_layGift_66 : decode cX9_layGift 66 = .ok (.goto 7, 3) := by decide +kernel
theorem dX9_layGift_69 : decode cX9_layGift 69 = .ok (.aload_n 0, 1) := by decide +kernel
theorem dX9_layGift_70 : decode cX9_layGift 70 = .ok (.getfield 230, 3) := by decide +kernel
theorem dX9_layGift_73 : decode cX9_layGift 73 = .ok (.putfield 230, 3) := by decide +kernel
theorem dX9_layGift_76 : decode cX9_layGift 76 = .ok (.lload 12, 2) := by decide +kernel
theorem dX9_layGift_78 : decode cX9_layGift 78 = .ok (.lload 9, 2) := by decide +kernel
theorem dX9_layGift_80 : decode cX9_layGift 80 = .ok (.lcmp, 1) := by decide +kernel
theorem dX9_layGift_81 : decode cX9_layGift 81 = .ok (.ifCond .le 8, 3) := by decide +kernel
theorem dX9_layGift_84 : decode cX9_layGift 84 = .ok (.lload 12, 2) := by decide +kernel
theorem dX9_layGift_86 : decode cX9_layGift 86 = .ok (.goto 5, 3) := by decide +kernel
theorem dX9_layGift_89 : decode cX9_layGift 89 = .ok (.lload 9, 2) := by decide +kernel
theorem dX9_layGift_91 : decode cX9_layGift 91 = .ok (.lstore 9, 2) := by decide +kernel
theorem dX9_layGift_93 : decode cX9_layGift 93 = .ok (.aload_n 0, 1) := by decide +kernel
theorem dX9_layGift_94 : decode cX9_layGift 94 = .ok (.iload_n 1, 1) := by decide +kernel
theorem dX9_layGift_95 : decode cX9_layGift 95 = .ok (.iload_n 2, 1) := by decide +kernel
theorem dX9_layGift_96 : decode cX9_layGift 96 = .ok (.iload_n 3, 1) := by decide +kernel
theorem dX9_layGift_97 : decode cX9_layGift 97 = .ok (.iload 4, 2) := by decide +kernel
theorem dX9_layGift_99 : decode cX9_layGift 99 = .ok (.iload 5, 2) := by decide +kernel
theorem dX9_layGift_101 : decode cX9_layGift 101 = .ok (.iload 11, 2) := by decide +kernel
theorem dX9_layGift_103 : decode cX9_layGift 103 = .ok (.iadd, 1) := by decide +kernel
theorem dX9_layGift_104 : decode cX9_layGift 104 = .ok (.iload 6, 2) := by decide +kernel
theorem dX9_layGift_106 : decode cX9_layGift 106 = .ok (.iload 11, 2) := by decide +kernel
theorem dX9_layGift_108 : decode cX9_layGift 108 = .ok (.isub, 1) := by decide +kernel
theorem dX9_layGift_109 : decode cX9_layGift 109 = .ok (.lload 7, 2) := by decide +kernel
theorem dX9_layGift_111 : decode cX9_layGift 111 = .ok (.invokevirtual 226, 3) := by decide +kernel
theorem dX9_layGift_114 : decode cX9_layGift 114 = .ok (.lstore 14, 2) := by decide +kernel
theorem dX9_layGift_116 : decode cX9_layGift 116 = .ok (.aload_n 0, 1) := by decide +kernel
theorem dX9_layGift_117 : decode cX9_layGift 117 = .ok (.lload 14, 2) := by decide +kernel
theorem dX9_layGift_119 : decode cX9_layGift 119 = .ok (.lload 9, 2) := by decide +kernel
theorem dX9_layGift_121 : decode cX9_layGift 121 = .ok (.lcmp, 1) := by decide +kernel
theorem dX9_layGift_122 : decode cX9_layGift 122 = .ok (.ifCond .le 11, 3) := by decide +kernel
theorem dX9_layGift_125 : decode cX9_layGift 125 = .ok (.bipush 100, 2) := by decide +kernel
theorem dX9_layGift_127 : decode cX9_layGift 127 = .ok (.iload 11, 2) := by decide +kernel
theorem dX9_layGift_129 : decode cX9_layGift 129 = .ok (.iadd, 1) := by decide +kernel
theorem dX9_layGift_130 : decode cX9_layGift 130 = .ok (.goto 7, 3) := by decide +kernel
theorem dX9_layGift_133 : decode cX9_layGift 133 = .ok (.aload_n 0, 1) := by decide +kernel
theorem dX9_layGift_134 : decode cX9_layGift 134 = .ok (.getfield 230, 3) := by decide +kernel
theorem dX9_layGift_137 : decode cX9_layGift 137 = .ok (.putfield 230, 3) := by decide +kernel
theorem dX9_layGift_140 : decode cX9_layGift 140 = .ok (.lload 14, 2) := by decide +kernel
theorem dX9_layGift_142 : decode cX9_layGift 142 = .ok (.lload 9, 2) := by decide +kernel
theorem dX9_layGift_144 : decode cX9_layGift 144 = .ok (.lcmp, 1) := by decide +kernel
theorem dX9_layGift_145 : decode cX9_layGift 145 = .ok (.ifCond .le 8, 3) := by decide +kernel
theorem dX9_layGift_148 : decode cX9_layGift 148 = .ok (.lload 14, 2) := by decide +kernel
theorem dX9_layGift_150 : decode cX9_layGift 150 = .ok (.goto 5, 3) := by decide +kernel
theorem dX9_layGift_153 : decode cX9_layGift 153 = .ok (.lload 9, 2) := by decide +kernel
theorem dX9_layGift_155 : decode cX9_layGift 155 = .ok (.lstore 9, 2) := by decide +kernel
theorem dX9_layGift_157 : decode cX9_layGift 157 = .ok (.iinc 11 1, 3) := by decide +kernel
theorem dX9_layGift_160 : decode cX9_layGift 160 = .ok (.goto (-135), 3) := by decide +kernel
theorem dX9_layGift_163 : decode cX9_layGift 163 = .ok (.lload 9, 2) := by decide +kernel
theorem dX9_layGift_165 : decode cX9_layGift 165 = .ok (.lreturn, 1) := by decide +kernel
theorem dX9_layVan_0 : decode cX9_layVan 0 = .ok (.iconst 0, 1) := by decide +kernel
theorem dX9_layVan_1 : decode cX9_layVan 1 = .ok (.istore 6, 2) := by decide +kernel
theorem dX9_layVan_3 : decode cX9_layVan 3 = .ok (.iload 6, 2) := by decide +kernel
theorem dX9_layVan_5 : decode cX9_layVan 5 = .ok (.sipush 2197, 3) := by decide +kernel
theorem dX9_layVan_8 : decode cX9_layVan 8 = .ok (.if_icmp .ge 17, 3) := by decide +kernel
theorem dX9_layVan_11 : decode cX9_layVan 11 = .ok (.aload_n 0, 1) := by decide +kernel
theorem dX9_layVan_12 : decode cX9_layVan 12 = .ok (.getfield 36, 3) := by decide +kernel
theorem dX9_layVan_15 : decode cX9_layVan 15 = .ok (.iload 6, 2) := by decide +kernel
theorem dX9_layVan_17 : decode cX9_layVan 17 = .ok (.lconst 0, 1) := by decide +kernel
theorem dX9_layVan_18 : decode cX9_layVan 18 = .ok (.lastore, 1) := by decide +kernel
theorem dX9_layVan_19 : decode cX9_layVan 19 = .ok (.iinc 6 1, 3) := by decide +kernel
theorem dX9_layVan_22 : decode cX9_layVan 22 = .ok (.goto (-19), 3) := by decide +kernel
theorem dX9_layVan_25 : decode cX9_layVan 25 = .ok (.lconst 1, 1) := by decide +kernel
theorem dX9_layVan_26 : decode cX9_layVan 26 = .ok (.lstore 6, 2) := by decide +kernel
theorem dX9_layVan_28 : decode cX9_layVan 28 = .ok (.iconst 0, 1) := by decide +kernel
theorem dX9_layVan_29 : decode cX9_layVan 29 = .ok (.istore 8, 2) := by decide +kernel
theorem dX9_layVan_31 : decode cX9_layVan 31 = .ok (.iload 8, 2) := by decide +kernel
theorem dX9_layVan_33 : decode cX9_layVan 33 = .ok (.iload 5, 2) := by decide +kernel
theorem dX9_layVan_35 : decode cX9_layVan 35 = .ok (.if_icmp .ge 134, 3) := by decide +kernel
theorem dX9_layVan_38 : decode cX9_layVan 38 = .ok (.iconst 0, 1) := by decide +kernel
theorem dX9_layVan_39 : decode cX9_layVan 39 = .ok (.istore 9, 2) := by decide +kernel
theorem dX9_layVan_41 : decode cX9_layVan 41 = .ok (.iload 9, 2) := by decide +kernel
theorem dX9_layVan_43 : decode cX9_layVan 43 = .ok (.iload 4, 2) := by decide +kernel
theorem dX9_layVan_45 : decode cX9_layVan 45 = .ok (.if_icmp .gt 79, 3) := by decide +kernel
theorem dX9_layVan_48 : decode cX9_layVan 48 = .ok (.iconst 0, 1) := by decide +kernel
theorem dX9_layVan_49 : decode cX9_layVan 49 = .ok (.istore 10, 2) := by decide +kernel
theorem dX9_layVan_51 : decode cX9_layVan 51 = .ok (.iload 9, 2) := by decide +kernel
theorem dX9_layVan_53 : decode cX9_layVan 53 = .ok (.iload 10, 2) := by decide +kernel
theorem dX9_layVan_55 : decode cX9_layVan 55 = .ok (.iadd, 1) := by decide +kernel
theorem dX9_layVan_56 : decode cX9_layVan 56 = .ok (.iload 4, 2) := by decide +kernel
theorem dX9_layVan_58 : decode cX9_layVan 58 = .ok (.if_icmp .gt 60, 3) := by decide +kernel
theorem dX9_layVan_61 : decode cX9_layVan 61 = .ok (.iconst 0, 1) := by decide +kernel
theorem dX9_layVan_62 : decode cX9_layVan 62 = .ok (.istore 11, 2) := by decide +kernel
theorem dX9_layVan_64 : decode cX9_layVan 64 = .ok (.iload 9, 2) := by decide +kernel
theorem dX9_layVan_66 : decode cX9_layVan 66 = .ok (.iload 10, 2) := by decide +kernel
theorem dX9_layVan_68 : decode cX9_layVan 68 = .ok (.iadd, 1) := by decide +kernel
theorem dX9_layVan_69 : decode cX9_layVan 69 = .ok (.iload 11, 2) := by decide +kernel
theorem dX9_layVan_71 : decode cX9_layVan 71 = .ok (.iadd, 1) := by decide +kernel
theorem dX9_layVan_72 : decode cX9_layVan 72 = .ok (.iload 4, 2) := by decide +kernel
theorem dX9_layVan_74 : decode cX9_layVan 74 = .ok (.if_icmp .gt 38, 3) := by decide +kernel
theorem dX9_layVan_77 : decode cX9_layVan 77 = .ok (.aload_n 0, 1) := by decide +kernel
theorem dX9_layVan_78 : decode cX9_layVan 78 = .ok (.getfield 32, 3) := by decide +kernel
theorem dX9_layVan_81 : decode cX9_layVan 81 = .ok (.iload 9, 2) := by decide +kernel
theorem dX9_layVan_83 : decode cX9_layVan 83 = .ok (.iload 10, 2) := by decide +kernel
theorem dX9_layVan_85 : decode cX9_layVan 85 = .ok (.iload 11, 2) := by decide +kernel
theorem dX9_layVan_87 : decode cX9_layVan 87 = .ok (.invokestatic 222, 3) := by decide +kernel
theorem dX9_layVan_90 : decode cX9_layVan 90 = .ok (.aload_n 0, 1) := by decide +kernel
theorem dX9_layVan_91 : decode cX9_layVan 91 = .ok (.iload_n 1, 1) := by decide +kernel
theorem dX9_layVan_92 : decode cX9_layVan 92 = .ok (.iload_n 2, 1) := by decide +kernel
theorem dX9_layVan_93 : decode cX9_layVan 93 = .ok (.iload_n 3, 1) := by decide +kernel
theorem dX9_layVan_94 : decode cX9_layVan 94 = .ok (.iload 9, 2) := by decide +kernel
theorem dX9_layVan_96 : decode cX9_layVan 96 = .ok (.iload 10, 2) := by decide +kernel
theorem dX9_layVan_98 : decode cX9_layVan 98 = .ok (.iload 11, 2) := by decide +kernel
theorem dX9_layVan_100 : decode cX9_layVan 100 = .ok (.lload 6, 2) := by decide +kernel
theorem dX9_layVan_102 : decode cX9_layVan 102 = .ok (.invokevirtual 233, 3) := by decide +kernel
theorem dX9_layVan_105 : decode cX9_layVan 105 = .ok (.lastore, 1) := by decide +kernel
theorem dX9_layVan_106 : decode cX9_layVan 106 = .ok (.iinc 11 1, 3) := by decide +kernel
theorem dX9_layVan_109 : decode cX9_layVan 109 = .ok (.goto (-45), 3) := by decide +kernel
theorem dX9_layVan_112 : decode cX9_layVan 112 = .ok (.iinc 10 1, 3) := by decide +kernel
theorem dX9_layVan_115 : decode cX9_layVan 115 = .ok (.goto (-64), 3) := by decide +kernel
theorem dX9_layVan_118 : decode cX9_layVan 118 = .ok (.iinc 9 1, 3) := by decide +kernel
theorem dX9_layVan_121 : decode cX9_layVan 121 = .ok (.goto (-80), 3) := by decide +kernel
theorem dX9_layVan_124 : decode cX9_layVan 124 = .ok (.iconst 0, 1) := by decide +kernel
theorem dX9_layVan_125 : decode cX9_layVan 125 = .ok (.istore 9, 2) := by decide +kernel
theorem dX9_layVan_127 : decode cX9_layVan 127 = .ok (.iload 9, 2) := by decide +kernel
theorem dX9_layVan_129 : decode cX9_layVan 129 = .ok (.sipush 2197, 3) := by decide +kernel
theorem dX9_layVan_132 : decode cX9_layVan 132 = .ok (.if_icmp .ge 23, 3) := by decide +kernel
theorem dX9_layVan_135 : decode cX9_layVan 135 = .ok (.aload_n 0, 1) := by decide +kernel
theorem dX9_layVan_136 : decode cX9_layVan 136 = .ok (.getfield 36, 3) := by decide +kernel
theorem dX9_layVan_139 : decode cX9_layVan 139 = .ok (.iload 9, 2) := by decide +kernel
theorem dX9_layVan_141 : decode cX9_layVan 141 = .ok (.aload_n 0, 1) := by decide +kernel
theorem dX9_layVan_142 : decode cX9_layVan 142 = .ok (.getfield 32, 3) := by decide +kernel
theorem dX9_layVan_145 : decode cX9_layVan 145 = .ok (.iload 9, 2) := by decide +kernel
theorem dX9_layVan_147 : decode cX9_layVan 147 = .ok (.laload, 1) := by decide +kernel
theorem dX9_layVan_148 : decode cX9_layVan 148 = .ok (.lastore, 1) := by decide +kernel
theorem dX9_layVan_149 : decode cX9_layVan 149 = .ok (.iinc 9 1, 3) := by decide +kernel
theorem dX9_layVan_152 : decode cX9_layVan 152 = .ok (.goto (-25), 3) := by decide +kernel
theorem dX9_layVan_155 : decode cX9_layVan 155 = .ok (.lload 6, 2) := by decide +kernel
theorem dX9_layVan_157 : decode cX9_layVan 157 = .ok (.ldc2_w 236, 3) := by decide +kernel
theorem dX9_layVan_160 : decode cX9_layVan 160 = .ok (.lmul, 1) := by decide +kernel
theorem dX9_layVan_161 : decode cX9_layVan 161 = .ok (.lstore 6, 2) := by decide +kernel
theorem dX9_layVan_163 : decode cX9_layVan 163 = .ok (.iinc 8 1, 3) := by decide +kernel
theorem dX9_layVan_166 : decode cX9_layVan 166 = .ok (.goto (-135), 3) := by decide +kernel
theorem dX9_layVan_169 : decode cX9_layVan 169 = .ok (.lload 6, 2) := by decide +kernel
theorem dX9_layVan_171 : decode cX9_layVan 171 = .ok (.lreturn, 1) := by decide +kernel
theorem dX9_mayVan_0 : decode cX9_mayVan 0 = .ok (.aload_n 0, 1) := by decide +kernel
theorem dX9_mayVan_1 : decode cX9_mayVan 1 = .ok (.iload_n 1, 1) := by decide +kernel
theorem dX9_mayVan_2 : decode cX9_mayVan 2 = .ok (.invokevirtual 163, 3) := by decide +kernel
theorem dX9_mayVan_5 : decode cX9_mayVan 5 = .ok (.ifCond .eq 18, 3) := by decide +kernel
theorem dX9_mayVan_8 : decode cX9_mayVan 8 = .ok (.aload_n 0, 1) := by decide +kernel
theorem dX9_mayVan_9 : decode cX9_mayVan 9 = .ok (.iload_n 2, 1) := by decide +kernel
theorem dX9_mayVan_10 : decode cX9_mayVan 10 = .ok (.invokevirtual 163, 3) := by decide +kernel
theorem dX9_mayVan_13 : decode cX9_mayVan 13 = .ok (.ifCond .eq 10, 3) := by decide +kernel
theorem dX9_mayVan_16 : decode cX9_mayVan 16 = .ok (.iload_n 3, 1) := by decide +kernel
theorem dX9_mayVan_17 : decode cX9_mayVan 17 = .ok (.invokestatic 167, 3) := by decide +kernel
theorem dX9_mayVan_20 : decode cX9_mayVan 20 = .ok (.ifCond .ne 5, 3) := by decide +kernel
theorem dX9_mayVan_23 : decode cX9_mayVan 23 = .ok (.iconst (-1), 1) := by decide +kernel
theorem dX9_mayVan_24 : decode cX9_mayVan 24 = .ok (.ireturn, 1) := by decide +kernel
theorem dX9_mayVan_25 : decode cX9_mayVan 25 = .ok (.iload 4, 2) := by decide +kernel
theorem dX9_mayVan_27 : decode cX9_mayVan 27 = .ok (.i2l, 1) := by decide +kernel
theorem dX9_mayVan_28 : decode cX9_mayVan 28 = .ok (.lconst 0, 1) := by decide +kernel
theorem dX9_mayVan_29 : decode cX9_mayVan 29 = .ok (.ldc2_w 238, 3) := by decide +kernel
theorem dX9_mayVan_32 : decode cX9_mayVan 32 = .ok (.invokestatic 104, 3) := by decide +kernel
theorem dX9_mayVan_35 : decode cX9_mayVan 35 = .ok (.ifCond .eq 57, 3) := by decide +kernel
theorem dX9_mayVan_38 : decode cX9_mayVan 38 = .ok (.iload 5, 2) := by decide +kernel
theorem dX9_mayVan_40 : decode cX9_mayVan 40 = .ok (.i2l, 1) := by decide +kernel
theorem dX9_mayVan_41 : decode cX9_mayVan 41 = .ok (.lconst 0, 1) := by decide +kernel
theorem dX9_mayVan_42 : decode cX9_mayVan 42 = .ok (.ldc2_w 238, 3) := by decide +kernel
theorem dX9_mayVan_45 : decode cX9_mayVan 45 = .ok (.invokestatic 104, 3) := by decide +kernel
theorem dX9_mayVan_48 : decode cX9_mayVan 48 = .ok (.ifCond .eq 44, 3) := by decide +kernel
theorem dX9_mayVan_51 : decode cX9_mayVan 51 = .ok (.iload 6, 2) := by decide +kernel
theorem dX9_mayVan_53 : decode cX9_mayVan 53 = .ok (.i2l, 1) := by decide +kernel
theorem dX9_mayVan_54 : decode cX9_mayVan 54 = .ok (.lconst 0, 1) := by decide +kernel
theorem dX9_mayVan_55 : decode cX9_mayVan 55 = .ok (.ldc2_w 238, 3) := by decide +kernel
theorem dX9_mayVan_58 : decode cX9_mayVan 58 = .ok (.invokestatic 104, 3) := by decide +kernel
theorem dX9_mayVan_61 : decode cX9_mayVan 61 = .ok (.ifCond .eq 31, 3) := by decide +kernel
theorem dX9_mayVan_64 : decode cX9_mayVan 64 = .ok (.iload 4, 2) := by decide +kernel
theorem dX9_mayVan_66 : decode cX9_mayVan 66 = .ok (.iload 5, 2) := by decide +kernel
theorem dX9_mayVan_68 : decode cX9_mayVan 68 = .ok (.iadd, 1) := by decide +kernel
theorem dX9_mayVan_69 : decode cX9_mayVan 69 = .ok (.iload 6, 2) := by decide +kernel
theorem dX9_mayVan_71 : decode cX9_mayVan 71 = .ok (.iadd, 1) := by decide +kernel
theorem dX9_mayVan_72 : decode cX9_mayVan 72 = .ok (.bipush 12, 2) := by decide +kernel
theorem dX9_mayVan_74 : decode cX9_mayVan 74 = .ok (.if_icmp .gt 18, 3) := by decide +kernel
theorem dX9_mayVan_77 : decode cX9_mayVan 77 = .ok (.iload 7, 2) := by decide +kernel
theorem dX9_mayVan_79 : decode cX9_mayVan 79 = .ok (.i2l, 1) := by decide +kernel
theorem dX9_mayVan_80 : decode cX9_mayVan 80 = .ok (.iload 8, 2) := by decide +kernel
theorem dX9_mayVan_82 : decode cX9_mayVan 82 = .ok (.i2l, 1) := by decide +kernel
theorem dX9_mayVan_83 : decode cX9_mayVan 83 = .ok (.ldc2_w 172, 3) := by decide +kernel
theorem dX9_mayVan_86 : decode cX9_mayVan 86 = .ok (.invokestatic 104, 3) := by decide +kernel
theorem dX9_mayVan_89 : decode cX9_mayVan 89 = .ok (.ifCond .ne 6, 3) := by decide +kernel
theorem dX9_mayVan_92 : decode cX9_mayVan 92 = .ok (.bipush (-2), 2) := by decide +kernel
theorem dX9_mayVan_94 : decode cX9_mayVan 94 = .ok (.ireturn, 1) := by decide +kernel
theorem dX9_mayVan_95 : decode cX9_mayVan 95 = .ok (.iload_n 1, 1) := by decide +kernel
theorem dX9_mayVan_96 : decode cX9_mayVan 96 = .ok (.iload_n 2, 1) := by decide +kernel
theorem dX9_mayVan_97 : decode cX9_mayVan 97 = .ok (.if_icmp .ne 8, 3) := by decide +kernel
theorem dX9_mayVan_100 : decode cX9_mayVan 100 = .ok (.bipush (-3), 2) := by decide +kernel
theorem dX9_mayVan_102 : decode cX9_mayVan 102 = .ok (.goto 4, 3) := by decide +kernel
theorem dX9_mayVan_105 : decode cX9_mayVan 105 = .ok (.iconst 0, 1) := by decide +kernel
theorem dX9_mayVan_106 : decode cX9_mayVan 106 = .ok (.ireturn, 1) := by decide +kernel
theorem dX9_best_0 : decode cX9_best 0 = .ok (.iload_n 1, 1) := by decide +kernel
theorem dX9_best_1 : decode cX9_best 1 = .ok (.bipush 10, 2) := by decide +kernel
theorem dX9_best_3 : decode cX9_best 3 = .ok (.idiv, 1) := by decide +kernel
theorem dX9_best_4 : decode cX9_best 4 = .ok (.istore 7, 2) := by decide +kernel
theorem dX9_best_6 : decode cX9_best 6 = .ok (.iload_n 1, 1) := by decide +kernel
theorem dX9_best_7 : decode cX9_best 7 = .ok (.bipush 10, 2) := by decide +kernel
theorem dX9_best_9 : decode cX9_best 9 = .ok (.irem, 1) := by decide +kernel
theorem dX9_best_10 : decode cX9_best 10 = .ok (.istore 8, 2) := by decide +kernel
theorem dX9_best_12 : decode cX9_best 12 = .ok (.iload_n 3, 1) := by decide +kernel
theorem dX9_best_13 : decode cX9_best 13 = .ok (.bipush 100, 2) := by decide +kernel
theorem dX9_best_15 : decode cX9_best 15 = .ok (.idiv, 1) := by decide +kernel
theorem dX9_best_16 : decode cX9_best 16 = .ok (.istore 9, 2) := by decide +kernel
theorem dX9_best_18 : decode cX9_best 18 = .ok (.iload_n 3, 1) := by decide +kernel
theorem dX9_best_19 : decode cX9_best 19 = .ok (.bipush 100, 2) := by decide +kernel
theorem dX9_best_21 : decode cX9_best 21 = .ok (.irem, 1) := by decide +kernel
theorem dX9_best_22 : decode cX9_best 22 = .ok (.istore 10, 2) := by decide +kernel
theorem dX9_best_24 : decode cX9_best 24 = .ok (.aload_n 0, 1) := by decide +kernel
theorem dX9_best_25 : decode cX9_best 25 = .ok (.iload 7, 2) := by decide +kernel
theorem dX9_best_27 : decode cX9_best 27 = .ok (.iload 8, 2) := by decide +kernel
theorem dX9_best_29 : decode cX9_best 29 = .ok (.iload_n 2, 1) := by decide +kernel
theorem dX9_best_30 : decode cX9_best 30 = .ok (.iload 9, 2) := by decide +kernel
theorem dX9_best_32 : decode cX9_best 32 = .ok (.iload 10, 2) := by decide +kernel
theorem dX9_best_34 : decode cX9_best 34 = .ok (.iload 4, 2) := by decide +kernel
theorem dX9_best_36 : decode cX9_best 36 = .ok (.iload 5, 2) := by decide +kernel
theorem dX9_best_38 : decode cX9_best 38 = .ok (.iconst 0, 1) := by decide +kernel
theorem dX9_best_39 : decode cX9_best 39 = .ok (.invokevirtual 240, 3) := by decide +kernel
theorem dX9_best_42 : decode cX9_best 42 = .ok (.istore 11, 2) := by decide +kernel
theorem dX9_best_44 : decode cX9_best 44 = .ok (.iload 11, 2) := by decide +kernel
theorem dX9_best_46 : decode cX9_best 46 = .ok (.ifCond .ge 7, 3) := by decide +kernel
theorem dX9_best_49 : decode cX9_best 49 = .ok (.iload 11, 2) := by decide +kernel
theorem dX9_best_51 : decode cX9_best 51 = .ok (.i2l, 1) := by decide +kernel
theorem dX9_best_52 : decode cX9_best 52 = .ok (.lreturn, 1) := by decide +kernel
theorem dX9_best_53 : decode cX9_best 53 = .ok (.aload_n 0, 1) := by decide +kernel
theorem dX9_best_54 : decode cX9_best 54 = .ok (.iload 7, 2) := by decide +kernel
theorem dX9_best_56 : decode cX9_best 56 = .ok (.iload 8, 2) := by decide +kernel
theorem dX9_best_58 : decode cX9_best 58 = .ok (.iload_n 2, 1) := by decide +kernel
theorem dX9_best_59 : decode cX9_best 59 = .ok (.iload 9, 2) := by decide +kernel
theorem dX9_best_61 : decode cX9_best 61 = .ok (.iload 10, 2) := by decide +kernel
theorem dX9_best_63 : decode cX9_best 63 = .ok (.iadd, 1) := by decide +kernel
theorem dX9_best_64 : decode cX9_best 64 = .ok (.iload 4, 2) := by decide +kernel
theorem dX9_best_66 : decode cX9_best 66 = .ok (.iadd, 1) := by decide +kernel
theorem dX9_best_67 : decode cX9_best 67 = .ok (.iload 5, 2) := by decide +kernel
theorem dX9_best_69 : decode cX9_best 69 = .ok (.invokevirtual 244, 3) := by decide +kernel
theorem dX9_best_72 : decode cX9_best 72 = .ok (.lstore 12, 2) := by decide +kernel
theorem dX9_best_74 : decode cX9_best 74 = .ok (.aload_n 0, 1) := by decide +kernel
theorem dX9_best_75 : decode cX9_best 75 = .ok (.getfield 36, 3) := by decide +kernel
theorem dX9_best_78 : decode cX9_best 78 = .ok (.iload 9, 2) := by decide +kernel
theorem dX9_best_80 : decode cX9_best 80 = .ok (.iload 10, 2) := by decide +kernel
theorem dX9_best_82 : decode cX9_best 82 = .ok (.iload 4, 2) := by decide +kernel
theorem dX9_best_84 : decode cX9_best 84 = .ok (.invokestatic 222, 3) := by decide +kernel
theorem dX9_best_87 : decode cX9_best 87 = .ok (.laload, 1) := by decide +kernel
theorem dX9_best_88 : decode cX9_best 88 = .ok (.lload 12, 2) := by decide +kernel
theorem dX9_best_90 : decode cX9_best 90 = .ok (.iload 6, 2) := by decide +kernel
theorem dX9_best_92 : decode cX9_best 92 = .ok (.invokestatic 194, 3) := by decide +kernel
theorem dX9_best_95 : decode cX9_best 95 = .ok (.lreturn, 1) := by decide +kernel
theorem dX9_now_0 : decode cX9_now 0 = .ok (.iload_n 1, 1) := by decide +kernel
theorem dX9_now_1 : decode cX9_now 1 = .ok (.bipush 10, 2) := by decide +kernel
theorem dX9_now_3 : decode cX9_now 3 = .ok (.idiv, 1) := by decide +kernel
theorem dX9_now_4 : decode cX9_now 4 = .ok (.istore 6, 2) := by decide +kernel
theorem dX9_now_6 : decode cX9_now 6 = .ok (.iload_n 1, 1) := by decide +kernel
theorem dX9_now_7 : decode cX9_now 7 = .ok (.bipush 10, 2) := by decide +kernel
theorem dX9_now_9 : decode cX9_now 9 = .ok (.irem, 1) := by decide +kernel
theorem dX9_now_10 : decode cX9_now 10 = .ok (.istore 7, 2) := by decide +kernel
theorem dX9_now_12 : decode cX9_now 12 = .ok (.iload_n 3, 1) := by decide +kernel
theorem dX9_now_13 : decode cX9_now 13 = .ok (.bipush 100, 2) := by decide +kernel
theorem dX9_now_15 : decode cX9_now 15 = .ok (.idiv, 1) := by decide +kernel
theorem dX9_now_16 : decode cX9_now 16 = .ok (.istore 8, 2) := by decide +kernel
theorem dX9_now_18 : decode cX9_now 18 = .ok (.iload_n 3, 1) := by decide +kernel
theorem dX9_now_19 : decode cX9_now 19 = .ok (.bipush 100, 2) := by decide +kernel
theorem dX9_now_21 : decode cX9_now 21 = .ok (.irem, 1) := by decide +kernel
theorem dX9_now_22 : decode cX9_now 22 = .ok (.istore 9, 2) := by decide +kernel
theorem dX9_now_24 : decode cX9_now 24 = .ok (.aload_n 0, 1) := by decide +kernel
theorem dX9_now_25 : decode cX9_now 25 = .ok (.iload 6, 2) := by decide +kernel
theorem dX9_now_27 : decode cX9_now 27 = .ok (.iload 7, 2) := by decide +kernel
theorem dX9_now_29 : decode cX9_now 29 = .ok (.iload_n 2, 1) := by decide +kernel
theorem dX9_now_30 : decode cX9_now 30 = .ok (.iload 8, 2) := by decide +kernel
theorem dX9_now_32 : decode cX9_now 32 = .ok (.iload 9, 2) := by decide +kernel
theorem dX9_now_34 : decode cX9_now 34 = .ok (.iload 4, 2) := by decide +kernel
theorem dX9_now_36 : decode cX9_now 36 = .ok (.iload 5, 2) := by decide +kernel
theorem dX9_now_38 : decode cX9_now 38 = .ok (.iconst 1, 1) := by decide +kernel
theorem dX9_now_39 : decode cX9_now 39 = .ok (.invokevirtual 240, 3) := by decide +kernel
theorem dX9_now_42 : decode cX9_now 42 = .ok (.istore 10, 2) := by decide +kernel
theorem dX9_now_44 : decode cX9_now 44 = .ok (.iload 10, 2) := by decide +kernel
theorem dX9_now_46 : decode cX9_now 46 = .ok (.ifCond .ge 6, 3) := by decide +kernel
theorem dX9_now_49 : decode cX9_now 49 = .ok (.iload 10, 2) := by decide +kernel
theorem dX9_now_51 : decode cX9_now 51 = .ok (.ireturn, 1) := by decide +kernel
theorem dX9_now_52 : decode cX9_now 52 = .ok (.aload_n 0, 1) := by decide +kernel
theorem dX9_now_53 : decode cX9_now 53 = .ok (.iload 6, 2) := by decide +kernel
theorem dX9_now_55 : decode cX9_now 55 = .ok (.iload 7, 2) := by decide +kernel
theorem dX9_now_57 : decode cX9_now 57 = .ok (.iload_n 2, 1) := by decide +kernel
theorem dX9_now_58 : decode cX9_now 58 = .ok (.iload 8, 2) := by decide +kernel
theorem dX9_now_60 : decode cX9_now 60 = .ok (.iload 9, 2) := by decide +kernel
theorem dX9_now_62 : decode cX9_now 62 = .ok (.iadd, 1) := by decide +kernel
theorem dX9_now_63 : decode cX9_now 63 = .ok (.iload 4, 2) := by decide +kernel
theorem dX9_now_65 : decode cX9_now 65 = .ok (.iadd, 1) := by decide +kernel
theorem dX9_now_66 : decode cX9_now 66 = .ok (.iload 5, 2) := by decide +kernel
theorem dX9_now_68 : decode cX9_now 68 = .ok (.iconst 1, 1) := by decide +kernel
theorem dX9_now_69 : decode cX9_now 69 = .ok (.isub, 1) := by decide +kernel
theorem dX9_now_70 : decode cX9_now 70 = .ok (.invokevirtual 244, 3) := by decide +kernel
theorem dX9_now_73 : decode cX9_now 73 = .ok (.lstore 11, 2) := by decide +kernel
theorem dX9_now_75 : decode cX9_now 75 = .ok (.aload_n 0, 1) := by decide +kernel
theorem dX9_now_76 : decode cX9_now 76 = .ok (.iload 6, 2) := by decide +kernel
theorem dX9_now_78 : decode cX9_now 78 = .ok (.iload 7, 2) := by decide +kernel
theorem dX9_now_80 : decode cX9_now 80 = .ok (.iload_n 2, 1) := by decide +kernel
theorem dX9_now_81 : decode cX9_now 81 = .ok (.iload 8, 2) := by decide +kernel
theorem dX9_now_83 : decode cX9_now 83 = .ok (.iload 9, 2) := by decide +kernel
theorem dX9_now_85 : decode cX9_now 85 = .ok (.iload 4, 2) := by decide +kernel
theorem dX9_now_87 : decode cX9_now 87 = .ok (.lload 11, 2) := by decide +kernel
theorem dX9_now_89 : decode cX9_now 89 = .ok (.invokevirtual 233, 3) := by decide +kernel
theorem dX9_now_92 : decode cX9_now 92 = .ok (.pop2, 1) := by decide +kernel
theorem dX9_now_93 : decode cX9_now 93 = .ok (.aload_n 0, 1) := by decide +kernel
theorem dX9_now_94 : decode cX9_now 94 = .ok (.getfield 230, 3) := by decide +kernel
theorem dX9_now_97 : decode cX9_now 97 = .ok (.ireturn, 1) := by decide +kernel
theorem dX9_isHour_0 : decode cX9_isHour 0 = .ok (.iload_n 0, 1) := by decide +kernel
theorem dX9_isHour_1 : decode cX9_isHour 1 = .ok (.i2l, 1) := by decide +kernel
theorem dX9_isHour_2 : decode cX9_isHour 2 = .ok (.lconst 0, 1) := by decide +kernel
theorem dX9_isHour_3 : decode cX9_isHour 3 = .ok (.ldc2_w 248, 3) := by decide +kernel
theorem dX9_isHour_6 : decode cX9_isHour 6 = .ok (.invokestatic 104, 3) := by decide +kernel
theorem dX9_isHour_9 : decode cX9_isHour 9 = .ok (.ireturn, 1) := by decide +kernel
theorem dX9_day_0 : decode cX9_day 0 = .ok (.iload_n 1, 1) := by decide +kernel
theorem dX9_day_1 : decode cX9_day 1 = .ok (.invokestatic 167, 3) := by decide +kernel
theorem dX9_day_4 : decode cX9_day 4 = .ok (.ifCond .ne 5, 3) := by decide +kernel
theorem dX9_day_7 : decode cX9_day 7 = .ok (.iconst (-1), 1) := by decide +kernel
theorem dX9_day_8 : decode cX9_day 8 = .ok (.ireturn, 1) := by decide +kernel
theorem dX9_day_9 : decode cX9_day 9 = .ok (.aload_n 0, 1) := by decide +kernel
theorem dX9_day_10 : decode cX9_day 10 = .ok (.getfield 112, 3) := by decide +kernel
theorem dX9_day_13 : decode cX9_day 13 = .ok (.istore_n 2, 1) := by decide +kernel
theorem dX9_day_14 : decode cX9_day 14 = .ok (.aload_n 0, 1) := by decide +kernel
theorem dX9_day_15 : decode cX9_day 15 = .ok (.iload_n 1, 1) := by decide +kernel
theorem dX9_day_16 : decode cX9_day 16 = .ok (.putfield 112, 3) := by decide +kernel
theorem dX9_day_19 : decode cX9_day 19 = .ok (.iload_n 2, 1) := by decide +kernel
theorem dX9_day_20 : decode cX9_day 20 = .ok (.ireturn, 1) := by decide +kernel
theorem dX9_gives_0 : decode cX9_gives 0 = .ok (.aload_n 0, 1) := by decide +kernel
theorem dX9_gives_1 : decode cX9_gives 1 = .ok (.iload_n 1, 1) := by decide +kernel
theorem dX9_gives_2 : decode cX9_gives 2 = .ok (.invokevirtual 163, 3) := by decide +kernel
theorem dX9_gives_5 : decode cX9_gives 5 = .ok (.ifCond .ne 5, 3) := by decide +kernel
theorem dX9_gives_8 : decode cX9_gives 8 = .ok (.iconst (-1), 1) := by decide +kernel
theorem dX9_gives_9 : decode cX9_gives 9 = .ok (.ireturn, 1) := by decide +kernel
theorem dX9_gives_10 : decode cX9_gives 10 = .ok (.iload_n 2, 1) := by decide +kernel
theorem dX9_gives_11 : decode cX9_gives 11 = .ok (.i2l, 1) := by decide +kernel
theorem dX9_gives_12 : decode cX9_gives 12 = .ok (.lconst 0, 1) := by decide +kernel
theorem dX9_gives_13 : decode cX9_gives 13 = .ok (.ldc2_w 184, 3) := by decide +kernel
theorem dX9_gives_16 : decode cX9_gives 16 = .ok (.invokestatic 104, 3) := by decide +kernel
theorem dX9_gives_19 : decode cX9_gives 19 = .ok (.ifCond .ne 6, 3) := by decide +kernel
theorem dX9_gives_22 : decode cX9_gives 22 = .ok (.bipush (-2), 2) := by decide +kernel
theorem dX9_gives_24 : decode cX9_gives 24 = .ok (.ireturn, 1) := by decide +kernel
theorem dX9_gives_25 : decode cX9_gives 25 = .ok (.aload_n 0, 1) := by decide +kernel
theorem dX9_gives_26 : decode cX9_gives 26 = .ok (.getfield 39, 3) := by decide +kernel
theorem dX9_gives_29 : decode cX9_gives 29 = .ok (.iload_n 1, 1) := by decide +kernel
theorem dX9_gives_30 : decode cX9_gives 30 = .ok (.iaload, 1) := by decide +kernel
theorem dX9_gives_31 : decode cX9_gives 31 = .ok (.istore_n 3, 1) := by decide +kernel
theorem dX9_gives_32 : decode cX9_gives 32 = .ok (.aload_n 0, 1) := by decide +kernel
theorem dX9_gives_33 : decode cX9_gives 33 = .ok (.getfield 39, 3) := by decide +kernel
theorem dX9_gives_36 : decode cX9_gives 36 = .ok (.iload_n 1, 1) := by decide +kernel
theorem dX9_gives_37 : decode cX9_gives 37 = .ok (.iload_n 2, 1) := by decide +kernel
theorem dX9_gives_38 : decode cX9_gives 38 = .ok (.iastore, 1) := by decide +kernel
theorem dX9_gives_39 : decode cX9_gives 39 = .ok (.iload_n 3, 1) := by decide +kernel
theorem dX9_gives_40 : decode cX9_gives 40 = .ok (.ireturn, 1) := by decide +kernel
theorem dX9_more_0 : decode cX9_more 0 = .ok (.aload_n 0, 1) := by decide +kernel
theorem dX9_more_1 : decode cX9_more 1 = .ok (.iload_n 1, 1) := by decide +kernel
theorem dX9_more_2 : decode cX9_more 2 = .ok (.invokevirtual 163, 3) := by decide +kernel
theorem dX9_more_5 : decode cX9_more 5 = .ok (.ifCond .ne 5, 3) := by decide +kernel
theorem dX9_more_8 : decode cX9_more 8 = .ok (.iconst (-1), 1) := by decide +kernel
theorem dX9_more_9 : decode cX9_more 9 = .ok (.ireturn, 1) := by decide +kernel
theorem dX9_more_10 : decode cX9_more 10 = .ok (.iload_n 2, 1) := by decide +kernel
theorem dX9_more_11 : decode cX9_more 11 = .ok (.i2l, 1) := by decide +kernel
theorem dX9_more_12 : decode cX9_more 12 = .ok (.lconst 0, 1) := by decide +kernel
theorem dX9_more_13 : decode cX9_more 13 = .ok (.ldc2_w 250, 3) := by decide +kernel
theorem dX9_more_16 : decode cX9_more 16 = .ok (.invokestatic 104, 3) := by decide +kernel
theorem dX9_more_19 : decode cX9_more 19 = .ok (.ifCond .ne 6, 3) := by decide +kernel
theorem dX9_more_22 : decode cX9_more 22 = .ok (.bipush (-2), 2) := by decide +kernel
theorem dX9_more_24 : decode cX9_more 24 = .ok (.ireturn, 1) := by decide +kernel
theorem dX9_more_25 : decode cX9_more 25 = .ok (.aload_n 0, 1) := by decide +kernel
theorem dX9_more_26 : decode cX9_more 26 = .ok (.getfield 42, 3) := by decide +kernel
theorem dX9_more_29 : decode cX9_more 29 = .ok (.iload_n 1, 1) := by decide +kernel
theorem dX9_more_30 : decode cX9_more 30 = .ok (.iaload, 1) := by decide +kernel
theorem dX9_more_31 : decode cX9_more 31 = .ok (.istore_n 3, 1) := by decide +kernel
theorem dX9_more_32 : decode cX9_more 32 = .ok (.aload_n 0, 1) := by decide +kernel
theorem dX9_more_33 : decode cX9_more 33 = .ok (.getfield 42, 3) := by decide +kernel
theorem dX9_more_36 : decode cX9_more 36 = .ok (.iload_n 1, 1) := by decide +kernel
theorem dX9_more_37 : decode cX9_more 37 = .ok (.iload_n 2, 1) := by decide +kernel
theorem dX9_more_38 : decode cX9_more 38 = .ok (.iastore, 1) := by decide +kernel
theorem dX9_more_39 : decode cX9_more 39 = .ok (.iload_n 3, 1) := by decide +kernel
theorem dX9_more_40 : decode cX9_more 40 = .ok (.ireturn, 1) := by decide +kernel
theorem dX9_van_0 : decode cX9_van 0 = .ok (.iload_n 1, 1) := by decide +kernel
theorem dX9_van_1 : decode cX9_van 1 = .ok (.i2l, 1) := by decide +kernel
theorem dX9_van_2 : decode cX9_van 2 = .ok (.lconst 0, 1) := by decide +kernel
theorem dX9_van_3 : decode cX9_van 3 = .ok (.ldc2_w 184, 3) := by decide +kernel
theorem dX9_van_6 : decode cX9_van 6 = .ok (.invokestatic 104, 3) := by decide +kernel
theorem dX9_van_9 : decode cX9_van 9 = .ok (.ifCond .eq 56, 3) := by decide +kernel
theorem dX9_van_12 : decode cX9_van 12 = .ok (.iload_n 2, 1) := by decide +kernel
theorem dX9_van_13 : decode cX9_van 13 = .ok (.i2l, 1) := by decide +kernel
theorem dX9_van_14 : decode cX9_van 14 = .ok (.lconst 0, 1) := by decide +kernel
theorem dX9_van_15 : decode cX9_van 15 = .ok (.ldc2_w 161, 3) := by decide +kernel
theorem dX9_van_18 : decode cX9_van 18 = .ok (.invokestatic 104, 3) := by decide +kernel
theorem dX9_van_21 : decode cX9_van 21 = .ok (.ifCond .eq 44, 3) := by decide +kernel
theorem dX9_van_24 : decode cX9_van 24 = .ok (.iload_n 2, 1) := by decide +kernel
theorem dX9_van_25 : decode cX9_van 25 = .ok (.iconst 1, 1) := by decide +kernel
theorem dX9_van_26 : decode cX9_van 26 = .ok (.if_icmp .ne 18, 3) := by decide +kernel
theorem dX9_van_29 : decode cX9_van 29 = .ok (.iload_n 3, 1) := by decide +kernel
theorem dX9_van_30 : decode cX9_van 30 = .ok (.i2l, 1) := by decide +kernel
theorem dX9_van_31 : decode cX9_van 31 = .ok (.lconst 1, 1) := by decide +kernel
theorem dX9_van_32 : decode cX9_van 32 = .ok (.ldc2_w 174, 3) := by decide +kernel
theorem dX9_van_35 : decode cX9_van 35 = .ok (.invokestatic 104, 3) := by decide +kernel
theorem dX9_van_38 : decode cX9_van 38 = .ok (.ifCond .eq 27, 3) := by decide +kernel
theorem dX9_van_41 : decode cX9_van 41 = .ok (.goto 27, 3) := by decide +kernel
theorem dX9_van_44 : decode cX9_van 44 = .ok (.iload_n 3, 1) := by decide +kernel
theorem dX9_van_45 : decode cX9_van 45 = .ok (.i2l, 1) := by decide +kernel
theorem dX9_van_46 : decode cX9_van 46 = .ok (.lconst 0, 1) := by decide +kernel
theorem dX9_van_47 : decode cX9_van 47 = .ok (.iload_n 2, 1) := by decide +kernel
theorem dX9_van_48 : decode cX9_van 48 = .ok (.iconst 2, 1) := by decide +kernel
theorem dX9_van_49 : decode cX9_van 49 = .ok (.if_icmp .ne 9, 3) := by decide +kernel
theorem dX9_van_52 : decode cX9_van 52 = .ok (.ldc2_w 248, 3) := by decide +kernel
theorem dX9_van_55 : decode cX9_van 55 = .ok (.goto 4, 3) := by decide +kernel
theorem dX9_van_58 : decode cX9_van 58 = .ok (.lconst 0, 1) := by decide +kernel
theorem dX9_van_59 : decode cX9_van 59 = .ok (.invokestatic 104, 3) := by decide +kernel
theorem dX9_van_62 : decode cX9_van 62 = .ok (.ifCond .ne 6, 3) := by decide +kernel
theorem dX9_van_65 : decode cX9_van 65 = .ok (.bipush (-2), 2) := by decide +kernel
theorem dX9_van_67 : decode cX9_van 67 = .ok (.ireturn, 1) := by decide +kernel
theorem dX9_van_68 : decode cX9_van 68 = .ok (.aload_n 0, 1) := by decide +kernel
theorem dX9_van_69 : decode cX9_van 69 = .ok (.getfield 115, 3) := by decide +kernel
theorem dX9_van_72 : decode cX9_van 72 = .ok (.istore 4, 2) := by decide +kernel
theorem dX9_van_74 : decode cX9_van 74 = .ok (.aload_n 0, 1) := by decide +kernel
theorem dX9_van_75 : decode cX9_van 75 = .ok (.iload_n 1, 1) := by decide +kernel
theorem dX9_van_76 : decode cX9_van 76 = .ok (.putfield 115, 3) := by decide +kernel
theorem dX9_van_79 : decode cX9_van 79 = .ok (.aload_n 0, 1) := by decide +kernel
theorem dX9_van_80 : decode cX9_van 80 = .ok (.iload_n 2, 1) := by decide +kernel
theorem dX9_van_81 : decode cX9_van 81 = .ok (.putfield 118, 3) := by decide +kernel
theorem dX9_van_84 : decode cX9_van 84 = .ok (.aload_n 0, 1) := by decide +kernel
theorem dX9_van_85 : decode cX9_van 85 = .ok (.iload_n 3, 1) := by decide +kernel
theorem dX9_van_86 : decode cX9_van 86 = .ok (.putfield 121, 3) := by decide +kernel
theorem dX9_van_89 : decode cX9_van 89 = .ok (.iload 4, 2) := by decide +kernel
theorem dX9_van_91 : decode cX9_van 91 = .ok (.ireturn, 1) := by decide +kernel
theorem dX9_order_0 : decode cX9_order 0 = .ok (.iload_n 1, 1) := by decide +kernel
theorem dX9_order_1 : decode cX9_order 1 = .ok (.invokestatic 252, 3) := by decide +kernel
theorem dX9_order_4 : decode cX9_order 4 = .ok (.ifCond .eq 11, 3) := by decide +kernel
theorem dX9_order_7 : decode cX9_order 7 = .ok (.aload_n 0, 1) := by decide +kernel
theorem dX9_order_8 : decode cX9_order 8 = .ok (.iload_n 2, 1) := by decide +kernel
theorem dX9_order_9 : decode cX9_order 9 = .ok (.invokevirtual 163, 3) := by decide +kernel
theorem dX9_order_12 : decode cX9_order 12 = .ok (.ifCond .ne 5, 3) := by decide +kernel
theorem dX9_order_15 : decode cX9_order 15 = .ok (.iconst (-1), 1) := by decide +kernel
theorem dX9_order_16 : decode cX9_order 16 = .ok (.ireturn, 1) := by decide +kernel
theorem dX9_order_17 : decode cX9_order 17 = .ok (.iload_n 3, 1) := by decide +kernel
theorem dX9_order_18 : decode cX9_order 18 = .ok (.i2l, 1) := by decide +kernel
theorem dX9_order_19 : decode cX9_order 19 = .ok (.lconst 1, 1) := by decide +kernel
theorem dX9_order_20 : decode cX9_order 20 = .ok (.ldc2_w 174, 3) := by decide +kernel
theorem dX9_order_23 : decode cX9_order 23 = .ok (.invokestatic 104, 3) := by decide +kernel
theorem dX9_order_26 : decode cX9_order 26 = .ok (.ifCond .ne 6, 3) := by decide +kernel
theorem dX9_order_29 : decode cX9_order 29 = .ok (.bipush (-2), 2) := by decide +kernel
theorem dX9_order_31 : decode cX9_order 31 = .ok (.ireturn, 1) := by decide +kernel
theorem dX9_order_32 : decode cX9_order 32 = .ok (.aload_n 0, 1) := by decide +kernel
theorem dX9_order_33 : decode cX9_order 33 = .ok (.getfield 124, 3) := by decide +kernel
theorem dX9_order_36 : decode cX9_order 36 = .ok (.bipush 6, 2) := by decide +kernel
theorem dX9_order_38 : decode cX9_order 38 = .ok (.if_icmp .ne 6, 3) := by decide +kernel
theorem dX9_order_41 : decode cX9_order 41 = .ok (.bipush (-4), 2) := by decide +kernel
theorem dX9_order_43 : decode cX9_order 43 = .ok (.ireturn, 1) := by decide +kernel
theorem dX9_order_44 : decode cX9_order 44 = .ok (.aload_n 0, 1) := by decide +kernel
theorem dX9_order_45 : decode cX9_order 45 = .ok (.getfield 48, 3) := by decide +kernel
theorem dX9_order_48 : decode cX9_order 48 = .ok (.aload_n 0, 1) := by decide +kernel
theorem dX9_order_49 : decode cX9_order 49 = .ok (.getfield 124, 3) := by decide +kernel
theorem dX9_order_52 : decode cX9_order 52 = .ok (.iload_n 1, 1) := by decide +kernel
theorem dX9_order_53 : decode cX9_order 53 = .ok (.iastore, 1) := by decide +kernel
theorem dX9_order_54 : decode cX9_order 54 = .ok (.aload_n 0, 1) := by decide +kernel
theorem dX9_order_55 : decode cX9_order 55 = .ok (.getfield 51, 3) := by decide +kernel
theorem dX9_order_58 : decode cX9_order 58 = .ok (.aload_n 0, 1) := by decide +kernel
theorem dX9_order_59 : decode cX9_order 59 = .ok (.getfield 124, 3) := by decide +kernel
theorem dX9_order_62 : decode cX9_order 62 = .ok (.iload_n 2, 1) := by decide +kernel
theorem dX9_order_63 : decode cX9_order 63 = .ok (.iastore, 1) := by decide +kernel
theorem dX9_order_64 : decode cX9_order 64 = .ok (.aload_n 0, 1) := by decide +kernel
theorem dX9_order_65 : decode cX9_order 65 = .ok (.getfield 54, 3) := by decide +kernel
theorem dX9_order_68 : decode cX9_order 68 = .ok (.aload_n 0, 1) := by decide +kernel
theorem dX9_order_69 : decode cX9_order 69 = .ok (.getfield 124, 3) := by decide +kernel
theorem dX9_order_72 : decode cX9_order 72 = .ok (.iload_n 3, 1) := by decide +kernel
theorem dX9_order_73 : decode cX9_order 73 = .ok (.iastore, 1) := by decide +kernel
theorem dX9_order_74 : decode cX9_order 74 = .ok (.aload_n 0, 1) := by decide +kernel
theorem dX9_order_75 : decode cX9_order 75 = .ok (.dup, 1) := by decide +kernel
theorem dX9_order_76 : decode cX9_order 76 = .ok (.getfield 124, 3) := by decide +kernel
theorem dX9_order_79 : decode cX9_order 79 = .ok (.iconst 1, 1) := by decide +kernel
theorem dX9_order_80 : decode cX9_order 80 = .ok (.iadd, 1) := by decide +kernel
theorem dX9_order_81 : decode cX9_order 81 = .ok (.putfield 124, 3) := by decide +kernel
theorem dX9_order_84 : decode cX9_order 84 = .ok (.aload_n 0, 1) := by decide +kernel
theorem dX9_order_85 : decode cX9_order 85 = .ok (.getfield 124, 3) := by decide +kernel
theorem dX9_order_88 : decode cX9_order 88 = .ok (.iconst 1, 1) := by decide +kernel
theorem dX9_order_89 : decode cX9_order 89 = .ok (.isub, 1) := by decide +kernel
theorem dX9_order_90 : decode cX9_order 90 = .ok (.ireturn, 1) := by decide +kernel
theorem dX9_unorder_0 : decode cX9_unorder 0 = .ok (.aload_n 0, 1) := by decide +kernel
theorem dX9_unorder_1 : decode cX9_unorder 1 = .ok (.getfield 124, 3) := by decide +kernel
theorem dX9_unorder_4 : decode cX9_unorder 4 = .ok (.istore_n 1, 1) := by decide +kernel
theorem dX9_unorder_5 : decode cX9_unorder 5 = .ok (.aload_n 0, 1) := by decide +kernel
theorem dX9_unorder_6 : decode cX9_unorder 6 = .ok (.iconst 0, 1) := by decide +kernel
theorem dX9_unorder_7 : decode cX9_unorder 7 = .ok (.putfield 124, 3) := by decide +kernel
theorem dX9_unorder_10 : decode cX9_unorder 10 = .ok (.iload_n 1, 1) := by decide +kernel
theorem dX9_unorder_11 : decode cX9_unorder 11 = .ok (.ireturn, 1) := by decide +kernel
theorem dX9_hand_0 : decode cX9_hand 0 = .ok (.iload_n 2, 1) := by decide +kernel
theorem dX9_hand_1 : decode cX9_hand 1 = .ok (.aload_n 0, 1) := by decide +kernel
theorem dX9_hand_2 : decode cX9_hand 2 = .ok (.getfield 255, 3) := by decide +kernel
theorem dX9_hand_5 : decode cX9_hand 5 = .ok (.invokestatic 219, 3) := by decide +kernel
theorem dX9_hand_8 : decode cX9_hand 8 = .ok (.istore_n 3, 1) := by decide +kernel
theorem dX9_hand_9 : decode cX9_hand 9 = .ok (.aload_n 0, 1) := by decide +kernel
theorem dX9_hand_10 : decode cX9_hand 10 = .ok (.getfield 69, 3) := by decide +kernel
theorem dX9_hand_13 : decode cX9_hand 13 = .ok (.iload_n 1, 1) := by decide +kernel
theorem dX9_hand_14 : decode cX9_hand 14 = .ok (.dup2, 1) := by decide +kernel
theorem dX9_hand_15 : decode cX9_hand 15 = .ok (.iaload, 1) := by decide +kernel
theorem dX9_hand_16 : decode cX9_hand 16 = .ok (.iload_n 3, 1) := by decide +kernel
theorem dX9_hand_17 : decode cX9_hand 17 = .ok (.iadd, 1) := by decide +kernel
theorem dX9_hand_18 : decode cX9_hand 18 = .ok (.iastore, 1) := by decide +kernel
theorem dX9_hand_19 : decode cX9_hand 19 = .ok (.aload_n 0, 1) := by decide +kernel
theorem dX9_hand_20 : decode cX9_hand 20 = .ok (.dup, 1) := by decide +kernel
theorem dX9_hand_21 : decode cX9_hand 21 = .ok (.getfield 255, 3) := by decide +kernel
theorem dX9_hand_24 : decode cX9_hand 24 = .ok (.iload_n 3, 1) := by decide +kernel
theorem dX9_hand_25 : decode cX9_hand 25 = .ok (.isub, 1) := by decide +kernel
theorem dX9_hand_26 : decode cX9_hand 26 = .ok (.putfield 255, 3) := by decide +kernel
theorem dX9_hand_29 : decode cX9_hand 29 = .ok (.return_, 1) := by decide +kernel
theorem dX9_vanGives_0 : decode cX9_vanGives 0 = .ok (.iconst 0, 1) := by decide +kernel
theorem dX9_vanGives_1 : decode cX9_vanGives 1 = .ok (.istore_n 2, 1) := by decide +kernel
theorem dX9_vanGives_2 : decode cX9_vanGives 2 = .ok (.iload_n 2, 1) := by decide +kernel
theorem dX9_vanGives_3 : decode cX9_vanGives 3 = .ok (.aload_n 0, 1) := by decide +kernel
theorem dX9_vanGives_4 : decode cX9_vanGives 4 = .ok (.getfield 124, 3) := by decide +kernel
theorem dX9_vanGives_7 : decode cX9_vanGives 7 = .ok (.if_icmp .ge 35, 3) := by decide +kernel
theorem dX9_vanGives_10 : decode cX9_vanGives 10 = .ok (.aload_n 0, 1) := by decide +kernel
theorem dX9_vanGives_11 : decode cX9_vanGives 11 = .ok (.getfield 48, 3) := by decide +kernel
theorem dX9_vanGives_14 : decode cX9_vanGives 14 = .ok (.iload_n 2, 1) := by decide +kernel
theorem dX9_vanGives_15 : decode cX9_vanGives 15 = .ok (.iaload, 1) := by decide +kernel
theorem dX9_vanGives_16 : decode cX9_vanGives 16 = .ok (.iload_n 1, 1) := by decide +kernel
theorem dX9_vanGives_17 : decode cX9_vanGives 17 = .ok (.if_icmp .ne 19, 3) := by decide +kernel
theorem dX9_vanGives_20 : decode cX9_vanGives 20 = .ok (.aload_n 0, 1) := by decide +kernel
theorem dX9_vanGives_21 : decode cX9_vanGives 21 = .ok (.aload_n 0, 1) := by decide +kernel
theorem dX9_vanGives_22 : decode cX9_vanGives 22 = .ok (.getfield 51, 3) := by decide +kernel
theorem dX9_vanGives_25 : decode cX9_vanGives 25 = .ok (.iload_n 2, 1) := by decide +kernel
theorem dX9_vanGives_26 : decode cX9_vanGives 26 = .ok (.iaload, 1) := by decide +kernel
theorem dX9_vanGives_27 : decode cX9_vanGives 27 = .ok (.aload_n 0, 1) := by decide +kernel
theorem dX9_vanGives_28 : decode cX9_vanGives 28 = .ok (.getfield 54, 3) := by decide +kernel
theorem dX9_vanGives_31 : decode cX9_vanGives 31 = .ok (.iload_n 2, 1) := by decide +kernel
theorem dX9_vanGives_32 : decode cX9_vanGives 32 = .ok (.iaload, 1) := by decide +kernel
theorem dX9_vanGives_33 : decode cX9_vanGives 33 = .ok (.invokevirtual 258, 3) := by decide +kernel
theorem dX9_vanGives_36 : decode cX9_vanGives 36 = .ok (.iinc 2 1, 3) := by decide +kernel
theorem dX9_vanGives_39 : decode cX9_vanGives 39 = .ok (.goto (-37), 3) := by decide +kernel
theorem dX9_vanGives_42 : decode cX9_vanGives 42 = .ok (.iconst 0, 1) := by decide +kernel
theorem dX9_vanGives_43 : decode cX9_vanGives 43 = .ok (.istore_n 2, 1) := by decide +kernel
theorem dX9_vanGives_44 : decode cX9_vanGives 44 = .ok (.iload_n 2, 1) := by decide +kernel
theorem dX9_vanGives_45 : decode cX9_vanGives 45 = .ok (.aload_n 0, 1) := by decide +kernel
theorem dX9_vanGives_46 : decode cX9_vanGives 46 = .ok (.getfield 13, 3) := by decide +kernel
theorem dX9_vanGives_49 : decode cX9_vanGives 49 = .ok (.iconst 0, 1) := by decide +kernel
theorem dX9_vanGives_50 : decode cX9_vanGives 50 = .ok (.iaload, 1) := by decide +kernel
theorem dX9_vanGives_51 : decode cX9_vanGives 51 = .ok (.if_icmp .ge 39, 3) := by decide +kernel
theorem dX9_vanGives_54 : decode cX9_vanGives 54 = .ok (.aload_n 0, 1) := by decide +kernel
theorem dX9_vanGives_55 : decode cX9_vanGives 55 = .ok (.getfield 118, 3) := by decide +kernel
theorem dX9_vanGives_58 : decode cX9_vanGives 58 = .ok (.iconst 1, 1) := by decide +kernel
theorem dX9_vanGives_59 : decode cX9_vanGives 59 = .ok (.if_icmp .ne 31, 3) := by decide +kernel
theorem dX9_vanGives_62 : decode cX9_vanGives 62 = .ok (.iload_n 1, 1) := by decide +kernel
theorem dX9_vanGives_63 : decode cX9_vanGives 63 = .ok (.ifCond .le 27, 3) := by decide +kernel
theorem dX9_vanGives_66 : decode cX9_vanGives 66 = .ok (.aload_n 0, 1) := by decide +kernel
theorem dX9_vanGives_67 : decode cX9_vanGives 67 = .ok (.getfield 69, 3) := by decide +kernel
theorem dX9_vanGives_70 : decode cX9_vanGives 70 = .ok (.iload_n 2, 1) := by decide +kernel
theorem dX9_vanGives_71 : decode cX9_vanGives 71 = .ok (.iaload, 1) := by decide +kernel
theorem dX9_vanGives_72 : decode cX9_vanGives 72 = .ok (.ifCond .ne 12, 3) := by decide +kernel
theorem dX9_vanGives_75 : decode cX9_vanGives 75 = .ok (.aload_n 0, 1) := by decide +kernel
theorem dX9_vanGives_76 : decode cX9_vanGives 76 = .ok (.iload_n 2, 1) := by decide +kernel
theorem dX9_vanGives_77 : decode cX9_vanGives 77 = .ok (.aload_n 0, 1) := by decide +kernel
theorem dX9_vanGives_78 : decode cX9_vanGives 78 = .ok (.getfield 121, 3) := by decide +kernel
theorem dX9_vanGives_81 : decode cX9_vanGives 81 = .ok (.invokevirtual 258, 3) := by decide +kernel
theorem dX9_vanGives_84 : decode cX9_vanGives 84 = .ok (.iinc 2 1, 3) := by decide +kernel
theorem dX9_vanGives_87 : decode cX9_vanGives 87 = .ok (.goto (-43), 3) := by decide +kernel
theorem dX9_vanGives_90 : decode cX9_vanGives 90 = .ok (.iconst 0, 1) := by decide +kernel
theorem dX9_vanGives_91 : decode cX9_vanGives 91 = .ok (.istore_n 2, 1) := by decide +kernel
theorem dX9_vanGives_92 : decode cX9_vanGives 92 = .ok (.aload_n 0, 1) := by decide +kernel
theorem dX9_vanGives_93 : decode cX9_vanGives 93 = .ok (.getfield 118, 3) := by decide +kernel
theorem dX9_vanGives_96 : decode cX9_vanGives 96 = .ok (.iconst 2, 1) := by decide +kernel
theorem dX9_vanGives_97 : decode cX9_vanGives 97 = .ok (.if_icmp .ne 38, 3) := by decide +kernel
theorem dX9_vanGives_100 : decode cX9_vanGives 100 = .ok (.iload_n 1, 1) := by decide +kernel
theorem dX9_vanGives_101 : decode cX9_vanGives 101 = .ok (.aload_n 0, 1) := by decide +kernel
theorem dX9_vanGives_102 : decode cX9_vanGives 102 = .ok (.getfield 121, 3) := by decide +kernel
theorem dX9_vanGives_105 : decode cX9_vanGives 105 = .ok (.if_icmp .ne 30, 3) := by decide +kernel
theorem dX9_vanGives_108 : decode cX9_vanGives 108 = .ok (.aload_n 0, 1) := by decide +kernel
theorem dX9_vanGives_109 : decode cX9_vanGives 109 = .ok (.getfield 255, 3) := by decide +kernel
theorem dX9_vanGives_112 : decode cX9_vanGives 112 = .ok (.ifCond .le 23, 3) := by decide +kernel
theorem dX9_vanGives_115 : decode cX9_vanGives 115 = .ok (.aload_n 0, 1) := by decide +kernel
theorem dX9_vanGives_116 : decode cX9_vanGives 116 = .ok (.iload_n 2, 1) := by decide +kernel
theorem dX9_vanGives_117 : decode cX9_vanGives 117 = .ok (.iconst 1, 1) := by decide +kernel
theorem dX9_vanGives_118 : decode cX9_vanGives 118 = .ok (.invokevirtual 258, 3) := by decide +kernel
theorem dX9_vanGives_121 : decode cX9_vanGives 121 = .ok (.iload_n 2, 1) := by decide +kernel
theorem dX9_vanGives_122 : decode cX9_vanGives 122 = .ok (.iconst 1, 1) := by decide +kernel
theorem dX9_vanGives_123 : decode cX9_vanGives 123 = .ok (.iadd, 1) := by decide +kernel
theorem dX9_vanGives_124 : decode cX9_vanGives 124 = .ok (.aload_n 0, 1) := by decide +kernel
theorem dX9_vanGives_125 : decode cX9_vanGives 125 = .ok (.getfield 13, 3) := by decide +kernel
theorem dX9_vanGives_128 : decode cX9_vanGives 128 = .ok (.iconst 0, 1) := by decide +kernel
theorem dX9_vanGives_129 : decode cX9_vanGives 129 = .ok (.iaload, 1) := by decide +kernel
theorem dX9_vanGives_130 : decode cX9_vanGives 130 = .ok (.irem, 1) := by decide +kernel
theorem dX9_vanGives_131 : decode cX9_vanGives 131 = .ok (.istore_n 2, 1) := by decide +kernel
theorem dX9_vanGives_132 : decode cX9_vanGives 132 = .ok (.goto (-40), 3) := by decide +kernel
theorem dX9_vanGives_135 : decode cX9_vanGives 135 = .ok (.return_, 1) := by decide +kernel
theorem dX9_comeTo_0 : decode cX9_comeTo 0 = .ok (.aload_n 0, 1) := by decide +kernel
theorem dX9_comeTo_1 : decode cX9_comeTo 1 = .ok (.getfield 13, 3) := by decide +kernel
theorem dX9_comeTo_4 : decode cX9_comeTo 4 = .ok (.bipush 10, 2) := by decide +kernel
theorem dX9_comeTo_6 : decode cX9_comeTo 6 = .ok (.iconst 3, 1) := by decide +kernel
theorem dX9_comeTo_7 : decode cX9_comeTo 7 = .ok (.iload_n 1, 1) := by decide +kernel
theorem dX9_comeTo_8 : decode cX9_comeTo 8 = .ok (.imul, 1) := by decide +kernel
theorem dX9_comeTo_9 : decode cX9_comeTo 9 = .ok (.iadd, 1) := by decide +kernel
theorem dX9_comeTo_10 : decode cX9_comeTo 10 = .ok (.aload_n 0, 1) := by decide +kernel
theorem dX9_comeTo_11 : decode cX9_comeTo 11 = .ok (.getfield 112, 3) := by decide +kernel
theorem dX9_comeTo_14 : decode cX9_comeTo 14 = .ok (.iadd, 1) := by decide +kernel
