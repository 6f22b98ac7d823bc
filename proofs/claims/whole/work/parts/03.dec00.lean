theorem dX0_init_0 : decode cX0_init 0 = .ok (.aload_n 0, 1) := by decide +kernel
theorem dX0_init_1 : decode cX0_init 1 = .ok (.invokespecial 3, 3) := by decide +kernel
theorem dX0_init_4 : decode cX0_init 4 = .ok (.aload_n 0, 1) := by decide +kernel
theorem dX0_init_5 : decode cX0_init 5 = .ok (.sipush 183, 3) := by decide +kernel
theorem dX0_init_8 : decode cX0_init 8 = .ok (.newarray .long, 2) := by decide +kernel
theorem dX0_init_10 : decode cX0_init 10 = .ok (.putfield 11, 3) := by decide +kernel
theorem dX0_init_13 : decode cX0_init 13 = .ok (.aload_n 0, 1) := by decide +kernel
theorem dX0_init_14 : decode cX0_init 14 = .ok (.sipush 183, 3) := by decide +kernel
theorem dX0_init_17 : decode cX0_init 17 = .ok (.newarray .long, 2) := by decide +kernel
theorem dX0_init_19 : decode cX0_init 19 = .ok (.putfield 15, 3) := by decide +kernel
theorem dX0_init_22 : decode cX0_init 22 = .ok (.aload_n 0, 1) := by decide +kernel
theorem dX0_init_23 : decode cX0_init 23 = .ok (.bipush 7, 2) := by decide +kernel
theorem dX0_init_25 : decode cX0_init 25 = .ok (.newarray .long, 2) := by decide +kernel
theorem dX0_init_27 : decode cX0_init 27 = .ok (.putfield 18, 3) := by decide +kernel
theorem dX0_init_30 : decode cX0_init 30 = .ok (.aload_n 0, 1) := by decide +kernel
theorem dX0_init_31 : decode cX0_init 31 = .ok (.iconst 3, 1) := by decide +kernel
theorem dX0_init_32 : decode cX0_init 32 = .ok (.newarray .int, 2) := by decide +kernel
theorem dX0_init_34 : decode cX0_init 34 = .ok (.putfield 21, 3) := by decide +kernel
theorem dX0_init_37 : decode cX0_init 37 = .ok (.aload_n 0, 1) := by decide +kernel
theorem dX0_init_38 : decode cX0_init 38 = .ok (.lconst 1, 1) := by decide +kernel
theorem dX0_init_39 : decode cX0_init 39 = .ok (.putfield 25, 3) := by decide +kernel
theorem dX0_init_42 : decode cX0_init 42 = .ok (.return_, 1) := by decide +kernel
theorem dX0_reckon_0 : decode cX0_reckon 0 = .ok (.aload_n 0, 1) := by decide +kernel
theorem dX0_reckon_1 : decode cX0_reckon 1 = .ok (.getfield 15, 3) := by decide +kernel
theorem dX0_reckon_4 : decode cX0_reckon 4 = .ok (.lconst 0, 1) := by decide +kernel
theorem dX0_reckon_5 : decode cX0_reckon 5 = .ok (.invokestatic 29, 3) := by decide +kernel
theorem dX0_reckon_8 : decode cX0_reckon 8 = .ok (.aload_n 0, 1) := by decide +kernel
theorem dX0_reckon_9 : decode cX0_reckon 9 = .ok (.lconst 0, 1) := by decide +kernel
theorem dX0_reckon_10 : decode cX0_reckon 10 = .ok (.putfield 25, 3) := by decide +kernel
theorem dX0_reckon_13 : decode cX0_reckon 13 = .ok (.iconst 0, 1) := by decide +kernel
theorem dX0_reckon_14 : decode cX0_reckon 14 = .ok (.istore_n 2, 1) := by decide +kernel
theorem dX0_reckon_15 : decode cX0_reckon 15 = .ok (.iload_n 2, 1) := by decide +kernel
theorem dX0_reckon_16 : decode cX0_reckon 16 = .ok (.iconst 3, 1) := by decide +kernel
theorem dX0_reckon_17 : decode cX0_reckon 17 = .ok (.if_icmp .ge 28, 3) := by decide +kernel
theorem dX0_reckon_20 : decode cX0_reckon 20 = .ok (.aload_n 0, 1) := by decide +kernel
theorem dX0_reckon_21 : decode cX0_reckon 21 = .ok (.dup, 1) := by decide +kernel
theorem dX0_reckon_22 : decode cX0_reckon 22 = .ok (.getfield 25, 3) := by decide +kernel
theorem dX0_reckon_25 : decode cX0_reckon 25 = .ok (.ldc2_w 35, 3) := by decide +kernel
theorem dX0_reckon_28 : decode cX0_reckon 28 = .ok (.aload_n 1, 1) := by decide +kernel
theorem dX0_reckon_29 : decode cX0_reckon 29 = .ok (.iload_n 2, 1) := by decide +kernel
theorem dX0_reckon_30 : decode cX0_reckon 30 = .ok (.invokevirtual 37, 3) := by decide +kernel
theorem dX0_reckon_33 : decode cX0_reckon 33 = .ok (.i2l, 1) := by decide +kernel
theorem dX0_reckon_34 : decode cX0_reckon 34 = .ok (.lmul, 1) := by decide +kernel
theorem dX0_reckon_35 : decode cX0_reckon 35 = .ok (.ladd, 1) := by decide +kernel
theorem dX0_reckon_36 : decode cX0_reckon 36 = .ok (.putfield 25, 3) := by decide +kernel
theorem dX0_reckon_39 : decode cX0_reckon 39 = .ok (.iinc 2 1, 3) := by decide +kernel
theorem dX0_reckon_42 : decode cX0_reckon 42 = .ok (.goto (-27), 3) := by decide +kernel
theorem dX0_reckon_45 : decode cX0_reckon 45 = .ok (.iconst 0, 1) := by decide +kernel
theorem dX0_reckon_46 : decode cX0_reckon 46 = .ok (.istore_n 2, 1) := by decide +kernel
theorem dX0_reckon_47 : decode cX0_reckon 47 = .ok (.iload_n 2, 1) := by decide +kernel
theorem dX0_reckon_48 : decode cX0_reckon 48 = .ok (.aload_n 1, 1) := by decide +kernel
theorem dX0_reckon_49 : decode cX0_reckon 49 = .ok (.getfield 43, 3) := by decide +kernel
theorem dX0_reckon_52 : decode cX0_reckon 52 = .ok (.if_icmp .ge 54, 3) := by decide +kernel
theorem dX0_reckon_55 : decode cX0_reckon 55 = .ok (.iload_n 2, 1) := by decide +kernel
theorem dX0_reckon_56 : decode cX0_reckon 56 = .ok (.iconst 3, 1) := by decide +kernel
theorem dX0_reckon_57 : decode cX0_reckon 57 = .ok (.if_icmp .ge 49, 3) := by decide +kernel
theorem dX0_reckon_60 : decode cX0_reckon 60 = .ok (.iconst 0, 1) := by decide +kernel
theorem dX0_reckon_61 : decode cX0_reckon 61 = .ok (.istore_n 3, 1) := by decide +kernel
theorem dX0_reckon_62 : decode cX0_reckon 62 = .ok (.iload_n 3, 1) := by decide +kernel
theorem dX0_reckon_63 : decode cX0_reckon 63 = .ok (.iconst 3, 1) := by decide +kernel
theorem dX0_reckon_64 : decode cX0_reckon 64 = .ok (.if_icmp .ge 31, 3) := by decide +kernel
theorem dX0_reckon_67 : decode cX0_reckon 67 = .ok (.aload_n 0, 1) := by decide +kernel
theorem dX0_reckon_68 : decode cX0_reckon 68 = .ok (.iload_n 2, 1) := by decide +kernel
theorem dX0_reckon_69 : decode cX0_reckon 69 = .ok (.aload_n 1, 1) := by decide +kernel
theorem dX0_reckon_70 : decode cX0_reckon 70 = .ok (.iload_n 2, 1) := by decide +kernel
theorem dX0_reckon_71 : decode cX0_reckon 71 = .ok (.iload_n 3, 1) := by decide +kernel
theorem dX0_reckon_72 : decode cX0_reckon 72 = .ok (.invokevirtual 47, 3) := by decide +kernel
theorem dX0_reckon_75 : decode cX0_reckon 75 = .ok (.aload_n 1, 1) := by decide +kernel
theorem dX0_reckon_76 : decode cX0_reckon 76 = .ok (.iload_n 2, 1) := by decide +kernel
theorem dX0_reckon_77 : decode cX0_reckon 77 = .ok (.iload_n 3, 1) := by decide +kernel
theorem dX0_reckon_78 : decode cX0_reckon 78 = .ok (.invokevirtual 51, 3) := by decide +kernel
theorem dX0_reckon_81 : decode cX0_reckon 81 = .ok (.aload_n 1, 1) := by decide +kernel
theorem dX0_reckon_82 : decode cX0_reckon 82 = .ok (.iload_n 3, 1) := by decide +kernel
theorem dX0_reckon_83 : decode cX0_reckon 83 = .ok (.invokevirtual 37, 3) := by decide +kernel
theorem dX0_reckon_86 : decode cX0_reckon 86 = .ok (.invokevirtual 54, 3) := by decide +kernel
theorem dX0_reckon_89 : decode cX0_reckon 89 = .ok (.iinc 3 1, 3) := by decide +kernel
theorem dX0_reckon_92 : decode cX0_reckon 92 = .ok (.goto (-30), 3) := by decide +kernel
theorem dX0_reckon_95 : decode cX0_reckon 95 = .ok (.aload_n 0, 1) := by decide +kernel
theorem dX0_reckon_96 : decode cX0_reckon 96 = .ok (.iload_n 2, 1) := by decide +kernel
theorem dX0_reckon_97 : decode cX0_reckon 97 = .ok (.invokevirtual 58, 3) := by decide +kernel
theorem dX0_reckon_100 : decode cX0_reckon 100 = .ok (.iinc 2 1, 3) := by decide +kernel
theorem dX0_reckon_103 : decode cX0_reckon 103 = .ok (.goto (-56), 3) := by decide +kernel
theorem dX0_reckon_106 : decode cX0_reckon 106 = .ok (.return_, 1) := by decide +kernel
theorem dX0_addKind_0 : decode cX0_addKind 0 = .ok (.aload_n 0, 1) := by decide +kernel
theorem dX0_addKind_1 : decode cX0_addKind 1 = .ok (.iload_n 3, 1) := by decide +kernel
theorem dX0_addKind_2 : decode cX0_addKind 2 = .ok (.invokevirtual 62, 3) := by decide +kernel
theorem dX0_addKind_5 : decode cX0_addKind 5 = .ok (.iconst 0, 1) := by decide +kernel
theorem dX0_addKind_6 : decode cX0_addKind 6 = .ok (.istore 5, 2) := by decide +kernel
theorem dX0_addKind_8 : decode cX0_addKind 8 = .ok (.iload 5, 2) := by decide +kernel
theorem dX0_addKind_10 : decode cX0_addKind 10 = .ok (.bipush 6, 2) := by decide +kernel
theorem dX0_addKind_12 : decode cX0_addKind 12 = .ok (.if_icmp .gt 56, 3) := by decide +kernel
theorem dX0_addKind_15 : decode cX0_addKind 15 = .ok (.bipush 6, 2) := by decide +kernel
theorem dX0_addKind_17 : decode cX0_addKind 17 = .ok (.iload_n 2, 1) := by decide +kernel
theorem dX0_addKind_18 : decode cX0_addKind 18 = .ok (.imul, 1) := by decide +kernel
theorem dX0_addKind_19 : decode cX0_addKind 19 = .ok (.iload 5, 2) := by decide +kernel
theorem dX0_addKind_21 : decode cX0_addKind 21 = .ok (.iadd, 1) := by decide +kernel
theorem dX0_addKind_22 : decode cX0_addKind 22 = .ok (.iconst 1, 1) := by decide +kernel
theorem dX0_addKind_23 : decode cX0_addKind 23 = .ok (.isub, 1) := by decide +kernel
theorem dX0_addKind_24 : decode cX0_addKind 24 = .ok (.istore 6, 2) := by decide +kernel
theorem dX0_addKind_26 : decode cX0_addKind 26 = .ok (.aload_n 0, 1) := by decide +kernel
theorem dX0_addKind_27 : decode cX0_addKind 27 = .ok (.iload_n 1, 1) := by decide +kernel
theorem dX0_addKind_28 : decode cX0_addKind 28 = .ok (.iload 6, 2) := by decide +kernel
theorem dX0_addKind_30 : decode cX0_addKind 30 = .ok (.invokevirtual 65, 3) := by decide +kernel
theorem dX0_addKind_33 : decode cX0_addKind 33 = .ok (.ifCond .eq 29, 3) := by decide +kernel
theorem dX0_addKind_36 : decode cX0_addKind 36 = .ok (.aload_n 0, 1) := by decide +kernel
theorem dX0_addKind_37 : decode cX0_addKind 37 = .ok (.getfield 15, 3) := by decide +kernel
theorem dX0_addKind_40 : decode cX0_addKind 40 = .ok (.iload_n 1, 1) := by decide +kernel
theorem dX0_addKind_41 : decode cX0_addKind 41 = .ok (.bipush 61, 2) := by decide +kernel
theorem dX0_addKind_43 : decode cX0_addKind 43 = .ok (.imul, 1) := by decide +kernel
theorem dX0_addKind_44 : decode cX0_addKind 44 = .ok (.iload 6, 2) := by decide +kernel
theorem dX0_addKind_46 : decode cX0_addKind 46 = .ok (.iadd, 1) := by decide +kernel
theorem dX0_addKind_47 : decode cX0_addKind 47 = .ok (.dup2, 1) := by decide +kernel
theorem dX0_addKind_48 : decode cX0_addKind 48 = .ok (.laload, 1) := by decide +kernel
theorem dX0_addKind_49 : decode cX0_addKind 49 = .ok (.aload_n 0, 1) := by decide +kernel
theorem dX0_addKind_50 : decode cX0_addKind 50 = .ok (.getfield 18, 3) := by decide +kernel
theorem dX0_addKind_53 : decode cX0_addKind 53 = .ok (.iload 5, 2) := by decide +kernel
theorem dX0_addKind_55 : decode cX0_addKind 55 = .ok (.laload, 1) := by decide +kernel
theorem dX0_addKind_56 : decode cX0_addKind 56 = .ok (.iload 4, 2) := by decide +kernel
theorem dX0_addKind_58 : decode cX0_addKind 58 = .ok (.i2l, 1) := by decide +kernel
theorem dX0_addKind_59 : decode cX0_addKind 59 = .ok (.lmul, 1) := by decide +kernel
theorem dX0_addKind_60 : decode cX0_addKind 60 = .ok (.ladd, 1) := by decide +kernel
theorem dX0_addKind_61 : decode cX0_addKind 61 = .ok (.lastore, 1) := by decide +kernel
theorem dX0_addKind_62 : decode cX0_addKind 62 = .ok (.iinc 5 1, 3) := by decide +kernel
theorem dX0_addKind_65 : decode cX0_addKind 65 = .ok (.goto (-57), 3) := by decide +kernel
theorem dX0_addKind_68 : decode cX0_addKind 68 = .ok (.return_, 1) := by decide +kernel
theorem dX0_reckonChances_0 : decode cX0_reckonChances 0 = .ok (.aload_n 0, 1) := by decide +kernel
theorem dX0_reckonChances_1 : decode cX0_reckonChances 1 = .ok (.getfield 18, 3) := by decide +kernel
theorem dX0_reckonChances_4 : decode cX0_reckonChances 4 = .ok (.lconst 0, 1) := by decide +kernel
theorem dX0_reckonChances_5 : decode cX0_reckonChances 5 = .ok (.invokestatic 29, 3) := by decide +kernel
theorem dX0_reckonChances_8 : decode cX0_reckonChances 8 = .ok (.aload_n 0, 1) := by decide +kernel
theorem dX0_reckonChances_9 : decode cX0_reckonChances 9 = .ok (.getfield 18, 3) := by decide +kernel
theorem dX0_reckonChances_12 : decode cX0_reckonChances 12 = .ok (.iconst 0, 1) := by decide +kernel
theorem dX0_reckonChances_13 : decode cX0_reckonChances 13 = .ok (.lconst 1, 1) := by decide +kernel
theorem dX0_reckonChances_14 : decode cX0_reckonChances 14 = .ok (.lastore, 1) := by decide +kernel
theorem dX0_reckonChances_15 : decode cX0_reckonChances 15 = .ok (.iconst 1, 1) := by decide +kernel
theorem dX0_reckonChances_16 : decode cX0_reckonChances 16 = .ok (.istore_n 2, 1) := by decide +kernel
theorem dX0_reckonChances_17 : decode cX0_reckonChances 17 = .ok (.iload_n 2, 1) := by decide +kernel
theorem dX0_reckonChances_18 : decode cX0_reckonChances 18 = .ok (.bipush 6, 2) := by decide +kernel
theorem dX0_reckonChances_20 : decode cX0_reckonChances 20 = .ok (.if_icmp .gt 66, 3) := by decide +kernel
theorem dX0_reckonChances_23 : decode cX0_reckonChances 23 = .ok (.iload_n 2, 1) := by decide +kernel
theorem dX0_reckonChances_24 : decode cX0_reckonChances 24 = .ok (.istore_n 3, 1) := by decide +kernel
theorem dX0_reckonChances_25 : decode cX0_reckonChances 25 = .ok (.iload_n 3, 1) := by decide +kernel
theorem dX0_reckonChances_26 : decode cX0_reckonChances 26 = .ok (.iconst 1, 1) := by decide +kernel
theorem dX0_reckonChances_27 : decode cX0_reckonChances 27 = .ok (.if_icmp .lt 39, 3) := by decide +kernel
theorem dX0_reckonChances_30 : decode cX0_reckonChances 30 = .ok (.aload_n 0, 1) := by decide +kernel
theorem dX0_reckonChances_31 : decode cX0_reckonChances 31 = .ok (.getfield 18, 3) := by decide +kernel
theorem dX0_reckonChances_34 : decode cX0_reckonChances 34 = .ok (.iload_n 3, 1) := by decide +kernel
theorem dX0_reckonChances_35 : decode cX0_reckonChances 35 = .ok (.aload_n 0, 1) := by decide +kernel
theorem dX0_reckonChances_36 : decode cX0_reckonChances 36 = .ok (.getfield 18, 3) := by decide +kernel
theorem dX0_reckonChances_39 : decode cX0_reckonChances 39 = .ok (.iload_n 3, 1) := by decide +kernel
theorem dX0_reckonChances_40 : decode cX0_reckonChances 40 = .ok (.laload, 1) := by decide +kernel
theorem dX0_reckonChances_41 : decode cX0_reckonChances 41 = .ok (.bipush 10, 2) := by decide +kernel
theorem dX0_reckonChances_43 : decode cX0_reckonChances 43 = .ok (.iload_n 1, 1) := by decide +kernel
theorem dX0_reckonChances_44 : decode cX0_reckonChances 44 = .ok (.isub, 1) := by decide +kernel
theorem dX0_reckonChances_45 : decode cX0_reckonChances 45 = .ok (.i2l, 1) := by decide +kernel
theorem dX0_reckonChances_46 : decode cX0_reckonChances 46 = .ok (.lmul, 1) := by decide +kernel
theorem dX0_reckonChances_47 : decode cX0_reckonChances 47 = .ok (.aload_n 0, 1) := by decide +kernel
theorem dX0_reckonChances_48 : decode cX0_reckonChances 48 = .ok (.getfield 18, 3) := by decide +kernel
theorem dX0_reckonChances_51 : decode cX0_reckonChances 51 = .ok (.iload_n 3, 1) := by decide +kernel
theorem dX0_reckonChances_52 : decode cX0_reckonChances 52 = .ok (.iconst 1, 1) := by decide +kernel
theorem dX0_reckonChances_53 : decode cX0_reckonChances 53 = .ok (.isub, 1) := by decide +kernel
theorem dX0_reckonChances_54 : decode cX0_reckonChances 54 = .ok (.laload, 1) := by decide +kernel
theorem dX0_reckonChances_55 : decode cX0_reckonChances 55 = .ok (.iload_n 1, 1) := by decide +kernel
theorem dX0_reckonChances_56 : decode cX0_reckonChances 56 = .ok (.i2l, 1) := by decide +kernel
theorem dX0_reckonChances_57 : decode cX0_reckonChances 57 = .ok (.lmul, 1) := by decide +kernel
theorem dX0_reckonChances_58 : decode cX0_reckonChances 58 = .ok (.ladd, 1) := by decide +kernel
theorem dX0_reckonChances_59 : decode cX0_reckonChances 59 = .ok (.lastore, 1) := by decide +kernel
theorem dX0_reckonChances_60 : decode cX0_reckonChances 60 = .ok (.iinc 3 (-1), 3) := by decide +kernel
theorem dX0_reckonChances_63 : decode cX0_reckonChances 63 = .ok (.goto (-38), 3) := by decide +kernel
theorem dX0_reckonChances_66 : decode cX0_reckonChances 66 = .ok (.aload_n 0, 1) := by decide +kernel
theorem dX0_reckonChances_67 : decode cX0_reckonChances 67 = .ok (.getfield 18, 3) := by decide +kernel
theorem dX0_reckonChances_70 : decode cX0_reckonChances 70 = .ok (.iconst 0, 1) := by decide +kernel
theorem dX0_reckonChances_71 : decode cX0_reckonChances 71 = .ok (.dup2, 1) := by decide +kernel
theorem dX0_reckonChances_72 : decode cX0_reckonChances 72 = .ok (.laload, 1) := by decide +kernel
theorem dX0_reckonChances_73 : decode cX0_reckonChances 73 = .ok (.bipush 10, 2) := by decide +kernel
theorem dX0_reckonChances_75 : decode cX0_reckonChances 75 = .ok (.iload_n 1, 1) := by decide +kernel
theorem dX0_reckonChances_76 : decode cX0_reckonChances 76 = .ok (.isub, 1) := by decide +kernel
theorem dX0_reckonChances_77 : decode cX0_reckonChances 77 = .ok (.i2l, 1) := by decide +kernel
theorem dX0_reckonChances_78 : decode cX0_reckonChances 78 = .ok (.lmul, 1) := by decide +kernel
theorem dX0_reckonChances_79 : decode cX0_reckonChances 79 = .ok (.lastore, 1) := by decide +kernel
theorem dX0_reckonChances_80 : decode cX0_reckonChances 80 = .ok (.iinc 2 1, 3) := by decide +kernel
theorem dX0_reckonChances_83 : decode cX0_reckonChances 83 = .ok (.goto (-66), 3) := by decide +kernel
theorem dX0_reckonChances_86 : decode cX0_reckonChances 86 = .ok (.return_, 1) := by decide +kernel
theorem dX0_sumUp_0 : decode cX0_sumUp 0 = .ok (.iload_n 1, 1) := by decide +kernel
theorem dX0_sumUp_1 : decode cX0_sumUp 1 = .ok (.invokestatic 69, 3) := by decide +kernel
theorem dX0_sumUp_4 : decode cX0_sumUp 4 = .ok (.ifCond .ne 4, 3) := by decide +kernel
theorem dX0_sumUp_7 : decode cX0_sumUp 7 = .ok (.return_, 1) := by decide +kernel
theorem dX0_sumUp_8 : decode cX0_sumUp 8 = .ok (.iload_n 1, 1) := by decide +kernel
theorem dX0_sumUp_9 : decode cX0_sumUp 9 = .ok (.bipush 61, 2) := by decide +kernel
theorem dX0_sumUp_11 : decode cX0_sumUp 11 = .ok (.imul, 1) := by decide +kernel
theorem dX0_sumUp_12 : decode cX0_sumUp 12 = .ok (.istore_n 2, 1) := by decide +kernel
theorem dX0_sumUp_13 : decode cX0_sumUp 13 = .ok (.bipush 59, 2) := by decide +kernel
theorem dX0_sumUp_15 : decode cX0_sumUp 15 = .ok (.istore_n 3, 1) := by decide +kernel
theorem dX0_sumUp_16 : decode cX0_sumUp 16 = .ok (.iload_n 3, 1) := by decide +kernel
theorem dX0_sumUp_17 : decode cX0_sumUp 17 = .ok (.ifCond .lt 30, 3) := by decide +kernel
theorem dX0_sumUp_20 : decode cX0_sumUp 20 = .ok (.aload_n 0, 1) := by decide +kernel
theorem dX0_sumUp_21 : decode cX0_sumUp 21 = .ok (.getfield 15, 3) := by decide +kernel
theorem dX0_sumUp_24 : decode cX0_sumUp 24 = .ok (.iload_n 2, 1) := by decide +kernel
theorem dX0_sumUp_25 : decode cX0_sumUp 25 = .ok (.iload_n 3, 1) := by decide +kernel
theorem dX0_sumUp_26 : decode cX0_sumUp 26 = .ok (.iadd, 1) := by decide +kernel
theorem dX0_sumUp_27 : decode cX0_sumUp 27 = .ok (.dup2, 1) := by decide +kernel
theorem dX0_sumUp_28 : decode cX0_sumUp 28 = .ok (.laload, 1) := by decide +kernel
theorem dX0_sumUp_29 : decode cX0_sumUp 29 = .ok (.aload_n 0, 1) := by decide +kernel
theorem dX0_sumUp_30 : decode cX0_sumUp 30 = .ok (.getfield 15, 3) := by decide +kernel
theorem dX0_sumUp_33 : decode cX0_sumUp 33 = .ok (.iload_n 2, 1) := by decide +kernel
theorem dX0_sumUp_34 : decode cX0_sumUp 34 = .ok (.iload_n 3, 1) := by decide +kernel
theorem dX0_sumUp_35 : decode cX0_sumUp 35 = .ok (.iadd, 1) := by decide +kernel
theorem dX0_sumUp_36 : decode cX0_sumUp 36 = .ok (.iconst 1, 1) := by decide +kernel
theorem dX0_sumUp_37 : decode cX0_sumUp 37 = .ok (.iadd, 1) := by decide +kernel
theorem dX0_sumUp_38 : decode cX0_sumUp 38 = .ok (.laload, 1) := by decide +kernel
theorem dX0_sumUp_39 : decode cX0_sumUp 39 = .ok (.ladd, 1) := by decide +kernel
theorem dX0_sumUp_40 : decode cX0_sumUp 40 = .ok (.lastore, 1) := by decide +kernel
theorem dX0_sumUp_41 : decode cX0_sumUp 41 = .ok (.iinc 3 (-1), 3) := by decide +kernel
theorem dX0_sumUp_44 : decode cX0_sumUp 44 = .ok (.goto (-28), 3) := by decide +kernel
theorem dX0_sumUp_47 : decode cX0_sumUp 47 = .ok (.aload_n 0, 1) := by decide +kernel
theorem dX0_sumUp_48 : decode cX0_sumUp 48 = .ok (.getfield 11, 3) := by decide +kernel
theorem dX0_sumUp_51 : decode cX0_sumUp 51 = .ok (.iload_n 2, 1) := by decide +kernel
theorem dX0_sumUp_52 : decode cX0_sumUp 52 = .ok (.lconst 0, 1) := by decide +kernel
theorem dX0_sumUp_53 : decode cX0_sumUp 53 = .ok (.lastore, 1) := by decide +kernel
theorem dX0_sumUp_54 : decode cX0_sumUp 54 = .ok (.iconst 1, 1) := by decide +kernel
theorem dX0_sumUp_55 : decode cX0_sumUp 55 = .ok (.istore_n 3, 1) := by decide +kernel
theorem dX0_sumUp_56 : decode cX0_sumUp 56 = .ok (.iload_n 3, 1) := by decide +kernel
theorem dX0_sumUp_57 : decode cX0_sumUp 57 = .ok (.bipush 60, 2) := by decide +kernel
theorem dX0_sumUp_59 : decode cX0_sumUp 59 = .ok (.if_icmp .gt 38, 3) := by decide +kernel
theorem dX0_sumUp_62 : decode cX0_sumUp 62 = .ok (.aload_n 0, 1) := by decide +kernel
theorem dX0_sumUp_63 : decode cX0_sumUp 63 = .ok (.getfield 11, 3) := by decide +kernel
theorem dX0_sumUp_66 : decode cX0_sumUp 66 = .ok (.iload_n 2, 1) := by decide +kernel
theorem dX0_sumUp_67 : decode cX0_sumUp 67 = .ok (.iload_n 3, 1) := by decide +kernel
theorem dX0_sumUp_68 : decode cX0_sumUp 68 = .ok (.iadd, 1) := by decide +kernel
theorem dX0_sumUp_69 : decode cX0_sumUp 69 = .ok (.aload_n 0, 1) := by decide +kernel
theorem dX0_sumUp_70 : decode cX0_sumUp 70 = .ok (.getfield 11, 3) := by decide +kernel
theorem dX0_sumUp_73 : decode cX0_sumUp 73 = .ok (.iload_n 2, 1) := by decide +kernel
theorem dX0_sumUp_74 : decode cX0_sumUp 74 = .ok (.iload_n 3, 1) := by decide +kernel
theorem dX0_sumUp_75 : decode cX0_sumUp 75 = .ok (.iadd, 1) := by decide +kernel
theorem dX0_sumUp_76 : decode cX0_sumUp 76 = .ok (.iconst 1, 1) := by decide +kernel
theorem dX0_sumUp_77 : decode cX0_sumUp 77 = .ok (.isub, 1) := by decide +kernel
theorem dX0_sumUp_78 : decode cX0_sumUp 78 = .ok (.laload, 1) := by decide +kernel
theorem dX0_sumUp_79 : decode cX0_sumUp 79 = .ok (.aload_n 0, 1) := by decide +kernel
theorem dX0_sumUp_80 : decode cX0_sumUp 80 = .ok (.getfield 15, 3) := by decide +kernel
theorem dX0_sumUp_83 : decode cX0_sumUp 83 = .ok (.iload_n 2, 1) := by decide +kernel
theorem dX0_sumUp_84 : decode cX0_sumUp 84 = .ok (.iload_n 3, 1) := by decide +kernel
theorem dX0_sumUp_85 : decode cX0_sumUp 85 = .ok (.iadd, 1) := by decide +kernel
theorem dX0_sumUp_86 : decode cX0_sumUp 86 = .ok (.iconst 1, 1) := by decide +kernel
theorem dX0_sumUp_87 : decode cX0_sumUp 87 = .ok (.isub, 1) := by decide +kernel
theorem dX0_sumUp_88 : decode cX0_sumUp 88 = .ok (.laload, 1) := by decide +kernel
theorem dX0_sumUp_89 : decode cX0_sumUp 89 = .ok (.ladd, 1) := by decide +kernel
theorem dX0_sumUp_90 : decode cX0_sumUp 90 = .ok (.lastore, 1) := by decide +kernel
theorem dX0_sumUp_91 : decode cX0_sumUp 91 = .ok (.iinc 3 1, 3) := by decide +kernel
theorem dX0_sumUp_94 : decode cX0_sumUp 94 = .ok (.goto (-38), 3) := by decide +kernel
theorem dX0_sumUp_97 : decode cX0_sumUp 97 = .ok (.return_, 1) := by decide +kernel
theorem dX0_whole_0 : decode cX0_whole 0 = .ok (.aload_n 0, 1) := by decide +kernel
theorem dX0_whole_1 : decode cX0_whole 1 = .ok (.getfield 25, 3) := by decide +kernel
theorem dX0_whole_4 : decode cX0_whole 4 = .ok (.lreturn, 1) := by decide +kernel
theorem dX0_holds_0 : decode cX0_holds 0 = .ok (.iload_n 1, 1) := by decide +kernel
theorem dX0_holds_1 : decode cX0_holds 1 = .ok (.invokestatic 69, 3) := by decide +kernel
theorem dX0_holds_4 : decode cX0_holds 4 = .ok (.ifCond .eq 14, 3) := by decide +kernel
theorem dX0_holds_7 : decode cX0_holds 7 = .ok (.iload_n 2, 1) := by decide +kernel
theorem dX0_holds_8 : decode cX0_holds 8 = .ok (.invokestatic 73, 3) := by decide +kernel
theorem dX0_holds_11 : decode cX0_holds 11 = .ok (.ifCond .eq 7, 3) := by decide +kernel
theorem dX0_holds_14 : decode cX0_holds 14 = .ok (.iconst 1, 1) := by decide +kernel
theorem dX0_holds_15 : decode cX0_holds 15 = .ok (.goto 4, 3) := by decide +kernel
theorem dX0_holds_18 : decode cX0_holds 18 = .ok (.iconst 0, 1) := by decide +kernel
theorem dX0_holds_19 : decode cX0_holds 19 = .ok (.ireturn, 1) := by decide +kernel
theorem dX0_soldOf_0 : decode cX0_soldOf 0 = .ok (.aload_n 0, 1) := by decide +kernel
theorem dX0_soldOf_1 : decode cX0_soldOf 1 = .ok (.iload_n 1, 1) := by decide +kernel
theorem dX0_soldOf_2 : decode cX0_soldOf 2 = .ok (.iload_n 2, 1) := by decide +kernel
theorem dX0_soldOf_3 : decode cX0_soldOf 3 = .ok (.invokevirtual 65, 3) := by decide +kernel
theorem dX0_soldOf_6 : decode cX0_soldOf 6 = .ok (.ifCond .eq 17, 3) := by decide +kernel
theorem dX0_soldOf_9 : decode cX0_soldOf 9 = .ok (.aload_n 0, 1) := by decide +kernel
theorem dX0_soldOf_10 : decode cX0_soldOf 10 = .ok (.getfield 11, 3) := by decide +kernel
theorem dX0_soldOf_13 : decode cX0_soldOf 13 = .ok (.iload_n 1, 1) := by decide +kernel
theorem dX0_soldOf_14 : decode cX0_soldOf 14 = .ok (.bipush 61, 2) := by decide +kernel
theorem dX0_soldOf_16 : decode cX0_soldOf 16 = .ok (.imul, 1) := by decide +kernel
theorem dX0_soldOf_17 : decode cX0_soldOf 17 = .ok (.iload_n 2, 1) := by decide +kernel
theorem dX0_soldOf_18 : decode cX0_soldOf 18 = .ok (.iadd, 1) := by decide +kernel
theorem dX0_soldOf_19 : decode cX0_soldOf 19 = .ok (.laload, 1) := by decide +kernel
theorem dX0_soldOf_20 : decode cX0_soldOf 20 = .ok (.goto 4, 3) := by decide +kernel
theorem dX0_soldOf_23 : decode cX0_soldOf 23 = .ok (.lconst 0, 1) := by decide +kernel
theorem dX0_soldOf_24 : decode cX0_soldOf 24 = .ok (.lreturn, 1) := by decide +kernel
theorem dX0_outOf_0 : decode cX0_outOf 0 = .ok (.aload_n 0, 1) := by decide +kernel
theorem dX0_outOf_1 : decode cX0_outOf 1 = .ok (.iload_n 1, 1) := by decide +kernel
theorem dX0_outOf_2 : decode cX0_outOf 2 = .ok (.iload_n 2, 1) := by decide +kernel
theorem dX0_outOf_3 : decode cX0_outOf 3 = .ok (.invokevirtual 65, 3) := by decide +kernel
theorem dX0_outOf_6 : decode cX0_outOf 6 = .ok (.ifCond .eq 17, 3) := by decide +kernel
theorem dX0_outOf_9 : decode cX0_outOf 9 = .ok (.aload_n 0, 1) := by decide +kernel
theorem dX0_outOf_10 : decode cX0_outOf 10 = .ok (.getfield 15, 3) := by decide +kernel
theorem dX0_outOf_13 : decode cX0_outOf 13 = .ok (.iload_n 1, 1) := by decide +kernel
theorem dX0_outOf_14 : decode cX0_outOf 14 = .ok (.bipush 61, 2) := by decide +kernel
theorem dX0_outOf_16 : decode cX0_outOf 16 = .ok (.imul, 1) := by decide +kernel
theorem dX0_outOf_17 : decode cX0_outOf 17 = .ok (.iload_n 2, 1) := by decide +kernel
theorem dX0_outOf_18 : decode cX0_outOf 18 = .ok (.iadd, 1) := by decide +kernel
theorem dX0_outOf_19 : decode cX0_outOf 19 = .ok (.laload, 1) := by decide +kernel
theorem dX0_outOf_20 : decode cX0_outOf 20 = .ok (.goto 4, 3) := by decide +kernel
theorem dX0_outOf_23 : decode cX0_outOf 23 = .ok (.lconst 0, 1) := by decide +kernel
theorem dX0_outOf_24 : decode cX0_outOf 24 = .ok (.lreturn, 1) := by decide +kernel
theorem dX0_givenTo_0 : decode cX0_givenTo 0 = .ok (.aload_n 0, 1) := by decide +kernel
theorem dX0_givenTo_1 : decode cX0_givenTo 1 = .ok (.invokevirtual 76, 3) := by decide +kernel
theorem dX0_givenTo_4 : decode cX0_givenTo 4 = .ok (.aload_n 0, 1) := by decide +kernel
theorem dX0_givenTo_5 : decode cX0_givenTo 5 = .ok (.aload_n 1, 1) := by decide +kernel
theorem dX0_givenTo_6 : decode cX0_givenTo 6 = .ok (.iload_n 2, 1) := by decide +kernel
theorem dX0_givenTo_7 : decode cX0_givenTo 7 = .ok (.bipush (-9), 2) := by decide +kernel
theorem dX0_givenTo_9 : decode cX0_givenTo 9 = .ok (.invokevirtual 79, 3) := by decide +kernel
theorem dX0_givenTo_12 : decode cX0_givenTo 12 = .ok (.iload_n 3, 1) := by decide +kernel
theorem dX0_givenTo_13 : decode cX0_givenTo 13 = .ok (.invokestatic 69, 3) := by decide +kernel
theorem dX0_givenTo_16 : decode cX0_givenTo 16 = .ok (.ifCond .eq 12, 3) := by decide +kernel
theorem dX0_givenTo_19 : decode cX0_givenTo 19 = .ok (.aload_n 0, 1) := by decide +kernel
theorem dX0_givenTo_20 : decode cX0_givenTo 20 = .ok (.getfield 21, 3) := by decide +kernel
theorem dX0_givenTo_23 : decode cX0_givenTo 23 = .ok (.iload_n 3, 1) := by decide +kernel
theorem dX0_givenTo_24 : decode cX0_givenTo 24 = .ok (.iaload, 1) := by decide +kernel
theorem dX0_givenTo_25 : decode cX0_givenTo 25 = .ok (.goto 4, 3) := by decide +kernel
theorem dX0_givenTo_28 : decode cX0_givenTo 28 = .ok (.iconst 0, 1) := by decide +kernel
theorem dX0_givenTo_29 : decode cX0_givenTo 29 = .ok (.ireturn, 1) := by decide +kernel
theorem dX0_earnedBy_0 : decode cX0_earnedBy 0 = .ok (.aload_n 0, 1) := by decide +kernel
theorem dX0_earnedBy_1 : decode cX0_earnedBy 1 = .ok (.invokevirtual 76, 3) := by decide +kernel
theorem dX0_earnedBy_4 : decode cX0_earnedBy 4 = .ok (.aload_n 0, 1) := by decide +kernel
theorem dX0_earnedBy_5 : decode cX0_earnedBy 5 = .ok (.aload_n 1, 1) := by decide +kernel
theorem dX0_earnedBy_6 : decode cX0_earnedBy 6 = .ok (.iload_n 2, 1) := by decide +kernel
theorem dX0_earnedBy_7 : decode cX0_earnedBy 7 = .ok (.bipush (-9), 2) := by decide +kernel
theorem dX0_earnedBy_9 : decode cX0_earnedBy 9 = .ok (.invokevirtual 79, 3) := by decide +kernel
theorem dX0_earnedBy_12 : decode cX0_earnedBy 12 = .ok (.aload_n 0, 1) := by decide +kernel
theorem dX0_earnedBy_13 : decode cX0_earnedBy 13 = .ok (.aload_n 1, 1) := by decide +kernel
theorem dX0_earnedBy_14 : decode cX0_earnedBy 14 = .ok (.iload_n 2, 1) := by decide +kernel
theorem dX0_earnedBy_15 : decode cX0_earnedBy 15 = .ok (.invokevirtual 83, 3) := by decide +kernel
theorem dX0_earnedBy_18 : decode cX0_earnedBy 18 = .ok (.lreturn, 1) := by decide +kernel
theorem dX0_earnedWithNephew_0 : decode cX0_earnedWithNephew 0 = .ok (.aload_n 0, 1) := by decide +kernel
theorem dX0_earnedWithNephew_1 : decode cX0_earnedWithNephew 1 = .ok (.invokevirtual 76, 3) := by decide +kernel
theorem dX0_earnedWithNephew_4 : decode cX0_earnedWithNephew 4 = .ok (.iload_n 3, 1) := by decide +kernel
theorem dX0_earnedWithNephew_5 : decode cX0_earnedWithNephew 5 = .ok (.invokestatic 69, 3) := by decide +kernel
theorem dX0_earnedWithNephew_8 : decode cX0_earnedWithNephew 8 = .ok (.ifCond .eq 11, 3) := by decide +kernel
theorem dX0_earnedWithNephew_11 : decode cX0_earnedWithNephew 11 = .ok (.aload_n 0, 1) := by decide +kernel
theorem dX0_earnedWithNephew_12 : decode cX0_earnedWithNephew 12 = .ok (.getfield 21, 3) := by decide +kernel
theorem dX0_earnedWithNephew_15 : decode cX0_earnedWithNephew 15 = .ok (.iload_n 3, 1) := by decide +kernel
theorem dX0_earnedWithNephew_16 : decode cX0_earnedWithNephew 16 = .ok (.iload 4, 2) := by decide +kernel
theorem dX0_earnedWithNephew_18 : decode cX0_earnedWithNephew 18 = .ok (.iastore, 1) := by decide +kernel
theorem dX0_earnedWithNephew_19 : decode cX0_earnedWithNephew 19 = .ok (.aload_n 0, 1) := by decide +kernel
theorem dX0_earnedWithNephew_20 : decode cX0_earnedWithNephew 20 = .ok (.aload_n 1, 1) := by decide +kernel
theorem dX0_earnedWithNephew_21 : decode cX0_earnedWithNephew 21 = .ok (.iload_n 2, 1) := by decide +kernel
theorem dX0_earnedWithNephew_22 : decode cX0_earnedWithNephew 22 = .ok (.iload 4, 2) := by decide +kernel
theorem dX0_earnedWithNephew_24 : decode cX0_earnedWithNephew 24 = .ok (.isub, 1) := by decide +kernel
theorem dX0_earnedWithNephew_25 : decode cX0_earnedWithNephew 25 = .ok (.iload_n 3, 1) := by decide +kernel
theorem dX0_earnedWithNephew_26 : decode cX0_earnedWithNephew 26 = .ok (.invokevirtual 79, 3) := by decide +kernel
theorem dX0_earnedWithNephew_29 : decode cX0_earnedWithNephew 29 = .ok (.aload_n 0, 1) := by decide +kernel
theorem dX0_earnedWithNephew_30 : decode cX0_earnedWithNephew 30 = .ok (.aload_n 1, 1) := by decide +kernel
theorem dX0_earnedWithNephew_31 : decode cX0_earnedWithNephew 31 = .ok (.iload_n 2, 1) := by decide +kernel
theorem dX0_earnedWithNephew_32 : decode cX0_earnedWithNephew 32 = .ok (.invokevirtual 83, 3) := by decide +kernel
theorem dX0_earnedWithNephew_35 : decode cX0_earnedWithNephew 35 = .ok (.lreturn, 1) := by decide +kernel
theorem dX0_bestPrint_0 : decode cX0_bestPrint 0 = .ok (.aload_n 0, 1) := by decide +kernel
theorem dX0_bestPrint_1 : decode cX0_bestPrint 1 = .ok (.invokevirtual 76, 3) := by decide +kernel
theorem dX0_bestPrint_4 : decode cX0_bestPrint 4 = .ok (.iconst 0, 1) := by decide +kernel
theorem dX0_bestPrint_5 : decode cX0_bestPrint 5 = .ok (.istore_n 2, 1) := by decide +kernel
theorem dX0_bestPrint_6 : decode cX0_bestPrint 6 = .ok (.aload_n 0, 1) := by decide +kernel
theorem dX0_bestPrint_7 : decode cX0_bestPrint 7 = .ok (.aload_n 1, 1) := by decide +kernel
theorem dX0_bestPrint_8 : decode cX0_bestPrint 8 = .ok (.iconst 0, 1) := by decide +kernel
theorem dX0_bestPrint_9 : decode cX0_bestPrint 9 = .ok (.invokevirtual 83, 3) := by decide +kernel
theorem dX0_bestPrint_12 : decode cX0_bestPrint 12 = .ok (.lstore_n 3, 1) := by decide +kernel
theorem dX0_bestPrint_13 : decode cX0_bestPrint 13 = .ok (.iconst 1, 1) := by decide +kernel
theorem dX0_bestPrint_14 : decode cX0_bestPrint 14 = .ok (.istore 5, 2) := by decide +kernel
theorem dX0_bestPrint_16 : decode cX0_bestPrint 16 = .ok (.iload 5, 2) := by decide +kernel
theorem dX0_bestPrint_18 : decode cX0_bestPrint 18 = .ok (.bipush 60, 2) := by decide +kernel
theorem dX0_bestPrint_20 : decode cX0_bestPrint 20 = .ok (.if_icmp .gt 38, 3) := by decide +kernel
theorem dX0_bestPrint_23 : decode cX0_bestPrint 23 = .ok (.aload_n 0, 1) := by decide +kernel
theorem dX0_bestPrint_24 : decode cX0_bestPrint 24 = .ok (.aload_n 1, 1) := by decide +kernel
theorem dX0_bestPrint_25 : decode cX0_bestPrint 25 = .ok (.bipush (-9), 2) := by decide +kernel
theorem dX0_bestPrint_27 : decode cX0_bestPrint 27 = .ok (.invokevirtual 87, 3) := by decide +kernel
theorem dX0_bestPrint_30 : decode cX0_bestPrint 30 = .ok (.aload_n 0, 1) := by decide +kernel
theorem dX0_bestPrint_31 : decode cX0_bestPrint 31 = .ok (.aload_n 1, 1) := by decide +kernel
theorem dX0_bestPrint_32 : decode cX0_bestPrint 32 = .ok (.iload 5, 2) := by decide +kernel
theorem dX0_bestPrint_34 : decode cX0_bestPrint 34 = .ok (.invokevirtual 83, 3) := by decide +kernel
theorem dX0_bestPrint_37 : decode cX0_bestPrint 37 = .ok (.lstore 6, 2) := by decide +kernel
theorem dX0_bestPrint_39 : decode cX0_bestPrint 39 = .ok (.lload 6, 2) := by decide +kernel
theorem dX0_bestPrint_41 : decode cX0_bestPrint 41 = .ok (.lload_n 3, 1) := by decide +kernel
theorem dX0_bestPrint_42 : decode cX0_bestPrint 42 = .ok (.lcmp, 1) := by decide +kernel
theorem dX0_bestPrint_43 : decode cX0_bestPrint 43 = .ok (.ifCond .le 9, 3) := by decide +kernel
theorem dX0_bestPrint_46 : decode cX0_bestPrint 46 = .ok (.lload 6, 2) := by decide +kernel
theorem dX0_bestPrint_48 : decode cX0_bestPrint 48 = .ok (.lstore_n 3, 1) := by decide +kernel
theorem dX0_bestPrint_49 : decode cX0_bestPrint 49 = .ok (.iload 5, 2) := by decide +kernel
theorem dX0_bestPrint_51 : decode cX0_bestPrint 51 = .ok (.istore_n 2, 1) := by decide +kernel
theorem dX0_bestPrint_52 : decode cX0_bestPrint 52 = .ok (.iinc 5 1, 3) := by decide +kernel
theorem dX0_bestPrint_55 : decode cX0_bestPrint 55 = .ok (.goto (-39), 3) := by decide +kernel
theorem dX0_bestPrint_58 : decode cX0_bestPrint 58 = .ok (.iload_n 2, 1) := by decide +kernel
theorem dX0_bestPrint_59 : decode cX0_bestPrint 59 = .ok (.ireturn, 1) := by decide +kernel
theorem dX0_giveNone_0 : decode cX0_giveNone 0 = .ok (.aload_n 0, 1) := by decide +kernel
theorem dX0_giveNone_1 : decode cX0_giveNone 1 = .ok (.getfield 21, 3) := by decide +kernel
theorem dX0_giveNone_4 : decode cX0_giveNone 4 = .ok (.iconst 0, 1) := by decide +kernel
theorem dX0_giveNone_5 : decode cX0_giveNone 5 = .ok (.invokestatic 91, 3) := by decide +kernel
theorem dX0_giveNone_8 : decode cX0_giveNone 8 = .ok (.return_, 1) := by decide +kernel
theorem dX0_giveAll_0 : decode cX0_giveAll 0 = .ok (.iconst 0, 1) := by decide +kernel
theorem dX0_giveAll_1 : decode cX0_giveAll 1 = .ok (.istore 4, 2) := by decide +kernel
theorem dX0_giveAll_3 : decode cX0_giveAll 3 = .ok (.iload 4, 2) := by decide +kernel
theorem dX0_giveAll_5 : decode cX0_giveAll 5 = .ok (.iload_n 2, 1) := by decide +kernel
theorem dX0_giveAll_6 : decode cX0_giveAll 6 = .ok (.if_icmp .ge 15, 3) := by decide +kernel
theorem dX0_giveAll_9 : decode cX0_giveAll 9 = .ok (.aload_n 0, 1) := by decide +kernel
theorem dX0_giveAll_10 : decode cX0_giveAll 10 = .ok (.aload_n 1, 1) := by decide +kernel
theorem dX0_giveAll_11 : decode cX0_giveAll 11 = .ok (.iload_n 3, 1) := by decide +kernel
theorem dX0_giveAll_12 : decode cX0_giveAll 12 = .ok (.invokevirtual 87, 3) := by decide +kernel
theorem dX0_giveAll_15 : decode cX0_giveAll 15 = .ok (.iinc 4 1, 3) := by decide +kernel
theorem dX0_giveAll_18 : decode cX0_giveAll 18 = .ok (.goto (-15), 3) := by decide +kernel
theorem dX0_giveAll_21 : decode cX0_giveAll 21 = .ok (.return_, 1) := by decide +kernel
theorem dX0_giveOne_0 : decode cX0_giveOne 0 = .ok (.bipush (-9), 2) := by decide +kernel
theorem dX0_giveOne_2 : decode cX0_giveOne 2 = .ok (.istore_n 3, 1) := by decide +kernel
theorem dX0_giveOne_3 : decode cX0_giveOne 3 = .ok (.iconst 0, 1) := by decide +kernel
theorem dX0_giveOne_4 : decode cX0_giveOne 4 = .ok (.istore 4, 2) := by decide +kernel
theorem dX0_giveOne_6 : decode cX0_giveOne 6 = .ok (.iload 4, 2) := by decide +kernel
theorem dX0_giveOne_8 : decode cX0_giveOne 8 = .ok (.aload_n 1, 1) := by decide +kernel
theorem dX0_giveOne_9 : decode cX0_giveOne 9 = .ok (.getfield 43, 3) := by decide +kernel
theorem dX0_giveOne_12 : decode cX0_giveOne 12 = .ok (.if_icmp .ge 59, 3) := by decide +kernel
theorem dX0_giveOne_15 : decode cX0_giveOne 15 = .ok (.iload 4, 2) := by decide +kernel
theorem dX0_giveOne_17 : decode cX0_giveOne 17 = .ok (.iconst 3, 1) := by decide +kernel
theorem dX0_giveOne_18 : decode cX0_giveOne 18 = .ok (.if_icmp .ge 53, 3) := by decide +kernel
theorem dX0_giveOne_21 : decode cX0_giveOne 21 = .ok (.iload 4, 2) := by decide +kernel
theorem dX0_giveOne_23 : decode cX0_giveOne 23 = .ok (.iload_n 2, 1) := by decide +kernel
theorem dX0_giveOne_24 : decode cX0_giveOne 24 = .ok (.if_icmp .eq 41, 3) := by decide +kernel
theorem dX0_giveOne_27 : decode cX0_giveOne 27 = .ok (.iload_n 3, 1) := by decide +kernel
theorem dX0_giveOne_28 : decode cX0_giveOne 28 = .ok (.invokestatic 69, 3) := by decide +kernel
theorem dX0_giveOne_31 : decode cX0_giveOne 31 = .ok (.ifCond .eq 31, 3) := by decide +kernel
theorem dX0_giveOne_34 : decode cX0_giveOne 34 = .ok (.aload_n 0, 1) := by decide +kernel
theorem dX0_giveOne_35 : decode cX0_giveOne 35 = .ok (.iload 4, 2) := by decide +kernel
theorem dX0_giveOne_37 : decode cX0_giveOne 37 = .ok (.aload_n 0, 1) := by decide +kernel
theorem dX0_giveOne_38 : decode cX0_giveOne 38 = .ok (.getfield 21, 3) := by decide +kernel
theorem dX0_giveOne_41 : decode cX0_giveOne 41 = .ok (.iload 4, 2) := by decide +kernel
theorem dX0_giveOne_43 : decode cX0_giveOne 43 = .ok (.iaload, 1) := by decide +kernel
theorem dX0_giveOne_44 : decode cX0_giveOne 44 = .ok (.invokevirtual 94, 3) := by decide +kernel
theorem dX0_giveOne_47 : decode cX0_giveOne 47 = .ok (.aload_n 0, 1) := by decide +kernel
theorem dX0_giveOne_48 : decode cX0_giveOne 48 = .ok (.iload_n 3, 1) := by decide +kernel
theorem dX0_giveOne_49 : decode cX0_giveOne 49 = .ok (.aload_n 0, 1) := by decide +kernel
theorem dX0_giveOne_50 : decode cX0_giveOne 50 = .ok (.getfield 21, 3) := by decide +kernel
theorem dX0_giveOne_53 : decode cX0_giveOne 53 = .ok (.iload_n 3, 1) := by decide +kernel
theorem dX0_giveOne_54 : decode cX0_giveOne 54 = .ok (.iaload, 1) := by decide +kernel
theorem dX0_giveOne_55 : decode cX0_giveOne 55 = .ok (.invokevirtual 94, 3) := by decide +kernel
theorem dX0_giveOne_58 : decode cX0_giveOne 58 = .ok (.lcmp, 1) := by decide +kernel
theorem dX0_giveOne_59 : decode cX0_giveOne 59 = .ok (.ifCond .le 6, 3) := by decide +kernel
theorem dX0_giveOne_62 : decode cX0_giveOne 62 = .ok (.iload 4, 2) := by decide +kernel
theorem dX0_giveOne_64 : decode cX0_giveOne 64 = .ok (.istore_n 3, 1) := by decide +kernel
theorem dX0_giveOne_65 : decode cX0_giveOne 65 = .ok (.iinc 4 1, 3) := by decide +kernel
theorem dX0_giveOne_68 : decode cX0_giveOne 68 = .ok (.goto (-62), 3) := by decide +kernel
theorem dX0_giveOne_71 : decode cX0_giveOne 71 = .ok (.iload_n 3, 1) := by decide +kernel
theorem dX0_giveOne_72 : decode cX0_giveOne 72 = .ok (.invokestatic 69, 3) := by decide +kernel
theorem dX0_giveOne_75 : decode cX0_giveOne 75 = .ok (.ifCond .eq 13, 3) := by decide +kernel
theorem dX0_giveOne_78 : decode cX0_giveOne 78 = .ok (.aload_n 0, 1) := by decide +kernel
theorem dX0_giveOne_79 : decode cX0_giveOne 79 = .ok (.getfield 21, 3) := by decide +kernel
theorem dX0_giveOne_82 : decode cX0_giveOne 82 = .ok (.iload_n 3, 1) := by decide +kernel
theorem dX0_giveOne_83 : decode cX0_giveOne 83 = .ok (.dup2, 1) := by decide +kernel
theorem dX0_giveOne_84 : decode cX0_giveOne 84 = .ok (.iaload, 1) := by decide +kernel
theorem dX0_giveOne_85 : decode cX0_giveOne 85 = .ok (.iconst 1, 1) := by decide +kernel
theorem dX0_giveOne_86 : decode cX0_giveOne 86 = .ok (.iadd, 1) := by decide +kernel
theorem dX0_giveOne_87 : decode cX0_giveOne 87 = .ok (.iastore, 1) := by decide +kernel
theorem dX0_giveOne_88 : decode cX0_giveOne 88 = .ok (.return_, 1) := by decide +kernel
theorem dX0_earnedAsGiven_0 : decode cX0_earnedAsGiven 0 = .ok (.lconst 0, 1) := by decide +kernel
theorem dX0_earnedAsGiven_1 : decode cX0_earnedAsGiven 1 = .ok (.lstore_n 3, 1) := by decide +kernel
theorem dX0_earnedAsGiven_2 : decode cX0_earnedAsGiven 2 = .ok (.iconst 0, 1) := by decide +kernel
theorem dX0_earnedAsGiven_3 : decode cX0_earnedAsGiven 3 = .ok (.istore 5, 2) := by decide +kernel
theorem dX0_earnedAsGiven_5 : decode cX0_earnedAsGiven 5 = .ok (.iload 5, 2) := by decide +kernel
theorem dX0_earnedAsGiven_7 : decode cX0_earnedAsGiven 7 = .ok (.aload_n 1, 1) := by decide +kernel
theorem dX0_earnedAsGiven_8 : decode cX0_earnedAsGiven 8 = .ok (.getfield 43, 3) := by decide +kernel
theorem dX0_earnedAsGiven_11 : decode cX0_earnedAsGiven 11 = .ok (.if_icmp .ge 31, 3) := by decide +kernel
theorem dX0_earnedAsGiven_14 : decode cX0_earnedAsGiven 14 = .ok (.iload 5, 2) := by decide +kernel
theorem dX0_earnedAsGiven_16 : decode cX0_earnedAsGiven 16 = .ok (.iconst 3, 1) := by decide +kernel
theorem dX0_earnedAsGiven_17 : decode cX0_earnedAsGiven 17 = .ok (.if_icmp .ge 25, 3) := by decide +kernel
theorem dX0_earnedAsGiven_20 : decode cX0_earnedAsGiven 20 = .ok (.lload_n 3, 1) := by decide +kernel
theorem dX0_earnedAsGiven_21 : decode cX0_earnedAsGiven 21 = .ok (.aload_n 0, 1) := by decide +kernel
theorem dX0_earnedAsGiven_22 : decode cX0_earnedAsGiven 22 = .ok (.iload 5, 2) := by decide +kernel
theorem dX0_earnedAsGiven_24 : decode cX0_earnedAsGiven 24 = .ok (.aload_n 0, 1) := by decide +kernel
theorem dX0_earnedAsGiven_25 : decode cX0_earnedAsGiven 25 = .ok (.getfield 21, 3) := by decide +kernel
theorem dX0_earnedAsGiven_28 : decode cX0_earnedAsGiven 28 = .ok (.iload 5, 2) := by decide +kernel
theorem dX0_earnedAsGiven_30 : decode cX0_earnedAsGiven 30 = .ok (.iaload, 1) := by decide +kernel
theorem dX0_earnedAsGiven_31 : decode cX0_earnedAsGiven 31 = .ok (.invokevirtual 98, 3) := by decide +kernel
theorem dX0_earnedAsGiven_34 : decode cX0_earnedAsGiven 34 = .ok (.ladd, 1) := by decide +kernel
theorem dX0_earnedAsGiven_35 : decode cX0_earnedAsGiven 35 = .ok (.lstore_n 3, 1) := by decide +kernel
theorem dX0_earnedAsGiven_36 : decode cX0_earnedAsGiven 36 = .ok (.iinc 5 1, 3) := by decide +kernel
theorem dX0_earnedAsGiven_39 : decode cX0_earnedAsGiven 39 = .ok (.goto (-34), 3) := by decide +kernel
theorem dX0_earnedAsGiven_42 : decode cX0_earnedAsGiven 42 = .ok (.iload_n 2, 1) := by decide +kernel
theorem dX0_earnedAsGiven_43 : decode cX0_earnedAsGiven 43 = .ok (.i2l, 1) := by decide +kernel
theorem dX0_earnedAsGiven_44 : decode cX0_earnedAsGiven 44 = .ok (.aload_n 0, 1) := by decide +kernel
theorem dX0_earnedAsGiven_45 : decode cX0_earnedAsGiven 45 = .ok (.getfield 25, 3) := by decide +kernel
theorem dX0_earnedAsGiven_48 : decode cX0_earnedAsGiven 48 = .ok (.lmul, 1) := by decide +kernel
theorem dX0_earnedAsGiven_49 : decode cX0_earnedAsGiven 49 = .ok (.lload_n 3, 1) := by decide +kernel
theorem dX0_earnedAsGiven_50 : decode cX0_earnedAsGiven 50 = .ok (.lsub, 1) := by decide +kernel
theorem dX0_earnedAsGiven_51 : decode cX0_earnedAsGiven 51 = .ok (.lstore 5, 2) := by decide +kernel
theorem dX0_earnedAsGiven_53 : decode cX0_earnedAsGiven 53 = .ok (.lload_n 3, 1) := by decide +kernel
theorem dX0_earnedAsGiven_54 : decode cX0_earnedAsGiven 54 = .ok (.aload_n 1, 1) := by decide +kernel
theorem dX0_earnedAsGiven_55 : decode cX0_earnedAsGiven 55 = .ok (.getfield 101, 3) := by decide +kernel
theorem dX0_earnedAsGiven_58 : decode cX0_earnedAsGiven 58 = .ok (.i2l, 1) := by decide +kernel
theorem dX0_earnedAsGiven_59 : decode cX0_earnedAsGiven 59 = .ok (.lmul, 1) := by decide +kernel
theorem dX0_earnedAsGiven_60 : decode cX0_earnedAsGiven 60 = .ok (.lload 5, 2) := by decide +kernel
theorem dX0_earnedAsGiven_62 : decode cX0_earnedAsGiven 62 = .ok (.aload_n 1, 1) := by decide +kernel
theorem dX0_earnedAsGiven_63 : decode cX0_earnedAsGiven 63 = .ok (.getfield 104, 3) := by decide +kernel
theorem dX0_earnedAsGiven_66 : decode cX0_earnedAsGiven 66 = .ok (.i2l, 1) := by decide +kernel
theorem dX0_earnedAsGiven_67 : decode cX0_earnedAsGiven 67 = .ok (.lmul, 1) := by decide +kernel
theorem dX0_earnedAsGiven_68 : decode cX0_earnedAsGiven 68 = .ok (.ladd, 1) := by decide +kernel
theorem dX0_earnedAsGiven_69 : decode cX0_earnedAsGiven 69 = .ok (.iload_n 2, 1) := by decide +kernel
theorem dX0_earnedAsGiven_70 : decode cX0_earnedAsGiven 70 = .ok (.i2l, 1) := by decide +kernel
theorem dX0_earnedAsGiven_71 : decode cX0_earnedAsGiven 71 = .ok (.aload_n 0, 1) := by decide +kernel
theorem dX0_earnedAsGiven_72 : decode cX0_earnedAsGiven 72 = .ok (.getfield 25, 3) := by decide +kernel
theorem dX0_earnedAsGiven_75 : decode cX0_earnedAsGiven 75 = .ok (.lmul, 1) := by decide +kernel
theorem dX0_earnedAsGiven_76 : decode cX0_earnedAsGiven 76 = .ok (.aload_n 1, 1) := by decide +kernel
theorem dX0_earnedAsGiven_77 : decode cX0_earnedAsGiven 77 = .ok (.getfield 107, 3) := by decide +kernel
theorem dX0_earnedAsGiven_80 : decode cX0_earnedAsGiven 80 = .ok (.i2l, 1) := by decide +kernel
theorem dX0_earnedAsGiven_81 : decode cX0_earnedAsGiven 81 = .ok (.lmul, 1) := by decide +kernel
theorem dX0_earnedAsGiven_82 : decode cX0_earnedAsGiven 82 = .ok (.lsub, 1) := by decide +kernel
theorem dX0_earnedAsGiven_83 : decode cX0_earnedAsGiven 83 = .ok (.lreturn, 1) := by decide +kernel
theorem dX1_init_0 : decode cX1_init 0 = .ok (.aload_n 0, 1) := by decide +kernel
theorem dX1_init_1 : decode cX1_init 1 = .ok (.invokespecial 3, 3) := by decide +kernel
theorem dX1_init_4 : decode cX1_init 4 = .ok (.aload_n 0, 1) := by decide +kernel
theorem dX1_init_5 : decode cX1_init 5 = .ok (.iconst 3, 1) := by decide +kernel
theorem dX1_init_6 : decode cX1_init 6 = .ok (.newarray .int, 2) := by decide +kernel
theorem dX1_init_8 : decode cX1_init 8 = .ok (.putfield 9, 3) := by decide +kernel
theorem dX1_init_11 : decode cX1_init 11 = .ok (.aload_n 0, 1) := by decide +kernel
theorem dX1_init_12 : decode cX1_init 12 = .ok (.iconst 3, 1) := by decide +kernel
theorem dX1_init_13 : decode cX1_init 13 = .ok (.newarray .int, 2) := by decide +kernel
theorem dX1_init_15 : decode cX1_init 15 = .ok (.putfield 15, 3) := by decide +kernel
theorem dX1_init_18 : decode cX1_init 18 = .ok (.aload_n 0, 1) := by decide +kernel
theorem dX1_init_19 : decode cX1_init 19 = .ok (.iconst 3, 1) := by decide +kernel
theorem dX1_init_20 : decode cX1_init 20 = .ok (.newarray .int, 2) := by decide +kernel
theorem dX1_init_22 : decode cX1_init 22 = .ok (.putfield 18, 3) := by decide +kernel
theorem dX1_init_25 : decode cX1_init 25 = .ok (.aload_n 0, 1) := by decide +kernel
theorem dX1_init_26 : decode cX1_init 26 = .ok (.bipush 6, 2) := by decide +kernel
theorem dX1_init_28 : decode cX1_init 28 = .ok (.newarray .int, 2) := by decide +kernel
theorem dX1_init_30 : decode cX1_init 30 = .ok (.putfield 21, 3) := by decide +kernel
theorem dX1_init_33 : decode cX1_init 33 = .ok (.aload_n 0, 1) := by decide +kernel
theorem dX1_init_34 : decode cX1_init 34 = .ok (.bipush 6, 2) := by decide +kernel
theorem dX1_init_36 : decode cX1_init 36 = .ok (.newarray .int, 2) := by decide +kernel
theorem dX1_init_38 : decode cX1_init 38 = .ok (.putfield 24, 3) := by decide +kernel
theorem dX1_init_41 : decode cX1_init 41 = .ok (.aload_n 0, 1) := by decide +kernel
theorem dX1_init_42 : decode cX1_init 42 = .ok (.bipush 6, 2) := by decide +kernel
theorem dX1_init_44 : decode cX1_init 44 = .ok (.newarray .int, 2) := by decide +kernel
theorem dX1_init_46 : decode cX1_init 46 = .ok (.putfield 27, 3) := by decide +kernel
theorem dX1_init_49 : decode cX1_init 49 = .ok (.aload_n 0, 1) := by decide +kernel
theorem dX1_init_50 : decode cX1_init 50 = .ok (.invokevirtual 30, 3) := by decide +kernel
theorem dX1_init_53 : decode cX1_init 53 = .ok (.return_, 1) := by decide +kernel
theorem dX1_reset_0 : decode cX1_reset 0 = .ok (.aload_n 0, 1) := by decide +kernel
theorem dX1_reset_1 : decode cX1_reset 1 = .ok (.getfield 9, 3) := by decide +kernel
theorem dX1_reset_4 : decode cX1_reset 4 = .ok (.iconst 0, 1) := by decide +kernel
theorem dX1_reset_5 : decode cX1_reset 5 = .ok (.invokestatic 33, 3) := by decide +kernel
theorem dX1_reset_8 : decode cX1_reset 8 = .ok (.aload_n 0, 1) := by decide +kernel
theorem dX1_reset_9 : decode cX1_reset 9 = .ok (.getfield 15, 3) := by decide +kernel
theorem dX1_reset_12 : decode cX1_reset 12 = .ok (.iconst 5, 1) := by decide +kernel
theorem dX1_reset_13 : decode cX1_reset 13 = .ok (.invokestatic 33, 3) := by decide +kernel
theorem dX1_reset_16 : decode cX1_reset 16 = .ok (.aload_n 0, 1) := by decide +kernel
theorem dX1_reset_17 : decode cX1_reset 17 = .ok (.getfield 18, 3) := by decide +kernel
theorem dX1_reset_20 : decode cX1_reset 20 = .ok (.iconst 0, 1) := by decide +kernel
theorem dX1_reset_21 : decode cX1_reset 21 = .ok (.invokestatic 33, 3) := by decide +kernel
theorem dX1_reset_24 : decode cX1_reset 24 = .ok (.aload_n 0, 1) := by decide +kernel
theorem dX1_reset_25 : decode cX1_reset 25 = .ok (.iconst 0, 1) := by decide +kernel
theorem dX1_reset_26 : decode cX1_reset 26 = .ok (.putfield 39, 3) := by decide +kernel
theorem dX1_reset_29 : decode cX1_reset 29 = .ok (.aload_n 0, 1) := by decide +kernel
theorem dX1_reset_30 : decode cX1_reset 30 = .ok (.iconst 0, 1) := by decide +kernel
theorem dX1_reset_31 : decode cX1_reset 31 = .ok (.putfield 43, 3) := by decide +kernel
theorem dX1_reset_34 : decode cX1_reset 34 = .ok (.aload_n 0, 1) := by decide +kernel
theorem dX1_reset_35 : decode cX1_reset 35 = .ok (.iconst 0, 1) := by decide +kernel
theorem dX1_reset_36 : decode cX1_reset 36 = .ok (.putfield 46, 3) := by decide +kernel
theorem dX1_reset_39 : decode cX1_reset 39 = .ok (.aload_n 0, 1) := by decide +kernel
theorem dX1_reset_40 : decode cX1_reset 40 = .ok (.iconst 0, 1) := by decide +kernel
theorem dX1_reset_41 : decode cX1_reset 41 = .ok (.putfield 49, 3) := by decide +kernel
theorem dX1_reset_44 : decode cX1_reset 44 = .ok (.aload_n 0, 1) := by decide +kernel
theorem dX1_reset_45 : decode cX1_reset 45 = .ok (.iconst 0, 1) := by decide +kernel
theorem dX1_reset_46 : decode cX1_reset 46 = .ok (.putfield 52, 3) := by decide +kernel
theorem dX1_reset_49 : decode cX1_reset 49 = .ok (.return_, 1) := by decide +kernel
theorem dX1_copyFrom_0 : decode cX1_copyFrom 0 = .ok (.aload_n 1, 1) := by decide +kernel
theorem dX1_copyFrom_1 : decode cX1_copyFrom 1 = .ok (.getfield 9, 3) := by decide +kernel
theorem dX1_copyFrom_4 : decode cX1_copyFrom 4 = .ok (.iconst 0, 1) := by decide +kernel
theorem dX1_copyFrom_5 : decode cX1_copyFrom 5 = .ok (.aload_n 0, 1) := by decide +kernel
theorem dX1_copyFrom_6 : decode cX1_copyFrom 6 = .ok (.getfield 9, 3) := by decide +kernel
theorem dX1_copyFrom_9 : decode cX1_copyFrom 9 = .ok (.iconst 0, 1) := by decide +kernel
theorem dX1_copyFrom_10 : decode cX1_copyFrom 10 = .ok (.iconst 3, 1) := by decide +kernel
theorem dX1_copyFrom_11 : decode cX1_copyFrom 11 = .ok (.invokestatic 55, 3) := by decide +kernel
theorem dX1_copyFrom_14 : decode cX1_copyFrom 14 = .ok (.aload_n 1, 1) := by decide +kernel
theorem dX1_copyFrom_15 : decode cX1_copyFrom 15 = .ok (.getfield 15, 3) := by decide +kernel
theorem dX1_copyFrom_18 : decode cX1_copyFrom 18 = .ok (.iconst 0, 1) := by decide +kernel
theorem dX1_copyFrom_19 : decode cX1_copyFrom 19 = .ok (.aload_n 0, 1) := by decide +kernel
theorem dX1_copyFrom_20 : decode cX1_copyFrom 20 = .ok (.getfield 15, 3) := by decide +kernel
theorem dX1_copyFrom_23 : decode cX1_copyFrom 23 = .ok (.iconst 0, 1) := by decide +kernel
theorem dX1_copyFrom_24 : decode cX1_copyFrom 24 = .ok (.iconst 3, 1) := by decide +kernel
theorem dX1_copyFrom_25 : decode cX1_copyFrom 25 = .ok (.invokestatic 55, 3) := by decide +kernel
theorem dX1_copyFrom_28 : decode cX1_copyFrom 28 = .ok (.aload_n 1, 1) := by decide +kernel
theorem dX1_copyFrom_29 : decode cX1_copyFrom 29 = .ok (.getfield 18, 3) := by decide +kernel
theorem dX1_copyFrom_32 : decode cX1_copyFrom 32 = .ok (.iconst 0, 1) := by decide +kernel
theorem dX1_copyFrom_33 : decode cX1_copyFrom 33 = .ok (.aload_n 0, 1) := by decide +kernel
theorem dX1_copyFrom_34 : decode cX1_copyFrom 34 = .ok (.getfield 18, 3) := by decide +kernel
theorem dX1_copyFrom_37 : decode cX1_copyFrom 37 = .ok (.iconst 0, 1) := by decide +kernel
theorem dX1_copyFrom_38 : decode cX1_copyFrom 38 = .ok (.iconst 3, 1) := by decide +kernel
theorem dX1_copyFrom_39 : decode cX1_copyFrom 39 = .ok (.invokestatic 55, 3) := by decide +kernel
theorem dX1_copyFrom_42 : decode cX1_copyFrom 42 = .ok (.aload_n 1, 1) := by decide +kernel
theorem dX1_copyFrom_43 : decode cX1_copyFrom 43 = .ok (.getfield 21, 3) := by decide +kernel
theorem dX1_copyFrom_46 : decode cX1_copyFrom 46 = .ok (.iconst 0, 1) := by decide +kernel
theorem dX1_copyFrom_47 : decode cX1_copyFrom 47 = .ok (.aload_n 0, 1) := by decide +kernel
theorem dX1_copyFrom_48 : decode cX1_copyFrom 48 = .ok (.getfield 21, 3) := by decide +kernel
theorem dX1_copyFrom_51 : decode cX1_copyFrom 51 = .ok (.iconst 0, 1) := by decide +kernel
theorem dX1_copyFrom_52 : decode cX1_copyFrom 52 = .ok (.bipush 6, 2) := by decide +kernel
theorem dX1_copyFrom_54 : decode cX1_copyFrom 54 = .ok (.invokestatic 55, 3) := by decide +kernel
theorem dX1_copyFrom_57 : decode cX1_copyFrom 57 = .ok (.aload_n 1, 1) := by decide +kernel
theorem dX1_copyFrom_58 : decode cX1_copyFrom 58 = .ok (.getfield 24, 3) := by decide +kernel
theorem dX1_copyFrom_61 : decode cX1_copyFrom 61 = .ok (.iconst 0, 1) := by decide +kernel
theorem dX1_copyFrom_62 : decode cX1_copyFrom 62 = .ok (.aload_n 0, 1) := by decide +kernel
theorem dX1_copyFrom_63 : decode cX1_copyFrom 63 = .ok (.getfield 24, 3) := by decide +kernel
theorem dX1_copyFrom_66 : decode cX1_copyFrom 66 = .ok (.iconst 0, 1) := by decide +kernel
theorem dX1_copyFrom_67 : decode cX1_copyFrom 67 = .ok (.bipush 6, 2) := by decide +kernel
theorem dX1_copyFrom_69 : decode cX1_copyFrom 69 = .ok (.invokestatic 55, 3) := by decide +kernel
theorem dX1_copyFrom_72 : decode cX1_copyFrom 72 = .ok (.aload_n 1, 1) := by decide +kernel
theorem dX1_copyFrom_73 : decode cX1_copyFrom 73 = .ok (.getfield 27, 3) := by decide +kernel
theorem dX1_copyFrom_76 : decode cX1_copyFrom 76 = .ok (.iconst 0, 1) := by decide +kernel
theorem dX1_copyFrom_77 : decode cX1_copyFrom 77 = .ok (.aload_n 0, 1) := by decide +kernel
theorem dX1_copyFrom_78 : decode cX1_copyFrom 78 = .ok (.getfield 27, 3) := by decide +kernel
theorem dX1_copyFrom_81 : decode cX1_copyFrom 81 = .ok (.iconst 0, 1) := by decide +kernel
theorem dX1_copyFrom_82 : decode cX1_copyFrom 82 = .ok (.bipush 6, 2) := by decide +kernel
theorem dX1_copyFrom_84 : decode cX1_copyFrom 84 = .ok (.invokestatic 55, 3) := by decide +kernel
theorem dX1_copyFrom_87 : decode cX1_copyFrom 87 = .ok (.aload_n 0, 1) := by decide +kernel
theorem dX1_copyFrom_88 : decode cX1_copyFrom 88 = .ok (.aload_n 1, 1) := by decide +kernel
theorem dX1_copyFrom_89 : decode cX1_copyFrom 89 = .ok (.getfield 39, 3) := by decide +kernel
theorem dX1_copyFrom_92 : decode cX1_copyFrom 92 = .ok (.putfield 39, 3) := by decide +kernel
theorem dX1_copyFrom_95 : decode cX1_copyFrom 95 = .ok (.aload_n 0, 1) := by decide +kernel
theorem dX1_copyFrom_96 : decode cX1_copyFrom 96 = .ok (.aload_n 1, 1) := by decide +kernel
theorem dX1_copyFrom_97 : decode cX1_copyFrom 97 = .ok (.getfield 43, 3) := by decide +kernel
theorem dX1_copyFrom_100 : decode cX1_copyFrom 100 = .ok (.putfield 43, 3) := by decide +kernel
theorem dX1_copyFrom_103 : decode cX1_copyFrom 103 = .ok (.aload_n 0, 1) := by decide +kernel
theorem dX1_copyFrom_104 : decode cX1_copyFrom 104 = .ok (.aload_n 1, 1) := by decide +kernel
theorem dX1_copyFrom_105 : decode cX1_copyFrom 105 = .ok (.getfield 46, 3) := by decide +kernel
theorem dX1_copyFrom_108 : decode cX1_copyFrom 108 = .ok (.putfield 46, 3) := by decide +kernel
theorem dX1_copyFrom_111 : decode cX1_copyFrom 111 = .ok (.aload_n 0, 1) := by decide +kernel
theorem dX1_copyFrom_112 : decode cX1_copyFrom 112 = .ok (.aload_n 1, 1) := by decide +kernel
theorem dX1_copyFrom_113 : decode cX1_copyFrom 113 = .ok (.getfield 49, 3) := by decide +kernel
theorem dX1_copyFrom_116 : decode cX1_copyFrom 116 = .ok (.putfield 49, 3) := by decide +kernel
theorem dX1_copyFrom_119 : decode cX1_copyFrom 119 = .ok (.aload_n 0, 1) := by decide +kernel
theorem dX1_copyFrom_120 : decode cX1_copyFrom 120 = .ok (.aload_n 1, 1) := by decide +kernel
theorem dX1_copyFrom_121 : decode cX1_copyFrom 121 = .ok (.getfield 52, 3) := by decide +kernel
theorem dX1_copyFrom_124 : decode cX1_copyFrom 124 = .ok (.putfield 52, 3) := by decide +kernel
theorem dX1_copyFrom_127 : decode cX1_copyFrom 127 = .ok (.return_, 1) := by decide +kernel
theorem dX1_isRule_0 : decode cX1_isRule 0 = .ok (.iload_n 0, 1) := by decide +kernel
theorem dX1_isRule_1 : decode cX1_isRule 1 = .ok (.tableswitch 59 0 2 #[27, 37, 54], 27) := by decide +kernel
theorem dX1_isRule_28 : decode cX1_isRule 28 = .ok (.iload_n 1, 1) := by decide +kernel
theorem dX1_isRule_29 : decode cX1_isRule 29 = .ok (.ifCond .ne 7, 3) := by decide +kernel
theorem dX1_isRule_32 : decode cX1_isRule 32 = .ok (.iconst 1, 1) := by decide +kernel
theorem dX1_isRule_33 : decode cX1_isRule 33 = .ok (.goto 4, 3) := by decide +kernel
theorem dX1_isRule_36 : decode cX1_isRule 36 = .ok (.iconst 0, 1) := by decide +kernel
theorem dX1_isRule_37 : decode cX1_isRule 37 = .ok (.ireturn, 1) := by decide +kernel
theorem dX1_isRule_38 : decode cX1_isRule 38 = .ok (.iload_n 1, 1) := by decide +kernel
theorem dX1_isRule_39 : decode cX1_isRule 39 = .ok (.iconst 1, 1) := by decide +kernel
theorem dX1_isRule_40 : decode cX1_isRule 40 = .ok (.if_icmp .lt 13, 3) := by decide +kernel
theorem dX1_isRule_43 : decode cX1_isRule 43 = .ok (.iload_n 1, 1) := by decide +kernel
theorem dX1_isRule_44 : decode cX1_isRule 44 = .ok (.bipush 20, 2) := by decide +kernel
theorem dX1_isRule_46 : decode cX1_isRule 46 = .ok (.if_icmp .gt 7, 3) := by decide +kernel
theorem dX1_isRule_49 : decode cX1_isRule 49 = .ok (.iconst 1, 1) := by decide +kernel
theorem dX1_isRule_50 : decode cX1_isRule 50 = .ok (.goto 4, 3) := by decide +kernel
theorem dX1_isRule_53 : decode cX1_isRule 53 = .ok (.iconst 0, 1) := by decide +kernel
theorem dX1_isRule_54 : decode cX1_isRule 54 = .ok (.ireturn, 1) := by decide +kernel
theorem dX1_isRule_55 : decode cX1_isRule 55 = .ok (.iload_n 1, 1) := by decide +kernel
theorem dX1_isRule_56 : decode cX1_isRule 56 = .ok (.invokestatic 61, 3) := by decide +kernel
theorem dX1_isRule_59 : decode cX1_isRule 59 = .ok (.ireturn, 1) := by decide +kernel
theorem dX1_isRule_60 : decode cX1_isRule 60 = .ok (.iconst 0, 1) := by decide +kernel
theorem dX1_isRule_61 : decode cX1_isRule 61 = .ok (.ireturn, 1) := by decide +kernel
theorem dX1_givesAt_0 : decode cX1_givesAt 0 = .ok (.iload_n 1, 1) := by decide +kernel
theorem dX1_givesAt_1 : decode cX1_givesAt 1 = .ok (.invokestatic 65, 3) := by decide +kernel
theorem dX1_givesAt_4 : decode cX1_givesAt 4 = .ok (.ifCond .eq 12, 3) := by decide +kernel
theorem dX1_givesAt_7 : decode cX1_givesAt 7 = .ok (.aload_n 0, 1) := by decide +kernel
theorem dX1_givesAt_8 : decode cX1_givesAt 8 = .ok (.getfield 9, 3) := by decide +kernel
theorem dX1_givesAt_11 : decode cX1_givesAt 11 = .ok (.iload_n 1, 1) := by decide +kernel
theorem dX1_givesAt_12 : decode cX1_givesAt 12 = .ok (.iaload, 1) := by decide +kernel
theorem dX1_givesAt_13 : decode cX1_givesAt 13 = .ok (.goto 4, 3) := by decide +kernel
theorem dX1_givesAt_16 : decode cX1_givesAt 16 = .ok (.iconst 0, 1) := by decide +kernel
theorem dX1_givesAt_17 : decode cX1_givesAt 17 = .ok (.ireturn, 1) := by decide +kernel
theorem dX1_habitAt_0 : decode cX1_habitAt 0 = .ok (.iload_n 1, 1) := by decide +kernel
theorem dX1_habitAt_1 : decode cX1_habitAt 1 = .ok (.invokestatic 65, 3) := by decide +kernel
theorem dX1_habitAt_4 : decode cX1_habitAt 4 = .ok (.ifCond .eq 12, 3) := by decide +kernel
theorem dX1_habitAt_7 : decode cX1_habitAt 7 = .ok (.aload_n 0, 1) := by decide +kernel
theorem dX1_habitAt_8 : decode cX1_habitAt 8 = .ok (.getfield 15, 3) := by decide +kernel
theorem dX1_habitAt_11 : decode cX1_habitAt 11 = .ok (.iload_n 1, 1) := by decide +kernel
theorem dX1_habitAt_12 : decode cX1_habitAt 12 = .ok (.iaload, 1) := by decide +kernel
theorem dX1_habitAt_13 : decode cX1_habitAt 13 = .ok (.goto 4, 3) := by decide +kernel
theorem dX1_habitAt_16 : decode cX1_habitAt 16 = .ok (.iconst 0, 1) := by decide +kernel
theorem dX1_habitAt_17 : decode cX1_habitAt 17 = .ok (.ireturn, 1) := by decide +kernel
theorem dX1_isMoreTold_0 : decode cX1_isMoreTold 0 = .ok (.iload_n 1, 1) := by decide +kernel
theorem dX1_isMoreTold_1 : decode cX1_isMoreTold 1 = .ok (.invokestatic 65, 3) := by decide +kernel
theorem dX1_isMoreTold_4 : decode cX1_isMoreTold 4 = .ok (.ifCond .eq 28, 3) := by decide +kernel
theorem dX1_isMoreTold_7 : decode cX1_isMoreTold 7 = .ok (.iload_n 2, 1) := by decide +kernel
theorem dX1_isMoreTold_8 : decode cX1_isMoreTold 8 = .ok (.invokestatic 61, 3) := by decide +kernel
theorem dX1_isMoreTold_11 : decode cX1_isMoreTold 11 = .ok (.ifCond .eq 21, 3) := by decide +kernel
theorem dX1_isMoreTold_14 : decode cX1_isMoreTold 14 = .ok (.aload_n 0, 1) := by decide +kernel
theorem dX1_isMoreTold_15 : decode cX1_isMoreTold 15 = .ok (.getfield 18, 3) := by decide +kernel
theorem dX1_isMoreTold_18 : decode cX1_isMoreTold 18 = .ok (.iload_n 1, 1) := by decide +kernel
theorem dX1_isMoreTold_19 : decode cX1_isMoreTold 19 = .ok (.iaload, 1) := by decide +kernel
theorem dX1_isMoreTold_20 : decode cX1_isMoreTold 20 = .ok (.iload_n 2, 1) := by decide +kernel
theorem dX1_isMoreTold_21 : decode cX1_isMoreTold 21 = .ok (.ishr, 1) := by decide +kernel
theorem dX1_isMoreTold_22 : decode cX1_isMoreTold 22 = .ok (.iconst 1, 1) := by decide +kernel
theorem dX1_isMoreTold_23 : decode cX1_isMoreTold 23 = .ok (.iand, 1) := by decide +kernel
theorem dX1_isMoreTold_24 : decode cX1_isMoreTold 24 = .ok (.iconst 1, 1) := by decide +kernel
theorem dX1_isMoreTold_25 : decode cX1_isMoreTold 25 = .ok (.if_icmp .ne 7, 3) := by decide +kernel
theorem dX1_isMoreTold_28 : decode cX1_isMoreTold 28 = .ok (.iconst 1, 1) := by decide +kernel
theorem dX1_isMoreTold_29 : decode cX1_isMoreTold 29 = .ok (.goto 4, 3) := by decide +kernel
theorem dX1_isMoreTold_32 : decode cX1_isMoreTold 32 = .ok (.iconst 0, 1) := by decide +kernel
theorem dX1_isMoreTold_33 : decode cX1_isMoreTold 33 = .ok (.ireturn, 1) := by decide +kernel
theorem dX1_setGives_0 : decode cX1_setGives 0 = .ok (.aload_n 0, 1) := by decide +kernel
theorem dX1_setGives_1 : decode cX1_setGives 1 = .ok (.iload_n 1, 1) := by decide +kernel
theorem dX1_setGives_2 : decode cX1_setGives 2 = .ok (.invokevirtual 68, 3) := by decide +kernel
theorem dX1_setGives_5 : decode cX1_setGives 5 = .ok (.istore_n 3, 1) := by decide +kernel
theorem dX1_setGives_6 : decode cX1_setGives 6 = .ok (.iload_n 1, 1) := by decide +kernel
theorem dX1_setGives_7 : decode cX1_setGives 7 = .ok (.invokestatic 65, 3) := by decide +kernel
theorem dX1_setGives_10 : decode cX1_setGives 10 = .ok (.ifCond .eq 10, 3) := by decide +kernel
theorem dX1_setGives_13 : decode cX1_setGives 13 = .ok (.aload_n 0, 1) := by decide +kernel
theorem dX1_setGives_14 : decode cX1_setGives 14 = .ok (.getfield 9, 3) := by decide +kernel
theorem dX1_setGives_17 : decode cX1_setGives 17 = .ok (.iload_n 1, 1) := by decide +kernel
theorem dX1_setGives_18 : decode cX1_setGives 18 = .ok (.iload_n 2, 1) := by decide +kernel
theorem dX1_setGives_19 : decode cX1_setGives 19 = .ok (.iastore, 1) := by decide +kernel
theorem dX1_setGives_20 : decode cX1_setGives 20 = .ok (.iload_n 3, 1) := by decide +kernel
theorem dX1_setGives_21 : decode cX1_setGives 21 = .ok (.ireturn, 1) := by decide +kernel
theorem dX1_setMore_0 : decode cX1_setMore 0 = .ok (.iload_n 1, 1) := by decide +kernel
theorem dX1_setMore_1 : decode cX1_setMore 1 = .ok (.invokestatic 65, 3) := by decide +kernel
theorem dX1_setMore_4 : decode cX1_setMore 4 = .ok (.ifCond .ne 5, 3) := by decide +kernel
theorem dX1_setMore_7 : decode cX1_setMore 7 = .ok (.iconst 0, 1) := by decide +kernel
theorem dX1_setMore_8 : decode cX1_setMore 8 = .ok (.ireturn, 1) := by decide +kernel
theorem dX1_setMore_9 : decode cX1_setMore 9 = .ok (.aload_n 0, 1) := by decide +kernel
theorem dX1_setMore_10 : decode cX1_setMore 10 = .ok (.getfield 18, 3) := by decide +kernel
theorem dX1_setMore_13 : decode cX1_setMore 13 = .ok (.iload_n 1, 1) := by decide +kernel
theorem dX1_setMore_14 : decode cX1_setMore 14 = .ok (.iaload, 1) := by decide +kernel
theorem dX1_setMore_15 : decode cX1_setMore 15 = .ok (.istore_n 3, 1) := by decide +kernel
theorem dX1_setMore_16 : decode cX1_setMore 16 = .ok (.aload_n 0, 1) := by decide +kernel
theorem dX1_setMore_17 : decode cX1_setMore 17 = .ok (.getfield 18, 3) := by decide +kernel
theorem dX1_setMore_20 : decode cX1_setMore 20 = .ok (.iload_n 1, 1) := by decide +kernel
theorem dX1_setMore_21 : decode cX1_setMore 21 = .ok (.iload_n 2, 1) := by decide +kernel
theorem dX1_setMore_22 : decode cX1_setMore 22 = .ok (.iastore, 1) := by decide +kernel
theorem dX1_setMore_23 : decode cX1_setMore 23 = .ok (.iload_n 3, 1) := by decide +kernel
theorem dX1_setMore_24 : decode cX1_setMore 24 = .ok (.ireturn, 1) := by decide +kernel
theorem dX1_addOrder_0 : decode cX1_addOrder 0 = .ok (.aload_n 0, 1) := by decide +kernel
theorem dX1_addOrder_1 : decode cX1_addOrder 1 = .ok (.getfield 52, 3) := by decide +kernel
theorem dX1_addOrder_4 : decode cX1_addOrder 4 = .ok (.bipush 6, 2) := by decide +kernel
theorem dX1_addOrder_6 : decode cX1_addOrder 6 = .ok (.if_icmp .lt 5, 3) := by decide +kernel
theorem dX1_addOrder_9 : decode cX1_addOrder 9 = .ok (.iconst 0, 1) := by decide +kernel
theorem dX1_addOrder_10 : decode cX1_addOrder 10 = .ok (.ireturn, 1) := by decide +kernel
theorem dX1_addOrder_11 : decode cX1_addOrder 11 = .ok (.aload_n 0, 1) := by decide +kernel
theorem dX1_addOrder_12 : decode cX1_addOrder 12 = .ok (.getfield 21, 3) := by decide +kernel
theorem dX1_addOrder_15 : decode cX1_addOrder 15 = .ok (.aload_n 0, 1) := by decide +kernel
theorem dX1_addOrder_16 : decode cX1_addOrder 16 = .ok (.getfield 52, 3) := by decide +kernel
theorem dX1_addOrder_19 : decode cX1_addOrder 19 = .ok (.iload_n 1, 1) := by decide +kernel
theorem dX1_addOrder_20 : decode cX1_addOrder 20 = .ok (.iastore, 1) := by decide +kernel
theorem dX1_addOrder_21 : decode cX1_addOrder 21 = .ok (.aload_n 0, 1) := by decide +kernel
theorem dX1_addOrder_22 : decode cX1_addOrder 22 = .ok (.getfield 24, 3) := by decide +kernel
theorem dX1_addOrder_25 : decode cX1_addOrder 25 = .ok (.aload_n 0, 1) := by decide +kernel
theorem dX1_addOrder_26 : decode cX1_addOrder 26 = .ok (.getfield 52, 3) := by decide +kernel
theorem dX1_addOrder_29 : decode cX1_addOrder 29 = .ok (.iload_n 2, 1) := by decide +kernel
theorem dX1_addOrder_30 : decode cX1_addOrder 30 = .ok (.iastore, 1) := by decide +kernel
theorem dX1_addOrder_31 : decode cX1_addOrder 31 = .ok (.aload_n 0, 1) := by decide +kernel
theorem dX1_addOrder_32 : decode cX1_addOrder 32 = .ok (.getfield 27, 3) := by decide +kernel
theorem dX1_addOrder_35 : decode cX1_addOrder 35 = .ok (.aload_n 0, 1) := by decide +kernel
theorem dX1_addOrder_36 : decode cX1_addOrder 36 = .ok (.getfield 52, 3) := by decide +kernel
theorem dX1_addOrder_39 : decode cX1_addOrder 39 = .ok (.iload_n 3, 1) := by decide +kernel
theorem dX1_addOrder_40 : decode cX1_addOrder 40 = .ok (.iastore, 1) := by decide +kernel
theorem dX1_addOrder_41 : decode cX1_addOrder 41 = .ok (.aload_n 0, 1) := by decide +kernel
theorem dX1_addOrder_42 : decode cX1_addOrder 42 = .ok (.dup, 1) := by decide +kernel
theorem dX1_addOrder_43 : decode cX1_addOrder 43 = .ok (.getfield 52, 3) := by decide +kernel
theorem dX1_addOrder_46 : decode cX1_addOrder 46 = .ok (.iconst 1, 1) := by decide +kernel
theorem dX1_addOrder_47 : decode cX1_addOrder 47 = .ok (.iadd, 1) := by decide +kernel
theorem dX1_addOrder_48 : decode cX1_addOrder 48 = .ok (.putfield 52, 3) := by decide +kernel
theorem dX1_addOrder_51 : decode cX1_addOrder 51 = .ok (.iconst 1, 1) := by decide +kernel
theorem dX1_addOrder_52 : decode cX1_addOrder 52 = .ok (.ireturn, 1) := by decide +kernel
theorem dX1_givenOut_0 : decode cX1_givenOut 0 = .ok (.iconst 0, 1) := by decide +kernel
theorem dX1_givenOut_1 : decode cX1_givenOut 1 = .ok (.istore_n 1, 1) := by decide +kernel
theorem dX1_givenOut_2 : decode cX1_givenOut 2 = .ok (.iconst 0, 1) := by decide +kernel
theorem dX1_givenOut_3 : decode cX1_givenOut 3 = .ok (.istore_n 2, 1) := by decide +kernel
theorem dX1_givenOut_4 : decode cX1_givenOut 4 = .ok (.iload_n 2, 1) := by decide +kernel
theorem dX1_givenOut_5 : decode cX1_givenOut 5 = .ok (.iconst 3, 1) := by decide +kernel
theorem dX1_givenOut_6 : decode cX1_givenOut 6 = .ok (.if_icmp .ge 18, 3) := by decide +kernel
theorem dX1_givenOut_9 : decode cX1_givenOut 9 = .ok (.iload_n 1, 1) := by decide +kernel
theorem dX1_givenOut_10 : decode cX1_givenOut 10 = .ok (.aload_n 0, 1) := by decide +kernel
theorem dX1_givenOut_11 : decode cX1_givenOut 11 = .ok (.getfield 9, 3) := by decide +kernel
theorem dX1_givenOut_14 : decode cX1_givenOut 14 = .ok (.iload_n 2, 1) := by decide +kernel
theorem dX1_givenOut_15 : decode cX1_givenOut 15 = .ok (.iaload, 1) := by decide +kernel
theorem dX1_givenOut_16 : decode cX1_givenOut 16 = .ok (.iadd, 1) := by decide +kernel
theorem dX1_givenOut_17 : decode cX1_givenOut 17 = .ok (.istore_n 1, 1) := by decide +kernel
theorem dX1_givenOut_18 : decode cX1_givenOut 18 = .ok (.iinc 2 1, 3) := by decide +kernel
theorem dX1_givenOut_21 : decode cX1_givenOut 21 = .ok (.goto (-17), 3) := by decide +kernel
theorem dX1_givenOut_24 : decode cX1_givenOut 24 = .ok (.iload_n 1, 1) := by decide +kernel
theorem dX1_givenOut_25 : decode cX1_givenOut 25 = .ok (.ireturn, 1) := by decide +kernel
theorem dX1_changeHabit_0 : decode cX1_changeHabit 0 = .ok (.iload_n 1, 1) := by decide +kernel
theorem dX1_changeHabit_1 : decode cX1_changeHabit 1 = .ok (.invokestatic 65, 3) := by decide +kernel
theorem dX1_changeHabit_4 : decode cX1_changeHabit 4 = .ok (.ifCond .ne 5, 3) := by decide +kernel
theorem dX1_changeHabit_7 : decode cX1_changeHabit 7 = .ok (.iconst 0, 1) := by decide +kernel
theorem dX1_changeHabit_8 : decode cX1_changeHabit 8 = .ok (.ireturn, 1) := by decide +kernel
theorem dX1_changeHabit_9 : decode cX1_changeHabit 9 = .ok (.aload_n 0, 1) := by decide +kernel
theorem dX1_changeHabit_10 : decode cX1_changeHabit 10 = .ok (.getfield 15, 3) := by decide +kernel
theorem dX1_changeHabit_13 : decode cX1_changeHabit 13 = .ok (.iload_n 1, 1) := by decide +kernel
theorem dX1_changeHabit_14 : decode cX1_changeHabit 14 = .ok (.iaload, 1) := by decide +kernel
theorem dX1_changeHabit_15 : decode cX1_changeHabit 15 = .ok (.istore_n 3, 1) := by decide +kernel
theorem dX1_changeHabit_16 : decode cX1_changeHabit 16 = .ok (.aload_n 0, 1) := by decide +kernel
theorem dX1_changeHabit_17 : decode cX1_changeHabit 17 = .ok (.getfield 15, 3) := by decide +kernel
theorem dX1_changeHabit_20 : decode cX1_changeHabit 20 = .ok (.iload_n 1, 1) := by decide +kernel
theorem dX1_changeHabit_21 : decode cX1_changeHabit 21 = .ok (.iload_n 2, 1) := by decide +kernel
theorem dX1_changeHabit_22 : decode cX1_changeHabit 22 = .ok (.ifCond .eq 14, 3) := by decide +kernel
theorem dX1_changeHabit_25 : decode cX1_changeHabit 25 = .ok (.iload_n 3, 1) := by decide +kernel
theorem dX1_changeHabit_26 : decode cX1_changeHabit 26 = .ok (.iconst 1, 1) := by decide +kernel
theorem dX1_changeHabit_27 : decode cX1_changeHabit 27 = .ok (.iadd, 1) := by decide +kernel
theorem dX1_changeHabit_28 : decode cX1_changeHabit 28 = .ok (.bipush 9, 2) := by decide +kernel
theorem dX1_changeHabit_30 : decode cX1_changeHabit 30 = .ok (.invokestatic 72, 3) := by decide +kernel
theorem dX1_changeHabit_33 : decode cX1_changeHabit 33 = .ok (.goto 10, 3) := by decide +kernel
theorem dX1_changeHabit_36 : decode cX1_changeHabit 36 = .ok (.iload_n 3, 1) := by decide +kernel
theorem dX1_changeHabit_37 : decode cX1_changeHabit 37 = .ok (.iconst 1, 1) := by decide +kernel
theorem dX1_changeHabit_38 : decode cX1_changeHabit 38 = .ok (.isub, 1) := by decide +kernel
theorem dX1_changeHabit_39 : decode cX1_changeHabit 39 = .ok (.iconst 0, 1) := by decide +kernel
theorem dX1_changeHabit_40 : decode cX1_changeHabit 40 = .ok (.invokestatic 78, 3) := by decide +kernel
theorem dX1_changeHabit_43 : decode cX1_changeHabit 43 = .ok (.iastore, 1) := by decide +kernel
theorem dX1_changeHabit_44 : decode cX1_changeHabit 44 = .ok (.aload_n 0, 1) := by decide +kernel
theorem dX1_changeHabit_45 : decode cX1_changeHabit 45 = .ok (.getfield 15, 3) := by decide +kernel
theorem dX1_changeHabit_48 : decode cX1_changeHabit 48 = .ok (.iload_n 1, 1) := by decide +kernel
theorem dX1_changeHabit_49 : decode cX1_changeHabit 49 = .ok (.iaload, 1) := by decide +kernel
theorem dX1_changeHabit_50 : decode cX1_changeHabit 50 = .ok (.iload_n 3, 1) := by decide +kernel
theorem dX1_changeHabit_51 : decode cX1_changeHabit 51 = .ok (.if_icmp .ge 7, 3) := by decide +kernel
theorem dX1_changeHabit_54 : decode cX1_changeHabit 54 = .ok (.iconst 1, 1) := by decide +kernel
theorem dX1_changeHabit_55 : decode cX1_changeHabit 55 = .ok (.goto 4, 3) := by decide +kernel
theorem dX1_changeHabit_58 : decode cX1_changeHabit 58 = .ok (.iconst 0, 1) := by decide +kernel
theorem dX1_changeHabit_59 : decode cX1_changeHabit 59 = .ok (.ireturn, 1) := by decide +kernel
theorem dX1_comeByHabit_0 : decode cX1_comeByHabit 0 = .ok (.aload_n 0, 1) := by decide +kernel
theorem dX1_comeByHabit_1 : decode cX1_comeByHabit 1 = .ok (.iload_n 1, 1) := by decide +kernel
theorem dX1_comeByHabit_2 : decode cX1_comeByHabit 2 = .ok (.invokevirtual 81, 3) := by decide +kernel
theorem dX1_comeByHabit_5 : decode cX1_comeByHabit 5 = .ok (.istore_n 3, 1) := by decide +kernel
theorem dX1_comeByHabit_6 : decode cX1_comeByHabit 6 = .ok (.iload_n 3, 1) := by decide +kernel
theorem dX1_comeByHabit_7 : decode cX1_comeByHabit 7 = .ok (.iconst 3, 1) := by decide +kernel
theorem dX1_comeByHabit_8 : decode cX1_comeByHabit 8 = .ok (.if_icmp .ge 11, 3) := by decide +kernel
theorem dX1_comeByHabit_11 : decode cX1_comeByHabit 11 = .ok (.iload_n 2, 1) := by decide +kernel
theorem dX1_comeByHabit_12 : decode cX1_comeByHabit 12 = .ok (.iconst 1, 1) := by decide +kernel
theorem dX1_comeByHabit_13 : decode cX1_comeByHabit 13 = .ok (.isub, 1) := by decide +kernel
theorem dX1_comeByHabit_14 : decode cX1_comeByHabit 14 = .ok (.iconst 0, 1) := by decide +kernel
theorem dX1_comeByHabit_15 : decode cX1_comeByHabit 15 = .ok (.invokestatic 78, 3) := by decide +kernel
theorem dX1_comeByHabit_18 : decode cX1_comeByHabit 18 = .ok (.ireturn, 1) := by decide +kernel
theorem dX1_comeByHabit_19 : decode cX1_comeByHabit 19 = .ok (.iload_n 3, 1) := by decide +kernel
theorem dX1_comeByHabit_20 : decode cX1_comeByHabit 20 = .ok (.bipush 7, 2) := by decide +kernel
theorem dX1_comeByHabit_22 : decode cX1_comeByHabit 22 = .ok (.if_icmp .le 9, 3) := by decide +kernel
theorem dX1_comeByHabit_25 : decode cX1_comeByHabit 25 = .ok (.iload_n 2, 1) := by decide +kernel
theorem dX1_comeByHabit_26 : decode cX1_comeByHabit 26 = .ok (.iconst 1, 1) := by decide +kernel
theorem dX1_comeByHabit_27 : decode cX1_comeByHabit 27 = .ok (.iadd, 1) := by decide +kernel
theorem dX1_comeByHabit_28 : decode cX1_comeByHabit 28 = .ok (.goto 4, 3) := by decide +kernel
theorem dX1_comeByHabit_31 : decode cX1_comeByHabit 31 = .ok (.iload_n 2, 1) := by decide +kernel
theorem dX1_comeByHabit_32 : decode cX1_comeByHabit 32 = .ok (.ireturn, 1) := by decide +kernel
theorem dX2_init_0 : decode cX2_init 0 = .ok (.aload_n 0, 1) := by decide +kernel
theorem dX2_init_1 : decode cX2_init 1 = .ok (.invokespecial 5, 3) := by decide +kernel
theorem dX2_init_4 : decode cX2_init 4 = .ok (.aload_n 0, 1) := by decide +kernel
theorem dX2_init_5 : decode cX2_init 5 = .ok (.bipush 18, 2) := by decide +kernel
theorem dX2_init_7 : decode cX2_init 7 = .ok (.newarray .boolean, 2) := by decide +kernel
theorem dX2_init_9 : decode cX2_init 9 = .ok (.putfield 11, 3) := by decide +kernel
theorem dX2_init_12 : decode cX2_init 12 = .ok (.aload_n 0, 1) := by decide +kernel
theorem dX2_init_13 : decode cX2_init 13 = .ok (.iconst 0, 1) := by decide +kernel
theorem dX2_init_14 : decode cX2_init 14 = .ok (.putfield 15, 3) := by decide +kernel
theorem dX2_init_17 : decode cX2_init 17 = .ok (.aload_n 0, 1) := by decide +kernel
theorem dX2_init_18 : decode cX2_init 18 = .ok (.iconst 0, 1) := by decide +kernel
theorem dX2_init_19 : decode cX2_init 19 = .ok (.putfield 19, 3) := by decide +kernel
theorem dX2_init_22 : decode cX2_init 22 = .ok (.return_, 1) := by decide +kernel
theorem dX2_partsRead_0 : decode cX2_partsRead 0 = .ok (.aload_n 0, 1) := by decide +kernel
theorem dX2_partsRead_1 : decode cX2_partsRead 1 = .ok (.getfield 19, 3) := by decide +kernel
theorem dX2_partsRead_4 : decode cX2_partsRead 4 = .ok (.ireturn, 1) := by decide +kernel
theorem dX2_read_0 : decode cX2_read 0 = .ok (.aload_n 0, 1) := by decide +kernel
theorem dX2_read_1 : decode cX2_read 1 = .ok (.iconst 0, 1) := by decide +kernel
theorem dX2_read_2 : decode cX2_read 2 = .ok (.putfield 15, 3) := by decide +kernel
theorem dX2_read_5 : decode cX2_read 5 = .ok (.aload_n 0, 1) := by decide +kernel
theorem dX2_read_6 : decode cX2_read 6 = .ok (.iconst 0, 1) := by decide +kernel
theorem dX2_read_7 : decode cX2_read 7 = .ok (.putfield 19, 3) := by decide +kernel
theorem dX2_read_10 : decode cX2_read 10 = .ok (.iconst 0, 1) := by decide +kernel
theorem dX2_read_11 : decode cX2_read 11 = .ok (.istore_n 3, 1) := by decide +kernel
theorem dX2_read_12 : decode cX2_read 12 = .ok (.iload_n 3, 1) := by decide +kernel
theorem dX2_read_13 : decode cX2_read 13 = .ok (.bipush 18, 2) := by decide +kernel
theorem dX2_read_15 : decode cX2_read 15 = .ok (.if_icmp .ge 16, 3) := by decide +kernel
theorem dX2_read_18 : decode cX2_read 18 = .ok (.aload_n 0, 1) := by decide +kernel
theorem dX2_read_19 : decode cX2_read 19 = .ok (.getfield 11, 3) := by decide +kernel
theorem dX2_read_22 : decode cX2_read 22 = .ok (.iload_n 3, 1) := by decide +kernel
theorem dX2_read_23 : decode cX2_read 23 = .ok (.iconst 0, 1) := by decide +kernel
theorem dX2_read_24 : decode cX2_read 24 = .ok (.bastore, 1) := by decide +kernel
theorem dX2_read_25 : decode cX2_read 25 = .ok (.iinc 3 1, 3) := by decide +kernel
theorem dX2_read_28 : decode cX2_read 28 = .ok (.goto (-16), 3) := by decide +kernel
theorem dX2_read_31 : decode cX2_read 31 = .ok (.aload_n 2, 1) := by decide +kernel
theorem dX2_read_32 : decode cX2_read 32 = .ok (.invokevirtual 22, 3) := by decide +kernel
theorem dX2_read_35 : decode cX2_read 35 = .ok (.aload_n 0, 1) := by decide +kernel
theorem dX2_read_36 : decode cX2_read 36 = .ok (.aload_n 1, 1) := by decide +kernel
theorem dX2_read_37 : decode cX2_read 37 = .ok (.aload_n 2, 1) := by decide +kernel
theorem dX2_read_38 : decode cX2_read 38 = .ok (.invokevirtual 27, 3) := by decide +kernel
theorem dX2_read_41 : decode cX2_read 41 = .ok (.ifCond .ne 8, 3) := by decide +kernel
theorem dX2_read_44 : decode cX2_read 44 = .ok (.aload_n 0, 1) := by decide +kernel
theorem dX2_read_45 : decode cX2_read 45 = .ok (.getfield 15, 3) := by decide +kernel
theorem dX2_read_48 : decode cX2_read 48 = .ok (.ireturn, 1) := by decide +kernel
theorem dX2_read_49 : decode cX2_read 49 = .ok (.aload_n 0, 1) := by decide +kernel
theorem dX2_read_50 : decode cX2_read 50 = .ok (.iconst 1, 1) := by decide +kernel
theorem dX2_read_51 : decode cX2_read 51 = .ok (.putfield 19, 3) := by decide +kernel
theorem dX2_read_54 : decode cX2_read 54 = .ok (.aload_n 0, 1) := by decide +kernel
theorem dX2_read_55 : decode cX2_read 55 = .ok (.getfield 19, 3) := by decide +kernel
theorem dX2_read_58 : decode cX2_read 58 = .ok (.bipush 18, 2) := by decide +kernel
theorem dX2_read_60 : decode cX2_read 60 = .ok (.if_icmp .gt 41, 3) := by decide +kernel
theorem dX2_read_63 : decode cX2_read 63 = .ok (.aload_n 0, 1) := by decide +kernel
theorem dX2_read_64 : decode cX2_read 64 = .ok (.getfield 15, 3) := by decide +kernel
theorem dX2_read_67 : decode cX2_read 67 = .ok (.aload_n 1, 1) := by decide +kernel
theorem dX2_read_68 : decode cX2_read 68 = .ok (.invokevirtual 31, 3) := by decide +kernel
theorem dX2_read_71 : decode cX2_read 71 = .ok (.if_icmp .ge 30, 3) := by decide +kernel
theorem dX2_read_74 : decode cX2_read 74 = .ok (.aload_n 0, 1) := by decide +kernel
theorem dX2_read_75 : decode cX2_read 75 = .ok (.aload_n 1, 1) := by decide +kernel
theorem dX2_read_76 : decode cX2_read 76 = .ok (.aload_n 2, 1) := by decide +kernel
theorem dX2_read_77 : decode cX2_read 77 = .ok (.invokevirtual 37, 3) := by decide +kernel
theorem dX2_read_80 : decode cX2_read 80 = .ok (.ifCond .ne 8, 3) := by decide +kernel
theorem dX2_read_83 : decode cX2_read 83 = .ok (.aload_n 0, 1) := by decide +kernel
theorem dX2_read_84 : decode cX2_read 84 = .ok (.getfield 15, 3) := by decide +kernel
theorem dX2_read_87 : decode cX2_read 87 = .ok (.ireturn, 1) := by decide +kernel
theorem dX2_read_88 : decode cX2_read 88 = .ok (.aload_n 0, 1) := by decide +kernel
theorem dX2_read_89 : decode cX2_read 89 = .ok (.dup, 1) := by decide +kernel
theorem dX2_read_90 : decode cX2_read 90 = .ok (.getfield 19, 3) := by decide +kernel
theorem dX2_read_93 : decode cX2_read 93 = .ok (.iconst 1, 1) := by decide +kernel
theorem dX2_read_94 : decode cX2_read 94 = .ok (.iadd, 1) := by decide +kernel
theorem dX2_read_95 : decode cX2_read 95 = .ok (.putfield 19, 3) := by decide +kernel
theorem dX2_read_98 : decode cX2_read 98 = .ok (.goto (-44), 3) := by decide +kernel
theorem dX2_read_101 : decode cX2_read 101 = .ok (.bipush (-9), 2) := by decide +kernel
theorem dX2_read_103 : decode cX2_read 103 = .ok (.ireturn, 1) := by decide +kernel
theorem dX2_readCorners_0 : decode cX2_readCorners 0 = .ok (.aload_n 1, 1) := by decide +kernel
theorem dX2_readCorners_1 : decode cX2_readCorners 1 = .ok (.aload_n 0, 1) := by decide +kernel
theorem dX2_readCorners_2 : decode cX2_readCorners 2 = .ok (.getfield 15, 3) := by decide +kernel
theorem dX2_readCorners_5 : decode cX2_readCorners 5 = .ok (.invokevirtual 40, 3) := by decide +kernel
theorem dX2_readCorners_8 : decode cX2_readCorners 8 = .ok (.bipush 78, 2) := by decide +kernel
theorem dX2_readCorners_10 : decode cX2_readCorners 10 = .ok (.if_icmp .eq 5, 3) := by decide +kernel
theorem dX2_readCorners_13 : decode cX2_readCorners 13 = .ok (.iconst 0, 1) := by decide +kernel
theorem dX2_readCorners_14 : decode cX2_readCorners 14 = .ok (.ireturn, 1) := by decide +kernel
theorem dX2_readCorners_15 : decode cX2_readCorners 15 = .ok (.aload_n 0, 1) := by decide +kernel
theorem dX2_readCorners_16 : decode cX2_readCorners 16 = .ok (.dup, 1) := by decide +kernel
theorem dX2_readCorners_17 : decode cX2_readCorners 17 = .ok (.getfield 15, 3) := by decide +kernel
theorem dX2_readCorners_20 : decode cX2_readCorners 20 = .ok (.iconst 1, 1) := by decide +kernel
theorem dX2_readCorners_21 : decode cX2_readCorners 21 = .ok (.iadd, 1) := by decide +kernel
theorem dX2_readCorners_22 : decode cX2_readCorners 22 = .ok (.putfield 15, 3) := by decide +kernel
theorem dX2_readCorners_25 : decode cX2_readCorners 25 = .ok (.aload_n 0, 1) := by decide +kernel
theorem dX2_readCorners_26 : decode cX2_readCorners 26 = .ok (.aload_n 1, 1) := by decide +kernel
theorem dX2_readCorners_27 : decode cX2_readCorners 27 = .ok (.iconst 1, 1) := by decide +kernel
theorem dX2_readCorners_28 : decode cX2_readCorners 28 = .ok (.iconst 3, 1) := by decide +kernel
theorem dX2_readCorners_29 : decode cX2_readCorners 29 = .ok (.invokevirtual 44, 3) := by decide +kernel
theorem dX2_readCorners_32 : decode cX2_readCorners 32 = .ok (.istore_n 3, 1) := by decide +kernel
theorem dX2_readCorners_33 : decode cX2_readCorners 33 = .ok (.iload_n 3, 1) := by decide +kernel
theorem dX2_readCorners_34 : decode cX2_readCorners 34 = .ok (.bipush (-9), 2) := by decide +kernel
theorem dX2_readCorners_36 : decode cX2_readCorners 36 = .ok (.if_icmp .ne 5, 3) := by decide +kernel
theorem dX2_readCorners_39 : decode cX2_readCorners 39 = .ok (.iconst 0, 1) := by decide +kernel
theorem dX2_readCorners_40 : decode cX2_readCorners 40 = .ok (.ireturn, 1) := by decide +kernel
theorem dX2_readCorners_41 : decode cX2_readCorners 41 = .ok (.aload_n 2, 1) := by decide +kernel
theorem dX2_readCorners_42 : decode cX2_readCorners 42 = .ok (.iload_n 3, 1) := by decide +kernel
theorem dX2_readCorners_43 : decode cX2_readCorners 43 = .ok (.putfield 48, 3) := by decide +kernel
theorem dX2_readCorners_46 : decode cX2_readCorners 46 = .ok (.iconst 1, 1) := by decide +kernel
theorem dX2_readCorners_47 : decode cX2_readCorners 47 = .ok (.ireturn, 1) := by decide +kernel
theorem dX2_readPart_0 : decode cX2_readPart 0 = .ok (.aload_n 1, 1) := by decide +kernel
theorem dX2_readPart_1 : decode cX2_readPart 1 = .ok (.aload_n 0, 1) := by decide +kernel
theorem dX2_readPart_2 : decode cX2_readPart 2 = .ok (.getfield 15, 3) := by decide +kernel
theorem dX2_readPart_5 : decode cX2_readPart 5 = .ok (.invokevirtual 40, 3) := by decide +kernel
theorem dX2_readPart_8 : decode cX2_readPart 8 = .ok (.lookupswitch 108 #[(67, 81), (71, 74), (75, 60), (80, 90), (82, 99), (87, 67)], 60) := by decide +kernel
theorem dX2_readPart_68 : decode cX2_readPart 68 = .ok (.aload_n 0, 1) := by decide +kernel
theorem dX2_readPart_69 : decode cX2_readPart 69 = .ok (.aload_n 1, 1) := by decide +kernel
theorem dX2_readPart_70 : decode cX2_readPart 70 = .ok (.aload_n 2, 1) := by decide +kernel
theorem dX2_readPart_71 : decode cX2_readPart 71 = .ok (.invokevirtual 51, 3) := by decide +kernel
theorem dX2_readPart_74 : decode cX2_readPart 74 = .ok (.ireturn, 1) := by decide +kernel
theorem dX2_readPart_75 : decode cX2_readPart 75 = .ok (.aload_n 0, 1) := by decide +kernel
theorem dX2_readPart_76 : decode cX2_readPart 76 = .ok (.aload_n 1, 1) := by decide +kernel
theorem dX2_readPart_77 : decode cX2_readPart 77 = .ok (.aload_n 2, 1) := by decide +kernel
theorem dX2_readPart_78 : decode cX2_readPart 78 = .ok (.invokevirtual 54, 3) := by decide +kernel
theorem dX2_readPart_81 : decode cX2_readPart 81 = .ok (.ireturn, 1) := by decide +kernel
theorem dX2_readPart_82 : decode cX2_readPart 82 = .ok (.aload_n 0, 1) := by decide +kernel
theorem dX2_readPart_83 : decode cX2_readPart 83 = .ok (.aload_n 1, 1) := by decide +kernel
theorem dX2_readPart_84 : decode cX2_readPart 84 = .ok (.aload_n 2, 1) := by decide +kernel
theorem dX2_readPart_85 : decode cX2_readPart 85 = .ok (.invokevirtual 57, 3) := by decide +kernel
theorem dX2_readPart_88 : decode cX2_readPart 88 = .ok (.ireturn, 1) := by decide +kernel
theorem dX2_readPart_89 : decode cX2_readPart 89 = .ok (.aload_n 0, 1) := by decide +kernel
theorem dX2_readPart_90 : decode cX2_readPart 90 = .ok (.aload_n 1, 1) := by decide +kernel
theorem dX2_readPart_91 : decode cX2_readPart 91 = .ok (.aload_n 2, 1) := by decide +kernel
theorem dX2_readPart_92 : decode cX2_readPart 92 = .ok (.bipush 15, 2) := by decide +kernel
theorem dX2_readPart_94 : decode cX2_readPart 94 = .ok (.invokevirtual 60, 3) := by decide +kernel
theorem dX2_readPart_97 : decode cX2_readPart 97 = .ok (.ireturn, 1) := by decide +kernel
theorem dX2_readPart_98 : decode cX2_readPart 98 = .ok (.aload_n 0, 1) := by decide +kernel
theorem dX2_readPart_99 : decode cX2_readPart 99 = .ok (.aload_n 1, 1) := by decide +kernel
theorem dX2_readPart_100 : decode cX2_readPart 100 = .ok (.aload_n 2, 1) := by decide +kernel
theorem dX2_readPart_101 : decode cX2_readPart 101 = .ok (.bipush 16, 2) := by decide +kernel
theorem dX2_readPart_103 : decode cX2_readPart 103 = .ok (.invokevirtual 60, 3) := by decide +kernel
theorem dX2_readPart_106 : decode cX2_readPart 106 = .ok (.ireturn, 1) := by decide +kernel
theorem dX2_readPart_107 : decode cX2_readPart 107 = .ok (.aload_n 0, 1) := by decide +kernel
theorem dX2_readPart_108 : decode cX2_readPart 108 = .ok (.aload_n 1, 1) := by decide +kernel
theorem dX2_readPart_109 : decode cX2_readPart 109 = .ok (.aload_n 2, 1) := by decide +kernel
theorem dX2_readPart_110 : decode cX2_readPart 110 = .ok (.bipush 17, 2) := by decide +kernel
theorem dX2_readPart_112 : decode cX2_readPart 112 = .ok (.invokevirtual 60, 3) := by decide +kernel
theorem dX2_readPart_115 : decode cX2_readPart 115 = .ok (.ireturn, 1) := by decide +kernel
theorem dX2_readPart_116 : decode cX2_readPart 116 = .ok (.iconst 0, 1) := by decide +kernel
theorem dX2_readPart_117 : decode cX2_readPart 117 = .ok (.ireturn, 1) := by decide +kernel
theorem dX2_readShare_0 : decode cX2_readShare 0 = .ok (.aload_n 0, 1) := by decide +kernel
theorem dX2_readShare_1 : decode cX2_readShare 1 = .ok (.iconst 0, 1) := by decide +kernel
theorem dX2_readShare_2 : decode cX2_readShare 2 = .ok (.iconst 3, 1) := by decide +kernel
theorem dX2_readShare_3 : decode cX2_readShare 3 = .ok (.invokevirtual 64, 3) := by decide +kernel
theorem dX2_readShare_6 : decode cX2_readShare 6 = .ok (.ifCond .eq 5, 3) := by decide +kernel
theorem dX2_readShare_9 : decode cX2_readShare 9 = .ok (.iconst 0, 1) := by decide +kernel
theorem dX2_readShare_10 : decode cX2_readShare 10 = .ok (.ireturn, 1) := by decide +kernel
theorem dX2_readShare_11 : decode cX2_readShare 11 = .ok (.aload_n 0, 1) := by decide +kernel
theorem dX2_readShare_12 : decode cX2_readShare 12 = .ok (.dup, 1) := by decide +kernel
theorem dX2_readShare_13 : decode cX2_readShare 13 = .ok (.getfield 15, 3) := by decide +kernel
theorem dX2_readShare_16 : decode cX2_readShare 16 = .ok (.iconst 1, 1) := by decide +kernel
theorem dX2_readShare_17 : decode cX2_readShare 17 = .ok (.iadd, 1) := by decide +kernel
theorem dX2_readShare_18 : decode cX2_readShare 18 = .ok (.putfield 15, 3) := by decide +kernel
theorem dX2_readShare_21 : decode cX2_readShare 21 = .ok (.aload_n 0, 1) := by decide +kernel
theorem dX2_readShare_22 : decode cX2_readShare 22 = .ok (.aload_n 1, 1) := by decide +kernel
theorem dX2_readShare_23 : decode cX2_readShare 23 = .ok (.iconst 2, 1) := by decide +kernel
theorem dX2_readShare_24 : decode cX2_readShare 24 = .ok (.iconst 0, 1) := by decide +kernel
theorem dX2_readShare_25 : decode cX2_readShare 25 = .ok (.invokevirtual 68, 3) := by decide +kernel
theorem dX2_readShare_28 : decode cX2_readShare 28 = .ok (.istore_n 3, 1) := by decide +kernel
theorem dX2_readShare_29 : decode cX2_readShare 29 = .ok (.iload_n 3, 1) := by decide +kernel
theorem dX2_readShare_30 : decode cX2_readShare 30 = .ok (.bipush (-9), 2) := by decide +kernel
theorem dX2_readShare_32 : decode cX2_readShare 32 = .ok (.if_icmp .ne 8, 3) := by decide +kernel
theorem dX2_readShare_35 : decode cX2_readShare 35 = .ok (.bipush (-9), 2) := by decide +kernel
theorem dX2_readShare_37 : decode cX2_readShare 37 = .ok (.goto 11, 3) := by decide +kernel
theorem dX2_readShare_40 : decode cX2_readShare 40 = .ok (.aload_n 0, 1) := by decide +kernel
theorem dX2_readShare_41 : decode cX2_readShare 41 = .ok (.aload_n 1, 1) := by decide +kernel
theorem dX2_readShare_42 : decode cX2_readShare 42 = .ok (.iconst 1, 1) := by decide +kernel
theorem dX2_readShare_43 : decode cX2_readShare 43 = .ok (.bipush 9, 2) := by decide +kernel
theorem dX2_readShare_45 : decode cX2_readShare 45 = .ok (.invokevirtual 44, 3) := by decide +kernel
theorem dX2_readShare_48 : decode cX2_readShare 48 = .ok (.istore 4, 2) := by decide +kernel
theorem dX2_readShare_50 : decode cX2_readShare 50 = .ok (.iload 4, 2) := by decide +kernel
theorem dX2_readShare_52 : decode cX2_readShare 52 = .ok (.bipush (-9), 2) := by decide +kernel
theorem dX2_readShare_54 : decode cX2_readShare 54 = .ok (.if_icmp .ne 5, 3) := by decide +kernel
theorem dX2_readShare_57 : decode cX2_readShare 57 = .ok (.iconst 0, 1) := by decide +kernel
theorem dX2_readShare_58 : decode cX2_readShare 58 = .ok (.ireturn, 1) := by decide +kernel
theorem dX2_readShare_59 : decode cX2_readShare 59 = .ok (.aload_n 2, 1) := by decide +kernel
theorem dX2_readShare_60 : decode cX2_readShare 60 = .ok (.iload_n 3, 1) := by decide +kernel
theorem dX2_readShare_61 : decode cX2_readShare 61 = .ok (.iload 4, 2) := by decide +kernel
theorem dX2_readShare_63 : decode cX2_readShare 63 = .ok (.invokevirtual 71, 3) := by decide +kernel
theorem dX2_readShare_66 : decode cX2_readShare 66 = .ok (.iconst 1, 1) := by decide +kernel
theorem dX2_readShare_67 : decode cX2_readShare 67 = .ok (.ireturn, 1) := by decide +kernel
theorem dX2_readWants_0 : decode cX2_readWants 0 = .ok (.aload_n 0, 1) := by decide +kernel
theorem dX2_readWants_1 : decode cX2_readWants 1 = .ok (.iconst 3, 1) := by decide +kernel
theorem dX2_readWants_2 : decode cX2_readWants 2 = .ok (.aload_n 2, 1) := by decide +kernel
theorem dX2_readWants_3 : decode cX2_readWants 3 = .ok (.getfield 48, 3) := by decide +kernel
theorem dX2_readWants_6 : decode cX2_readWants 6 = .ok (.iconst 3, 1) := by decide +kernel
theorem dX2_readWants_7 : decode cX2_readWants 7 = .ok (.imul, 1) := by decide +kernel
theorem dX2_readWants_8 : decode cX2_readWants 8 = .ok (.invokevirtual 64, 3) := by decide +kernel
theorem dX2_readWants_11 : decode cX2_readWants 11 = .ok (.ifCond .eq 5, 3) := by decide +kernel
theorem dX2_readWants_14 : decode cX2_readWants 14 = .ok (.iconst 0, 1) := by decide +kernel
theorem dX2_readWants_15 : decode cX2_readWants 15 = .ok (.ireturn, 1) := by decide +kernel
theorem dX2_readWants_16 : decode cX2_readWants 16 = .ok (.aload_n 0, 1) := by decide +kernel
theorem dX2_readWants_17 : decode cX2_readWants 17 = .ok (.dup, 1) := by decide +kernel
theorem dX2_readWants_18 : decode cX2_readWants 18 = .ok (.getfield 15, 3) := by decide +kernel
theorem dX2_readWants_21 : decode cX2_readWants 21 = .ok (.iconst 1, 1) := by decide +kernel
theorem dX2_readWants_22 : decode cX2_readWants 22 = .ok (.iadd, 1) := by decide +kernel
theorem dX2_readWants_23 : decode cX2_readWants 23 = .ok (.putfield 15, 3) := by decide +kernel
theorem dX2_readWants_26 : decode cX2_readWants 26 = .ok (.aload_n 0, 1) := by decide +kernel
theorem dX2_readWants_27 : decode cX2_readWants 27 = .ok (.aload_n 1, 1) := by decide +kernel
theorem dX2_readWants_28 : decode cX2_readWants 28 = .ok (.iconst 0, 1) := by decide +kernel
theorem dX2_readWants_29 : decode cX2_readWants 29 = .ok (.aload_n 2, 1) := by decide +kernel
theorem dX2_readWants_30 : decode cX2_readWants 30 = .ok (.getfield 48, 3) := by decide +kernel
theorem dX2_readWants_33 : decode cX2_readWants 33 = .ok (.iconst 1, 1) := by decide +kernel
theorem dX2_readWants_34 : decode cX2_readWants 34 = .ok (.isub, 1) := by decide +kernel
theorem dX2_readWants_35 : decode cX2_readWants 35 = .ok (.invokevirtual 75, 3) := by decide +kernel
theorem dX2_readWants_38 : decode cX2_readWants 38 = .ok (.istore_n 3, 1) := by decide +kernel
theorem dX2_readWants_39 : decode cX2_readWants 39 = .ok (.iload_n 3, 1) := by decide +kernel
theorem dX2_readWants_40 : decode cX2_readWants 40 = .ok (.bipush (-9), 2) := by decide +kernel
theorem dX2_readWants_42 : decode cX2_readWants 42 = .ok (.if_icmp .eq 16, 3) := by decide +kernel
theorem dX2_readWants_45 : decode cX2_readWants 45 = .ok (.aload_n 0, 1) := by decide +kernel
theorem dX2_readWants_46 : decode cX2_readWants 46 = .ok (.iconst 3, 1) := by decide +kernel
theorem dX2_readWants_47 : decode cX2_readWants 47 = .ok (.iload_n 3, 1) := by decide +kernel
theorem dX2_readWants_48 : decode cX2_readWants 48 = .ok (.iconst 3, 1) := by decide +kernel
theorem dX2_readWants_49 : decode cX2_readWants 49 = .ok (.imul, 1) := by decide +kernel
theorem dX2_readWants_50 : decode cX2_readWants 50 = .ok (.iadd, 1) := by decide +kernel
theorem dX2_readWants_51 : decode cX2_readWants 51 = .ok (.iconst 3, 1) := by decide +kernel
theorem dX2_readWants_52 : decode cX2_readWants 52 = .ok (.invokevirtual 64, 3) := by decide +kernel
theorem dX2_readWants_55 : decode cX2_readWants 55 = .ok (.ifCond .eq 5, 3) := by decide +kernel
theorem dX2_readWants_58 : decode cX2_readWants 58 = .ok (.iconst 0, 1) := by decide +kernel
theorem dX2_readWants_59 : decode cX2_readWants 59 = .ok (.ireturn, 1) := by decide +kernel
theorem dX2_readWants_60 : decode cX2_readWants 60 = .ok (.aload_n 0, 1) := by decide +kernel
theorem dX2_readWants_61 : decode cX2_readWants 61 = .ok (.dup, 1) := by decide +kernel
theorem dX2_readWants_62 : decode cX2_readWants 62 = .ok (.getfield 15, 3) := by decide +kernel
theorem dX2_readWants_65 : decode cX2_readWants 65 = .ok (.iconst 1, 1) := by decide +kernel
theorem dX2_readWants_66 : decode cX2_readWants 66 = .ok (.iadd, 1) := by decide +kernel
theorem dX2_readWants_67 : decode cX2_readWants 67 = .ok (.putfield 15, 3) := by decide +kernel
theorem dX2_readWants_70 : decode cX2_readWants 70 = .ok (.aload_n 0, 1) := by decide +kernel
theorem dX2_readWants_71 : decode cX2_readWants 71 = .ok (.aload_n 1, 1) := by decide +kernel
theorem dX2_readWants_72 : decode cX2_readWants 72 = .ok (.iconst 2, 1) := by decide +kernel
theorem dX2_readWants_73 : decode cX2_readWants 73 = .ok (.iconst 3, 1) := by decide +kernel
theorem dX2_readWants_74 : decode cX2_readWants 74 = .ok (.iload_n 3, 1) := by decide +kernel
theorem dX2_readWants_75 : decode cX2_readWants 75 = .ok (.iconst 3, 1) := by decide +kernel
theorem dX2_readWants_76 : decode cX2_readWants 76 = .ok (.imul, 1) := by decide +kernel
theorem dX2_readWants_77 : decode cX2_readWants 77 = .ok (.iadd, 1) := by decide +kernel
theorem dX2_readWants_78 : decode cX2_readWants 78 = .ok (.invokevirtual 68, 3) := by decide +kernel
theorem dX2_readWants_81 : decode cX2_readWants 81 = .ok (.istore 4, 2) := by decide +kernel
theorem dX2_readWants_83 : decode cX2_readWants 83 = .ok (.iload 4, 2) := by decide +kernel
theorem dX2_readWants_85 : decode cX2_readWants 85 = .ok (.bipush (-9), 2) := by decide +kernel
theorem dX2_readWants_87 : decode cX2_readWants 87 = .ok (.if_icmp .ne 8, 3) := by decide +kernel
theorem dX2_readWants_90 : decode cX2_readWants 90 = .ok (.bipush (-9), 2) := by decide +kernel
theorem dX2_readWants_92 : decode cX2_readWants 92 = .ok (.goto 10, 3) := by decide +kernel
theorem dX2_readWants_95 : decode cX2_readWants 95 = .ok (.aload_n 0, 1) := by decide +kernel
theorem dX2_readWants_96 : decode cX2_readWants 96 = .ok (.aload_n 1, 1) := by decide +kernel
theorem dX2_readWants_97 : decode cX2_readWants 97 = .ok (.iconst 0, 1) := by decide +kernel
theorem dX2_readWants_98 : decode cX2_readWants 98 = .ok (.iconst 3, 1) := by decide +kernel
theorem dX2_readWants_99 : decode cX2_readWants 99 = .ok (.invokevirtual 44, 3) := by decide +kernel
theorem dX2_readWants_102 : decode cX2_readWants 102 = .ok (.istore 5, 2) := by decide +kernel
theorem dX2_readWants_104 : decode cX2_readWants 104 = .ok (.iload 5, 2) := by decide +kernel
theorem dX2_readWants_106 : decode cX2_readWants 106 = .ok (.bipush (-9), 2) := by decide +kernel
theorem dX2_readWants_108 : decode cX2_readWants 108 = .ok (.if_icmp .ne 8, 3) := by decide +kernel
theorem dX2_readWants_111 : decode cX2_readWants 111 = .ok (.bipush (-9), 2) := by decide +kernel
theorem dX2_readWants_113 : decode cX2_readWants 113 = .ok (.goto 11, 3) := by decide +kernel
theorem dX2_readWants_116 : decode cX2_readWants 116 = .ok (.aload_n 0, 1) := by decide +kernel
theorem dX2_readWants_117 : decode cX2_readWants 117 = .ok (.aload_n 1, 1) := by decide +kernel
theorem dX2_readWants_118 : decode cX2_readWants 118 = .ok (.iconst 0, 1) := by decide +kernel
theorem dX2_readWants_119 : decode cX2_readWants 119 = .ok (.bipush 9, 2) := by decide +kernel
theorem dX2_readWants_121 : decode cX2_readWants 121 = .ok (.invokevirtual 44, 3) := by decide +kernel
theorem dX2_readWants_124 : decode cX2_readWants 124 = .ok (.istore 6, 2) := by decide +kernel
theorem dX2_readWants_126 : decode cX2_readWants 126 = .ok (.iload 6, 2) := by decide +kernel
theorem dX2_readWants_128 : decode cX2_readWants 128 = .ok (.bipush (-9), 2) := by decide +kernel
theorem dX2_readWants_130 : decode cX2_readWants 130 = .ok (.if_icmp .ne 5, 3) := by decide +kernel
theorem dX2_readWants_133 : decode cX2_readWants 133 = .ok (.iconst 0, 1) := by decide +kernel
theorem dX2_readWants_134 : decode cX2_readWants 134 = .ok (.ireturn, 1) := by decide +kernel
theorem dX2_readWants_135 : decode cX2_readWants 135 = .ok (.aload_n 2, 1) := by decide +kernel
theorem dX2_readWants_136 : decode cX2_readWants 136 = .ok (.iload_n 3, 1) := by decide +kernel
theorem dX2_readWants_137 : decode cX2_readWants 137 = .ok (.iload 4, 2) := by decide +kernel
theorem dX2_readWants_139 : decode cX2_readWants 139 = .ok (.iload 5, 2) := by decide +kernel
theorem dX2_readWants_141 : decode cX2_readWants 141 = .ok (.iload 6, 2) := by decide +kernel
theorem dX2_readWants_143 : decode cX2_readWants 143 = .ok (.invokevirtual 78, 3) := by decide +kernel
theorem dX2_readWants_146 : decode cX2_readWants 146 = .ok (.iconst 1, 1) := by decide +kernel
theorem dX2_readWants_147 : decode cX2_readWants 147 = .ok (.ireturn, 1) := by decide +kernel
theorem dX2_readNext_0 : decode cX2_readNext 0 = .ok (.aload_n 2, 1) := by decide +kernel
theorem dX2_readNext_1 : decode cX2_readNext 1 = .ok (.getfield 48, 3) := by decide +kernel
theorem dX2_readNext_4 : decode cX2_readNext 4 = .ok (.iconst 1, 1) := by decide +kernel
theorem dX2_readNext_5 : decode cX2_readNext 5 = .ok (.if_icmp .eq 16, 3) := by decide +kernel
theorem dX2_readNext_8 : decode cX2_readNext 8 = .ok (.aload_n 0, 1) := by decide +kernel
theorem dX2_readNext_9 : decode cX2_readNext 9 = .ok (.bipush 12, 2) := by decide +kernel
theorem dX2_readNext_11 : decode cX2_readNext 11 = .ok (.aload_n 2, 1) := by decide +kernel
theorem dX2_readNext_12 : decode cX2_readNext 12 = .ok (.getfield 48, 3) := by decide +kernel
theorem dX2_readNext_15 : decode cX2_readNext 15 = .ok (.invokevirtual 64, 3) := by decide +kernel
theorem dX2_readNext_18 : decode cX2_readNext 18 = .ok (.ifCond .eq 5, 3) := by decide +kernel
theorem dX2_readNext_21 : decode cX2_readNext 21 = .ok (.iconst 0, 1) := by decide +kernel
theorem dX2_readNext_22 : decode cX2_readNext 22 = .ok (.ireturn, 1) := by decide +kernel
theorem dX2_readNext_23 : decode cX2_readNext 23 = .ok (.aload_n 0, 1) := by decide +kernel
theorem dX2_readNext_24 : decode cX2_readNext 24 = .ok (.dup, 1) := by decide +kernel
theorem dX2_readNext_25 : decode cX2_readNext 25 = .ok (.getfield 15, 3) := by decide +kernel
theorem dX2_readNext_28 : decode cX2_readNext 28 = .ok (.iconst 1, 1) := by decide +kernel
theorem dX2_readNext_29 : decode cX2_readNext 29 = .ok (.iadd, 1) := by decide +kernel
theorem dX2_readNext_30 : decode cX2_readNext 30 = .ok (.putfield 15, 3) := by decide +kernel
theorem dX2_readNext_33 : decode cX2_readNext 33 = .ok (.aload_n 0, 1) := by decide +kernel
theorem dX2_readNext_34 : decode cX2_readNext 34 = .ok (.aload_n 1, 1) := by decide +kernel
theorem dX2_readNext_35 : decode cX2_readNext 35 = .ok (.aload_n 2, 1) := by decide +kernel
theorem dX2_readNext_36 : decode cX2_readNext 36 = .ok (.getfield 48, 3) := by decide +kernel
theorem dX2_readNext_39 : decode cX2_readNext 39 = .ok (.iconst 1, 1) := by decide +kernel
theorem dX2_readNext_40 : decode cX2_readNext 40 = .ok (.isub, 1) := by decide +kernel
theorem dX2_readNext_41 : decode cX2_readNext 41 = .ok (.bipush 12, 2) := by decide +kernel
theorem dX2_readNext_43 : decode cX2_readNext 43 = .ok (.invokevirtual 68, 3) := by decide +kernel
theorem dX2_readNext_46 : decode cX2_readNext 46 = .ok (.istore_n 3, 1) := by decide +kernel
theorem dX2_readNext_47 : decode cX2_readNext 47 = .ok (.iload_n 3, 1) := by decide +kernel
theorem dX2_readNext_48 : decode cX2_readNext 48 = .ok (.bipush (-9), 2) := by decide +kernel
theorem dX2_readNext_50 : decode cX2_readNext 50 = .ok (.if_icmp .ne 8, 3) := by decide +kernel
theorem dX2_readNext_53 : decode cX2_readNext 53 = .ok (.bipush (-9), 2) := by decide +kernel
theorem dX2_readNext_55 : decode cX2_readNext 55 = .ok (.goto 15, 3) := by decide +kernel
theorem dX2_readNext_58 : decode cX2_readNext 58 = .ok (.aload_n 0, 1) := by decide +kernel
theorem dX2_readNext_59 : decode cX2_readNext 59 = .ok (.aload_n 1, 1) := by decide +kernel
theorem dX2_readNext_60 : decode cX2_readNext 60 = .ok (.iconst 0, 1) := by decide +kernel
theorem dX2_readNext_61 : decode cX2_readNext 61 = .ok (.aload_n 2, 1) := by decide +kernel
theorem dX2_readNext_62 : decode cX2_readNext 62 = .ok (.getfield 48, 3) := by decide +kernel
theorem dX2_readNext_65 : decode cX2_readNext 65 = .ok (.iconst 1, 1) := by decide +kernel
theorem dX2_readNext_66 : decode cX2_readNext 66 = .ok (.isub, 1) := by decide +kernel
theorem dX2_readNext_67 : decode cX2_readNext 67 = .ok (.invokevirtual 75, 3) := by decide +kernel
theorem dX2_readNext_70 : decode cX2_readNext 70 = .ok (.istore 4, 2) := by decide +kernel
theorem dX2_readNext_72 : decode cX2_readNext 72 = .ok (.iload 4, 2) := by decide +kernel
theorem dX2_readNext_74 : decode cX2_readNext 74 = .ok (.bipush (-9), 2) := by decide +kernel
theorem dX2_readNext_76 : decode cX2_readNext 76 = .ok (.if_icmp .eq 9, 3) := by decide +kernel
theorem dX2_readNext_79 : decode cX2_readNext 79 = .ok (.iload 4, 2) := by decide +kernel
theorem dX2_readNext_81 : decode cX2_readNext 81 = .ok (.iload_n 3, 1) := by decide +kernel
theorem dX2_readNext_82 : decode cX2_readNext 82 = .ok (.if_icmp .ne 5, 3) := by decide +kernel
theorem dX2_readNext_85 : decode cX2_readNext 85 = .ok (.iconst 0, 1) := by decide +kernel
theorem dX2_readNext_86 : decode cX2_readNext 86 = .ok (.ireturn, 1) := by decide +kernel
theorem dX2_readNext_87 : decode cX2_readNext 87 = .ok (.aload_n 0, 1) := by decide +kernel
theorem dX2_readNext_88 : decode cX2_readNext 88 = .ok (.dup, 1) := by decide +kernel
theorem dX2_readNext_89 : decode cX2_readNext 89 = .ok (.getfield 15, 3) := by decide +kernel
theorem dX2_readNext_92 : decode cX2_readNext 92 = .ok (.iconst 1, 1) := by decide +kernel
theorem dX2_readNext_93 : decode cX2_readNext 93 = .ok (.iadd, 1) := by decide +kernel
theorem dX2_readNext_94 : decode cX2_readNext 94 = .ok (.putfield 15, 3) := by decide +kernel
theorem dX2_readNext_97 : decode cX2_readNext 97 = .ok (.aload_n 2, 1) := by decide +kernel
theorem dX2_readNext_98 : decode cX2_readNext 98 = .ok (.iload_n 3, 1) := by decide +kernel
theorem dX2_readNext_99 : decode cX2_readNext 99 = .ok (.iload 4, 2) := by decide +kernel
theorem dX2_readNext_101 : decode cX2_readNext 101 = .ok (.invokevirtual 82, 3) := by decide +kernel
theorem dX2_readNext_104 : decode cX2_readNext 104 = .ok (.iconst 1, 1) := by decide +kernel
theorem dX2_readNext_105 : decode cX2_readNext 105 = .ok (.ireturn, 1) := by decide +kernel
theorem dX2_readPrice_0 : decode cX2_readPrice 0 = .ok (.aload_n 0, 1) := by decide +kernel
theorem dX2_readPrice_1 : decode cX2_readPrice 1 = .ok (.iload_n 3, 1) := by decide +kernel
theorem dX2_readPrice_2 : decode cX2_readPrice 2 = .ok (.invokevirtual 85, 3) := by decide +kernel
theorem dX2_readPrice_5 : decode cX2_readPrice 5 = .ok (.ifCond .ne 5, 3) := by decide +kernel
theorem dX2_readPrice_8 : decode cX2_readPrice 8 = .ok (.iconst 0, 1) := by decide +kernel
theorem dX2_readPrice_9 : decode cX2_readPrice 9 = .ok (.ireturn, 1) := by decide +kernel
theorem dX2_readPrice_10 : decode cX2_readPrice 10 = .ok (.aload_n 0, 1) := by decide +kernel
theorem dX2_readPrice_11 : decode cX2_readPrice 11 = .ok (.dup, 1) := by decide +kernel
theorem dX2_readPrice_12 : decode cX2_readPrice 12 = .ok (.getfield 15, 3) := by decide +kernel
theorem dX2_readPrice_15 : decode cX2_readPrice 15 = .ok (.iconst 1, 1) := by decide +kernel
theorem dX2_readPrice_16 : decode cX2_readPrice 16 = .ok (.iadd, 1) := by decide +kernel
theorem dX2_readPrice_17 : decode cX2_readPrice 17 = .ok (.putfield 15, 3) := by decide +kernel
theorem dX2_readPrice_20 : decode cX2_readPrice 20 = .ok (.aload_n 0, 1) := by decide +kernel
theorem dX2_readPrice_21 : decode cX2_readPrice 21 = .ok (.aload_n 1, 1) := by decide +kernel
theorem dX2_readPrice_22 : decode cX2_readPrice 22 = .ok (.iconst 0, 1) := by decide +kernel
theorem dX2_readPrice_23 : decode cX2_readPrice 23 = .ok (.bipush 9, 2) := by decide +kernel
theorem dX2_readPrice_25 : decode cX2_readPrice 25 = .ok (.invokevirtual 44, 3) := by decide +kernel
theorem dX2_readPrice_28 : decode cX2_readPrice 28 = .ok (.istore 4, 2) := by decide +kernel
theorem dX2_readPrice_30 : decode cX2_readPrice 30 = .ok (.iload 4, 2) := by decide +kernel
theorem dX2_readPrice_32 : decode cX2_readPrice 32 = .ok (.bipush (-9), 2) := by decide +kernel
theorem dX2_readPrice_34 : decode cX2_readPrice 34 = .ok (.if_icmp .ne 8, 3) := by decide +kernel
theorem dX2_readPrice_37 : decode cX2_readPrice 37 = .ok (.bipush (-9), 2) := by decide +kernel
theorem dX2_readPrice_39 : decode cX2_readPrice 39 = .ok (.goto 11, 3) := by decide +kernel
theorem dX2_readPrice_42 : decode cX2_readPrice 42 = .ok (.aload_n 0, 1) := by decide +kernel
theorem dX2_readPrice_43 : decode cX2_readPrice 43 = .ok (.aload_n 1, 1) := by decide +kernel
theorem dX2_readPrice_44 : decode cX2_readPrice 44 = .ok (.iconst 0, 1) := by decide +kernel
theorem dX2_readPrice_45 : decode cX2_readPrice 45 = .ok (.bipush 9, 2) := by decide +kernel
theorem dX2_readPrice_47 : decode cX2_readPrice 47 = .ok (.invokevirtual 44, 3) := by decide +kernel
theorem dX2_readPrice_50 : decode cX2_readPrice 50 = .ok (.istore 5, 2) := by decide +kernel
theorem dX2_readPrice_52 : decode cX2_readPrice 52 = .ok (.iload 5, 2) := by decide +kernel
theorem dX2_readPrice_54 : decode cX2_readPrice 54 = .ok (.bipush (-9), 2) := by decide +kernel
theorem dX2_readPrice_56 : decode cX2_readPrice 56 = .ok (.if_icmp .ne 5, 3) := by decide +kernel
theorem dX2_readPrice_59 : decode cX2_readPrice 59 = .ok (.iconst 0, 1) := by decide +kernel
theorem dX2_readPrice_60 : decode cX2_readPrice 60 = .ok (.ireturn, 1) := by decide +kernel
theorem dX2_readPrice_61 : decode cX2_readPrice 61 = .ok (.iload 4, 2) := by decide +kernel
theorem dX2_readPrice_63 : decode cX2_readPrice 63 = .ok (.bipush 10, 2) := by decide +kernel
theorem dX2_readPrice_65 : decode cX2_readPrice 65 = .ok (.imul, 1) := by decide +kernel
theorem dX2_readPrice_66 : decode cX2_readPrice 66 = .ok (.iload 5, 2) := by decide +kernel
theorem dX2_readPrice_68 : decode cX2_readPrice 68 = .ok (.iadd, 1) := by decide +kernel
theorem dX2_readPrice_69 : decode cX2_readPrice 69 = .ok (.istore 6, 2) := by decide +kernel
theorem dX2_readPrice_71 : decode cX2_readPrice 71 = .ok (.iload_n 3, 1) := by decide +kernel
theorem dX2_readPrice_72 : decode cX2_readPrice 72 = .ok (.bipush 15, 2) := by decide +kernel
theorem dX2_readPrice_74 : decode cX2_readPrice 74 = .ok (.if_icmp .ne 12, 3) := by decide +kernel
theorem dX2_readPrice_77 : decode cX2_readPrice 77 = .ok (.aload_n 2, 1) := by decide +kernel
theorem dX2_readPrice_78 : decode cX2_readPrice 78 = .ok (.iload 6, 2) := by decide +kernel
theorem dX2_readPrice_80 : decode cX2_readPrice 80 = .ok (.putfield 89, 3) := by decide +kernel
theorem dX2_readPrice_83 : decode cX2_readPrice 83 = .ok (.goto 24, 3) := by decide +kernel
theorem dX2_readPrice_86 : decode cX2_readPrice 86 = .ok (.iload_n 3, 1) := by decide +kernel
theorem dX2_readPrice_87 : decode cX2_readPrice 87 = .ok (.bipush 16, 2) := by decide +kernel
theorem dX2_readPrice_89 : decode cX2_readPrice 89 = .ok (.if_icmp .ne 12, 3) := by decide +kernel
theorem dX2_readPrice_92 : decode cX2_readPrice 92 = .ok (.aload_n 2, 1) := by decide +kernel
theorem dX2_readPrice_93 : decode cX2_readPrice 93 = .ok (.iload 6, 2) := by decide +kernel
theorem dX2_readPrice_95 : decode cX2_readPrice 95 = .ok (.putfield 92, 3) := by decide +kernel
theorem dX2_readPrice_98 : decode cX2_readPrice 98 = .ok (.goto 9, 3) := by decide +kernel
theorem dX2_readPrice_101 : decode cX2_readPrice 101 = .ok (.aload_n 2, 1) := by decide +kernel
theorem dX2_readPrice_102 : decode cX2_readPrice 102 = .ok (.iload 6, 2) := by decide +kernel
theorem dX2_readPrice_104 : decode cX2_readPrice 104 = .ok (.putfield 95, 3) := by decide +kernel
theorem dX2_readPrice_107 : decode cX2_readPrice 107 = .ok (.iconst 1, 1) := by decide +kernel
theorem dX2_readPrice_108 : decode cX2_readPrice 108 = .ok (.ireturn, 1) := by decide +kernel
theorem dX2_figure_0 : decode cX2_figure 0 = .ok (.aload_n 1, 1) := by decide +kernel
theorem dX2_figure_1 : decode cX2_figure 1 = .ok (.aload_n 0, 1) := by decide +kernel
theorem dX2_figure_2 : decode cX2_figure 2 = .ok (.getfield 15, 3) := by decide +kernel
theorem dX2_figure_5 : decode cX2_figure 5 = .ok (.invokevirtual 40, 3) := by decide +kernel
theorem dX2_figure_8 : decode cX2_figure 8 = .ok (.bipush 48, 2) := by decide +kernel
theorem dX2_figure_10 : decode cX2_figure 10 = .ok (.isub, 1) := by decide +kernel
theorem dX2_figure_11 : decode cX2_figure 11 = .ok (.istore 4, 2) := by decide +kernel
theorem dX2_figure_13 : decode cX2_figure 13 = .ok (.iload 4, 2) := by decide +kernel
theorem dX2_figure_15 : decode cX2_figure 15 = .ok (.iload_n 2, 1) := by decide +kernel
theorem dX2_figure_16 : decode cX2_figure 16 = .ok (.if_icmp .lt 9, 3) := by decide +kernel
theorem dX2_figure_19 : decode cX2_figure 19 = .ok (.iload 4, 2) := by decide +kernel
theorem dX2_figure_21 : decode cX2_figure 21 = .ok (.iload_n 3, 1) := by decide +kernel
theorem dX2_figure_22 : decode cX2_figure 22 = .ok (.if_icmp .le 8, 3) := by decide +kernel
theorem dX2_figure_25 : decode cX2_figure 25 = .ok (.bipush (-9), 2) := by decide +kernel
theorem dX2_figure_27 : decode cX2_figure 27 = .ok (.goto 5, 3) := by decide +kernel
theorem dX2_figure_30 : decode cX2_figure 30 = .ok (.iload 4, 2) := by decide +kernel
theorem dX2_figure_32 : decode cX2_figure 32 = .ok (.ireturn, 1) := by decide +kernel
theorem dX2_take_0 : decode cX2_take 0 = .ok (.aload_n 0, 1) := by decide +kernel
theorem dX2_take_1 : decode cX2_take 1 = .ok (.aload_n 1, 1) := by decide +kernel
theorem dX2_take_2 : decode cX2_take 2 = .ok (.iload_n 2, 1) := by decide +kernel
theorem dX2_take_3 : decode cX2_take 3 = .ok (.iload_n 3, 1) := by decide +kernel
theorem dX2_take_4 : decode cX2_take 4 = .ok (.invokevirtual 75, 3) := by decide +kernel
theorem dX2_take_7 : decode cX2_take 7 = .ok (.istore 4, 2) := by decide +kernel
theorem dX2_take_9 : decode cX2_take 9 = .ok (.iload 4, 2) := by decide +kernel
theorem dX2_take_11 : decode cX2_take 11 = .ok (.bipush (-9), 2) := by decide +kernel
theorem dX2_take_13 : decode cX2_take 13 = .ok (.if_icmp .eq 13, 3) := by decide +kernel
theorem dX2_take_16 : decode cX2_take 16 = .ok (.aload_n 0, 1) := by decide +kernel
theorem dX2_take_17 : decode cX2_take 17 = .ok (.dup, 1) := by decide +kernel
theorem dX2_take_18 : decode cX2_take 18 = .ok (.getfield 15, 3) := by decide +kernel
theorem dX2_take_21 : decode cX2_take 21 = .ok (.iconst 1, 1) := by decide +kernel
theorem dX2_take_22 : decode cX2_take 22 = .ok (.iadd, 1) := by decide +kernel
theorem dX2_take_23 : decode cX2_take 23 = .ok (.putfield 15, 3) := by decide +kernel
theorem dX2_take_26 : decode cX2_take 26 = .ok (.iload 4, 2) := by decide +kernel
theorem dX2_take_28 : decode cX2_take 28 = .ok (.ireturn, 1) := by decide +kernel
theorem dX2_takeUntold_0 : decode cX2_takeUntold 0 = .ok (.aload_n 0, 1) := by decide +kernel
theorem dX2_takeUntold_1 : decode cX2_takeUntold 1 = .ok (.aload_n 1, 1) := by decide +kernel
theorem dX2_takeUntold_2 : decode cX2_takeUntold 2 = .ok (.iconst 0, 1) := by decide +kernel
theorem dX2_takeUntold_3 : decode cX2_takeUntold 3 = .ok (.iload_n 2, 1) := by decide +kernel
theorem dX2_takeUntold_4 : decode cX2_takeUntold 4 = .ok (.invokevirtual 75, 3) := by decide +kernel
theorem dX2_takeUntold_7 : decode cX2_takeUntold 7 = .ok (.istore 4, 2) := by decide +kernel
theorem dX2_takeUntold_9 : decode cX2_takeUntold 9 = .ok (.iload 4, 2) := by decide +kernel
theorem dX2_takeUntold_11 : decode cX2_takeUntold 11 = .ok (.bipush (-9), 2) := by decide +kernel
theorem dX2_takeUntold_13 : decode cX2_takeUntold 13 = .ok (.if_icmp .eq 14, 3) := by decide +kernel
theorem dX2_takeUntold_16 : decode cX2_takeUntold 16 = .ok (.aload_n 0, 1) := by decide +kernel
theorem dX2_takeUntold_17 : decode cX2_takeUntold 17 = .ok (.iload_n 3, 1) := by decide +kernel
theorem dX2_takeUntold_18 : decode cX2_takeUntold 18 = .ok (.iload 4, 2) := by decide +kernel
theorem dX2_takeUntold_20 : decode cX2_takeUntold 20 = .ok (.iadd, 1) := by decide +kernel
theorem dX2_takeUntold_21 : decode cX2_takeUntold 21 = .ok (.invokevirtual 85, 3) := by decide +kernel
theorem dX2_takeUntold_24 : decode cX2_takeUntold 24 = .ok (.ifCond .ne 6, 3) := by decide +kernel
theorem dX2_takeUntold_27 : decode cX2_takeUntold 27 = .ok (.bipush (-9), 2) := by decide +kernel
theorem dX2_takeUntold_29 : decode cX2_takeUntold 29 = .ok (.ireturn, 1) := by decide +kernel
theorem dX2_takeUntold_30 : decode cX2_takeUntold 30 = .ok (.aload_n 0, 1) := by decide +kernel
theorem dX2_takeUntold_31 : decode cX2_takeUntold 31 = .ok (.dup, 1) := by decide +kernel
theorem dX2_takeUntold_32 : decode cX2_takeUntold 32 = .ok (.getfield 15, 3) := by decide +kernel
theorem dX2_takeUntold_35 : decode cX2_takeUntold 35 = .ok (.iconst 1, 1) := by decide +kernel
theorem dX2_takeUntold_36 : decode cX2_takeUntold 36 = .ok (.iadd, 1) := by decide +kernel
theorem dX2_takeUntold_37 : decode cX2_takeUntold 37 = .ok (.putfield 15, 3) := by decide +kernel
theorem dX2_takeUntold_40 : decode cX2_takeUntold 40 = .ok (.iload 4, 2) := by decide +kernel
theorem dX2_takeUntold_42 : decode cX2_takeUntold 42 = .ok (.ireturn, 1) := by decide +kernel
theorem dX2_tell_0 : decode cX2_tell 0 = .ok (.iload_n 1, 1) := by decide +kernel
theorem dX2_tell_1 : decode cX2_tell 1 = .ok (.ifCond .lt 18, 3) := by decide +kernel
theorem dX2_tell_4 : decode cX2_tell 4 = .ok (.iload_n 1, 1) := by decide +kernel
theorem dX2_tell_5 : decode cX2_tell 5 = .ok (.bipush 18, 2) := by decide +kernel
theorem dX2_tell_7 : decode cX2_tell 7 = .ok (.if_icmp .ge 12, 3) := by decide +kernel
theorem dX2_tell_10 : decode cX2_tell 10 = .ok (.aload_n 0, 1) := by decide +kernel
theorem dX2_tell_11 : decode cX2_tell 11 = .ok (.getfield 11, 3) := by decide +kernel
theorem dX2_tell_14 : decode cX2_tell 14 = .ok (.iload_n 1, 1) := by decide +kernel
theorem dX2_tell_15 : decode cX2_tell 15 = .ok (.baload, 1) := by decide +kernel
theorem dX2_tell_16 : decode cX2_tell 16 = .ok (.ifCond .eq 5, 3) := by decide +kernel
theorem dX2_tell_19 : decode cX2_tell 19 = .ok (.iconst 0, 1) := by decide +kernel
theorem dX2_tell_20 : decode cX2_tell 20 = .ok (.ireturn, 1) := by decide +kernel
theorem dX2_tell_21 : decode cX2_tell 21 = .ok (.aload_n 0, 1) := by decide +kernel
theorem dX2_tell_22 : decode cX2_tell 22 = .ok (.getfield 11, 3) := by decide +kernel
theorem dX2_tell_25 : decode cX2_tell 25 = .ok (.iload_n 1, 1) := by decide +kernel
theorem dX2_tell_26 : decode cX2_tell 26 = .ok (.iconst 1, 1) := by decide +kernel
theorem dX2_tell_27 : decode cX2_tell 27 = .ok (.bastore, 1) := by decide +kernel
theorem dX2_tell_28 : decode cX2_tell 28 = .ok (.iconst 1, 1) := by decide +kernel
theorem dX2_tell_29 : decode cX2_tell 29 = .ok (.ireturn, 1) := by decide +kernel
theorem dX2_allTold_0 : decode cX2_allTold 0 = .ok (.iload_n 1, 1) := by decide +kernel
theorem dX2_allTold_1 : decode cX2_allTold 1 = .ok (.iconst 0, 1) := by decide +kernel
theorem dX2_allTold_2 : decode cX2_allTold 2 = .ok (.invokestatic 98, 3) := by decide +kernel
theorem dX2_allTold_5 : decode cX2_allTold 5 = .ok (.istore_n 3, 1) := by decide +kernel
theorem dX2_allTold_6 : decode cX2_allTold 6 = .ok (.iload_n 3, 1) := by decide +kernel
theorem dX2_allTold_7 : decode cX2_allTold 7 = .ok (.iload_n 1, 1) := by decide +kernel
theorem dX2_allTold_8 : decode cX2_allTold 8 = .ok (.iload_n 2, 1) := by decide +kernel
theorem dX2_allTold_9 : decode cX2_allTold 9 = .ok (.iadd, 1) := by decide +kernel
theorem dX2_allTold_10 : decode cX2_allTold 10 = .ok (.if_icmp .ge 26, 3) := by decide +kernel
theorem dX2_allTold_13 : decode cX2_allTold 13 = .ok (.iload_n 3, 1) := by decide +kernel
theorem dX2_allTold_14 : decode cX2_allTold 14 = .ok (.bipush 18, 2) := by decide +kernel
theorem dX2_allTold_16 : decode cX2_allTold 16 = .ok (.if_icmp .ge 20, 3) := by decide +kernel
theorem dX2_allTold_19 : decode cX2_allTold 19 = .ok (.aload_n 0, 1) := by decide +kernel
theorem dX2_allTold_20 : decode cX2_allTold 20 = .ok (.getfield 11, 3) := by decide +kernel
theorem dX2_allTold_23 : decode cX2_allTold 23 = .ok (.iload_n 3, 1) := by decide +kernel
theorem dX2_allTold_24 : decode cX2_allTold 24 = .ok (.baload, 1) := by decide +kernel
theorem dX2_allTold_25 : decode cX2_allTold 25 = .ok (.ifCond .ne 5, 3) := by decide +kernel
theorem dX2_allTold_28 : decode cX2_allTold 28 = .ok (.iconst 0, 1) := by decide +kernel
theorem dX2_allTold_29 : decode cX2_allTold 29 = .ok (.ireturn, 1) := by decide +kernel
theorem dX2_allTold_30 : decode cX2_allTold 30 = .ok (.iinc 3 1, 3) := by decide +kernel
theorem dX2_allTold_33 : decode cX2_allTold 33 = .ok (.goto (-27), 3) := by decide +kernel
theorem dX2_allTold_36 : decode cX2_allTold 36 = .ok (.iconst 1, 1) := by decide +kernel
theorem dX2_allTold_37 : decode cX2_allTold 37 = .ok (.ireturn, 1) := by decide +kernel
theorem dX3_init_0 : decode cX3_init 0 = .ok (.aload_n 0, 1) := by decide +kernel
theorem dX3_init_1 : decode cX3_init 1 = .ok (.invokespecial 3, 3) := by decide +kernel
theorem dX3_init_4 : decode cX3_init 4 = .ok (.aload_n 0, 1) := by decide +kernel
theorem dX3_init_5 : decode cX3_init 5 = .ok (.bipush 18, 2) := by decide +kernel
theorem dX3_init_7 : decode cX3_init 7 = .ok (.newarray .int, 2) := by decide +kernel
theorem dX3_init_9 : decode cX3_init 9 = .ok (.putfield 11, 3) := by decide +kernel
theorem dX3_init_12 : decode cX3_init 12 = .ok (.aload_n 0, 1) := by decide +kernel
theorem dX3_init_13 : decode cX3_init 13 = .ok (.bipush 18, 2) := by decide +kernel
theorem dX3_init_15 : decode cX3_init 15 = .ok (.newarray .int, 2) := by decide +kernel
theorem dX3_init_17 : decode cX3_init 17 = .ok (.putfield 15, 3) := by decide +kernel
theorem dX3_init_20 : decode cX3_init 20 = .ok (.aload_n 0, 1) := by decide +kernel
theorem dX3_init_21 : decode cX3_init 21 = .ok (.bipush 18, 2) := by decide +kernel
theorem dX3_init_23 : decode cX3_init 23 = .ok (.newarray .int, 2) := by decide +kernel
theorem dX3_init_25 : decode cX3_init 25 = .ok (.putfield 18, 3) := by decide +kernel
theorem dX3_init_28 : decode cX3_init 28 = .ok (.aload_n 0, 1) := by decide +kernel
theorem dX3_init_29 : decode cX3_init 29 = .ok (.bipush 18, 2) := by decide +kernel
theorem dX3_init_31 : decode cX3_init 31 = .ok (.newarray .int, 2) := by decide +kernel
theorem dX3_init_33 : decode cX3_init 33 = .ok (.putfield 21, 3) := by decide +kernel
theorem dX3_init_36 : decode cX3_init 36 = .ok (.aload_n 0, 1) := by decide +kernel
theorem dX3_init_37 : decode cX3_init 37 = .ok (.iconst 3, 1) := by decide +kernel
theorem dX3_init_38 : decode cX3_init 38 = .ok (.newarray .int, 2) := by decide +kernel
theorem dX3_init_40 : decode cX3_init 40 = .ok (.putfield 24, 3) := by decide +kernel
theorem dX3_init_43 : decode cX3_init 43 = .ok (.aload_n 0, 1) := by decide +kernel
theorem dX3_init_44 : decode cX3_init 44 = .ok (.iconst 3, 1) := by decide +kernel
theorem dX3_init_45 : decode cX3_init 45 = .ok (.newarray .int, 2) := by decide +kernel
theorem dX3_init_47 : decode cX3_init 47 = .ok (.putfield 27, 3) := by decide +kernel
theorem dX3_init_50 : decode cX3_init 50 = .ok (.aload_n 0, 1) := by decide +kernel
theorem dX3_init_51 : decode cX3_init 51 = .ok (.bipush (-9), 2) := by decide +kernel
theorem dX3_init_53 : decode cX3_init 53 = .ok (.putfield 30, 3) := by decide +kernel
theorem dX3_init_56 : decode cX3_init 56 = .ok (.aload_n 0, 1) := by decide +kernel
theorem dX3_init_57 : decode cX3_init 57 = .ok (.bipush (-9), 2) := by decide +kernel
theorem dX3_init_59 : decode cX3_init 59 = .ok (.putfield 34, 3) := by decide +kernel
theorem dX3_init_62 : decode cX3_init 62 = .ok (.aload_n 0, 1) := by decide +kernel
theorem dX3_init_63 : decode cX3_init 63 = .ok (.bipush (-9), 2) := by decide +kernel
theorem dX3_init_65 : decode cX3_init 65 = .ok (.putfield 37, 3) := by decide +kernel
theorem dX3_init_68 : decode cX3_init 68 = .ok (.aload_n 0, 1) := by decide +kernel
theorem dX3_init_69 : decode cX3_init 69 = .ok (.iconst 0, 1) := by decide +kernel
theorem dX3_init_70 : decode cX3_init 70 = .ok (.putfield 40, 3) := by decide +kernel
theorem dX3_init_73 : decode cX3_init 73 = .ok (.return_, 1) := by decide +kernel
theorem dX3_plain_0 : decode cX3_plain 0 = .ok (.aload_n 0, 1) := by decide +kernel
theorem dX3_plain_1 : decode cX3_plain 1 = .ok (.bipush (-9), 2) := by decide +kernel
theorem dX3_plain_3 : decode cX3_plain 3 = .ok (.putfield 30, 3) := by decide +kernel
theorem dX3_plain_6 : decode cX3_plain 6 = .ok (.aload_n 0, 1) := by decide +kernel
theorem dX3_plain_7 : decode cX3_plain 7 = .ok (.bipush (-9), 2) := by decide +kernel
theorem dX3_plain_9 : decode cX3_plain 9 = .ok (.putfield 34, 3) := by decide +kernel
theorem dX3_plain_12 : decode cX3_plain 12 = .ok (.aload_n 0, 1) := by decide +kernel
theorem dX3_plain_13 : decode cX3_plain 13 = .ok (.aload_n 1, 1) := by decide +kernel
theorem dX3_plain_14 : decode cX3_plain 14 = .ok (.aload_n 2, 1) := by decide +kernel
theorem dX3_plain_15 : decode cX3_plain 15 = .ok (.invokevirtual 43, 3) := by decide +kernel
theorem dX3_plain_18 : decode cX3_plain 18 = .ok (.return_, 1) := by decide +kernel
theorem dX3_withCrier_0 : decode cX3_withCrier 0 = .ok (.aload_n 0, 1) := by decide +kernel
theorem dX3_withCrier_1 : decode cX3_withCrier 1 = .ok (.iload_n 3, 1) := by decide +kernel
theorem dX3_withCrier_2 : decode cX3_withCrier 2 = .ok (.putfield 30, 3) := by decide +kernel
theorem dX3_withCrier_5 : decode cX3_withCrier 5 = .ok (.aload_n 0, 1) := by decide +kernel
theorem dX3_withCrier_6 : decode cX3_withCrier 6 = .ok (.bipush (-9), 2) := by decide +kernel
theorem dX3_withCrier_8 : decode cX3_withCrier 8 = .ok (.putfield 34, 3) := by decide +kernel
theorem dX3_withCrier_11 : decode cX3_withCrier 11 = .ok (.aload_n 0, 1) := by decide +kernel
theorem dX3_withCrier_12 : decode cX3_withCrier 12 = .ok (.aload_n 1, 1) := by decide +kernel
theorem dX3_withCrier_13 : decode cX3_withCrier 13 = .ok (.aload_n 2, 1) := by decide +kernel
theorem dX3_withCrier_14 : decode cX3_withCrier 14 = .ok (.invokevirtual 43, 3) := by decide +kernel
theorem dX3_withCrier_17 : decode cX3_withCrier 17 = .ok (.return_, 1) := by decide +kernel
theorem dX3_withSecond_0 : decode cX3_withSecond 0 = .ok (.aload_n 0, 1) := by decide +kernel
theorem dX3_withSecond_1 : decode cX3_withSecond 1 = .ok (.bipush (-9), 2) := by decide +kernel
theorem dX3_withSecond_3 : decode cX3_withSecond 3 = .ok (.putfield 30, 3) := by decide +kernel
theorem dX3_withSecond_6 : decode cX3_withSecond 6 = .ok (.aload_n 0, 1) := by decide +kernel
theorem dX3_withSecond_7 : decode cX3_withSecond 7 = .ok (.iload_n 3, 1) := by decide +kernel
theorem dX3_withSecond_8 : decode cX3_withSecond 8 = .ok (.putfield 34, 3) := by decide +kernel
theorem dX3_withSecond_11 : decode cX3_withSecond 11 = .ok (.aload_n 0, 1) := by decide +kernel
theorem dX3_withSecond_12 : decode cX3_withSecond 12 = .ok (.iload 4, 2) := by decide +kernel
theorem dX3_withSecond_14 : decode cX3_withSecond 14 = .ok (.putfield 37, 3) := by decide +kernel
theorem dX3_withSecond_17 : decode cX3_withSecond 17 = .ok (.aload_n 0, 1) := by decide +kernel
theorem dX3_withSecond_18 : decode cX3_withSecond 18 = .ok (.iload 5, 2) := by decide +kernel
theorem dX3_withSecond_20 : decode cX3_withSecond 20 = .ok (.putfield 40, 3) := by decide +kernel
theorem dX3_withSecond_23 : decode cX3_withSecond 23 = .ok (.aload_n 0, 1) := by decide +kernel
theorem dX3_withSecond_24 : decode cX3_withSecond 24 = .ok (.aload_n 1, 1) := by decide +kernel
theorem dX3_withSecond_25 : decode cX3_withSecond 25 = .ok (.aload_n 2, 1) := by decide +kernel
theorem dX3_withSecond_26 : decode cX3_withSecond 26 = .ok (.invokevirtual 43, 3) := by decide +kernel
theorem dX3_withSecond_29 : decode cX3_withSecond 29 = .ok (.return_, 1) := by decide +kernel
theorem dX3_go_0 : decode cX3_go 0 = .ok (.aload_n 0, 1) := by decide +kernel
theorem dX3_go_1 : decode cX3_go 1 = .ok (.aload_n 1, 1) := by decide +kernel
theorem dX3_go_2 : decode cX3_go 2 = .ok (.getfield 47, 3) := by decide +kernel
theorem dX3_go_5 : decode cX3_go 5 = .ok (.putfield 52, 3) := by decide +kernel
theorem dX3_go_8 : decode cX3_go 8 = .ok (.aload_n 0, 1) := by decide +kernel
theorem dX3_go_9 : decode cX3_go 9 = .ok (.aload_n 2, 1) := by decide +kernel
theorem dX3_go_10 : decode cX3_go 10 = .ok (.getfield 53, 3) := by decide +kernel
theorem dX3_go_13 : decode cX3_go 13 = .ok (.putfield 58, 3) := by decide +kernel
theorem dX3_go_16 : decode cX3_go 16 = .ok (.aload_n 0, 1) := by decide +kernel
theorem dX3_go_17 : decode cX3_go 17 = .ok (.iconst 0, 1) := by decide +kernel
theorem dX3_go_18 : decode cX3_go 18 = .ok (.putfield 59, 3) := by decide +kernel
theorem dX3_go_21 : decode cX3_go 21 = .ok (.iconst 0, 1) := by decide +kernel
theorem dX3_go_22 : decode cX3_go 22 = .ok (.istore_n 3, 1) := by decide +kernel
theorem dX3_go_23 : decode cX3_go 23 = .ok (.iload_n 3, 1) := by decide +kernel
theorem dX3_go_24 : decode cX3_go 24 = .ok (.aload_n 0, 1) := by decide +kernel
theorem dX3_go_25 : decode cX3_go 25 = .ok (.getfield 52, 3) := by decide +kernel
theorem dX3_go_28 : decode cX3_go 28 = .ok (.if_icmp .ge 32, 3) := by decide +kernel
theorem dX3_go_31 : decode cX3_go 31 = .ok (.iload_n 3, 1) := by decide +kernel
theorem dX3_go_32 : decode cX3_go 32 = .ok (.iconst 3, 1) := by decide +kernel
theorem dX3_go_33 : decode cX3_go 33 = .ok (.if_icmp .ge 27, 3) := by decide +kernel
theorem dX3_go_36 : decode cX3_go 36 = .ok (.aload_n 0, 1) := by decide +kernel
theorem dX3_go_37 : decode cX3_go 37 = .ok (.getfield 24, 3) := by decide +kernel
theorem dX3_go_40 : decode cX3_go 40 = .ok (.iload_n 3, 1) := by decide +kernel
theorem dX3_go_41 : decode cX3_go 41 = .ok (.aload_n 2, 1) := by decide +kernel
theorem dX3_go_42 : decode cX3_go 42 = .ok (.iload_n 3, 1) := by decide +kernel
theorem dX3_go_43 : decode cX3_go 43 = .ok (.invokevirtual 62, 3) := by decide +kernel
theorem dX3_go_46 : decode cX3_go 46 = .ok (.iastore, 1) := by decide +kernel
theorem dX3_go_47 : decode cX3_go 47 = .ok (.aload_n 0, 1) := by decide +kernel
theorem dX3_go_48 : decode cX3_go 48 = .ok (.getfield 27, 3) := by decide +kernel
theorem dX3_go_51 : decode cX3_go 51 = .ok (.iload_n 3, 1) := by decide +kernel
theorem dX3_go_52 : decode cX3_go 52 = .ok (.iconst 0, 1) := by decide +kernel
theorem dX3_go_53 : decode cX3_go 53 = .ok (.iastore, 1) := by decide +kernel
theorem dX3_go_54 : decode cX3_go 54 = .ok (.iinc 3 1, 3) := by decide +kernel
theorem dX3_go_57 : decode cX3_go 57 = .ok (.goto (-34), 3) := by decide +kernel
theorem dX3_go_60 : decode cX3_go 60 = .ok (.iconst 0, 1) := by decide +kernel
theorem dX3_go_61 : decode cX3_go 61 = .ok (.istore_n 3, 1) := by decide +kernel
theorem dX3_go_62 : decode cX3_go 62 = .ok (.iload_n 3, 1) := by decide +kernel
theorem dX3_go_63 : decode cX3_go 63 = .ok (.bipush 6, 2) := by decide +kernel
theorem dX3_go_65 : decode cX3_go 65 = .ok (.if_icmp .ge 53, 3) := by decide +kernel
theorem dX3_go_68 : decode cX3_go 68 = .ok (.aload_n 0, 1) := by decide +kernel
theorem dX3_go_69 : decode cX3_go 69 = .ok (.aload_n 2, 1) := by decide +kernel
theorem dX3_go_70 : decode cX3_go 70 = .ok (.iload_n 3, 1) := by decide +kernel
theorem dX3_go_71 : decode cX3_go 71 = .ok (.invokevirtual 66, 3) := by decide +kernel
theorem dX3_go_74 : decode cX3_go 74 = .ok (.aload_n 0, 1) := by decide +kernel
theorem dX3_go_75 : decode cX3_go 75 = .ok (.aload_n 2, 1) := by decide +kernel
theorem dX3_go_76 : decode cX3_go 76 = .ok (.iload_n 3, 1) := by decide +kernel
theorem dX3_go_77 : decode cX3_go 77 = .ok (.invokevirtual 70, 3) := by decide +kernel
theorem dX3_go_80 : decode cX3_go 80 = .ok (.aload_n 0, 1) := by decide +kernel
theorem dX3_go_81 : decode cX3_go 81 = .ok (.iload_n 3, 1) := by decide +kernel
theorem dX3_go_82 : decode cX3_go 82 = .ok (.invokevirtual 73, 3) := by decide +kernel
theorem dX3_go_85 : decode cX3_go 85 = .ok (.iconst 0, 1) := by decide +kernel
theorem dX3_go_86 : decode cX3_go 86 = .ok (.istore 4, 2) := by decide +kernel
theorem dX3_go_88 : decode cX3_go 88 = .ok (.iload 4, 2) := by decide +kernel
theorem dX3_go_90 : decode cX3_go 90 = .ok (.aload_n 0, 1) := by decide +kernel
theorem dX3_go_91 : decode cX3_go 91 = .ok (.getfield 52, 3) := by decide +kernel
theorem dX3_go_94 : decode cX3_go 94 = .ok (.if_icmp .ge 18, 3) := by decide +kernel
theorem dX3_go_97 : decode cX3_go 97 = .ok (.aload_n 0, 1) := by decide +kernel
theorem dX3_go_98 : decode cX3_go 98 = .ok (.aload_n 1, 1) := by decide +kernel
theorem dX3_go_99 : decode cX3_go 99 = .ok (.aload_n 2, 1) := by decide +kernel
theorem dX3_go_100 : decode cX3_go 100 = .ok (.iload 4, 2) := by decide +kernel
theorem dX3_go_102 : decode cX3_go 102 = .ok (.iload_n 3, 1) := by decide +kernel
theorem dX3_go_103 : decode cX3_go 103 = .ok (.invokevirtual 77, 3) := by decide +kernel
theorem dX3_go_106 : decode cX3_go 106 = .ok (.iinc 4 1, 3) := by decide +kernel
theorem dX3_go_109 : decode cX3_go 109 = .ok (.goto (-21), 3) := by decide +kernel
theorem dX3_go_112 : decode cX3_go 112 = .ok (.iinc 3 1, 3) := by decide +kernel
theorem dX3_go_115 : decode cX3_go 115 = .ok (.goto (-53), 3) := by decide +kernel
theorem dX3_go_118 : decode cX3_go 118 = .ok (.return_, 1) := by decide +kernel
theorem dX3_giveByOrders_0 : decode cX3_giveByOrders 0 = .ok (.iconst 0, 1) := by decide +kernel
theorem dX3_giveByOrders_1 : decode cX3_giveByOrders 1 = .ok (.istore_n 3, 1) := by decide +kernel
theorem dX3_giveByOrders_2 : decode cX3_giveByOrders 2 = .ok (.iload_n 3, 1) := by decide +kernel
theorem dX3_giveByOrders_3 : decode cX3_giveByOrders 3 = .ok (.aload_n 1, 1) := by decide +kernel
theorem dX3_giveByOrders_4 : decode cX3_giveByOrders 4 = .ok (.getfield 81, 3) := by decide +kernel
theorem dX3_giveByOrders_7 : decode cX3_giveByOrders 7 = .ok (.if_icmp .ge 41, 3) := by decide +kernel
theorem dX3_giveByOrders_10 : decode cX3_giveByOrders 10 = .ok (.iload_n 3, 1) := by decide +kernel
theorem dX3_giveByOrders_11 : decode cX3_giveByOrders 11 = .ok (.bipush 6, 2) := by decide +kernel
theorem dX3_giveByOrders_13 : decode cX3_giveByOrders 13 = .ok (.if_icmp .ge 35, 3) := by decide +kernel
theorem dX3_giveByOrders_16 : decode cX3_giveByOrders 16 = .ok (.aload_n 1, 1) := by decide +kernel
theorem dX3_giveByOrders_17 : decode cX3_giveByOrders 17 = .ok (.getfield 84, 3) := by decide +kernel
theorem dX3_giveByOrders_20 : decode cX3_giveByOrders 20 = .ok (.iload_n 3, 1) := by decide +kernel
theorem dX3_giveByOrders_21 : decode cX3_giveByOrders 21 = .ok (.iaload, 1) := by decide +kernel
theorem dX3_giveByOrders_22 : decode cX3_giveByOrders 22 = .ok (.iload_n 2, 1) := by decide +kernel
theorem dX3_giveByOrders_23 : decode cX3_giveByOrders 23 = .ok (.if_icmp .ne 19, 3) := by decide +kernel
theorem dX3_giveByOrders_26 : decode cX3_giveByOrders 26 = .ok (.aload_n 0, 1) := by decide +kernel
theorem dX3_giveByOrders_27 : decode cX3_giveByOrders 27 = .ok (.aload_n 1, 1) := by decide +kernel
theorem dX3_giveByOrders_28 : decode cX3_giveByOrders 28 = .ok (.getfield 87, 3) := by decide +kernel
theorem dX3_giveByOrders_31 : decode cX3_giveByOrders 31 = .ok (.iload_n 3, 1) := by decide +kernel
theorem dX3_giveByOrders_32 : decode cX3_giveByOrders 32 = .ok (.iaload, 1) := by decide +kernel
theorem dX3_giveByOrders_33 : decode cX3_giveByOrders 33 = .ok (.aload_n 1, 1) := by decide +kernel
theorem dX3_giveByOrders_34 : decode cX3_giveByOrders 34 = .ok (.getfield 90, 3) := by decide +kernel
theorem dX3_giveByOrders_37 : decode cX3_giveByOrders 37 = .ok (.iload_n 3, 1) := by decide +kernel
theorem dX3_giveByOrders_38 : decode cX3_giveByOrders 38 = .ok (.iaload, 1) := by decide +kernel
theorem dX3_giveByOrders_39 : decode cX3_giveByOrders 39 = .ok (.invokevirtual 93, 3) := by decide +kernel
theorem dX3_giveByOrders_42 : decode cX3_giveByOrders 42 = .ok (.iinc 3 1, 3) := by decide +kernel
theorem dX3_giveByOrders_45 : decode cX3_giveByOrders 45 = .ok (.goto (-43), 3) := by decide +kernel
theorem dX3_giveByOrders_48 : decode cX3_giveByOrders 48 = .ok (.return_, 1) := by decide +kernel
theorem dX3_giveByRule_0 : decode cX3_giveByRule 0 = .ok (.aload_n 1, 1) := by decide +kernel
theorem dX3_giveByRule_1 : decode cX3_giveByRule 1 = .ok (.getfield 97, 3) := by decide +kernel
theorem dX3_giveByRule_4 : decode cX3_giveByRule 4 = .ok (.iconst 1, 1) := by decide +kernel
theorem dX3_giveByRule_5 : decode cX3_giveByRule 5 = .ok (.if_icmp .ne 46, 3) := by decide +kernel
theorem dX3_giveByRule_8 : decode cX3_giveByRule 8 = .ok (.iload_n 2, 1) := by decide +kernel
theorem dX3_giveByRule_9 : decode cX3_giveByRule 9 = .ok (.ifCond .le 42, 3) := by decide +kernel
theorem dX3_giveByRule_12 : decode cX3_giveByRule 12 = .ok (.iconst 0, 1) := by decide +kernel
theorem dX3_giveByRule_13 : decode cX3_giveByRule 13 = .ok (.istore_n 3, 1) := by decide +kernel
theorem dX3_giveByRule_14 : decode cX3_giveByRule 14 = .ok (.iload_n 3, 1) := by decide +kernel
theorem dX3_giveByRule_15 : decode cX3_giveByRule 15 = .ok (.aload_n 0, 1) := by decide +kernel
theorem dX3_giveByRule_16 : decode cX3_giveByRule 16 = .ok (.getfield 52, 3) := by decide +kernel
theorem dX3_giveByRule_19 : decode cX3_giveByRule 19 = .ok (.if_icmp .ge 32, 3) := by decide +kernel
theorem dX3_giveByRule_22 : decode cX3_giveByRule 22 = .ok (.iload_n 3, 1) := by decide +kernel
theorem dX3_giveByRule_23 : decode cX3_giveByRule 23 = .ok (.iconst 3, 1) := by decide +kernel
theorem dX3_giveByRule_24 : decode cX3_giveByRule 24 = .ok (.if_icmp .ge 27, 3) := by decide +kernel
theorem dX3_giveByRule_27 : decode cX3_giveByRule 27 = .ok (.aload_n 0, 1) := by decide +kernel
theorem dX3_giveByRule_28 : decode cX3_giveByRule 28 = .ok (.getfield 24, 3) := by decide +kernel
theorem dX3_giveByRule_31 : decode cX3_giveByRule 31 = .ok (.iload_n 3, 1) := by decide +kernel
theorem dX3_giveByRule_32 : decode cX3_giveByRule 32 = .ok (.iaload, 1) := by decide +kernel
theorem dX3_giveByRule_33 : decode cX3_giveByRule 33 = .ok (.ifCond .ne 12, 3) := by decide +kernel
theorem dX3_giveByRule_36 : decode cX3_giveByRule 36 = .ok (.aload_n 0, 1) := by decide +kernel
theorem dX3_giveByRule_37 : decode cX3_giveByRule 37 = .ok (.iload_n 3, 1) := by decide +kernel
theorem dX3_giveByRule_38 : decode cX3_giveByRule 38 = .ok (.aload_n 1, 1) := by decide +kernel
theorem dX3_giveByRule_39 : decode cX3_giveByRule 39 = .ok (.getfield 100, 3) := by decide +kernel
theorem dX3_giveByRule_42 : decode cX3_giveByRule 42 = .ok (.invokevirtual 93, 3) := by decide +kernel
theorem dX3_giveByRule_45 : decode cX3_giveByRule 45 = .ok (.iinc 3 1, 3) := by decide +kernel
theorem dX3_giveByRule_48 : decode cX3_giveByRule 48 = .ok (.goto (-34), 3) := by decide +kernel
theorem dX3_giveByRule_51 : decode cX3_giveByRule 51 = .ok (.aload_n 1, 1) := by decide +kernel
theorem dX3_giveByRule_52 : decode cX3_giveByRule 52 = .ok (.getfield 97, 3) := by decide +kernel
theorem dX3_giveByRule_55 : decode cX3_giveByRule 55 = .ok (.iconst 2, 1) := by decide +kernel
theorem dX3_giveByRule_56 : decode cX3_giveByRule 56 = .ok (.if_icmp .ne 50, 3) := by decide +kernel
theorem dX3_giveByRule_59 : decode cX3_giveByRule 59 = .ok (.iload_n 2, 1) := by decide +kernel
theorem dX3_giveByRule_60 : decode cX3_giveByRule 60 = .ok (.aload_n 1, 1) := by decide +kernel
theorem dX3_giveByRule_61 : decode cX3_giveByRule 61 = .ok (.getfield 100, 3) := by decide +kernel
theorem dX3_giveByRule_64 : decode cX3_giveByRule 64 = .ok (.if_icmp .ne 42, 3) := by decide +kernel
theorem dX3_giveByRule_67 : decode cX3_giveByRule 67 = .ok (.aload_n 0, 1) := by decide +kernel
theorem dX3_giveByRule_68 : decode cX3_giveByRule 68 = .ok (.getfield 58, 3) := by decide +kernel
theorem dX3_giveByRule_71 : decode cX3_giveByRule 71 = .ok (.istore_n 3, 1) := by decide +kernel
theorem dX3_giveByRule_72 : decode cX3_giveByRule 72 = .ok (.iconst 0, 1) := by decide +kernel
theorem dX3_giveByRule_73 : decode cX3_giveByRule 73 = .ok (.istore 4, 2) := by decide +kernel
theorem dX3_giveByRule_75 : decode cX3_giveByRule 75 = .ok (.iload 4, 2) := by decide +kernel
theorem dX3_giveByRule_77 : decode cX3_giveByRule 77 = .ok (.iload_n 3, 1) := by decide +kernel
theorem dX3_giveByRule_78 : decode cX3_giveByRule 78 = .ok (.if_icmp .ge 28, 3) := by decide +kernel
theorem dX3_giveByRule_81 : decode cX3_giveByRule 81 = .ok (.aload_n 0, 1) := by decide +kernel
theorem dX3_giveByRule_82 : decode cX3_giveByRule 82 = .ok (.getfield 52, 3) := by decide +kernel
theorem dX3_giveByRule_85 : decode cX3_giveByRule 85 = .ok (.ifCond .le 21, 3) := by decide +kernel
theorem dX3_giveByRule_88 : decode cX3_giveByRule 88 = .ok (.aload_n 0, 1) := by decide +kernel
theorem dX3_giveByRule_89 : decode cX3_giveByRule 89 = .ok (.iload 4, 2) := by decide +kernel
theorem dX3_giveByRule_91 : decode cX3_giveByRule 91 = .ok (.aload_n 0, 1) := by decide +kernel
theorem dX3_giveByRule_92 : decode cX3_giveByRule 92 = .ok (.getfield 52, 3) := by decide +kernel
theorem dX3_giveByRule_95 : decode cX3_giveByRule 95 = .ok (.irem, 1) := by decide +kernel
theorem dX3_giveByRule_96 : decode cX3_giveByRule 96 = .ok (.iconst 1, 1) := by decide +kernel
theorem dX3_giveByRule_97 : decode cX3_giveByRule 97 = .ok (.invokevirtual 93, 3) := by decide +kernel
theorem dX3_giveByRule_100 : decode cX3_giveByRule 100 = .ok (.iinc 4 1, 3) := by decide +kernel
theorem dX3_giveByRule_103 : decode cX3_giveByRule 103 = .ok (.goto (-28), 3) := by decide +kernel
theorem dX3_giveByRule_106 : decode cX3_giveByRule 106 = .ok (.return_, 1) := by decide +kernel
theorem dX3_giveFromVan_0 : decode cX3_giveFromVan 0 = .ok (.iload_n 1, 1) := by decide +kernel
theorem dX3_giveFromVan_1 : decode cX3_giveFromVan 1 = .ok (.invokestatic 103, 3) := by decide +kernel
theorem dX3_giveFromVan_4 : decode cX3_giveFromVan 4 = .ok (.ifCond .eq 32, 3) := by decide +kernel
theorem dX3_giveFromVan_7 : decode cX3_giveFromVan 7 = .ok (.iload_n 2, 1) := by decide +kernel
theorem dX3_giveFromVan_8 : decode cX3_giveFromVan 8 = .ok (.aload_n 0, 1) := by decide +kernel
theorem dX3_giveFromVan_9 : decode cX3_giveFromVan 9 = .ok (.getfield 58, 3) := by decide +kernel
theorem dX3_giveFromVan_12 : decode cX3_giveFromVan 12 = .ok (.invokestatic 107, 3) := by decide +kernel
theorem dX3_giveFromVan_15 : decode cX3_giveFromVan 15 = .ok (.istore_n 3, 1) := by decide +kernel
theorem dX3_giveFromVan_16 : decode cX3_giveFromVan 16 = .ok (.aload_n 0, 1) := by decide +kernel
theorem dX3_giveFromVan_17 : decode cX3_giveFromVan 17 = .ok (.getfield 24, 3) := by decide +kernel
theorem dX3_giveFromVan_20 : decode cX3_giveFromVan 20 = .ok (.iload_n 1, 1) := by decide +kernel
theorem dX3_giveFromVan_21 : decode cX3_giveFromVan 21 = .ok (.dup2, 1) := by decide +kernel
theorem dX3_giveFromVan_22 : decode cX3_giveFromVan 22 = .ok (.iaload, 1) := by decide +kernel
theorem dX3_giveFromVan_23 : decode cX3_giveFromVan 23 = .ok (.iload_n 3, 1) := by decide +kernel
theorem dX3_giveFromVan_24 : decode cX3_giveFromVan 24 = .ok (.iadd, 1) := by decide +kernel
theorem dX3_giveFromVan_25 : decode cX3_giveFromVan 25 = .ok (.iastore, 1) := by decide +kernel
theorem dX3_giveFromVan_26 : decode cX3_giveFromVan 26 = .ok (.aload_n 0, 1) := by decide +kernel
theorem dX3_giveFromVan_27 : decode cX3_giveFromVan 27 = .ok (.dup, 1) := by decide +kernel
theorem dX3_giveFromVan_28 : decode cX3_giveFromVan 28 = .ok (.getfield 58, 3) := by decide +kernel
theorem dX3_giveFromVan_31 : decode cX3_giveFromVan 31 = .ok (.iload_n 3, 1) := by decide +kernel
theorem dX3_giveFromVan_32 : decode cX3_giveFromVan 32 = .ok (.isub, 1) := by decide +kernel
theorem dX3_giveFromVan_33 : decode cX3_giveFromVan 33 = .ok (.putfield 58, 3) := by decide +kernel
theorem dX3_giveFromVan_36 : decode cX3_giveFromVan 36 = .ok (.return_, 1) := by decide +kernel
theorem dX3_giveSecond_0 : decode cX3_giveSecond 0 = .ok (.iload_n 1, 1) := by decide +kernel
theorem dX3_giveSecond_1 : decode cX3_giveSecond 1 = .ok (.aload_n 0, 1) := by decide +kernel
theorem dX3_giveSecond_2 : decode cX3_giveSecond 2 = .ok (.getfield 37, 3) := by decide +kernel
theorem dX3_giveSecond_5 : decode cX3_giveSecond 5 = .ok (.if_icmp .ne 29, 3) := by decide +kernel
theorem dX3_giveSecond_8 : decode cX3_giveSecond 8 = .ok (.aload_n 0, 1) := by decide +kernel
theorem dX3_giveSecond_9 : decode cX3_giveSecond 9 = .ok (.getfield 34, 3) := by decide +kernel
theorem dX3_giveSecond_12 : decode cX3_giveSecond 12 = .ok (.invokestatic 103, 3) := by decide +kernel
theorem dX3_giveSecond_15 : decode cX3_giveSecond 15 = .ok (.ifCond .eq 19, 3) := by decide +kernel
theorem dX3_giveSecond_18 : decode cX3_giveSecond 18 = .ok (.aload_n 0, 1) := by decide +kernel
theorem dX3_giveSecond_19 : decode cX3_giveSecond 19 = .ok (.getfield 24, 3) := by decide +kernel
theorem dX3_giveSecond_22 : decode cX3_giveSecond 22 = .ok (.aload_n 0, 1) := by decide +kernel
theorem dX3_giveSecond_23 : decode cX3_giveSecond 23 = .ok (.getfield 34, 3) := by decide +kernel
theorem dX3_giveSecond_26 : decode cX3_giveSecond 26 = .ok (.dup2, 1) := by decide +kernel
theorem dX3_giveSecond_27 : decode cX3_giveSecond 27 = .ok (.iaload, 1) := by decide +kernel
theorem dX3_giveSecond_28 : decode cX3_giveSecond 28 = .ok (.aload_n 0, 1) := by decide +kernel
theorem dX3_giveSecond_29 : decode cX3_giveSecond 29 = .ok (.getfield 40, 3) := by decide +kernel
theorem dX3_giveSecond_32 : decode cX3_giveSecond 32 = .ok (.iadd, 1) := by decide +kernel
theorem dX3_giveSecond_33 : decode cX3_giveSecond 33 = .ok (.iastore, 1) := by decide +kernel
theorem dX3_giveSecond_34 : decode cX3_giveSecond 34 = .ok (.return_, 1) := by decide +kernel
theorem dX3_sell_0 : decode cX3_sell 0 = .ok (.iload_n 3, 1) := by decide +kernel
theorem dX3_sell_1 : decode cX3_sell 1 = .ok (.invokestatic 103, 3) := by decide +kernel
theorem dX3_sell_4 : decode cX3_sell 4 = .ok (.ifCond .ne 4, 3) := by decide +kernel
theorem dX3_sell_7 : decode cX3_sell 7 = .ok (.return_, 1) := by decide +kernel
theorem dX3_sell_8 : decode cX3_sell 8 = .ok (.aload_n 2, 1) := by decide +kernel
theorem dX3_sell_9 : decode cX3_sell 9 = .ok (.iload_n 3, 1) := by decide +kernel
theorem dX3_sell_10 : decode cX3_sell 10 = .ok (.aload_n 1, 1) := by decide +kernel
theorem dX3_sell_11 : decode cX3_sell 11 = .ok (.iload_n 3, 1) := by decide +kernel
theorem dX3_sell_12 : decode cX3_sell 12 = .ok (.aload_n 2, 1) := by decide +kernel
theorem dX3_sell_13 : decode cX3_sell 13 = .ok (.getfield 113, 3) := by decide +kernel
theorem dX3_sell_16 : decode cX3_sell 16 = .ok (.invokevirtual 116, 3) := by decide +kernel
theorem dX3_sell_19 : decode cX3_sell 19 = .ok (.invokevirtual 119, 3) := by decide +kernel
theorem dX3_sell_22 : decode cX3_sell 22 = .ok (.aload_n 0, 1) := by decide +kernel
theorem dX3_sell_23 : decode cX3_sell 23 = .ok (.aload_n 1, 1) := by decide +kernel
theorem dX3_sell_24 : decode cX3_sell 24 = .ok (.iload_n 3, 1) := by decide +kernel
theorem dX3_sell_25 : decode cX3_sell 25 = .ok (.iload 4, 2) := by decide +kernel
theorem dX3_sell_27 : decode cX3_sell 27 = .ok (.invokevirtual 122, 3) := by decide +kernel
theorem dX3_sell_30 : decode cX3_sell 30 = .ok (.iadd, 1) := by decide +kernel
theorem dX3_sell_31 : decode cX3_sell 31 = .ok (.istore 5, 2) := by decide +kernel
theorem dX3_sell_33 : decode cX3_sell 33 = .ok (.iload_n 3, 1) := by decide +kernel
theorem dX3_sell_34 : decode cX3_sell 34 = .ok (.aload_n 0, 1) := by decide +kernel
theorem dX3_sell_35 : decode cX3_sell 35 = .ok (.getfield 30, 3) := by decide +kernel
theorem dX3_sell_38 : decode cX3_sell 38 = .ok (.if_icmp .eq 13, 3) := by decide +kernel
theorem dX3_sell_41 : decode cX3_sell 41 = .ok (.aload_n 2, 1) := by decide +kernel
theorem dX3_sell_42 : decode cX3_sell 42 = .ok (.iload_n 3, 1) := by decide +kernel
theorem dX3_sell_43 : decode cX3_sell 43 = .ok (.iload 4, 2) := by decide +kernel
theorem dX3_sell_45 : decode cX3_sell 45 = .ok (.invokevirtual 126, 3) := by decide +kernel
theorem dX3_sell_48 : decode cX3_sell 48 = .ok (.ifCond .eq 6, 3) := by decide +kernel
theorem dX3_sell_51 : decode cX3_sell 51 = .ok (.iinc 5 1, 3) := by decide +kernel
theorem dX3_sell_54 : decode cX3_sell 54 = .ok (.iload 5, 2) := by decide +kernel
theorem dX3_sell_56 : decode cX3_sell 56 = .ok (.aload_n 0, 1) := by decide +kernel
theorem dX3_sell_57 : decode cX3_sell 57 = .ok (.getfield 24, 3) := by decide +kernel
theorem dX3_sell_60 : decode cX3_sell 60 = .ok (.iload_n 3, 1) := by decide +kernel
theorem dX3_sell_61 : decode cX3_sell 61 = .ok (.iaload, 1) := by decide +kernel
theorem dX3_sell_62 : decode cX3_sell 62 = .ok (.invokestatic 107, 3) := by decide +kernel
theorem dX3_sell_65 : decode cX3_sell 65 = .ok (.istore 6, 2) := by decide +kernel
theorem dX3_sell_67 : decode cX3_sell 67 = .ok (.aload_n 0, 1) := by decide +kernel
theorem dX3_sell_68 : decode cX3_sell 68 = .ok (.getfield 24, 3) := by decide +kernel
theorem dX3_sell_71 : decode cX3_sell 71 = .ok (.iload_n 3, 1) := by decide +kernel
theorem dX3_sell_72 : decode cX3_sell 72 = .ok (.dup2, 1) := by decide +kernel
theorem dX3_sell_73 : decode cX3_sell 73 = .ok (.iaload, 1) := by decide +kernel
theorem dX3_sell_74 : decode cX3_sell 74 = .ok (.iload 6, 2) := by decide +kernel
theorem dX3_sell_76 : decode cX3_sell 76 = .ok (.isub, 1) := by decide +kernel
theorem dX3_sell_77 : decode cX3_sell 77 = .ok (.iastore, 1) := by decide +kernel
theorem dX3_sell_78 : decode cX3_sell 78 = .ok (.aload_n 0, 1) := by decide +kernel
theorem dX3_sell_79 : decode cX3_sell 79 = .ok (.getfield 27, 3) := by decide +kernel
theorem dX3_sell_82 : decode cX3_sell 82 = .ok (.iload_n 3, 1) := by decide +kernel
theorem dX3_sell_83 : decode cX3_sell 83 = .ok (.dup2, 1) := by decide +kernel
theorem dX3_sell_84 : decode cX3_sell 84 = .ok (.iaload, 1) := by decide +kernel
theorem dX3_sell_85 : decode cX3_sell 85 = .ok (.iload 6, 2) := by decide +kernel
theorem dX3_sell_87 : decode cX3_sell 87 = .ok (.iadd, 1) := by decide +kernel
theorem dX3_sell_88 : decode cX3_sell 88 = .ok (.iastore, 1) := by decide +kernel
theorem dX3_sell_89 : decode cX3_sell 89 = .ok (.iload_n 3, 1) := by decide +kernel
theorem dX3_sell_90 : decode cX3_sell 90 = .ok (.iload 4, 2) := by decide +kernel
theorem dX3_sell_92 : decode cX3_sell 92 = .ok (.invokestatic 130, 3) := by decide +kernel
theorem dX3_sell_95 : decode cX3_sell 95 = .ok (.istore 7, 2) := by decide +kernel
theorem dX3_sell_97 : decode cX3_sell 97 = .ok (.aload_n 0, 1) := by decide +kernel
theorem dX3_sell_98 : decode cX3_sell 98 = .ok (.getfield 11, 3) := by decide +kernel
theorem dX3_sell_101 : decode cX3_sell 101 = .ok (.iload 7, 2) := by decide +kernel
theorem dX3_sell_103 : decode cX3_sell 103 = .ok (.aload_n 0, 1) := by decide +kernel
theorem dX3_sell_104 : decode cX3_sell 104 = .ok (.getfield 24, 3) := by decide +kernel
theorem dX3_sell_107 : decode cX3_sell 107 = .ok (.iload_n 3, 1) := by decide +kernel
theorem dX3_sell_108 : decode cX3_sell 108 = .ok (.iaload, 1) := by decide +kernel
theorem dX3_sell_109 : decode cX3_sell 109 = .ok (.iastore, 1) := by decide +kernel
theorem dX3_sell_110 : decode cX3_sell 110 = .ok (.aload_n 0, 1) := by decide +kernel
theorem dX3_sell_111 : decode cX3_sell 111 = .ok (.getfield 15, 3) := by decide +kernel
theorem dX3_sell_114 : decode cX3_sell 114 = .ok (.iload 7, 2) := by decide +kernel
theorem dX3_sell_116 : decode cX3_sell 116 = .ok (.aload_n 0, 1) := by decide +kernel
theorem dX3_sell_117 : decode cX3_sell 117 = .ok (.getfield 27, 3) := by decide +kernel
theorem dX3_sell_120 : decode cX3_sell 120 = .ok (.iload_n 3, 1) := by decide +kernel
theorem dX3_sell_121 : decode cX3_sell 121 = .ok (.iaload, 1) := by decide +kernel
theorem dX3_sell_122 : decode cX3_sell 122 = .ok (.iastore, 1) := by decide +kernel
theorem dX3_sell_123 : decode cX3_sell 123 = .ok (.aload_n 0, 1) := by decide +kernel
theorem dX3_sell_124 : decode cX3_sell 124 = .ok (.getfield 18, 3) := by decide +kernel
theorem dX3_sell_127 : decode cX3_sell 127 = .ok (.iload 7, 2) := by decide +kernel
theorem dX3_sell_129 : decode cX3_sell 129 = .ok (.iload 5, 2) := by decide +kernel
theorem dX3_sell_131 : decode cX3_sell 131 = .ok (.iastore, 1) := by decide +kernel
theorem dX3_sell_132 : decode cX3_sell 132 = .ok (.aload_n 0, 1) := by decide +kernel
theorem dX3_sell_133 : decode cX3_sell 133 = .ok (.getfield 21, 3) := by decide +kernel
theorem dX3_sell_136 : decode cX3_sell 136 = .ok (.iload 7, 2) := by decide +kernel
theorem dX3_sell_138 : decode cX3_sell 138 = .ok (.iload 5, 2) := by decide +kernel
theorem dX3_sell_140 : decode cX3_sell 140 = .ok (.iload 6, 2) := by decide +kernel
theorem dX3_sell_142 : decode cX3_sell 142 = .ok (.isub, 1) := by decide +kernel
theorem dX3_sell_143 : decode cX3_sell 143 = .ok (.iastore, 1) := by decide +kernel
theorem dX3_sell_144 : decode cX3_sell 144 = .ok (.iload 4, 2) := by decide +kernel
theorem dX3_sell_146 : decode cX3_sell 146 = .ok (.iconst 5, 1) := by decide +kernel
theorem dX3_sell_147 : decode cX3_sell 147 = .ok (.if_icmp .eq 13, 3) := by decide +kernel
theorem dX3_sell_150 : decode cX3_sell 150 = .ok (.aload_n 1, 1) := by decide +kernel
theorem dX3_sell_151 : decode cX3_sell 151 = .ok (.iload_n 3, 1) := by decide +kernel
theorem dX3_sell_152 : decode cX3_sell 152 = .ok (.invokevirtual 133, 3) := by decide +kernel
theorem dX3_sell_155 : decode cX3_sell 155 = .ok (.bipush (-9), 2) := by decide +kernel
theorem dX3_sell_157 : decode cX3_sell 157 = .ok (.if_icmp .ne 17, 3) := by decide +kernel
theorem dX3_sell_160 : decode cX3_sell 160 = .ok (.aload_n 0, 1) := by decide +kernel
theorem dX3_sell_161 : decode cX3_sell 161 = .ok (.dup, 1) := by decide +kernel
theorem dX3_sell_162 : decode cX3_sell 162 = .ok (.getfield 59, 3) := by decide +kernel
theorem dX3_sell_165 : decode cX3_sell 165 = .ok (.iload 5, 2) := by decide +kernel
theorem dX3_sell_167 : decode cX3_sell 167 = .ok (.iload 6, 2) := by decide +kernel
theorem dX3_sell_169 : decode cX3_sell 169 = .ok (.isub, 1) := by decide +kernel
theorem dX3_sell_170 : decode cX3_sell 170 = .ok (.iadd, 1) := by decide +kernel
theorem dX3_sell_171 : decode cX3_sell 171 = .ok (.putfield 59, 3) := by decide +kernel
theorem dX3_sell_174 : decode cX3_sell 174 = .ok (.return_, 1) := by decide +kernel
theorem dX3_comeOn_0 : decode cX3_comeOn 0 = .ok (.iconst 0, 1) := by decide +kernel
theorem dX3_comeOn_1 : decode cX3_comeOn 1 = .ok (.istore 4, 2) := by decide +kernel
theorem dX3_comeOn_3 : decode cX3_comeOn 3 = .ok (.iconst 0, 1) := by decide +kernel
theorem dX3_comeOn_4 : decode cX3_comeOn 4 = .ok (.istore 5, 2) := by decide +kernel
theorem dX3_comeOn_6 : decode cX3_comeOn 6 = .ok (.iload 5, 2) := by decide +kernel
theorem dX3_comeOn_8 : decode cX3_comeOn 8 = .ok (.aload_n 0, 1) := by decide +kernel
theorem dX3_comeOn_9 : decode cX3_comeOn 9 = .ok (.getfield 52, 3) := by decide +kernel
theorem dX3_comeOn_12 : decode cX3_comeOn 12 = .ok (.if_icmp .ge 41, 3) := by decide +kernel
theorem dX3_comeOn_15 : decode cX3_comeOn 15 = .ok (.iload_n 3, 1) := by decide +kernel
theorem dX3_comeOn_16 : decode cX3_comeOn 16 = .ok (.ifCond .le 37, 3) := by decide +kernel
theorem dX3_comeOn_19 : decode cX3_comeOn 19 = .ok (.aload_n 1, 1) := by decide +kernel
theorem dX3_comeOn_20 : decode cX3_comeOn 20 = .ok (.iload 5, 2) := by decide +kernel
theorem dX3_comeOn_22 : decode cX3_comeOn 22 = .ok (.invokevirtual 133, 3) := by decide +kernel
theorem dX3_comeOn_25 : decode cX3_comeOn 25 = .ok (.iload_n 2, 1) := by decide +kernel
theorem dX3_comeOn_26 : decode cX3_comeOn 26 = .ok (.if_icmp .ne 21, 3) := by decide +kernel
theorem dX3_comeOn_29 : decode cX3_comeOn 29 = .ok (.iload 4, 2) := by decide +kernel
theorem dX3_comeOn_31 : decode cX3_comeOn 31 = .ok (.aload_n 0, 1) := by decide +kernel
theorem dX3_comeOn_32 : decode cX3_comeOn 32 = .ok (.getfield 21, 3) := by decide +kernel
theorem dX3_comeOn_35 : decode cX3_comeOn 35 = .ok (.iload 5, 2) := by decide +kernel
theorem dX3_comeOn_37 : decode cX3_comeOn 37 = .ok (.iload_n 3, 1) := by decide +kernel
theorem dX3_comeOn_38 : decode cX3_comeOn 38 = .ok (.iconst 1, 1) := by decide +kernel
theorem dX3_comeOn_39 : decode cX3_comeOn 39 = .ok (.isub, 1) := by decide +kernel
theorem dX3_comeOn_40 : decode cX3_comeOn 40 = .ok (.invokestatic 130, 3) := by decide +kernel
theorem dX3_comeOn_43 : decode cX3_comeOn 43 = .ok (.iaload, 1) := by decide +kernel
theorem dX3_comeOn_44 : decode cX3_comeOn 44 = .ok (.iadd, 1) := by decide +kernel
theorem dX3_comeOn_45 : decode cX3_comeOn 45 = .ok (.istore 4, 2) := by decide +kernel
theorem dX3_comeOn_47 : decode cX3_comeOn 47 = .ok (.iinc 5 1, 3) := by decide +kernel
theorem dX3_comeOn_50 : decode cX3_comeOn 50 = .ok (.goto (-44), 3) := by decide +kernel
theorem dX3_comeOn_53 : decode cX3_comeOn 53 = .ok (.iload 4, 2) := by decide +kernel
theorem dX3_comeOn_55 : decode cX3_comeOn 55 = .ok (.ireturn, 1) := by decide +kernel
theorem dX3_row_0 : decode cX3_row 0 = .ok (.iload_n 0, 1) := by decide +kernel
theorem dX3_row_1 : decode cX3_row 1 = .ok (.bipush 6, 2) := by decide +kernel
theorem dX3_row_3 : decode cX3_row 3 = .ok (.imul, 1) := by decide +kernel
theorem dX3_row_4 : decode cX3_row 4 = .ok (.iload_n 1, 1) := by decide +kernel
theorem dX3_row_5 : decode cX3_row 5 = .ok (.iadd, 1) := by decide +kernel
theorem dX3_row_6 : decode cX3_row 6 = .ok (.istore_n 2, 1) := by decide +kernel
theorem dX3_row_7 : decode cX3_row 7 = .ok (.iload_n 2, 1) := by decide +kernel
theorem dX3_row_8 : decode cX3_row 8 = .ok (.ifCond .lt 13, 3) := by decide +kernel
theorem dX3_row_11 : decode cX3_row 11 = .ok (.iload_n 2, 1) := by decide +kernel
theorem dX3_row_12 : decode cX3_row 12 = .ok (.bipush 18, 2) := by decide +kernel
theorem dX3_row_14 : decode cX3_row 14 = .ok (.if_icmp .ge 7, 3) := by decide +kernel
theorem dX3_row_17 : decode cX3_row 17 = .ok (.iload_n 2, 1) := by decide +kernel
theorem dX3_row_18 : decode cX3_row 18 = .ok (.goto 4, 3) := by decide +kernel
theorem dX3_row_21 : decode cX3_row 21 = .ok (.iconst 0, 1) := by decide +kernel
theorem dX3_row_22 : decode cX3_row 22 = .ok (.ireturn, 1) := by decide +kernel
theorem dX3_tellBehind_0 : decode cX3_tellBehind 0 = .ok (.iload_n 1, 1) := by decide +kernel
theorem dX3_tellBehind_1 : decode cX3_tellBehind 1 = .ok (.iload_n 2, 1) := by decide +kernel
theorem dX3_tellBehind_2 : decode cX3_tellBehind 2 = .ok (.invokestatic 130, 3) := by decide +kernel
theorem dX3_tellBehind_5 : decode cX3_tellBehind 5 = .ok (.istore 4, 2) := by decide +kernel
theorem dX3_tellBehind_7 : decode cX3_tellBehind 7 = .ok (.iload_n 3, 1) := by decide +kernel
theorem dX3_tellBehind_8 : decode cX3_tellBehind 8 = .ok (.tableswitch 52 0 2 #[28, 36, 44], 28) := by decide +kernel
theorem dX3_tellBehind_36 : decode cX3_tellBehind 36 = .ok (.aload_n 0, 1) := by decide +kernel
theorem dX3_tellBehind_37 : decode cX3_tellBehind 37 = .ok (.getfield 11, 3) := by decide +kernel
theorem dX3_tellBehind_40 : decode cX3_tellBehind 40 = .ok (.iload 4, 2) := by decide +kernel
theorem dX3_tellBehind_42 : decode cX3_tellBehind 42 = .ok (.iaload, 1) := by decide +kernel
theorem dX3_tellBehind_43 : decode cX3_tellBehind 43 = .ok (.ireturn, 1) := by decide +kernel
theorem dX3_tellBehind_44 : decode cX3_tellBehind 44 = .ok (.aload_n 0, 1) := by decide +kernel
theorem dX3_tellBehind_45 : decode cX3_tellBehind 45 = .ok (.getfield 15, 3) := by decide +kernel
theorem dX3_tellBehind_48 : decode cX3_tellBehind 48 = .ok (.iload 4, 2) := by decide +kernel
theorem dX3_tellBehind_50 : decode cX3_tellBehind 50 = .ok (.iaload, 1) := by decide +kernel
theorem dX3_tellBehind_51 : decode cX3_tellBehind 51 = .ok (.ireturn, 1) := by decide +kernel
theorem dX3_tellBehind_52 : decode cX3_tellBehind 52 = .ok (.aload_n 0, 1) := by decide +kernel
theorem dX3_tellBehind_53 : decode cX3_tellBehind 53 = .ok (.getfield 18, 3) := by decide +kernel
theorem dX3_tellBehind_56 : decode cX3_tellBehind 56 = .ok (.iload 4, 2) := by decide +kernel
theorem dX3_tellBehind_58 : decode cX3_tellBehind 58 = .ok (.iaload, 1) := by decide +kernel
theorem dX3_tellBehind_59 : decode cX3_tellBehind 59 = .ok (.ireturn, 1) := by decide +kernel
theorem dX3_tellBehind_60 : decode cX3_tellBehind 60 = .ok (.aload_n 0, 1) := by decide +kernel
theorem dX3_tellBehind_61 : decode cX3_tellBehind 61 = .ok (.getfield 21, 3) := by decide +kernel
theorem dX3_tellBehind_64 : decode cX3_tellBehind 64 = .ok (.iload 4, 2) := by decide +kernel
theorem dX3_tellBehind_66 : decode cX3_tellBehind 66 = .ok (.iaload, 1) := by decide +kernel
theorem dX3_tellBehind_67 : decode cX3_tellBehind 67 = .ok (.ireturn, 1) := by decide +kernel
theorem dX3_soldBy_0 : decode cX3_soldBy 0 = .ok (.aload_n 0, 1) := by decide +kernel
theorem dX3_soldBy_1 : decode cX3_soldBy 1 = .ok (.getfield 15, 3) := by decide +kernel
theorem dX3_soldBy_4 : decode cX3_soldBy 4 = .ok (.iload_n 1, 1) := by decide +kernel
theorem dX3_soldBy_5 : decode cX3_soldBy 5 = .ok (.iload_n 2, 1) := by decide +kernel
theorem dX3_soldBy_6 : decode cX3_soldBy 6 = .ok (.invokestatic 130, 3) := by decide +kernel
theorem dX3_soldBy_9 : decode cX3_soldBy 9 = .ok (.iaload, 1) := by decide +kernel
theorem dX3_soldBy_10 : decode cX3_soldBy 10 = .ok (.ireturn, 1) := by decide +kernel
theorem dX3_firstWithout_0 : decode cX3_firstWithout 0 = .ok (.iconst 0, 1) := by decide +kernel
theorem dX3_firstWithout_1 : decode cX3_firstWithout 1 = .ok (.istore_n 2, 1) := by decide +kernel
theorem dX3_firstWithout_2 : decode cX3_firstWithout 2 = .ok (.iload_n 2, 1) := by decide +kernel
theorem dX3_firstWithout_3 : decode cX3_firstWithout 3 = .ok (.bipush 6, 2) := by decide +kernel
theorem dX3_firstWithout_5 : decode cX3_firstWithout 5 = .ok (.if_icmp .ge 24, 3) := by decide +kernel
theorem dX3_firstWithout_8 : decode cX3_firstWithout 8 = .ok (.aload_n 0, 1) := by decide +kernel
theorem dX3_firstWithout_9 : decode cX3_firstWithout 9 = .ok (.getfield 21, 3) := by decide +kernel
theorem dX3_firstWithout_12 : decode cX3_firstWithout 12 = .ok (.iload_n 1, 1) := by decide +kernel
theorem dX3_firstWithout_13 : decode cX3_firstWithout 13 = .ok (.iload_n 2, 1) := by decide +kernel
theorem dX3_firstWithout_14 : decode cX3_firstWithout 14 = .ok (.invokestatic 130, 3) := by decide +kernel
theorem dX3_firstWithout_17 : decode cX3_firstWithout 17 = .ok (.iaload, 1) := by decide +kernel
theorem dX3_firstWithout_18 : decode cX3_firstWithout 18 = .ok (.ifCond .le 5, 3) := by decide +kernel
theorem dX3_firstWithout_21 : decode cX3_firstWithout 21 = .ok (.iload_n 2, 1) := by decide +kernel
theorem dX3_firstWithout_22 : decode cX3_firstWithout 22 = .ok (.ireturn, 1) := by decide +kernel
theorem dX3_firstWithout_23 : decode cX3_firstWithout 23 = .ok (.iinc 2 1, 3) := by decide +kernel
theorem dX3_firstWithout_26 : decode cX3_firstWithout 26 = .ok (.goto (-24), 3) := by decide +kernel
theorem dX3_firstWithout_29 : decode cX3_firstWithout 29 = .ok (.bipush (-9), 2) := by decide +kernel
theorem dX3_firstWithout_31 : decode cX3_firstWithout 31 = .ok (.ireturn, 1) := by decide +kernel
theorem dX3_soldInAll_0 : decode cX3_soldInAll 0 = .ok (.iconst 0, 1) := by decide +kernel
theorem dX3_soldInAll_1 : decode cX3_soldInAll 1 = .ok (.istore_n 1, 1) := by decide +kernel
theorem dX3_soldInAll_2 : decode cX3_soldInAll 2 = .ok (.iconst 0, 1) := by decide +kernel
theorem dX3_soldInAll_3 : decode cX3_soldInAll 3 = .ok (.istore_n 2, 1) := by decide +kernel
theorem dX3_soldInAll_4 : decode cX3_soldInAll 4 = .ok (.iload_n 2, 1) := by decide +kernel
theorem dX3_soldInAll_5 : decode cX3_soldInAll 5 = .ok (.aload_n 0, 1) := by decide +kernel
theorem dX3_soldInAll_6 : decode cX3_soldInAll 6 = .ok (.getfield 52, 3) := by decide +kernel
theorem dX3_soldInAll_9 : decode cX3_soldInAll 9 = .ok (.if_icmp .ge 23, 3) := by decide +kernel
theorem dX3_soldInAll_12 : decode cX3_soldInAll 12 = .ok (.iload_n 2, 1) := by decide +kernel
theorem dX3_soldInAll_13 : decode cX3_soldInAll 13 = .ok (.iconst 3, 1) := by decide +kernel
theorem dX3_soldInAll_14 : decode cX3_soldInAll 14 = .ok (.if_icmp .ge 18, 3) := by decide +kernel
theorem dX3_soldInAll_17 : decode cX3_soldInAll 17 = .ok (.iload_n 1, 1) := by decide +kernel
theorem dX3_soldInAll_18 : decode cX3_soldInAll 18 = .ok (.aload_n 0, 1) := by decide +kernel
theorem dX3_soldInAll_19 : decode cX3_soldInAll 19 = .ok (.getfield 27, 3) := by decide +kernel
theorem dX3_soldInAll_22 : decode cX3_soldInAll 22 = .ok (.iload_n 2, 1) := by decide +kernel
theorem dX3_soldInAll_23 : decode cX3_soldInAll 23 = .ok (.iaload, 1) := by decide +kernel
theorem dX3_soldInAll_24 : decode cX3_soldInAll 24 = .ok (.iadd, 1) := by decide +kernel
theorem dX3_soldInAll_25 : decode cX3_soldInAll 25 = .ok (.istore_n 1, 1) := by decide +kernel
theorem dX3_soldInAll_26 : decode cX3_soldInAll 26 = .ok (.iinc 2 1, 3) := by decide +kernel
theorem dX3_soldInAll_29 : decode cX3_soldInAll 29 = .ok (.goto (-25), 3) := by decide +kernel
theorem dX3_soldInAll_32 : decode cX3_soldInAll 32 = .ok (.iload_n 1, 1) := by decide +kernel
theorem dX3_soldInAll_33 : decode cX3_soldInAll 33 = .ok (.ireturn, 1) := by decide +kernel
theorem dX3_leftAtCorners_0 : decode cX3_leftAtCorners 0 = .ok (.iconst 0, 1) := by decide +kernel
theorem dX3_leftAtCorners_1 : decode cX3_leftAtCorners 1 = .ok (.istore_n 1, 1) := by decide +kernel
theorem dX3_leftAtCorners_2 : decode cX3_leftAtCorners 2 = .ok (.iconst 0, 1) := by decide +kernel
theorem dX3_leftAtCorners_3 : decode cX3_leftAtCorners 3 = .ok (.istore_n 2, 1) := by decide +kernel
theorem dX3_leftAtCorners_4 : decode cX3_leftAtCorners 4 = .ok (.iload_n 2, 1) := by decide +kernel
theorem dX3_leftAtCorners_5 : decode cX3_leftAtCorners 5 = .ok (.aload_n 0, 1) := by decide +kernel
theorem dX3_leftAtCorners_6 : decode cX3_leftAtCorners 6 = .ok (.getfield 52, 3) := by decide +kernel
theorem dX3_leftAtCorners_9 : decode cX3_leftAtCorners 9 = .ok (.if_icmp .ge 23, 3) := by decide +kernel
theorem dX3_leftAtCorners_12 : decode cX3_leftAtCorners 12 = .ok (.iload_n 2, 1) := by decide +kernel
theorem dX3_leftAtCorners_13 : decode cX3_leftAtCorners 13 = .ok (.iconst 3, 1) := by decide +kernel
theorem dX3_leftAtCorners_14 : decode cX3_leftAtCorners 14 = .ok (.if_icmp .ge 18, 3) := by decide +kernel
theorem dX3_leftAtCorners_17 : decode cX3_leftAtCorners 17 = .ok (.iload_n 1, 1) := by decide +kernel
theorem dX3_leftAtCorners_18 : decode cX3_leftAtCorners 18 = .ok (.aload_n 0, 1) := by decide +kernel
theorem dX3_leftAtCorners_19 : decode cX3_leftAtCorners 19 = .ok (.getfield 24, 3) := by decide +kernel
theorem dX3_leftAtCorners_22 : decode cX3_leftAtCorners 22 = .ok (.iload_n 2, 1) := by decide +kernel
theorem dX3_leftAtCorners_23 : decode cX3_leftAtCorners 23 = .ok (.iaload, 1) := by decide +kernel
theorem dX3_leftAtCorners_24 : decode cX3_leftAtCorners 24 = .ok (.iadd, 1) := by decide +kernel
theorem dX3_leftAtCorners_25 : decode cX3_leftAtCorners 25 = .ok (.istore_n 1, 1) := by decide +kernel
theorem dX3_leftAtCorners_26 : decode cX3_leftAtCorners 26 = .ok (.iinc 2 1, 3) := by decide +kernel
theorem dX3_leftAtCorners_29 : decode cX3_leftAtCorners 29 = .ok (.goto (-25), 3) := by decide +kernel
theorem dX3_leftAtCorners_32 : decode cX3_leftAtCorners 32 = .ok (.iload_n 1, 1) := by decide +kernel
theorem dX3_leftAtCorners_33 : decode cX3_leftAtCorners 33 = .ok (.ireturn, 1) := by decide +kernel
theorem dX3_leftInVan_0 : decode cX3_leftInVan 0 = .ok (.aload_n 0, 1) := by decide +kernel
theorem dX3_leftInVan_1 : decode cX3_leftInVan 1 = .ok (.getfield 58, 3) := by decide +kernel
theorem dX3_leftInVan_4 : decode cX3_leftInVan 4 = .ok (.ireturn, 1) := by decide +kernel
theorem dX3_wentHome_0 : decode cX3_wentHome 0 = .ok (.aload_n 0, 1) := by decide +kernel
theorem dX3_wentHome_1 : decode cX3_wentHome 1 = .ok (.getfield 59, 3) := by decide +kernel
theorem dX3_wentHome_4 : decode cX3_wentHome 4 = .ok (.ireturn, 1) := by decide +kernel
theorem dX3_earnedAtEnd_0 : decode cX3_earnedAtEnd 0 = .ok (.aload_n 0, 1) := by decide +kernel
theorem dX3_earnedAtEnd_1 : decode cX3_earnedAtEnd 1 = .ok (.invokevirtual 136, 3) := by decide +kernel
theorem dX3_earnedAtEnd_4 : decode cX3_earnedAtEnd 4 = .ok (.aload_n 0, 1) := by decide +kernel
theorem dX3_earnedAtEnd_5 : decode cX3_earnedAtEnd 5 = .ok (.getfield 58, 3) := by decide +kernel
theorem dX3_earnedAtEnd_8 : decode cX3_earnedAtEnd 8 = .ok (.iadd, 1) := by decide +kernel
theorem dX3_earnedAtEnd_9 : decode cX3_earnedAtEnd 9 = .ok (.istore_n 3, 1) := by decide +kernel
theorem dX3_earnedAtEnd_10 : decode cX3_earnedAtEnd 10 = .ok (.aload_n 2, 1) := by decide +kernel
theorem dX3_earnedAtEnd_11 : decode cX3_earnedAtEnd 11 = .ok (.invokevirtual 140, 3) := by decide +kernel
theorem dX3_earnedAtEnd_14 : decode cX3_earnedAtEnd 14 = .ok (.aload_n 2, 1) := by decide +kernel
theorem dX3_earnedAtEnd_15 : decode cX3_earnedAtEnd 15 = .ok (.getfield 53, 3) := by decide +kernel
theorem dX3_earnedAtEnd_18 : decode cX3_earnedAtEnd 18 = .ok (.iadd, 1) := by decide +kernel
theorem dX3_earnedAtEnd_19 : decode cX3_earnedAtEnd 19 = .ok (.aload_n 1, 1) := by decide +kernel
theorem dX3_earnedAtEnd_20 : decode cX3_earnedAtEnd 20 = .ok (.getfield 143, 3) := by decide +kernel
theorem dX3_earnedAtEnd_23 : decode cX3_earnedAtEnd 23 = .ok (.imul, 1) := by decide +kernel
theorem dX3_earnedAtEnd_24 : decode cX3_earnedAtEnd 24 = .ok (.istore 4, 2) := by decide +kernel
theorem dX3_earnedAtEnd_26 : decode cX3_earnedAtEnd 26 = .ok (.aload_n 0, 1) := by decide +kernel
theorem dX3_earnedAtEnd_27 : decode cX3_earnedAtEnd 27 = .ok (.invokevirtual 146, 3) := by decide +kernel
theorem dX3_earnedAtEnd_30 : decode cX3_earnedAtEnd 30 = .ok (.aload_n 1, 1) := by decide +kernel
theorem dX3_earnedAtEnd_31 : decode cX3_earnedAtEnd 31 = .ok (.getfield 149, 3) := by decide +kernel
theorem dX3_earnedAtEnd_34 : decode cX3_earnedAtEnd 34 = .ok (.imul, 1) := by decide +kernel
theorem dX3_earnedAtEnd_35 : decode cX3_earnedAtEnd 35 = .ok (.iload_n 3, 1) := by decide +kernel
theorem dX3_earnedAtEnd_36 : decode cX3_earnedAtEnd 36 = .ok (.aload_n 1, 1) := by decide +kernel
theorem dX3_earnedAtEnd_37 : decode cX3_earnedAtEnd 37 = .ok (.getfield 152, 3) := by decide +kernel
theorem dX3_earnedAtEnd_40 : decode cX3_earnedAtEnd 40 = .ok (.imul, 1) := by decide +kernel
theorem dX3_earnedAtEnd_41 : decode cX3_earnedAtEnd 41 = .ok (.iadd, 1) := by decide +kernel
theorem dX3_earnedAtEnd_42 : decode cX3_earnedAtEnd 42 = .ok (.iload 4, 2) := by decide +kernel
theorem dX3_earnedAtEnd_44 : decode cX3_earnedAtEnd 44 = .ok (.isub, 1) := by decide +kernel
theorem dX3_earnedAtEnd_45 : decode cX3_earnedAtEnd 45 = .ok (.ireturn, 1) := by decide +kernel
theorem dX4_init_0 : decode cX4_init 0 = .ok (.aload_n 0, 1) := by decide +kernel
theorem dX4_init_1 : decode cX4_init 1 = .ok (.invokespecial 3, 3) := by decide +kernel
theorem dX4_init_4 : decode cX4_init 4 = .ok (.aload_n 0, 1) := by decide +kernel
theorem dX4_init_5 : decode cX4_init 5 = .ok (.bipush 8, 2) := by decide +kernel
theorem dX4_init_7 : decode cX4_init 7 = .ok (.newarray .int, 2) := by decide +kernel
theorem dX4_init_9 : decode cX4_init 9 = .ok (.putfield 11, 3) := by decide +kernel
theorem dX4_init_12 : decode cX4_init 12 = .ok (.aload_n 0, 1) := by decide +kernel
theorem dX4_init_13 : decode cX4_init 13 = .ok (.bipush 8, 2) := by decide +kernel
theorem dX4_init_15 : decode cX4_init 15 = .ok (.newarray .int, 2) := by decide +kernel
theorem dX4_init_17 : decode cX4_init 17 = .ok (.putfield 15, 3) := by decide +kernel
theorem dX4_init_20 : decode cX4_init 20 = .ok (.aload_n 0, 1) := by decide +kernel
theorem dX4_init_21 : decode cX4_init 21 = .ok (.iconst 0, 1) := by decide +kernel
theorem dX4_init_22 : decode cX4_init 22 = .ok (.putfield 18, 3) := by decide +kernel
theorem dX4_init_25 : decode cX4_init 25 = .ok (.return_, 1) := by decide +kernel
theorem dX4_size_0 : decode cX4_size 0 = .ok (.aload_n 0, 1) := by decide +kernel
theorem dX4_size_1 : decode cX4_size 1 = .ok (.getfield 18, 3) := by decide +kernel
theorem dX4_size_4 : decode cX4_size 4 = .ok (.ireturn, 1) := by decide +kernel
theorem dX4_add_0 : decode cX4_add 0 = .ok (.aload_n 0, 1) := by decide +kernel
theorem dX4_add_1 : decode cX4_add 1 = .ok (.getfield 18, 3) := by decide +kernel
theorem dX4_add_4 : decode cX4_add 4 = .ok (.bipush 8, 2) := by decide +kernel
theorem dX4_add_6 : decode cX4_add 6 = .ok (.if_icmp .lt 5, 3) := by decide +kernel
theorem dX4_add_9 : decode cX4_add 9 = .ok (.iconst 0, 1) := by decide +kernel
theorem dX4_add_10 : decode cX4_add 10 = .ok (.ireturn, 1) := by decide +kernel
theorem dX4_add_11 : decode cX4_add 11 = .ok (.aload_n 0, 1) := by decide +kernel
theorem dX4_add_12 : decode cX4_add 12 = .ok (.getfield 11, 3) := by decide +kernel
theorem dX4_add_15 : decode cX4_add 15 = .ok (.aload_n 0, 1) := by decide +kernel
theorem dX4_add_16 : decode cX4_add 16 = .ok (.getfield 18, 3) := by decide +kernel
theorem dX4_add_19 : decode cX4_add 19 = .ok (.iload_n 1, 1) := by decide +kernel
theorem dX4_add_20 : decode cX4_add 20 = .ok (.iastore, 1) := by decide +kernel
theorem dX4_add_21 : decode cX4_add 21 = .ok (.aload_n 0, 1) := by decide +kernel
theorem dX4_add_22 : decode cX4_add 22 = .ok (.getfield 15, 3) := by decide +kernel
theorem dX4_add_25 : decode cX4_add 25 = .ok (.aload_n 0, 1) := by decide +kernel
theorem dX4_add_26 : decode cX4_add 26 = .ok (.getfield 18, 3) := by decide +kernel
theorem dX4_add_29 : decode cX4_add 29 = .ok (.iload_n 2, 1) := by decide +kernel
theorem dX4_add_30 : decode cX4_add 30 = .ok (.iastore, 1) := by decide +kernel
theorem dX4_add_31 : decode cX4_add 31 = .ok (.aload_n 0, 1) := by decide +kernel
theorem dX4_add_32 : decode cX4_add 32 = .ok (.dup, 1) := by decide +kernel
theorem dX4_add_33 : decode cX4_add 33 = .ok (.getfield 18, 3) := by decide +kernel
theorem dX4_add_36 : decode cX4_add 36 = .ok (.iconst 1, 1) := by decide +kernel
theorem dX4_add_37 : decode cX4_add 37 = .ok (.iadd, 1) := by decide +kernel
theorem dX4_add_38 : decode cX4_add 38 = .ok (.putfield 18, 3) := by decide +kernel
theorem dX4_add_41 : decode cX4_add 41 = .ok (.iconst 1, 1) := by decide +kernel
theorem dX4_add_42 : decode cX4_add 42 = .ok (.ireturn, 1) := by decide +kernel
theorem dX4_empty_0 : decode cX4_empty 0 = .ok (.aload_n 0, 1) := by decide +kernel
theorem dX4_empty_1 : decode cX4_empty 1 = .ok (.getfield 18, 3) := by decide +kernel
theorem dX4_empty_4 : decode cX4_empty 4 = .ok (.istore_n 1, 1) := by decide +kernel
theorem dX4_empty_5 : decode cX4_empty 5 = .ok (.aload_n 0, 1) := by decide +kernel
theorem dX4_empty_6 : decode cX4_empty 6 = .ok (.iconst 0, 1) := by decide +kernel
theorem dX4_empty_7 : decode cX4_empty 7 = .ok (.putfield 18, 3) := by decide +kernel
theorem dX4_empty_10 : decode cX4_empty 10 = .ok (.iload_n 1, 1) := by decide +kernel
theorem dX4_empty_11 : decode cX4_empty 11 = .ok (.ireturn, 1) := by decide +kernel
theorem dX4_weight_0 : decode cX4_weight 0 = .ok (.aload_n 1, 1) := by decide +kernel
theorem dX4_weight_1 : decode cX4_weight 1 = .ok (.iload_n 2, 1) := by decide +kernel
theorem dX4_weight_2 : decode cX4_weight 2 = .ok (.invokevirtual 22, 3) := by decide +kernel
theorem dX4_weight_5 : decode cX4_weight 5 = .ok (.i2l, 1) := by decide +kernel
theorem dX4_weight_6 : decode cX4_weight 6 = .ok (.lstore_n 3, 1) := by decide +kernel
theorem dX4_weight_7 : decode cX4_weight 7 = .ok (.iconst 0, 1) := by decide +kernel
theorem dX4_weight_8 : decode cX4_weight 8 = .ok (.istore 5, 2) := by decide +kernel
theorem dX4_weight_10 : decode cX4_weight 10 = .ok (.iload 5, 2) := by decide +kernel
theorem dX4_weight_12 : decode cX4_weight 12 = .ok (.aload_n 0, 1) := by decide +kernel
theorem dX4_weight_13 : decode cX4_weight 13 = .ok (.getfield 18, 3) := by decide +kernel
theorem dX4_weight_16 : decode cX4_weight 16 = .ok (.if_icmp .ge 82, 3) := by decide +kernel
theorem dX4_weight_19 : decode cX4_weight 19 = .ok (.iload 5, 2) := by decide +kernel
theorem dX4_weight_21 : decode cX4_weight 21 = .ok (.bipush 8, 2) := by decide +kernel
theorem dX4_weight_23 : decode cX4_weight 23 = .ok (.if_icmp .ge 75, 3) := by decide +kernel
theorem dX4_weight_26 : decode cX4_weight 26 = .ok (.aload_n 0, 1) := by decide +kernel
theorem dX4_weight_27 : decode cX4_weight 27 = .ok (.getfield 15, 3) := by decide +kernel
theorem dX4_weight_30 : decode cX4_weight 30 = .ok (.iload 5, 2) := by decide +kernel
theorem dX4_weight_32 : decode cX4_weight 32 = .ok (.iaload, 1) := by decide +kernel
theorem dX4_weight_33 : decode cX4_weight 33 = .ok (.aload_n 1, 1) := by decide +kernel
theorem dX4_weight_34 : decode cX4_weight 34 = .ok (.aload_n 0, 1) := by decide +kernel
theorem dX4_weight_35 : decode cX4_weight 35 = .ok (.getfield 11, 3) := by decide +kernel
theorem dX4_weight_38 : decode cX4_weight 38 = .ok (.iload 5, 2) := by decide +kernel
theorem dX4_weight_40 : decode cX4_weight 40 = .ok (.iaload, 1) := by decide +kernel
theorem dX4_weight_41 : decode cX4_weight 41 = .ok (.iload_n 2, 1) := by decide +kernel
theorem dX4_weight_42 : decode cX4_weight 42 = .ok (.invokevirtual 28, 3) := by decide +kernel
theorem dX4_weight_45 : decode cX4_weight 45 = .ok (.isub, 1) := by decide +kernel
theorem dX4_weight_46 : decode cX4_weight 46 = .ok (.istore 6, 2) := by decide +kernel
theorem dX4_weight_48 : decode cX4_weight 48 = .ok (.aload_n 1, 1) := by decide +kernel
theorem dX4_weight_49 : decode cX4_weight 49 = .ok (.aload_n 0, 1) := by decide +kernel
theorem dX4_weight_50 : decode cX4_weight 50 = .ok (.getfield 11, 3) := by decide +kernel
theorem dX4_weight_53 : decode cX4_weight 53 = .ok (.iload 5, 2) := by decide +kernel
theorem dX4_weight_55 : decode cX4_weight 55 = .ok (.iaload, 1) := by decide +kernel
theorem dX4_weight_56 : decode cX4_weight 56 = .ok (.iload_n 2, 1) := by decide +kernel
theorem dX4_weight_57 : decode cX4_weight 57 = .ok (.invokevirtual 32, 3) := by decide +kernel
theorem dX4_weight_60 : decode cX4_weight 60 = .ok (.istore 7, 2) := by decide +kernel
theorem dX4_weight_62 : decode cX4_weight 62 = .ok (.lload_n 3, 1) := by decide +kernel
theorem dX4_weight_63 : decode cX4_weight 63 = .ok (.iload 6, 2) := by decide +kernel
theorem dX4_weight_65 : decode cX4_weight 65 = .ok (.iconst 1, 1) := by decide +kernel
theorem dX4_weight_66 : decode cX4_weight 66 = .ok (.if_icmp .ne 9, 3) := by decide +kernel
theorem dX4_weight_69 : decode cX4_weight 69 = .ok (.iload 7, 2) := by decide +kernel
theorem dX4_weight_71 : decode cX4_weight 71 = .ok (.i2l, 1) := by decide +kernel
theorem dX4_weight_72 : decode cX4_weight 72 = .ok (.goto 18, 3) := by decide +kernel
theorem dX4_weight_75 : decode cX4_weight 75 = .ok (.iload 6, 2) := by decide +kernel
theorem dX4_weight_77 : decode cX4_weight 77 = .ok (.ifCond .ne 12, 3) := by decide +kernel
theorem dX4_weight_80 : decode cX4_weight 80 = .ok (.bipush 10, 2) := by decide +kernel
theorem dX4_weight_82 : decode cX4_weight 82 = .ok (.iload 7, 2) := by decide +kernel
theorem dX4_weight_84 : decode cX4_weight 84 = .ok (.isub, 1) := by decide +kernel
theorem dX4_weight_85 : decode cX4_weight 85 = .ok (.i2l, 1) := by decide +kernel
theorem dX4_weight_86 : decode cX4_weight 86 = .ok (.goto 4, 3) := by decide +kernel
theorem dX4_weight_89 : decode cX4_weight 89 = .ok (.lconst 0, 1) := by decide +kernel
theorem dX4_weight_90 : decode cX4_weight 90 = .ok (.lmul, 1) := by decide +kernel
theorem dX4_weight_91 : decode cX4_weight 91 = .ok (.lstore_n 3, 1) := by decide +kernel
theorem dX4_weight_92 : decode cX4_weight 92 = .ok (.iinc 5 1, 3) := by decide +kernel
theorem dX4_weight_95 : decode cX4_weight 95 = .ok (.goto (-85), 3) := by decide +kernel
theorem dX4_weight_98 : decode cX4_weight 98 = .ok (.lload_n 3, 1) := by decide +kernel
theorem dX4_weight_99 : decode cX4_weight 99 = .ok (.lreturn, 1) := by decide +kernel
theorem dX4_weightOfAll_0 : decode cX4_weightOfAll 0 = .ok (.lconst 0, 1) := by decide +kernel
theorem dX4_weightOfAll_1 : decode cX4_weightOfAll 1 = .ok (.lstore_n 2, 1) := by decide +kernel
theorem dX4_weightOfAll_2 : decode cX4_weightOfAll 2 = .ok (.iconst 0, 1) := by decide +kernel
theorem dX4_weightOfAll_3 : decode cX4_weightOfAll 3 = .ok (.istore 4, 2) := by decide +kernel
theorem dX4_weightOfAll_5 : decode cX4_weightOfAll 5 = .ok (.iload 4, 2) := by decide +kernel
theorem dX4_weightOfAll_7 : decode cX4_weightOfAll 7 = .ok (.iconst 3, 1) := by decide +kernel
theorem dX4_weightOfAll_8 : decode cX4_weightOfAll 8 = .ok (.if_icmp .ge 19, 3) := by decide +kernel
theorem dX4_weightOfAll_11 : decode cX4_weightOfAll 11 = .ok (.lload_n 2, 1) := by decide +kernel
theorem dX4_weightOfAll_12 : decode cX4_weightOfAll 12 = .ok (.aload_n 0, 1) := by decide +kernel
theorem dX4_weightOfAll_13 : decode cX4_weightOfAll 13 = .ok (.aload_n 1, 1) := by decide +kernel
theorem dX4_weightOfAll_14 : decode cX4_weightOfAll 14 = .ok (.iload 4, 2) := by decide +kernel
theorem dX4_weightOfAll_16 : decode cX4_weightOfAll 16 = .ok (.invokevirtual 35, 3) := by decide +kernel
theorem dX4_weightOfAll_19 : decode cX4_weightOfAll 19 = .ok (.ladd, 1) := by decide +kernel
theorem dX4_weightOfAll_20 : decode cX4_weightOfAll 20 = .ok (.lstore_n 2, 1) := by decide +kernel
theorem dX4_weightOfAll_21 : decode cX4_weightOfAll 21 = .ok (.iinc 4 1, 3) := by decide +kernel
theorem dX4_weightOfAll_24 : decode cX4_weightOfAll 24 = .ok (.goto (-19), 3) := by decide +kernel
theorem dX4_weightOfAll_27 : decode cX4_weightOfAll 27 = .ok (.lload_n 2, 1) := by decide +kernel
theorem dX4_weightOfAll_28 : decode cX4_weightOfAll 28 = .ok (.lreturn, 1) := by decide +kernel
theorem dX4_heaviest_0 : decode cX4_heaviest 0 = .ok (.iconst 0, 1) := by decide +kernel
theorem dX4_heaviest_1 : decode cX4_heaviest 1 = .ok (.istore_n 2, 1) := by decide +kernel
theorem dX4_heaviest_2 : decode cX4_heaviest 2 = .ok (.iconst 1, 1) := by decide +kernel
theorem dX4_heaviest_3 : decode cX4_heaviest 3 = .ok (.istore_n 3, 1) := by decide +kernel
theorem dX4_heaviest_4 : decode cX4_heaviest 4 = .ok (.iload_n 3, 1) := by decide +kernel
theorem dX4_heaviest_5 : decode cX4_heaviest 5 = .ok (.iconst 3, 1) := by decide +kernel
theorem dX4_heaviest_6 : decode cX4_heaviest 6 = .ok (.if_icmp .ge 27, 3) := by decide +kernel
theorem dX4_heaviest_9 : decode cX4_heaviest 9 = .ok (.aload_n 0, 1) := by decide +kernel
theorem dX4_heaviest_10 : decode cX4_heaviest 10 = .ok (.aload_n 1, 1) := by decide +kernel
theorem dX4_heaviest_11 : decode cX4_heaviest 11 = .ok (.iload_n 3, 1) := by decide +kernel
theorem dX4_heaviest_12 : decode cX4_heaviest 12 = .ok (.invokevirtual 35, 3) := by decide +kernel
theorem dX4_heaviest_15 : decode cX4_heaviest 15 = .ok (.aload_n 0, 1) := by decide +kernel
theorem dX4_heaviest_16 : decode cX4_heaviest 16 = .ok (.aload_n 1, 1) := by decide +kernel
theorem dX4_heaviest_17 : decode cX4_heaviest 17 = .ok (.iload_n 2, 1) := by decide +kernel
theorem dX4_heaviest_18 : decode cX4_heaviest 18 = .ok (.invokevirtual 35, 3) := by decide +kernel
theorem dX4_heaviest_21 : decode cX4_heaviest 21 = .ok (.lcmp, 1) := by decide +kernel
theorem dX4_heaviest_22 : decode cX4_heaviest 22 = .ok (.ifCond .le 5, 3) := by decide +kernel
theorem dX4_heaviest_25 : decode cX4_heaviest 25 = .ok (.iload_n 3, 1) := by decide +kernel
theorem dX4_heaviest_26 : decode cX4_heaviest 26 = .ok (.istore_n 2, 1) := by decide +kernel
theorem dX4_heaviest_27 : decode cX4_heaviest 27 = .ok (.iinc 3 1, 3) := by decide +kernel
theorem dX4_heaviest_30 : decode cX4_heaviest 30 = .ok (.goto (-26), 3) := by decide +kernel
theorem dX4_heaviest_33 : decode cX4_heaviest 33 = .ok (.iload_n 2, 1) := by decide +kernel
theorem dX4_heaviest_34 : decode cX4_heaviest 34 = .ok (.ireturn, 1) := by decide +kernel
theorem dX4_mostUnlike_0 : decode cX4_mostUnlike 0 = .ok (.iconst 0, 1) := by decide +kernel
theorem dX4_mostUnlike_1 : decode cX4_mostUnlike 1 = .ok (.istore_n 2, 1) := by decide +kernel
theorem dX4_mostUnlike_2 : decode cX4_mostUnlike 2 = .ok (.iconst 1, 1) := by decide +kernel
theorem dX4_mostUnlike_3 : decode cX4_mostUnlike 3 = .ok (.istore_n 3, 1) := by decide +kernel
theorem dX4_mostUnlike_4 : decode cX4_mostUnlike 4 = .ok (.iload_n 3, 1) := by decide +kernel
theorem dX4_mostUnlike_5 : decode cX4_mostUnlike 5 = .ok (.aload_n 1, 1) := by decide +kernel
theorem dX4_mostUnlike_6 : decode cX4_mostUnlike 6 = .ok (.getfield 39, 3) := by decide +kernel
theorem dX4_mostUnlike_9 : decode cX4_mostUnlike 9 = .ok (.if_icmp .ge 26, 3) := by decide +kernel
theorem dX4_mostUnlike_12 : decode cX4_mostUnlike 12 = .ok (.aload_n 0, 1) := by decide +kernel
theorem dX4_mostUnlike_13 : decode cX4_mostUnlike 13 = .ok (.aload_n 1, 1) := by decide +kernel
theorem dX4_mostUnlike_14 : decode cX4_mostUnlike 14 = .ok (.iload_n 3, 1) := by decide +kernel
theorem dX4_mostUnlike_15 : decode cX4_mostUnlike 15 = .ok (.invokevirtual 41, 3) := by decide +kernel
theorem dX4_mostUnlike_18 : decode cX4_mostUnlike 18 = .ok (.aload_n 0, 1) := by decide +kernel
theorem dX4_mostUnlike_19 : decode cX4_mostUnlike 19 = .ok (.aload_n 1, 1) := by decide +kernel
theorem dX4_mostUnlike_20 : decode cX4_mostUnlike 20 = .ok (.iload_n 2, 1) := by decide +kernel
theorem dX4_mostUnlike_21 : decode cX4_mostUnlike 21 = .ok (.invokevirtual 41, 3) := by decide +kernel
theorem dX4_mostUnlike_24 : decode cX4_mostUnlike 24 = .ok (.if_icmp .le 5, 3) := by decide +kernel
theorem dX4_mostUnlike_27 : decode cX4_mostUnlike 27 = .ok (.iload_n 3, 1) := by decide +kernel
theorem dX4_mostUnlike_28 : decode cX4_mostUnlike 28 = .ok (.istore_n 2, 1) := by decide +kernel
theorem dX4_mostUnlike_29 : decode cX4_mostUnlike 29 = .ok (.iinc 3 1, 3) := by decide +kernel
theorem dX4_mostUnlike_32 : decode cX4_mostUnlike 32 = .ok (.goto (-28), 3) := by decide +kernel
theorem dX4_mostUnlike_35 : decode cX4_mostUnlike 35 = .ok (.iload_n 2, 1) := by decide +kernel
theorem dX4_mostUnlike_36 : decode cX4_mostUnlike 36 = .ok (.ireturn, 1) := by decide +kernel
theorem dX4_unlikeAt_0 : decode cX4_unlikeAt 0 = .ok (.iconst 0, 1) := by decide +kernel
theorem dX4_unlikeAt_1 : decode cX4_unlikeAt 1 = .ok (.istore_n 3, 1) := by decide +kernel
theorem dX4_unlikeAt_2 : decode cX4_unlikeAt 2 = .ok (.iconst 0, 1) := by decide +kernel
theorem dX4_unlikeAt_3 : decode cX4_unlikeAt 3 = .ok (.istore 4, 2) := by decide +kernel
theorem dX4_unlikeAt_5 : decode cX4_unlikeAt 5 = .ok (.iload 4, 2) := by decide +kernel
theorem dX4_unlikeAt_7 : decode cX4_unlikeAt 7 = .ok (.iconst 3, 1) := by decide +kernel
theorem dX4_unlikeAt_8 : decode cX4_unlikeAt 8 = .ok (.if_icmp .ge 35, 3) := by decide +kernel
theorem dX4_unlikeAt_11 : decode cX4_unlikeAt 11 = .ok (.aload_n 0, 1) := by decide +kernel
theorem dX4_unlikeAt_12 : decode cX4_unlikeAt 12 = .ok (.aload_n 1, 1) := by decide +kernel
theorem dX4_unlikeAt_13 : decode cX4_unlikeAt 13 = .ok (.iload 4, 2) := by decide +kernel
theorem dX4_unlikeAt_15 : decode cX4_unlikeAt 15 = .ok (.invokevirtual 35, 3) := by decide +kernel
theorem dX4_unlikeAt_18 : decode cX4_unlikeAt 18 = .ok (.lconst 0, 1) := by decide +kernel
theorem dX4_unlikeAt_19 : decode cX4_unlikeAt 19 = .ok (.lcmp, 1) := by decide +kernel
theorem dX4_unlikeAt_20 : decode cX4_unlikeAt 20 = .ok (.ifCond .le 17, 3) := by decide +kernel
theorem dX4_unlikeAt_23 : decode cX4_unlikeAt 23 = .ok (.aload_n 0, 1) := by decide +kernel
theorem dX4_unlikeAt_24 : decode cX4_unlikeAt 24 = .ok (.aload_n 1, 1) := by decide +kernel
theorem dX4_unlikeAt_25 : decode cX4_unlikeAt 25 = .ok (.iload_n 2, 1) := by decide +kernel
theorem dX4_unlikeAt_26 : decode cX4_unlikeAt 26 = .ok (.iload 4, 2) := by decide +kernel
theorem dX4_unlikeAt_28 : decode cX4_unlikeAt 28 = .ok (.invokevirtual 45, 3) := by decide +kernel
theorem dX4_unlikeAt_31 : decode cX4_unlikeAt 31 = .ok (.ifCond .ne 6, 3) := by decide +kernel
theorem dX4_unlikeAt_34 : decode cX4_unlikeAt 34 = .ok (.iinc 3 1, 3) := by decide +kernel
theorem dX4_unlikeAt_37 : decode cX4_unlikeAt 37 = .ok (.iinc 4 1, 3) := by decide +kernel
theorem dX4_unlikeAt_40 : decode cX4_unlikeAt 40 = .ok (.goto (-35), 3) := by decide +kernel
theorem dX4_unlikeAt_43 : decode cX4_unlikeAt 43 = .ok (.iload_n 3, 1) := by decide +kernel
theorem dX4_unlikeAt_44 : decode cX4_unlikeAt 44 = .ok (.ireturn, 1) := by decide +kernel
theorem dX4_isLikeAnEarlierOne_0 : decode cX4_isLikeAnEarlierOne 0 = .ok (.iconst 0, 1) := by decide +kernel
theorem dX4_isLikeAnEarlierOne_1 : decode cX4_isLikeAnEarlierOne 1 = .ok (.istore 4, 2) := by decide +kernel
theorem dX4_isLikeAnEarlierOne_3 : decode cX4_isLikeAnEarlierOne 3 = .ok (.iload 4, 2) := by decide +kernel
theorem dX4_isLikeAnEarlierOne_5 : decode cX4_isLikeAnEarlierOne 5 = .ok (.iload_n 3, 1) := by decide +kernel
theorem dX4_isLikeAnEarlierOne_6 : decode cX4_isLikeAnEarlierOne 6 = .ok (.if_icmp .ge 55, 3) := by decide +kernel
theorem dX4_isLikeAnEarlierOne_9 : decode cX4_isLikeAnEarlierOne 9 = .ok (.aload_n 0, 1) := by decide +kernel
theorem dX4_isLikeAnEarlierOne_10 : decode cX4_isLikeAnEarlierOne 10 = .ok (.aload_n 1, 1) := by decide +kernel
theorem dX4_isLikeAnEarlierOne_11 : decode cX4_isLikeAnEarlierOne 11 = .ok (.iload 4, 2) := by decide +kernel
theorem dX4_isLikeAnEarlierOne_13 : decode cX4_isLikeAnEarlierOne 13 = .ok (.invokevirtual 35, 3) := by decide +kernel
theorem dX4_isLikeAnEarlierOne_16 : decode cX4_isLikeAnEarlierOne 16 = .ok (.lconst 0, 1) := by decide +kernel
theorem dX4_isLikeAnEarlierOne_17 : decode cX4_isLikeAnEarlierOne 17 = .ok (.lcmp, 1) := by decide +kernel
theorem dX4_isLikeAnEarlierOne_18 : decode cX4_isLikeAnEarlierOne 18 = .ok (.ifCond .le 37, 3) := by decide +kernel
theorem dX4_isLikeAnEarlierOne_21 : decode cX4_isLikeAnEarlierOne 21 = .ok (.aload_n 1, 1) := by decide +kernel
theorem dX4_isLikeAnEarlierOne_22 : decode cX4_isLikeAnEarlierOne 22 = .ok (.iload_n 2, 1) := by decide +kernel
theorem dX4_isLikeAnEarlierOne_23 : decode cX4_isLikeAnEarlierOne 23 = .ok (.iload 4, 2) := by decide +kernel
theorem dX4_isLikeAnEarlierOne_25 : decode cX4_isLikeAnEarlierOne 25 = .ok (.invokevirtual 28, 3) := by decide +kernel
theorem dX4_isLikeAnEarlierOne_28 : decode cX4_isLikeAnEarlierOne 28 = .ok (.aload_n 1, 1) := by decide +kernel
theorem dX4_isLikeAnEarlierOne_29 : decode cX4_isLikeAnEarlierOne 29 = .ok (.iload_n 2, 1) := by decide +kernel
theorem dX4_isLikeAnEarlierOne_30 : decode cX4_isLikeAnEarlierOne 30 = .ok (.iload_n 3, 1) := by decide +kernel
theorem dX4_isLikeAnEarlierOne_31 : decode cX4_isLikeAnEarlierOne 31 = .ok (.invokevirtual 28, 3) := by decide +kernel
theorem dX4_isLikeAnEarlierOne_34 : decode cX4_isLikeAnEarlierOne 34 = .ok (.if_icmp .ne 21, 3) := by decide +kernel
theorem dX4_isLikeAnEarlierOne_37 : decode cX4_isLikeAnEarlierOne 37 = .ok (.aload_n 1, 1) := by decide +kernel
theorem dX4_isLikeAnEarlierOne_38 : decode cX4_isLikeAnEarlierOne 38 = .ok (.iload_n 2, 1) := by decide +kernel
theorem dX4_isLikeAnEarlierOne_39 : decode cX4_isLikeAnEarlierOne 39 = .ok (.iload 4, 2) := by decide +kernel
theorem dX4_isLikeAnEarlierOne_41 : decode cX4_isLikeAnEarlierOne 41 = .ok (.invokevirtual 32, 3) := by decide +kernel
theorem dX4_isLikeAnEarlierOne_44 : decode cX4_isLikeAnEarlierOne 44 = .ok (.aload_n 1, 1) := by decide +kernel
theorem dX4_isLikeAnEarlierOne_45 : decode cX4_isLikeAnEarlierOne 45 = .ok (.iload_n 2, 1) := by decide +kernel
theorem dX4_isLikeAnEarlierOne_46 : decode cX4_isLikeAnEarlierOne 46 = .ok (.iload_n 3, 1) := by decide +kernel
theorem dX4_isLikeAnEarlierOne_47 : decode cX4_isLikeAnEarlierOne 47 = .ok (.invokevirtual 32, 3) := by decide +kernel
theorem dX4_isLikeAnEarlierOne_50 : decode cX4_isLikeAnEarlierOne 50 = .ok (.if_icmp .ne 5, 3) := by decide +kernel
theorem dX4_isLikeAnEarlierOne_53 : decode cX4_isLikeAnEarlierOne 53 = .ok (.iconst 1, 1) := by decide +kernel
theorem dX4_isLikeAnEarlierOne_54 : decode cX4_isLikeAnEarlierOne 54 = .ok (.ireturn, 1) := by decide +kernel
theorem dX4_isLikeAnEarlierOne_55 : decode cX4_isLikeAnEarlierOne 55 = .ok (.iinc 4 1, 3) := by decide +kernel
theorem dX4_isLikeAnEarlierOne_58 : decode cX4_isLikeAnEarlierOne 58 = .ok (.goto (-55), 3) := by decide +kernel
theorem dX4_isLikeAnEarlierOne_61 : decode cX4_isLikeAnEarlierOne 61 = .ok (.iconst 0, 1) := by decide +kernel
theorem dX4_isLikeAnEarlierOne_62 : decode cX4_isLikeAnEarlierOne 62 = .ok (.ireturn, 1) := by decide +kernel
theorem dX5_init_0 : decode cX5_init 0 = .ok (.aload_n 0, 1) := by decide +kernel
theorem dX5_init_1 : decode cX5_init 1 = .ok (.invokespecial 1, 3) := by decide +kernel
theorem dX5_init_4 : decode cX5_init 4 = .ok (.aload_n 0, 1) := by decide +kernel
theorem dX5_init_5 : decode cX5_init 5 = .ok (.bipush 64, 2) := by decide +kernel
theorem dX5_init_7 : decode cX5_init 7 = .ok (.newarray .int, 2) := by decide +kernel
theorem dX5_init_9 : decode cX5_init 9 = .ok (.putfield 9, 3) := by decide +kernel
theorem dX5_init_12 : decode cX5_init 12 = .ok (.aload_n 0, 1) := by decide +kernel
theorem dX5_init_13 : decode cX5_init 13 = .ok (.iconst 0, 1) := by decide +kernel
theorem dX5_init_14 : decode cX5_init 14 = .ok (.putfield 13, 3) := by decide +kernel
theorem dX5_init_17 : decode cX5_init 17 = .ok (.return_, 1) := by decide +kernel
theorem dX5_size_0 : decode cX5_size 0 = .ok (.aload_n 0, 1) := by decide +kernel
theorem dX5_size_1 : decode cX5_size 1 = .ok (.getfield 13, 3) := by decide +kernel
theorem dX5_size_4 : decode cX5_size 4 = .ok (.ireturn, 1) := by decide +kernel
theorem dX5_hasRoom_0 : decode cX5_hasRoom 0 = .ok (.aload_n 0, 1) := by decide +kernel
theorem dX5_hasRoom_1 : decode cX5_hasRoom 1 = .ok (.getfield 13, 3) := by decide +kernel
theorem dX5_hasRoom_4 : decode cX5_hasRoom 4 = .ok (.iload_n 1, 1) := by decide +kernel
theorem dX5_hasRoom_5 : decode cX5_hasRoom 5 = .ok (.iadd, 1) := by decide +kernel
theorem dX5_hasRoom_6 : decode cX5_hasRoom 6 = .ok (.bipush 64, 2) := by decide +kernel
theorem dX5_hasRoom_8 : decode cX5_hasRoom 8 = .ok (.if_icmp .gt 7, 3) := by decide +kernel
