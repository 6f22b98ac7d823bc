theorem dX5_hasRoom_11 : decode cX5_hasRoom 11 = .ok (.iconst 1, 1) := by decide +kernel
theorem dX5_hasRoom_12 : decode cX5_hasRoom 12 = .ok (.goto 4, 3) := by decide +kernel
theorem dX5_hasRoom_15 : decode cX5_hasRoom 15 = .ok (.iconst 0, 1) := by decide +kernel
theorem dX5_hasRoom_16 : decode cX5_hasRoom 16 = .ok (.ireturn, 1) := by decide +kernel
theorem dX5_put_0 : decode cX5_put 0 = .ok (.iload_n 1, 1) := by decide +kernel
theorem dX5_put_1 : decode cX5_put 1 = .ok (.iconst 1, 1) := by decide +kernel
theorem dX5_put_2 : decode cX5_put 2 = .ok (.isub, 1) := by decide +kernel
theorem dX5_put_3 : decode cX5_put 3 = .ok (.istore 4, 2) := by decide +kernel
theorem dX5_put_5 : decode cX5_put 5 = .ok (.iload 4, 2) := by decide +kernel
theorem dX5_put_7 : decode cX5_put 7 = .ok (.ifCond .lt 49, 3) := by decide +kernel
theorem dX5_put_10 : decode cX5_put 10 = .ok (.aload_n 0, 1) := by decide +kernel
theorem dX5_put_11 : decode cX5_put 11 = .ok (.getfield 13, 3) := by decide +kernel
theorem dX5_put_14 : decode cX5_put 14 = .ok (.bipush 64, 2) := by decide +kernel
theorem dX5_put_16 : decode cX5_put 16 = .ok (.if_icmp .ge 40, 3) := by decide +kernel
theorem dX5_put_19 : decode cX5_put 19 = .ok (.aload_n 0, 1) := by decide +kernel
theorem dX5_put_20 : decode cX5_put 20 = .ok (.getfield 9, 3) := by decide +kernel
theorem dX5_put_23 : decode cX5_put 23 = .ok (.aload_n 0, 1) := by decide +kernel
theorem dX5_put_24 : decode cX5_put 24 = .ok (.getfield 13, 3) := by decide +kernel
theorem dX5_put_27 : decode cX5_put 27 = .ok (.lload_n 2, 1) := by decide +kernel
theorem dX5_put_28 : decode cX5_put 28 = .ok (.bipush 8, 2) := by decide +kernel
theorem dX5_put_30 : decode cX5_put 30 = .ok (.iload 4, 2) := by decide +kernel
theorem dX5_put_32 : decode cX5_put 32 = .ok (.imul, 1) := by decide +kernel
theorem dX5_put_33 : decode cX5_put 33 = .ok (.lushr, 1) := by decide +kernel
theorem dX5_put_34 : decode cX5_put 34 = .ok (.l2i, 1) := by decide +kernel
theorem dX5_put_35 : decode cX5_put 35 = .ok (.sipush 255, 3) := by decide +kernel
theorem dX5_put_38 : decode cX5_put 38 = .ok (.iand, 1) := by decide +kernel
theorem dX5_put_39 : decode cX5_put 39 = .ok (.iastore, 1) := by decide +kernel
theorem dX5_put_40 : decode cX5_put 40 = .ok (.aload_n 0, 1) := by decide +kernel
theorem dX5_put_41 : decode cX5_put 41 = .ok (.dup, 1) := by decide +kernel
theorem dX5_put_42 : decode cX5_put 42 = .ok (.getfield 13, 3) := by decide +kernel
theorem dX5_put_45 : decode cX5_put 45 = .ok (.iconst 1, 1) := by decide +kernel
theorem dX5_put_46 : decode cX5_put 46 = .ok (.iadd, 1) := by decide +kernel
theorem dX5_put_47 : decode cX5_put 47 = .ok (.putfield 13, 3) := by decide +kernel
theorem dX5_put_50 : decode cX5_put 50 = .ok (.iinc 4 (-1), 3) := by decide +kernel
theorem dX5_put_53 : decode cX5_put 53 = .ok (.goto (-48), 3) := by decide +kernel
theorem dX5_put_56 : decode cX5_put 56 = .ok (.return_, 1) := by decide +kernel
theorem dX5_empty_0 : decode cX5_empty 0 = .ok (.aload_n 0, 1) := by decide +kernel
theorem dX5_empty_1 : decode cX5_empty 1 = .ok (.getfield 13, 3) := by decide +kernel
theorem dX5_empty_4 : decode cX5_empty 4 = .ok (.istore_n 1, 1) := by decide +kernel
theorem dX5_empty_5 : decode cX5_empty 5 = .ok (.aload_n 0, 1) := by decide +kernel
theorem dX5_empty_6 : decode cX5_empty 6 = .ok (.iconst 0, 1) := by decide +kernel
theorem dX5_empty_7 : decode cX5_empty 7 = .ok (.putfield 13, 3) := by decide +kernel
theorem dX5_empty_10 : decode cX5_empty 10 = .ok (.iload_n 1, 1) := by decide +kernel
theorem dX5_empty_11 : decode cX5_empty 11 = .ok (.ireturn, 1) := by decide +kernel
theorem dX5_byteAt_0 : decode cX5_byteAt 0 = .ok (.iload_n 1, 1) := by decide +kernel
theorem dX5_byteAt_1 : decode cX5_byteAt 1 = .ok (.ifCond .lt 20, 3) := by decide +kernel
theorem dX5_byteAt_4 : decode cX5_byteAt 4 = .ok (.iload_n 1, 1) := by decide +kernel
theorem dX5_byteAt_5 : decode cX5_byteAt 5 = .ok (.aload_n 0, 1) := by decide +kernel
theorem dX5_byteAt_6 : decode cX5_byteAt 6 = .ok (.getfield 13, 3) := by decide +kernel
theorem dX5_byteAt_9 : decode cX5_byteAt 9 = .ok (.if_icmp .ge 12, 3) := by decide +kernel
theorem dX5_byteAt_12 : decode cX5_byteAt 12 = .ok (.aload_n 0, 1) := by decide +kernel
theorem dX5_byteAt_13 : decode cX5_byteAt 13 = .ok (.getfield 9, 3) := by decide +kernel
theorem dX5_byteAt_16 : decode cX5_byteAt 16 = .ok (.iload_n 1, 1) := by decide +kernel
theorem dX5_byteAt_17 : decode cX5_byteAt 17 = .ok (.iaload, 1) := by decide +kernel
theorem dX5_byteAt_18 : decode cX5_byteAt 18 = .ok (.goto 4, 3) := by decide +kernel
theorem dX5_byteAt_21 : decode cX5_byteAt 21 = .ok (.iconst (-1), 1) := by decide +kernel
theorem dX5_byteAt_22 : decode cX5_byteAt 22 = .ok (.ireturn, 1) := by decide +kernel
theorem dX6_init_0 : decode cX6_init 0 = .ok (.aload_n 0, 1) := by decide +kernel
theorem dX6_init_1 : decode cX6_init 1 = .ok (.invokespecial 3, 3) := by decide +kernel
theorem dX6_init_4 : decode cX6_init 4 = .ok (.aload_n 0, 1) := by decide +kernel
theorem dX6_init_5 : decode cX6_init 5 = .ok (.iconst 3, 1) := by decide +kernel
theorem dX6_init_6 : decode cX6_init 6 = .ok (.newarray .int, 2) := by decide +kernel
theorem dX6_init_8 : decode cX6_init 8 = .ok (.putfield 9, 3) := by decide +kernel
theorem dX6_init_11 : decode cX6_init 11 = .ok (.aload_n 0, 1) := by decide +kernel
theorem dX6_init_12 : decode cX6_init 12 = .ok (.bipush 9, 2) := by decide +kernel
theorem dX6_init_14 : decode cX6_init 14 = .ok (.newarray .int, 2) := by decide +kernel
theorem dX6_init_16 : decode cX6_init 16 = .ok (.putfield 15, 3) := by decide +kernel
theorem dX6_init_19 : decode cX6_init 19 = .ok (.aload_n 0, 1) := by decide +kernel
theorem dX6_init_20 : decode cX6_init 20 = .ok (.bipush 9, 2) := by decide +kernel
theorem dX6_init_22 : decode cX6_init 22 = .ok (.newarray .int, 2) := by decide +kernel
theorem dX6_init_24 : decode cX6_init 24 = .ok (.putfield 18, 3) := by decide +kernel
theorem dX6_init_27 : decode cX6_init 27 = .ok (.aload_n 0, 1) := by decide +kernel
theorem dX6_init_28 : decode cX6_init 28 = .ok (.iconst 3, 1) := by decide +kernel
theorem dX6_init_29 : decode cX6_init 29 = .ok (.newarray .int, 2) := by decide +kernel
theorem dX6_init_31 : decode cX6_init 31 = .ok (.putfield 21, 3) := by decide +kernel
theorem dX6_init_34 : decode cX6_init 34 = .ok (.aload_n 0, 1) := by decide +kernel
theorem dX6_init_35 : decode cX6_init 35 = .ok (.invokevirtual 24, 3) := by decide +kernel
theorem dX6_init_38 : decode cX6_init 38 = .ok (.return_, 1) := by decide +kernel
theorem dX6_reset_0 : decode cX6_reset 0 = .ok (.aload_n 0, 1) := by decide +kernel
theorem dX6_reset_1 : decode cX6_reset 1 = .ok (.iconst 1, 1) := by decide +kernel
theorem dX6_reset_2 : decode cX6_reset 2 = .ok (.putfield 27, 3) := by decide +kernel
theorem dX6_reset_5 : decode cX6_reset 5 = .ok (.aload_n 0, 1) := by decide +kernel
theorem dX6_reset_6 : decode cX6_reset 6 = .ok (.bipush 10, 2) := by decide +kernel
theorem dX6_reset_8 : decode cX6_reset 8 = .ok (.putfield 31, 3) := by decide +kernel
theorem dX6_reset_11 : decode cX6_reset 11 = .ok (.aload_n 0, 1) := by decide +kernel
theorem dX6_reset_12 : decode cX6_reset 12 = .ok (.bipush 20, 2) := by decide +kernel
theorem dX6_reset_14 : decode cX6_reset 14 = .ok (.putfield 34, 3) := by decide +kernel
theorem dX6_reset_17 : decode cX6_reset 17 = .ok (.aload_n 0, 1) := by decide +kernel
theorem dX6_reset_18 : decode cX6_reset 18 = .ok (.iconst 5, 1) := by decide +kernel
theorem dX6_reset_19 : decode cX6_reset 19 = .ok (.putfield 37, 3) := by decide +kernel
theorem dX6_reset_22 : decode cX6_reset 22 = .ok (.aload_n 0, 1) := by decide +kernel
theorem dX6_reset_23 : decode cX6_reset 23 = .ok (.getfield 9, 3) := by decide +kernel
theorem dX6_reset_26 : decode cX6_reset 26 = .ok (.iconst 1, 1) := by decide +kernel
theorem dX6_reset_27 : decode cX6_reset 27 = .ok (.invokestatic 40, 3) := by decide +kernel
theorem dX6_reset_30 : decode cX6_reset 30 = .ok (.aload_n 0, 1) := by decide +kernel
theorem dX6_reset_31 : decode cX6_reset 31 = .ok (.getfield 15, 3) := by decide +kernel
theorem dX6_reset_34 : decode cX6_reset 34 = .ok (.iconst 1, 1) := by decide +kernel
theorem dX6_reset_35 : decode cX6_reset 35 = .ok (.invokestatic 40, 3) := by decide +kernel
theorem dX6_reset_38 : decode cX6_reset 38 = .ok (.aload_n 0, 1) := by decide +kernel
theorem dX6_reset_39 : decode cX6_reset 39 = .ok (.getfield 18, 3) := by decide +kernel
theorem dX6_reset_42 : decode cX6_reset 42 = .ok (.iconst 5, 1) := by decide +kernel
theorem dX6_reset_43 : decode cX6_reset 43 = .ok (.invokestatic 40, 3) := by decide +kernel
theorem dX6_reset_46 : decode cX6_reset 46 = .ok (.aload_n 0, 1) := by decide +kernel
theorem dX6_reset_47 : decode cX6_reset 47 = .ok (.getfield 21, 3) := by decide +kernel
theorem dX6_reset_50 : decode cX6_reset 50 = .ok (.bipush (-9), 2) := by decide +kernel
theorem dX6_reset_52 : decode cX6_reset 52 = .ok (.invokestatic 40, 3) := by decide +kernel
theorem dX6_reset_55 : decode cX6_reset 55 = .ok (.return_, 1) := by decide +kernel
theorem dX6_hasCorner_0 : decode cX6_hasCorner 0 = .ok (.iload_n 1, 1) := by decide +kernel
theorem dX6_hasCorner_1 : decode cX6_hasCorner 1 = .ok (.ifCond .lt 20, 3) := by decide +kernel
theorem dX6_hasCorner_4 : decode cX6_hasCorner 4 = .ok (.iload_n 1, 1) := by decide +kernel
theorem dX6_hasCorner_5 : decode cX6_hasCorner 5 = .ok (.aload_n 0, 1) := by decide +kernel
theorem dX6_hasCorner_6 : decode cX6_hasCorner 6 = .ok (.getfield 27, 3) := by decide +kernel
theorem dX6_hasCorner_9 : decode cX6_hasCorner 9 = .ok (.if_icmp .ge 12, 3) := by decide +kernel
theorem dX6_hasCorner_12 : decode cX6_hasCorner 12 = .ok (.iload_n 1, 1) := by decide +kernel
theorem dX6_hasCorner_13 : decode cX6_hasCorner 13 = .ok (.iconst 3, 1) := by decide +kernel
theorem dX6_hasCorner_14 : decode cX6_hasCorner 14 = .ok (.if_icmp .ge 7, 3) := by decide +kernel
theorem dX6_hasCorner_17 : decode cX6_hasCorner 17 = .ok (.iconst 1, 1) := by decide +kernel
theorem dX6_hasCorner_18 : decode cX6_hasCorner 18 = .ok (.goto 4, 3) := by decide +kernel
theorem dX6_hasCorner_21 : decode cX6_hasCorner 21 = .ok (.iconst 0, 1) := by decide +kernel
theorem dX6_hasCorner_22 : decode cX6_hasCorner 22 = .ok (.ireturn, 1) := by decide +kernel
theorem dX6_shareOf_0 : decode cX6_shareOf 0 = .ok (.iload_n 1, 1) := by decide +kernel
theorem dX6_shareOf_1 : decode cX6_shareOf 1 = .ok (.invokestatic 46, 3) := by decide +kernel
theorem dX6_shareOf_4 : decode cX6_shareOf 4 = .ok (.ifCond .eq 12, 3) := by decide +kernel
theorem dX6_shareOf_7 : decode cX6_shareOf 7 = .ok (.aload_n 0, 1) := by decide +kernel
theorem dX6_shareOf_8 : decode cX6_shareOf 8 = .ok (.getfield 9, 3) := by decide +kernel
theorem dX6_shareOf_11 : decode cX6_shareOf 11 = .ok (.iload_n 1, 1) := by decide +kernel
theorem dX6_shareOf_12 : decode cX6_shareOf 12 = .ok (.iaload, 1) := by decide +kernel
theorem dX6_shareOf_13 : decode cX6_shareOf 13 = .ok (.goto 4, 3) := by decide +kernel
theorem dX6_shareOf_16 : decode cX6_shareOf 16 = .ok (.iconst 0, 1) := by decide +kernel
theorem dX6_shareOf_17 : decode cX6_shareOf 17 = .ok (.ireturn, 1) := by decide +kernel
theorem dX6_comesTo_0 : decode cX6_comesTo 0 = .ok (.iload_n 1, 1) := by decide +kernel
theorem dX6_comesTo_1 : decode cX6_comesTo 1 = .ok (.iconst 3, 1) := by decide +kernel
theorem dX6_comesTo_2 : decode cX6_comesTo 2 = .ok (.imul, 1) := by decide +kernel
theorem dX6_comesTo_3 : decode cX6_comesTo 3 = .ok (.iload_n 2, 1) := by decide +kernel
theorem dX6_comesTo_4 : decode cX6_comesTo 4 = .ok (.iadd, 1) := by decide +kernel
theorem dX6_comesTo_5 : decode cX6_comesTo 5 = .ok (.istore_n 3, 1) := by decide +kernel
theorem dX6_comesTo_6 : decode cX6_comesTo 6 = .ok (.iload_n 3, 1) := by decide +kernel
theorem dX6_comesTo_7 : decode cX6_comesTo 7 = .ok (.ifCond .lt 21, 3) := by decide +kernel
theorem dX6_comesTo_10 : decode cX6_comesTo 10 = .ok (.iload_n 3, 1) := by decide +kernel
theorem dX6_comesTo_11 : decode cX6_comesTo 11 = .ok (.aload_n 0, 1) := by decide +kernel
theorem dX6_comesTo_12 : decode cX6_comesTo 12 = .ok (.getfield 15, 3) := by decide +kernel
theorem dX6_comesTo_15 : decode cX6_comesTo 15 = .ok (.arraylength, 1) := by decide +kernel
theorem dX6_comesTo_16 : decode cX6_comesTo 16 = .ok (.if_icmp .ge 12, 3) := by decide +kernel
theorem dX6_comesTo_19 : decode cX6_comesTo 19 = .ok (.aload_n 0, 1) := by decide +kernel
theorem dX6_comesTo_20 : decode cX6_comesTo 20 = .ok (.getfield 15, 3) := by decide +kernel
theorem dX6_comesTo_23 : decode cX6_comesTo 23 = .ok (.iload_n 3, 1) := by decide +kernel
theorem dX6_comesTo_24 : decode cX6_comesTo 24 = .ok (.iaload, 1) := by decide +kernel
theorem dX6_comesTo_25 : decode cX6_comesTo 25 = .ok (.goto 4, 3) := by decide +kernel
theorem dX6_comesTo_28 : decode cX6_comesTo 28 = .ok (.iconst 0, 1) := by decide +kernel
theorem dX6_comesTo_29 : decode cX6_comesTo 29 = .ok (.ireturn, 1) := by decide +kernel
theorem dX6_tenthsAt_0 : decode cX6_tenthsAt 0 = .ok (.iload_n 1, 1) := by decide +kernel
theorem dX6_tenthsAt_1 : decode cX6_tenthsAt 1 = .ok (.iconst 3, 1) := by decide +kernel
theorem dX6_tenthsAt_2 : decode cX6_tenthsAt 2 = .ok (.imul, 1) := by decide +kernel
theorem dX6_tenthsAt_3 : decode cX6_tenthsAt 3 = .ok (.iload_n 2, 1) := by decide +kernel
theorem dX6_tenthsAt_4 : decode cX6_tenthsAt 4 = .ok (.iadd, 1) := by decide +kernel
theorem dX6_tenthsAt_5 : decode cX6_tenthsAt 5 = .ok (.istore_n 3, 1) := by decide +kernel
theorem dX6_tenthsAt_6 : decode cX6_tenthsAt 6 = .ok (.iload_n 3, 1) := by decide +kernel
theorem dX6_tenthsAt_7 : decode cX6_tenthsAt 7 = .ok (.ifCond .lt 21, 3) := by decide +kernel
theorem dX6_tenthsAt_10 : decode cX6_tenthsAt 10 = .ok (.iload_n 3, 1) := by decide +kernel
theorem dX6_tenthsAt_11 : decode cX6_tenthsAt 11 = .ok (.aload_n 0, 1) := by decide +kernel
theorem dX6_tenthsAt_12 : decode cX6_tenthsAt 12 = .ok (.getfield 18, 3) := by decide +kernel
theorem dX6_tenthsAt_15 : decode cX6_tenthsAt 15 = .ok (.arraylength, 1) := by decide +kernel
theorem dX6_tenthsAt_16 : decode cX6_tenthsAt 16 = .ok (.if_icmp .ge 12, 3) := by decide +kernel
theorem dX6_tenthsAt_19 : decode cX6_tenthsAt 19 = .ok (.aload_n 0, 1) := by decide +kernel
theorem dX6_tenthsAt_20 : decode cX6_tenthsAt 20 = .ok (.getfield 18, 3) := by decide +kernel
theorem dX6_tenthsAt_23 : decode cX6_tenthsAt 23 = .ok (.iload_n 3, 1) := by decide +kernel
theorem dX6_tenthsAt_24 : decode cX6_tenthsAt 24 = .ok (.iaload, 1) := by decide +kernel
theorem dX6_tenthsAt_25 : decode cX6_tenthsAt 25 = .ok (.goto 4, 3) := by decide +kernel
theorem dX6_tenthsAt_28 : decode cX6_tenthsAt 28 = .ok (.iconst 0, 1) := by decide +kernel
theorem dX6_tenthsAt_29 : decode cX6_tenthsAt 29 = .ok (.ireturn, 1) := by decide +kernel
theorem dX6_nextFrom_0 : decode cX6_nextFrom 0 = .ok (.aload_n 0, 1) := by decide +kernel
theorem dX6_nextFrom_1 : decode cX6_nextFrom 1 = .ok (.iload_n 1, 1) := by decide +kernel
theorem dX6_nextFrom_2 : decode cX6_nextFrom 2 = .ok (.invokevirtual 50, 3) := by decide +kernel
theorem dX6_nextFrom_5 : decode cX6_nextFrom 5 = .ok (.ifCond .eq 12, 3) := by decide +kernel
theorem dX6_nextFrom_8 : decode cX6_nextFrom 8 = .ok (.aload_n 0, 1) := by decide +kernel
theorem dX6_nextFrom_9 : decode cX6_nextFrom 9 = .ok (.getfield 21, 3) := by decide +kernel
theorem dX6_nextFrom_12 : decode cX6_nextFrom 12 = .ok (.iload_n 1, 1) := by decide +kernel
theorem dX6_nextFrom_13 : decode cX6_nextFrom 13 = .ok (.iaload, 1) := by decide +kernel
theorem dX6_nextFrom_14 : decode cX6_nextFrom 14 = .ok (.goto 5, 3) := by decide +kernel
theorem dX6_nextFrom_17 : decode cX6_nextFrom 17 = .ok (.bipush (-9), 2) := by decide +kernel
theorem dX6_nextFrom_19 : decode cX6_nextFrom 19 = .ok (.ireturn, 1) := by decide +kernel
theorem dX6_setShare_0 : decode cX6_setShare 0 = .ok (.iload_n 1, 1) := by decide +kernel
theorem dX6_setShare_1 : decode cX6_setShare 1 = .ok (.invokestatic 46, 3) := by decide +kernel
theorem dX6_setShare_4 : decode cX6_setShare 4 = .ok (.ifCond .eq 10, 3) := by decide +kernel
theorem dX6_setShare_7 : decode cX6_setShare 7 = .ok (.aload_n 0, 1) := by decide +kernel
theorem dX6_setShare_8 : decode cX6_setShare 8 = .ok (.getfield 9, 3) := by decide +kernel
theorem dX6_setShare_11 : decode cX6_setShare 11 = .ok (.iload_n 1, 1) := by decide +kernel
theorem dX6_setShare_12 : decode cX6_setShare 12 = .ok (.iload_n 2, 1) := by decide +kernel
theorem dX6_setShare_13 : decode cX6_setShare 13 = .ok (.iastore, 1) := by decide +kernel
theorem dX6_setShare_14 : decode cX6_setShare 14 = .ok (.return_, 1) := by decide +kernel
theorem dX6_setWants_0 : decode cX6_setWants 0 = .ok (.iload_n 1, 1) := by decide +kernel
theorem dX6_setWants_1 : decode cX6_setWants 1 = .ok (.iconst 3, 1) := by decide +kernel
theorem dX6_setWants_2 : decode cX6_setWants 2 = .ok (.imul, 1) := by decide +kernel
theorem dX6_setWants_3 : decode cX6_setWants 3 = .ok (.iload_n 2, 1) := by decide +kernel
theorem dX6_setWants_4 : decode cX6_setWants 4 = .ok (.iadd, 1) := by decide +kernel
theorem dX6_setWants_5 : decode cX6_setWants 5 = .ok (.istore 5, 2) := by decide +kernel
theorem dX6_setWants_7 : decode cX6_setWants 7 = .ok (.iload 5, 2) := by decide +kernel
theorem dX6_setWants_9 : decode cX6_setWants 9 = .ok (.ifCond .lt 40, 3) := by decide +kernel
theorem dX6_setWants_12 : decode cX6_setWants 12 = .ok (.iload 5, 2) := by decide +kernel
theorem dX6_setWants_14 : decode cX6_setWants 14 = .ok (.aload_n 0, 1) := by decide +kernel
theorem dX6_setWants_15 : decode cX6_setWants 15 = .ok (.getfield 15, 3) := by decide +kernel
theorem dX6_setWants_18 : decode cX6_setWants 18 = .ok (.arraylength, 1) := by decide +kernel
theorem dX6_setWants_19 : decode cX6_setWants 19 = .ok (.if_icmp .ge 30, 3) := by decide +kernel
theorem dX6_setWants_22 : decode cX6_setWants 22 = .ok (.iload 5, 2) := by decide +kernel
theorem dX6_setWants_24 : decode cX6_setWants 24 = .ok (.aload_n 0, 1) := by decide +kernel
theorem dX6_setWants_25 : decode cX6_setWants 25 = .ok (.getfield 18, 3) := by decide +kernel
theorem dX6_setWants_28 : decode cX6_setWants 28 = .ok (.arraylength, 1) := by decide +kernel
theorem dX6_setWants_29 : decode cX6_setWants 29 = .ok (.if_icmp .ge 20, 3) := by decide +kernel
theorem dX6_setWants_32 : decode cX6_setWants 32 = .ok (.aload_n 0, 1) := by decide +kernel
theorem dX6_setWants_33 : decode cX6_setWants 33 = .ok (.getfield 15, 3) := by decide +kernel
theorem dX6_setWants_36 : decode cX6_setWants 36 = .ok (.iload 5, 2) := by decide +kernel
theorem dX6_setWants_38 : decode cX6_setWants 38 = .ok (.iload_n 3, 1) := by decide +kernel
theorem dX6_setWants_39 : decode cX6_setWants 39 = .ok (.iastore, 1) := by decide +kernel
theorem dX6_setWants_40 : decode cX6_setWants 40 = .ok (.aload_n 0, 1) := by decide +kernel
theorem dX6_setWants_41 : decode cX6_setWants 41 = .ok (.getfield 18, 3) := by decide +kernel
theorem dX6_setWants_44 : decode cX6_setWants 44 = .ok (.iload 5, 2) := by decide +kernel
theorem dX6_setWants_46 : decode cX6_setWants 46 = .ok (.iload 4, 2) := by decide +kernel
theorem dX6_setWants_48 : decode cX6_setWants 48 = .ok (.iastore, 1) := by decide +kernel
theorem dX6_setWants_49 : decode cX6_setWants 49 = .ok (.return_, 1) := by decide +kernel
theorem dX6_setNext_0 : decode cX6_setNext 0 = .ok (.aload_n 0, 1) := by decide +kernel
theorem dX6_setNext_1 : decode cX6_setNext 1 = .ok (.iload_n 1, 1) := by decide +kernel
theorem dX6_setNext_2 : decode cX6_setNext 2 = .ok (.invokevirtual 50, 3) := by decide +kernel
theorem dX6_setNext_5 : decode cX6_setNext 5 = .ok (.ifCond .eq 10, 3) := by decide +kernel
theorem dX6_setNext_8 : decode cX6_setNext 8 = .ok (.aload_n 0, 1) := by decide +kernel
theorem dX6_setNext_9 : decode cX6_setNext 9 = .ok (.getfield 21, 3) := by decide +kernel
theorem dX6_setNext_12 : decode cX6_setNext 12 = .ok (.iload_n 1, 1) := by decide +kernel
theorem dX6_setNext_13 : decode cX6_setNext 13 = .ok (.iload_n 2, 1) := by decide +kernel
theorem dX6_setNext_14 : decode cX6_setNext 14 = .ok (.iastore, 1) := by decide +kernel
theorem dX6_setNext_15 : decode cX6_setNext 15 = .ok (.return_, 1) := by decide +kernel
theorem dX7_init_0 : decode cX7_init 0 = .ok (.aload_n 0, 1) := by decide +kernel
theorem dX7_init_1 : decode cX7_init 1 = .ok (.invokespecial 3, 3) := by decide +kernel
theorem dX7_init_4 : decode cX7_init 4 = .ok (.aload_n 0, 1) := by decide +kernel
theorem dX7_init_5 : decode cX7_init 5 = .ok (.sipush 2197, 3) := by decide +kernel
theorem dX7_init_8 : decode cX7_init 8 = .ok (.newarray .long, 2) := by decide +kernel
theorem dX7_init_10 : decode cX7_init 10 = .ok (.putfield 9, 3) := by decide +kernel
theorem dX7_init_13 : decode cX7_init 13 = .ok (.aload_n 0, 1) := by decide +kernel
theorem dX7_init_14 : decode cX7_init 14 = .ok (.sipush 2197, 3) := by decide +kernel
theorem dX7_init_17 : decode cX7_init 17 = .ok (.newarray .long, 2) := by decide +kernel
theorem dX7_init_19 : decode cX7_init 19 = .ok (.putfield 13, 3) := by decide +kernel
theorem dX7_init_22 : decode cX7_init 22 = .ok (.aload_n 0, 1) := by decide +kernel
theorem dX7_init_23 : decode cX7_init 23 = .ok (.lconst 1, 1) := by decide +kernel
theorem dX7_init_24 : decode cX7_init 24 = .ok (.putfield 16, 3) := by decide +kernel
theorem dX7_init_27 : decode cX7_init 27 = .ok (.return_, 1) := by decide +kernel
theorem dX7_holds_0 : decode cX7_holds 0 = .ok (.iload_n 0, 1) := by decide +kernel
theorem dX7_holds_1 : decode cX7_holds 1 = .ok (.invokestatic 20, 3) := by decide +kernel
theorem dX7_holds_4 : decode cX7_holds 4 = .ok (.ifCond .eq 31, 3) := by decide +kernel
theorem dX7_holds_7 : decode cX7_holds 7 = .ok (.iload_n 1, 1) := by decide +kernel
theorem dX7_holds_8 : decode cX7_holds 8 = .ok (.invokestatic 20, 3) := by decide +kernel
theorem dX7_holds_11 : decode cX7_holds 11 = .ok (.ifCond .eq 24, 3) := by decide +kernel
theorem dX7_holds_14 : decode cX7_holds 14 = .ok (.iload_n 2, 1) := by decide +kernel
theorem dX7_holds_15 : decode cX7_holds 15 = .ok (.invokestatic 20, 3) := by decide +kernel
theorem dX7_holds_18 : decode cX7_holds 18 = .ok (.ifCond .eq 17, 3) := by decide +kernel
theorem dX7_holds_21 : decode cX7_holds 21 = .ok (.iload_n 0, 1) := by decide +kernel
theorem dX7_holds_22 : decode cX7_holds 22 = .ok (.iload_n 1, 1) := by decide +kernel
theorem dX7_holds_23 : decode cX7_holds 23 = .ok (.iadd, 1) := by decide +kernel
theorem dX7_holds_24 : decode cX7_holds 24 = .ok (.iload_n 2, 1) := by decide +kernel
theorem dX7_holds_25 : decode cX7_holds 25 = .ok (.iadd, 1) := by decide +kernel
theorem dX7_holds_26 : decode cX7_holds 26 = .ok (.bipush 12, 2) := by decide +kernel
theorem dX7_holds_28 : decode cX7_holds 28 = .ok (.if_icmp .gt 7, 3) := by decide +kernel
theorem dX7_holds_31 : decode cX7_holds 31 = .ok (.iconst 1, 1) := by decide +kernel
theorem dX7_holds_32 : decode cX7_holds 32 = .ok (.goto 4, 3) := by decide +kernel
theorem dX7_holds_35 : decode cX7_holds 35 = .ok (.iconst 0, 1) := by decide +kernel
theorem dX7_holds_36 : decode cX7_holds 36 = .ok (.ireturn, 1) := by decide +kernel
theorem dX7_isSome_0 : decode cX7_isSome 0 = .ok (.iload_n 0, 1) := by decide +kernel
theorem dX7_isSome_1 : decode cX7_isSome 1 = .ok (.ifCond .lt 13, 3) := by decide +kernel
theorem dX7_isSome_4 : decode cX7_isSome 4 = .ok (.iload_n 0, 1) := by decide +kernel
theorem dX7_isSome_5 : decode cX7_isSome 5 = .ok (.bipush 12, 2) := by decide +kernel
theorem dX7_isSome_7 : decode cX7_isSome 7 = .ok (.if_icmp .gt 7, 3) := by decide +kernel
theorem dX7_isSome_10 : decode cX7_isSome 10 = .ok (.iconst 1, 1) := by decide +kernel
theorem dX7_isSome_11 : decode cX7_isSome 11 = .ok (.goto 4, 3) := by decide +kernel
theorem dX7_isSome_14 : decode cX7_isSome 14 = .ok (.iconst 0, 1) := by decide +kernel
theorem dX7_isSome_15 : decode cX7_isSome 15 = .ok (.ireturn, 1) := by decide +kernel
theorem dX7_cell_0 : decode cX7_cell 0 = .ok (.iload_n 0, 1) := by decide +kernel
theorem dX7_cell_1 : decode cX7_cell 1 = .ok (.bipush 13, 2) := by decide +kernel
theorem dX7_cell_3 : decode cX7_cell 3 = .ok (.imul, 1) := by decide +kernel
theorem dX7_cell_4 : decode cX7_cell 4 = .ok (.iload_n 1, 1) := by decide +kernel
theorem dX7_cell_5 : decode cX7_cell 5 = .ok (.iadd, 1) := by decide +kernel
theorem dX7_cell_6 : decode cX7_cell 6 = .ok (.bipush 13, 2) := by decide +kernel
theorem dX7_cell_8 : decode cX7_cell 8 = .ok (.imul, 1) := by decide +kernel
theorem dX7_cell_9 : decode cX7_cell 9 = .ok (.iload_n 2, 1) := by decide +kernel
theorem dX7_cell_10 : decode cX7_cell 10 = .ok (.iadd, 1) := by decide +kernel
theorem dX7_cell_11 : decode cX7_cell 11 = .ok (.istore_n 3, 1) := by decide +kernel
theorem dX7_cell_12 : decode cX7_cell 12 = .ok (.iload_n 3, 1) := by decide +kernel
theorem dX7_cell_13 : decode cX7_cell 13 = .ok (.ifCond .lt 14, 3) := by decide +kernel
theorem dX7_cell_16 : decode cX7_cell 16 = .ok (.iload_n 3, 1) := by decide +kernel
theorem dX7_cell_17 : decode cX7_cell 17 = .ok (.sipush 2197, 3) := by decide +kernel
theorem dX7_cell_20 : decode cX7_cell 20 = .ok (.if_icmp .ge 7, 3) := by decide +kernel
theorem dX7_cell_23 : decode cX7_cell 23 = .ok (.iload_n 3, 1) := by decide +kernel
theorem dX7_cell_24 : decode cX7_cell 24 = .ok (.goto 4, 3) := by decide +kernel
theorem dX7_cell_27 : decode cX7_cell 27 = .ok (.iconst 0, 1) := by decide +kernel
theorem dX7_cell_28 : decode cX7_cell 28 = .ok (.ireturn, 1) := by decide +kernel
theorem dX7_choose_0 : decode cX7_choose 0 = .ok (.aload_n 0, 1) := by decide +kernel
theorem dX7_choose_1 : decode cX7_choose 1 = .ok (.aload_n 1, 1) := by decide +kernel
theorem dX7_choose_2 : decode cX7_choose 2 = .ok (.iload_n 2, 1) := by decide +kernel
theorem dX7_choose_3 : decode cX7_choose 3 = .ok (.iload 4, 2) := by decide +kernel
theorem dX7_choose_5 : decode cX7_choose 5 = .ok (.invokevirtual 24, 3) := by decide +kernel
theorem dX7_choose_8 : decode cX7_choose 8 = .ok (.putfield 30, 3) := by decide +kernel
theorem dX7_choose_11 : decode cX7_choose 11 = .ok (.aload_n 0, 1) := by decide +kernel
theorem dX7_choose_12 : decode cX7_choose 12 = .ok (.aload_n 1, 1) := by decide +kernel
theorem dX7_choose_13 : decode cX7_choose 13 = .ok (.iload_n 3, 1) := by decide +kernel
theorem dX7_choose_14 : decode cX7_choose 14 = .ok (.iload 4, 2) := by decide +kernel
theorem dX7_choose_16 : decode cX7_choose 16 = .ok (.invokevirtual 24, 3) := by decide +kernel
theorem dX7_choose_19 : decode cX7_choose 19 = .ok (.putfield 34, 3) := by decide +kernel
theorem dX7_choose_22 : decode cX7_choose 22 = .ok (.aload_n 0, 1) := by decide +kernel
theorem dX7_choose_23 : decode cX7_choose 23 = .ok (.aload_n 1, 1) := by decide +kernel
theorem dX7_choose_24 : decode cX7_choose 24 = .ok (.iload_n 2, 1) := by decide +kernel
theorem dX7_choose_25 : decode cX7_choose 25 = .ok (.iload 4, 2) := by decide +kernel
theorem dX7_choose_27 : decode cX7_choose 27 = .ok (.invokevirtual 37, 3) := by decide +kernel
theorem dX7_choose_30 : decode cX7_choose 30 = .ok (.putfield 40, 3) := by decide +kernel
theorem dX7_choose_33 : decode cX7_choose 33 = .ok (.aload_n 0, 1) := by decide +kernel
theorem dX7_choose_34 : decode cX7_choose 34 = .ok (.aload_n 1, 1) := by decide +kernel
theorem dX7_choose_35 : decode cX7_choose 35 = .ok (.iload_n 3, 1) := by decide +kernel
theorem dX7_choose_36 : decode cX7_choose 36 = .ok (.iload 4, 2) := by decide +kernel
theorem dX7_choose_38 : decode cX7_choose 38 = .ok (.invokevirtual 37, 3) := by decide +kernel
theorem dX7_choose_41 : decode cX7_choose 41 = .ok (.putfield 43, 3) := by decide +kernel
theorem dX7_choose_44 : decode cX7_choose 44 = .ok (.return_, 1) := by decide +kernel
theorem dX7_whole_0 : decode cX7_whole 0 = .ok (.aload_n 0, 1) := by decide +kernel
theorem dX7_whole_1 : decode cX7_whole 1 = .ok (.getfield 16, 3) := by decide +kernel
theorem dX7_whole_4 : decode cX7_whole 4 = .ok (.lreturn, 1) := by decide +kernel
theorem dX7_reckon_0 : decode cX7_reckon 0 = .ok (.aload_n 0, 1) := by decide +kernel
theorem dX7_reckon_1 : decode cX7_reckon 1 = .ok (.getfield 9, 3) := by decide +kernel
theorem dX7_reckon_4 : decode cX7_reckon 4 = .ok (.lconst 0, 1) := by decide +kernel
theorem dX7_reckon_5 : decode cX7_reckon 5 = .ok (.invokestatic 46, 3) := by decide +kernel
theorem dX7_reckon_8 : decode cX7_reckon 8 = .ok (.aload_n 0, 1) := by decide +kernel
theorem dX7_reckon_9 : decode cX7_reckon 9 = .ok (.getfield 13, 3) := by decide +kernel
theorem dX7_reckon_12 : decode cX7_reckon 12 = .ok (.lconst 0, 1) := by decide +kernel
theorem dX7_reckon_13 : decode cX7_reckon 13 = .ok (.invokestatic 46, 3) := by decide +kernel
theorem dX7_reckon_16 : decode cX7_reckon 16 = .ok (.aload_n 0, 1) := by decide +kernel
theorem dX7_reckon_17 : decode cX7_reckon 17 = .ok (.lconst 1, 1) := by decide +kernel
theorem dX7_reckon_18 : decode cX7_reckon 18 = .ok (.putfield 16, 3) := by decide +kernel
theorem dX7_reckon_21 : decode cX7_reckon 21 = .ok (.iconst 1, 1) := by decide +kernel
theorem dX7_reckon_22 : decode cX7_reckon 22 = .ok (.istore 4, 2) := by decide +kernel
theorem dX7_reckon_24 : decode cX7_reckon 24 = .ok (.iload 4, 2) := by decide +kernel
theorem dX7_reckon_26 : decode cX7_reckon 26 = .ok (.iload_n 3, 1) := by decide +kernel
theorem dX7_reckon_27 : decode cX7_reckon 27 = .ok (.if_icmp .gt 43, 3) := by decide +kernel
theorem dX7_reckon_30 : decode cX7_reckon 30 = .ok (.iload 4, 2) := by decide +kernel
theorem dX7_reckon_32 : decode cX7_reckon 32 = .ok (.iconst 1, 1) := by decide +kernel
theorem dX7_reckon_33 : decode cX7_reckon 33 = .ok (.if_icmp .le 11, 3) := by decide +kernel
theorem dX7_reckon_36 : decode cX7_reckon 36 = .ok (.aload_n 0, 1) := by decide +kernel
theorem dX7_reckon_37 : decode cX7_reckon 37 = .ok (.iload_n 1, 1) := by decide +kernel
theorem dX7_reckon_38 : decode cX7_reckon 38 = .ok (.iload_n 2, 1) := by decide +kernel
theorem dX7_reckon_39 : decode cX7_reckon 39 = .ok (.iadd, 1) := by decide +kernel
theorem dX7_reckon_40 : decode cX7_reckon 40 = .ok (.iload_n 2, 1) := by decide +kernel
theorem dX7_reckon_41 : decode cX7_reckon 41 = .ok (.invokevirtual 52, 3) := by decide +kernel
theorem dX7_reckon_44 : decode cX7_reckon 44 = .ok (.aload_n 0, 1) := by decide +kernel
theorem dX7_reckon_45 : decode cX7_reckon 45 = .ok (.iload_n 1, 1) := by decide +kernel
theorem dX7_reckon_46 : decode cX7_reckon 46 = .ok (.iload_n 2, 1) := by decide +kernel
theorem dX7_reckon_47 : decode cX7_reckon 47 = .ok (.iadd, 1) := by decide +kernel
theorem dX7_reckon_48 : decode cX7_reckon 48 = .ok (.iload_n 2, 1) := by decide +kernel
theorem dX7_reckon_49 : decode cX7_reckon 49 = .ok (.invokevirtual 56, 3) := by decide +kernel
theorem dX7_reckon_52 : decode cX7_reckon 52 = .ok (.aload_n 0, 1) := by decide +kernel
theorem dX7_reckon_53 : decode cX7_reckon 53 = .ok (.dup, 1) := by decide +kernel
theorem dX7_reckon_54 : decode cX7_reckon 54 = .ok (.getfield 16, 3) := by decide +kernel
theorem dX7_reckon_57 : decode cX7_reckon 57 = .ok (.ldc2_w 59, 3) := by decide +kernel
theorem dX7_reckon_60 : decode cX7_reckon 60 = .ok (.lmul, 1) := by decide +kernel
theorem dX7_reckon_61 : decode cX7_reckon 61 = .ok (.putfield 16, 3) := by decide +kernel
theorem dX7_reckon_64 : decode cX7_reckon 64 = .ok (.iinc 4 1, 3) := by decide +kernel
theorem dX7_reckon_67 : decode cX7_reckon 67 = .ok (.goto (-43), 3) := by decide +kernel
theorem dX7_reckon_70 : decode cX7_reckon 70 = .ok (.return_, 1) := by decide +kernel
theorem dX7_fillAhead_0 : decode cX7_fillAhead 0 = .ok (.iconst 0, 1) := by decide +kernel
theorem dX7_fillAhead_1 : decode cX7_fillAhead 1 = .ok (.istore_n 3, 1) := by decide +kernel
theorem dX7_fillAhead_2 : decode cX7_fillAhead 2 = .ok (.iload_n 3, 1) := by decide +kernel
theorem dX7_fillAhead_3 : decode cX7_fillAhead 3 = .ok (.iload_n 1, 1) := by decide +kernel
theorem dX7_fillAhead_4 : decode cX7_fillAhead 4 = .ok (.if_icmp .gt 74, 3) := by decide +kernel
theorem dX7_fillAhead_7 : decode cX7_fillAhead 7 = .ok (.iconst 0, 1) := by decide +kernel
theorem dX7_fillAhead_8 : decode cX7_fillAhead 8 = .ok (.istore 4, 2) := by decide +kernel
theorem dX7_fillAhead_10 : decode cX7_fillAhead 10 = .ok (.iload_n 3, 1) := by decide +kernel
theorem dX7_fillAhead_11 : decode cX7_fillAhead 11 = .ok (.iload 4, 2) := by decide +kernel
theorem dX7_fillAhead_13 : decode cX7_fillAhead 13 = .ok (.iadd, 1) := by decide +kernel
theorem dX7_fillAhead_14 : decode cX7_fillAhead 14 = .ok (.iload_n 1, 1) := by decide +kernel
theorem dX7_fillAhead_15 : decode cX7_fillAhead 15 = .ok (.if_icmp .gt 57, 3) := by decide +kernel
theorem dX7_fillAhead_18 : decode cX7_fillAhead 18 = .ok (.iconst 0, 1) := by decide +kernel
theorem dX7_fillAhead_19 : decode cX7_fillAhead 19 = .ok (.istore 5, 2) := by decide +kernel
theorem dX7_fillAhead_21 : decode cX7_fillAhead 21 = .ok (.iload 5, 2) := by decide +kernel
theorem dX7_fillAhead_23 : decode cX7_fillAhead 23 = .ok (.iload_n 2, 1) := by decide +kernel
theorem dX7_fillAhead_24 : decode cX7_fillAhead 24 = .ok (.if_icmp .gt 42, 3) := by decide +kernel
theorem dX7_fillAhead_27 : decode cX7_fillAhead 27 = .ok (.iload_n 3, 1) := by decide +kernel
theorem dX7_fillAhead_28 : decode cX7_fillAhead 28 = .ok (.iload 4, 2) := by decide +kernel
theorem dX7_fillAhead_30 : decode cX7_fillAhead 30 = .ok (.iadd, 1) := by decide +kernel
theorem dX7_fillAhead_31 : decode cX7_fillAhead 31 = .ok (.iload 5, 2) := by decide +kernel
theorem dX7_fillAhead_33 : decode cX7_fillAhead 33 = .ok (.iadd, 1) := by decide +kernel
theorem dX7_fillAhead_34 : decode cX7_fillAhead 34 = .ok (.iload_n 1, 1) := by decide +kernel
theorem dX7_fillAhead_35 : decode cX7_fillAhead 35 = .ok (.if_icmp .gt 31, 3) := by decide +kernel
theorem dX7_fillAhead_38 : decode cX7_fillAhead 38 = .ok (.aload_n 0, 1) := by decide +kernel
theorem dX7_fillAhead_39 : decode cX7_fillAhead 39 = .ok (.getfield 9, 3) := by decide +kernel
theorem dX7_fillAhead_42 : decode cX7_fillAhead 42 = .ok (.iload_n 3, 1) := by decide +kernel
theorem dX7_fillAhead_43 : decode cX7_fillAhead 43 = .ok (.iload 4, 2) := by decide +kernel
theorem dX7_fillAhead_45 : decode cX7_fillAhead 45 = .ok (.iload 5, 2) := by decide +kernel
theorem dX7_fillAhead_47 : decode cX7_fillAhead 47 = .ok (.invokestatic 61, 3) := by decide +kernel
theorem dX7_fillAhead_50 : decode cX7_fillAhead 50 = .ok (.aload_n 0, 1) := by decide +kernel
theorem dX7_fillAhead_51 : decode cX7_fillAhead 51 = .ok (.iload_n 3, 1) := by decide +kernel
theorem dX7_fillAhead_52 : decode cX7_fillAhead 52 = .ok (.iload 4, 2) := by decide +kernel
theorem dX7_fillAhead_54 : decode cX7_fillAhead 54 = .ok (.iload 5, 2) := by decide +kernel
theorem dX7_fillAhead_56 : decode cX7_fillAhead 56 = .ok (.invokevirtual 65, 3) := by decide +kernel
theorem dX7_fillAhead_59 : decode cX7_fillAhead 59 = .ok (.lastore, 1) := by decide +kernel
theorem dX7_fillAhead_60 : decode cX7_fillAhead 60 = .ok (.iinc 5 1, 3) := by decide +kernel
theorem dX7_fillAhead_63 : decode cX7_fillAhead 63 = .ok (.goto (-42), 3) := by decide +kernel
theorem dX7_fillAhead_66 : decode cX7_fillAhead 66 = .ok (.iinc 4 1, 3) := by decide +kernel
theorem dX7_fillAhead_69 : decode cX7_fillAhead 69 = .ok (.goto (-59), 3) := by decide +kernel
theorem dX7_fillAhead_72 : decode cX7_fillAhead 72 = .ok (.iinc 3 1, 3) := by decide +kernel
theorem dX7_fillAhead_75 : decode cX7_fillAhead 75 = .ok (.goto (-73), 3) := by decide +kernel
theorem dX7_fillAhead_78 : decode cX7_fillAhead 78 = .ok (.return_, 1) := by decide +kernel
theorem dX7_fillBehind_0 : decode cX7_fillBehind 0 = .ok (.iconst 0, 1) := by decide +kernel
theorem dX7_fillBehind_1 : decode cX7_fillBehind 1 = .ok (.istore_n 3, 1) := by decide +kernel
theorem dX7_fillBehind_2 : decode cX7_fillBehind 2 = .ok (.iload_n 3, 1) := by decide +kernel
theorem dX7_fillBehind_3 : decode cX7_fillBehind 3 = .ok (.iload_n 1, 1) := by decide +kernel
theorem dX7_fillBehind_4 : decode cX7_fillBehind 4 = .ok (.if_icmp .gt 74, 3) := by decide +kernel
theorem dX7_fillBehind_7 : decode cX7_fillBehind 7 = .ok (.iconst 0, 1) := by decide +kernel
theorem dX7_fillBehind_8 : decode cX7_fillBehind 8 = .ok (.istore 4, 2) := by decide +kernel
theorem dX7_fillBehind_10 : decode cX7_fillBehind 10 = .ok (.iload_n 3, 1) := by decide +kernel
theorem dX7_fillBehind_11 : decode cX7_fillBehind 11 = .ok (.iload 4, 2) := by decide +kernel
theorem dX7_fillBehind_13 : decode cX7_fillBehind 13 = .ok (.iadd, 1) := by decide +kernel
theorem dX7_fillBehind_14 : decode cX7_fillBehind 14 = .ok (.iload_n 1, 1) := by decide +kernel
theorem dX7_fillBehind_15 : decode cX7_fillBehind 15 = .ok (.if_icmp .gt 57, 3) := by decide +kernel
theorem dX7_fillBehind_18 : decode cX7_fillBehind 18 = .ok (.iconst 0, 1) := by decide +kernel
theorem dX7_fillBehind_19 : decode cX7_fillBehind 19 = .ok (.istore 5, 2) := by decide +kernel
theorem dX7_fillBehind_21 : decode cX7_fillBehind 21 = .ok (.iload 5, 2) := by decide +kernel
theorem dX7_fillBehind_23 : decode cX7_fillBehind 23 = .ok (.iload_n 2, 1) := by decide +kernel
theorem dX7_fillBehind_24 : decode cX7_fillBehind 24 = .ok (.if_icmp .gt 42, 3) := by decide +kernel
theorem dX7_fillBehind_27 : decode cX7_fillBehind 27 = .ok (.iload_n 3, 1) := by decide +kernel
theorem dX7_fillBehind_28 : decode cX7_fillBehind 28 = .ok (.iload 4, 2) := by decide +kernel
theorem dX7_fillBehind_30 : decode cX7_fillBehind 30 = .ok (.iadd, 1) := by decide +kernel
theorem dX7_fillBehind_31 : decode cX7_fillBehind 31 = .ok (.iload 5, 2) := by decide +kernel
theorem dX7_fillBehind_33 : decode cX7_fillBehind 33 = .ok (.iadd, 1) := by decide +kernel
theorem dX7_fillBehind_34 : decode cX7_fillBehind 34 = .ok (.iload_n 1, 1) := by decide +kernel
theorem dX7_fillBehind_35 : decode cX7_fillBehind 35 = .ok (.if_icmp .gt 31, 3) := by decide +kernel
theorem dX7_fillBehind_38 : decode cX7_fillBehind 38 = .ok (.aload_n 0, 1) := by decide +kernel
theorem dX7_fillBehind_39 : decode cX7_fillBehind 39 = .ok (.getfield 13, 3) := by decide +kernel
theorem dX7_fillBehind_42 : decode cX7_fillBehind 42 = .ok (.iload_n 3, 1) := by decide +kernel
theorem dX7_fillBehind_43 : decode cX7_fillBehind 43 = .ok (.iload 4, 2) := by decide +kernel
theorem dX7_fillBehind_45 : decode cX7_fillBehind 45 = .ok (.iload 5, 2) := by decide +kernel
theorem dX7_fillBehind_47 : decode cX7_fillBehind 47 = .ok (.invokestatic 61, 3) := by decide +kernel
theorem dX7_fillBehind_50 : decode cX7_fillBehind 50 = .ok (.aload_n 0, 1) := by decide +kernel
theorem dX7_fillBehind_51 : decode cX7_fillBehind 51 = .ok (.iload_n 3, 1) := by decide +kernel
theorem dX7_fillBehind_52 : decode cX7_fillBehind 52 = .ok (.iload 4, 2) := by decide +kernel
theorem dX7_fillBehind_54 : decode cX7_fillBehind 54 = .ok (.iload 5, 2) := by decide +kernel
theorem dX7_fillBehind_56 : decode cX7_fillBehind 56 = .ok (.invokevirtual 69, 3) := by decide +kernel
theorem dX7_fillBehind_59 : decode cX7_fillBehind 59 = .ok (.lastore, 1) := by decide +kernel
theorem dX7_fillBehind_60 : decode cX7_fillBehind 60 = .ok (.iinc 5 1, 3) := by decide +kernel
theorem dX7_fillBehind_63 : decode cX7_fillBehind 63 = .ok (.goto (-42), 3) := by decide +kernel
theorem dX7_fillBehind_66 : decode cX7_fillBehind 66 = .ok (.iinc 4 1, 3) := by decide +kernel
theorem dX7_fillBehind_69 : decode cX7_fillBehind 69 = .ok (.goto (-59), 3) := by decide +kernel
theorem dX7_fillBehind_72 : decode cX7_fillBehind 72 = .ok (.iinc 3 1, 3) := by decide +kernel
theorem dX7_fillBehind_75 : decode cX7_fillBehind 75 = .ok (.goto (-73), 3) := by decide +kernel
theorem dX7_fillBehind_78 : decode cX7_fillBehind 78 = .ok (.return_, 1) := by decide +kernel
theorem dX7_mean_0 : decode cX7_mean 0 = .ok (.lconst 0, 1) := by decide +kernel
theorem dX7_mean_1 : decode cX7_mean 1 = .ok (.lstore 4, 2) := by decide +kernel
theorem dX7_mean_3 : decode cX7_mean 3 = .ok (.iconst 0, 1) := by decide +kernel
theorem dX7_mean_4 : decode cX7_mean 4 = .ok (.istore 6, 2) := by decide +kernel
theorem dX7_mean_6 : decode cX7_mean 6 = .ok (.iload 6, 2) := by decide +kernel
theorem dX7_mean_8 : decode cX7_mean 8 = .ok (.iconst 1, 1) := by decide +kernel
theorem dX7_mean_9 : decode cX7_mean 9 = .ok (.if_icmp .gt 135, 3) := by decide +kernel
theorem dX7_mean_12 : decode cX7_mean 12 = .ok (.iconst 0, 1) := by decide +kernel
theorem dX7_mean_13 : decode cX7_mean 13 = .ok (.istore 7, 2) := by decide +kernel
theorem dX7_mean_15 : decode cX7_mean 15 = .ok (.iload 7, 2) := by decide +kernel
theorem dX7_mean_17 : decode cX7_mean 17 = .ok (.iconst 1, 1) := by decide +kernel
theorem dX7_mean_18 : decode cX7_mean 18 = .ok (.if_icmp .gt 120, 3) := by decide +kernel
theorem dX7_mean_21 : decode cX7_mean 21 = .ok (.iload 6, 2) := by decide +kernel
theorem dX7_mean_23 : decode cX7_mean 23 = .ok (.iconst 1, 1) := by decide +kernel
theorem dX7_mean_24 : decode cX7_mean 24 = .ok (.if_icmp .ne 10, 3) := by decide +kernel
theorem dX7_mean_27 : decode cX7_mean 27 = .ok (.aload_n 0, 1) := by decide +kernel
theorem dX7_mean_28 : decode cX7_mean 28 = .ok (.getfield 40, 3) := by decide +kernel
theorem dX7_mean_31 : decode cX7_mean 31 = .ok (.goto 10, 3) := by decide +kernel
theorem dX7_mean_34 : decode cX7_mean 34 = .ok (.bipush 10, 2) := by decide +kernel
theorem dX7_mean_36 : decode cX7_mean 36 = .ok (.aload_n 0, 1) := by decide +kernel
theorem dX7_mean_37 : decode cX7_mean 37 = .ok (.getfield 40, 3) := by decide +kernel
theorem dX7_mean_40 : decode cX7_mean 40 = .ok (.isub, 1) := by decide +kernel
theorem dX7_mean_41 : decode cX7_mean 41 = .ok (.iload 7, 2) := by decide +kernel
theorem dX7_mean_43 : decode cX7_mean 43 = .ok (.iconst 1, 1) := by decide +kernel
theorem dX7_mean_44 : decode cX7_mean 44 = .ok (.if_icmp .ne 10, 3) := by decide +kernel
theorem dX7_mean_47 : decode cX7_mean 47 = .ok (.aload_n 0, 1) := by decide +kernel
theorem dX7_mean_48 : decode cX7_mean 48 = .ok (.getfield 43, 3) := by decide +kernel
theorem dX7_mean_51 : decode cX7_mean 51 = .ok (.goto 10, 3) := by decide +kernel
theorem dX7_mean_54 : decode cX7_mean 54 = .ok (.bipush 10, 2) := by decide +kernel
theorem dX7_mean_56 : decode cX7_mean 56 = .ok (.aload_n 0, 1) := by decide +kernel
theorem dX7_mean_57 : decode cX7_mean 57 = .ok (.getfield 43, 3) := by decide +kernel
theorem dX7_mean_60 : decode cX7_mean 60 = .ok (.isub, 1) := by decide +kernel
theorem dX7_mean_61 : decode cX7_mean 61 = .ok (.imul, 1) := by decide +kernel
theorem dX7_mean_62 : decode cX7_mean 62 = .ok (.istore 8, 2) := by decide +kernel
theorem dX7_mean_64 : decode cX7_mean 64 = .ok (.iload_n 1, 1) := by decide +kernel
theorem dX7_mean_65 : decode cX7_mean 65 = .ok (.aload_n 0, 1) := by decide +kernel
theorem dX7_mean_66 : decode cX7_mean 66 = .ok (.getfield 30, 3) := by decide +kernel
theorem dX7_mean_69 : decode cX7_mean 69 = .ok (.iload 6, 2) := by decide +kernel
theorem dX7_mean_71 : decode cX7_mean 71 = .ok (.iadd, 1) := by decide +kernel
theorem dX7_mean_72 : decode cX7_mean 72 = .ok (.invokestatic 72, 3) := by decide +kernel
theorem dX7_mean_75 : decode cX7_mean 75 = .ok (.istore 9, 2) := by decide +kernel
theorem dX7_mean_77 : decode cX7_mean 77 = .ok (.iload_n 2, 1) := by decide +kernel
theorem dX7_mean_78 : decode cX7_mean 78 = .ok (.aload_n 0, 1) := by decide +kernel
theorem dX7_mean_79 : decode cX7_mean 79 = .ok (.getfield 34, 3) := by decide +kernel
theorem dX7_mean_82 : decode cX7_mean 82 = .ok (.iload 7, 2) := by decide +kernel
theorem dX7_mean_84 : decode cX7_mean 84 = .ok (.iadd, 1) := by decide +kernel
theorem dX7_mean_85 : decode cX7_mean 85 = .ok (.invokestatic 72, 3) := by decide +kernel
theorem dX7_mean_88 : decode cX7_mean 88 = .ok (.istore 10, 2) := by decide +kernel
theorem dX7_mean_90 : decode cX7_mean 90 = .ok (.aload_n 0, 1) := by decide +kernel
theorem dX7_mean_91 : decode cX7_mean 91 = .ok (.getfield 9, 3) := by decide +kernel
theorem dX7_mean_94 : decode cX7_mean 94 = .ok (.iload_n 1, 1) := by decide +kernel
theorem dX7_mean_95 : decode cX7_mean 95 = .ok (.iload 9, 2) := by decide +kernel
theorem dX7_mean_97 : decode cX7_mean 97 = .ok (.isub, 1) := by decide +kernel
theorem dX7_mean_98 : decode cX7_mean 98 = .ok (.iload_n 2, 1) := by decide +kernel
theorem dX7_mean_99 : decode cX7_mean 99 = .ok (.iload 10, 2) := by decide +kernel
theorem dX7_mean_101 : decode cX7_mean 101 = .ok (.isub, 1) := by decide +kernel
theorem dX7_mean_102 : decode cX7_mean 102 = .ok (.iload_n 3, 1) := by decide +kernel
theorem dX7_mean_103 : decode cX7_mean 103 = .ok (.invokestatic 61, 3) := by decide +kernel
theorem dX7_mean_106 : decode cX7_mean 106 = .ok (.laload, 1) := by decide +kernel
theorem dX7_mean_107 : decode cX7_mean 107 = .ok (.lstore 11, 2) := by decide +kernel
theorem dX7_mean_109 : decode cX7_mean 109 = .ok (.lload 4, 2) := by decide +kernel
theorem dX7_mean_111 : decode cX7_mean 111 = .ok (.iload 8, 2) := by decide +kernel
theorem dX7_mean_113 : decode cX7_mean 113 = .ok (.i2l, 1) := by decide +kernel
theorem dX7_mean_114 : decode cX7_mean 114 = .ok (.iload 9, 2) := by decide +kernel
theorem dX7_mean_116 : decode cX7_mean 116 = .ok (.iload 10, 2) := by decide +kernel
theorem dX7_mean_118 : decode cX7_mean 118 = .ok (.iadd, 1) := by decide +kernel
theorem dX7_mean_119 : decode cX7_mean 119 = .ok (.i2l, 1) := by decide +kernel
theorem dX7_mean_120 : decode cX7_mean 120 = .ok (.aload_n 0, 1) := by decide +kernel
theorem dX7_mean_121 : decode cX7_mean 121 = .ok (.getfield 16, 3) := by decide +kernel
theorem dX7_mean_124 : decode cX7_mean 124 = .ok (.lmul, 1) := by decide +kernel
theorem dX7_mean_125 : decode cX7_mean 125 = .ok (.lload 11, 2) := by decide +kernel
theorem dX7_mean_127 : decode cX7_mean 127 = .ok (.ladd, 1) := by decide +kernel
theorem dX7_mean_128 : decode cX7_mean 128 = .ok (.lmul, 1) := by decide +kernel
theorem dX7_mean_129 : decode cX7_mean 129 = .ok (.ladd, 1) := by decide +kernel
theorem dX7_mean_130 : decode cX7_mean 130 = .ok (.lstore 4, 2) := by decide +kernel
theorem dX7_mean_132 : decode cX7_mean 132 = .ok (.iinc 7 1, 3) := by decide +kernel
theorem dX7_mean_135 : decode cX7_mean 135 = .ok (.goto (-120), 3) := by decide +kernel
theorem dX7_mean_138 : decode cX7_mean 138 = .ok (.iinc 6 1, 3) := by decide +kernel
theorem dX7_mean_141 : decode cX7_mean 141 = .ok (.goto (-135), 3) := by decide +kernel
theorem dX7_mean_144 : decode cX7_mean 144 = .ok (.lload 4, 2) := by decide +kernel
theorem dX7_mean_146 : decode cX7_mean 146 = .ok (.lreturn, 1) := by decide +kernel
theorem dX7_bestOf_0 : decode cX7_bestOf 0 = .ok (.aload_n 0, 1) := by decide +kernel
theorem dX7_bestOf_1 : decode cX7_bestOf 1 = .ok (.getfield 13, 3) := by decide +kernel
theorem dX7_bestOf_4 : decode cX7_bestOf 4 = .ok (.iload_n 1, 1) := by decide +kernel
theorem dX7_bestOf_5 : decode cX7_bestOf 5 = .ok (.iload_n 2, 1) := by decide +kernel
theorem dX7_bestOf_6 : decode cX7_bestOf 6 = .ok (.iload_n 3, 1) := by decide +kernel
theorem dX7_bestOf_7 : decode cX7_bestOf 7 = .ok (.invokestatic 61, 3) := by decide +kernel
theorem dX7_bestOf_10 : decode cX7_bestOf 10 = .ok (.laload, 1) := by decide +kernel
theorem dX7_bestOf_11 : decode cX7_bestOf 11 = .ok (.lstore 4, 2) := by decide +kernel
theorem dX7_bestOf_13 : decode cX7_bestOf 13 = .ok (.iconst 1, 1) := by decide +kernel
theorem dX7_bestOf_14 : decode cX7_bestOf 14 = .ok (.istore 6, 2) := by decide +kernel
theorem dX7_bestOf_16 : decode cX7_bestOf 16 = .ok (.iload 6, 2) := by decide +kernel
theorem dX7_bestOf_18 : decode cX7_bestOf 18 = .ok (.iload_n 3, 1) := by decide +kernel
theorem dX7_bestOf_19 : decode cX7_bestOf 19 = .ok (.if_icmp .gt 57, 3) := by decide +kernel
theorem dX7_bestOf_22 : decode cX7_bestOf 22 = .ok (.lload 4, 2) := by decide +kernel
theorem dX7_bestOf_24 : decode cX7_bestOf 24 = .ok (.aload_n 0, 1) := by decide +kernel
theorem dX7_bestOf_25 : decode cX7_bestOf 25 = .ok (.getfield 13, 3) := by decide +kernel
theorem dX7_bestOf_28 : decode cX7_bestOf 28 = .ok (.iload_n 1, 1) := by decide +kernel
theorem dX7_bestOf_29 : decode cX7_bestOf 29 = .ok (.iload 6, 2) := by decide +kernel
theorem dX7_bestOf_31 : decode cX7_bestOf 31 = .ok (.iadd, 1) := by decide +kernel
theorem dX7_bestOf_32 : decode cX7_bestOf 32 = .ok (.iload_n 2, 1) := by decide +kernel
theorem dX7_bestOf_33 : decode cX7_bestOf 33 = .ok (.iload_n 3, 1) := by decide +kernel
theorem dX7_bestOf_34 : decode cX7_bestOf 34 = .ok (.iload 6, 2) := by decide +kernel
theorem dX7_bestOf_36 : decode cX7_bestOf 36 = .ok (.isub, 1) := by decide +kernel
theorem dX7_bestOf_37 : decode cX7_bestOf 37 = .ok (.invokestatic 61, 3) := by decide +kernel
theorem dX7_bestOf_40 : decode cX7_bestOf 40 = .ok (.laload, 1) := by decide +kernel
theorem dX7_bestOf_41 : decode cX7_bestOf 41 = .ok (.invokestatic 77, 3) := by decide +kernel
theorem dX7_bestOf_44 : decode cX7_bestOf 44 = .ok (.lstore 4, 2) := by decide +kernel
theorem dX7_bestOf_46 : decode cX7_bestOf 46 = .ok (.lload 4, 2) := by decide +kernel
theorem dX7_bestOf_48 : decode cX7_bestOf 48 = .ok (.aload_n 0, 1) := by decide +kernel
theorem dX7_bestOf_49 : decode cX7_bestOf 49 = .ok (.getfield 13, 3) := by decide +kernel
theorem dX7_bestOf_52 : decode cX7_bestOf 52 = .ok (.iload_n 1, 1) := by decide +kernel
theorem dX7_bestOf_53 : decode cX7_bestOf 53 = .ok (.iload_n 2, 1) := by decide +kernel
theorem dX7_bestOf_54 : decode cX7_bestOf 54 = .ok (.iload 6, 2) := by decide +kernel
theorem dX7_bestOf_56 : decode cX7_bestOf 56 = .ok (.iadd, 1) := by decide +kernel
theorem dX7_bestOf_57 : decode cX7_bestOf 57 = .ok (.iload_n 3, 1) := by decide +kernel
theorem dX7_bestOf_58 : decode cX7_bestOf 58 = .ok (.iload 6, 2) := by decide +kernel
theorem dX7_bestOf_60 : decode cX7_bestOf 60 = .ok (.isub, 1) := by decide +kernel
theorem dX7_bestOf_61 : decode cX7_bestOf 61 = .ok (.invokestatic 61, 3) := by decide +kernel
theorem dX7_bestOf_64 : decode cX7_bestOf 64 = .ok (.laload, 1) := by decide +kernel
theorem dX7_bestOf_65 : decode cX7_bestOf 65 = .ok (.invokestatic 77, 3) := by decide +kernel
theorem dX7_bestOf_68 : decode cX7_bestOf 68 = .ok (.lstore 4, 2) := by decide +kernel
theorem dX7_bestOf_70 : decode cX7_bestOf 70 = .ok (.iinc 6 1, 3) := by decide +kernel
theorem dX7_bestOf_73 : decode cX7_bestOf 73 = .ok (.goto (-57), 3) := by decide +kernel
theorem dX7_bestOf_76 : decode cX7_bestOf 76 = .ok (.lload 4, 2) := by decide +kernel
theorem dX7_bestOf_78 : decode cX7_bestOf 78 = .ok (.lreturn, 1) := by decide +kernel
theorem dX7_firstMove_0 : decode cX7_firstMove 0 = .ok (.aload_n 0, 1) := by decide +kernel
theorem dX7_firstMove_1 : decode cX7_firstMove 1 = .ok (.iload_n 1, 1) := by decide +kernel
theorem dX7_firstMove_2 : decode cX7_firstMove 2 = .ok (.iload_n 2, 1) := by decide +kernel
theorem dX7_firstMove_3 : decode cX7_firstMove 3 = .ok (.iload_n 3, 1) := by decide +kernel
theorem dX7_firstMove_4 : decode cX7_firstMove 4 = .ok (.invokevirtual 65, 3) := by decide +kernel
theorem dX7_firstMove_7 : decode cX7_firstMove 7 = .ok (.lstore 4, 2) := by decide +kernel
theorem dX7_firstMove_9 : decode cX7_firstMove 9 = .ok (.aload_n 0, 1) := by decide +kernel
theorem dX7_firstMove_10 : decode cX7_firstMove 10 = .ok (.getfield 13, 3) := by decide +kernel
theorem dX7_firstMove_13 : decode cX7_firstMove 13 = .ok (.iload_n 1, 1) := by decide +kernel
theorem dX7_firstMove_14 : decode cX7_firstMove 14 = .ok (.iload_n 2, 1) := by decide +kernel
theorem dX7_firstMove_15 : decode cX7_firstMove 15 = .ok (.iload_n 3, 1) := by decide +kernel
theorem dX7_firstMove_16 : decode cX7_firstMove 16 = .ok (.invokestatic 61, 3) := by decide +kernel
theorem dX7_firstMove_19 : decode cX7_firstMove 19 = .ok (.laload, 1) := by decide +kernel
theorem dX7_firstMove_20 : decode cX7_firstMove 20 = .ok (.lload 4, 2) := by decide +kernel
theorem dX7_firstMove_22 : decode cX7_firstMove 22 = .ok (.lcmp, 1) := by decide +kernel
theorem dX7_firstMove_23 : decode cX7_firstMove 23 = .ok (.ifCond .ne 5, 3) := by decide +kernel
theorem dX7_firstMove_26 : decode cX7_firstMove 26 = .ok (.iconst 0, 1) := by decide +kernel
theorem dX7_firstMove_27 : decode cX7_firstMove 27 = .ok (.ireturn, 1) := by decide +kernel
theorem dX7_firstMove_28 : decode cX7_firstMove 28 = .ok (.iconst 1, 1) := by decide +kernel
theorem dX7_firstMove_29 : decode cX7_firstMove 29 = .ok (.istore 6, 2) := by decide +kernel
theorem dX7_firstMove_31 : decode cX7_firstMove 31 = .ok (.iload 6, 2) := by decide +kernel
theorem dX7_firstMove_33 : decode cX7_firstMove 33 = .ok (.iload_n 3, 1) := by decide +kernel
theorem dX7_firstMove_34 : decode cX7_firstMove 34 = .ok (.if_icmp .gt 64, 3) := by decide +kernel
theorem dX7_firstMove_37 : decode cX7_firstMove 37 = .ok (.aload_n 0, 1) := by decide +kernel
theorem dX7_firstMove_38 : decode cX7_firstMove 38 = .ok (.getfield 13, 3) := by decide +kernel
theorem dX7_firstMove_41 : decode cX7_firstMove 41 = .ok (.iload_n 1, 1) := by decide +kernel
theorem dX7_firstMove_42 : decode cX7_firstMove 42 = .ok (.iload 6, 2) := by decide +kernel
theorem dX7_firstMove_44 : decode cX7_firstMove 44 = .ok (.iadd, 1) := by decide +kernel
theorem dX7_firstMove_45 : decode cX7_firstMove 45 = .ok (.iload_n 2, 1) := by decide +kernel
theorem dX7_firstMove_46 : decode cX7_firstMove 46 = .ok (.iload_n 3, 1) := by decide +kernel
theorem dX7_firstMove_47 : decode cX7_firstMove 47 = .ok (.iload 6, 2) := by decide +kernel
theorem dX7_firstMove_49 : decode cX7_firstMove 49 = .ok (.isub, 1) := by decide +kernel
theorem dX7_firstMove_50 : decode cX7_firstMove 50 = .ok (.invokestatic 61, 3) := by decide +kernel
theorem dX7_firstMove_53 : decode cX7_firstMove 53 = .ok (.laload, 1) := by decide +kernel
theorem dX7_firstMove_54 : decode cX7_firstMove 54 = .ok (.lload 4, 2) := by decide +kernel
theorem dX7_firstMove_56 : decode cX7_firstMove 56 = .ok (.lcmp, 1) := by decide +kernel
theorem dX7_firstMove_57 : decode cX7_firstMove 57 = .ok (.ifCond .ne 6, 3) := by decide +kernel
theorem dX7_firstMove_60 : decode cX7_firstMove 60 = .ok (.iload 6, 2) := by decide +kernel
theorem dX7_firstMove_62 : decode cX7_firstMove 62 = .ok (.ireturn, 1) := by decide +kernel
theorem dX7_firstMove_63 : decode cX7_firstMove 63 = .ok (.aload_n 0, 1) := by decide +kernel
theorem dX7_firstMove_64 : decode cX7_firstMove 64 = .ok (.getfield 13, 3) := by decide +kernel
theorem dX7_firstMove_67 : decode cX7_firstMove 67 = .ok (.iload_n 1, 1) := by decide +kernel
theorem dX7_firstMove_68 : decode cX7_firstMove 68 = .ok (.iload_n 2, 1) := by decide +kernel
theorem dX7_firstMove_69 : decode cX7_firstMove 69 = .ok (.iload 6, 2) := by decide +kernel
theorem dX7_firstMove_71 : decode cX7_firstMove 71 = .ok (.iadd, 1) := by decide +kernel
theorem dX7_firstMove_72 : decode cX7_firstMove 72 = .ok (.iload_n 3, 1) := by decide +kernel
theorem dX7_firstMove_73 : decode cX7_firstMove 73 = .ok (.iload 6, 2) := by decide +kernel
theorem dX7_firstMove_75 : decode cX7_firstMove 75 = .ok (.isub, 1) := by decide +kernel
theorem dX7_firstMove_76 : decode cX7_firstMove 76 = .ok (.invokestatic 61, 3) := by decide +kernel
theorem dX7_firstMove_79 : decode cX7_firstMove 79 = .ok (.laload, 1) := by decide +kernel
theorem dX7_firstMove_80 : decode cX7_firstMove 80 = .ok (.lload 4, 2) := by decide +kernel
theorem dX7_firstMove_82 : decode cX7_firstMove 82 = .ok (.lcmp, 1) := by decide +kernel
theorem dX7_firstMove_83 : decode cX7_firstMove 83 = .ok (.ifCond .ne 9, 3) := by decide +kernel
theorem dX7_firstMove_86 : decode cX7_firstMove 86 = .ok (.bipush 100, 2) := by decide +kernel
theorem dX7_firstMove_88 : decode cX7_firstMove 88 = .ok (.iload 6, 2) := by decide +kernel
theorem dX7_firstMove_90 : decode cX7_firstMove 90 = .ok (.iadd, 1) := by decide +kernel
theorem dX7_firstMove_91 : decode cX7_firstMove 91 = .ok (.ireturn, 1) := by decide +kernel
theorem dX7_firstMove_92 : decode cX7_firstMove 92 = .ok (.iinc 6 1, 3) := by decide +kernel
theorem dX7_firstMove_95 : decode cX7_firstMove 95 = .ok (.goto (-64), 3) := by decide +kernel
theorem dX7_firstMove_98 : decode cX7_firstMove 98 = .ok (.iconst 0, 1) := by decide +kernel
theorem dX7_firstMove_99 : decode cX7_firstMove 99 = .ok (.ireturn, 1) := by decide +kernel
theorem dX8_init_0 : decode cX8_init 0 = .ok (.aload_n 0, 1) := by decide +kernel
theorem dX8_init_1 : decode cX8_init 1 = .ok (.invokespecial 3, 3) := by decide +kernel
theorem dX8_init_4 : decode cX8_init 4 = .ok (.aload_n 0, 1) := by decide +kernel
theorem dX8_init_5 : decode cX8_init 5 = .ok (.new 9, 3) := by decide +kernel
theorem dX8_init_8 : decode cX8_init 8 = .ok (.dup, 1) := by decide +kernel
theorem dX8_init_9 : decode cX8_init 9 = .ok (.invokespecial 11, 3) := by decide +kernel
theorem dX8_init_12 : decode cX8_init 12 = .ok (.putfield 12, 3) := by decide +kernel
theorem dX8_init_15 : decode cX8_init 15 = .ok (.aload_n 0, 1) := by decide +kernel
theorem dX8_init_16 : decode cX8_init 16 = .ok (.new 16, 3) := by decide +kernel
theorem dX8_init_19 : decode cX8_init 19 = .ok (.dup, 1) := by decide +kernel
theorem dX8_init_20 : decode cX8_init 20 = .ok (.invokespecial 18, 3) := by decide +kernel
theorem dX8_init_23 : decode cX8_init 23 = .ok (.putfield 19, 3) := by decide +kernel
theorem dX8_init_26 : decode cX8_init 26 = .ok (.aload_n 0, 1) := by decide +kernel
theorem dX8_init_27 : decode cX8_init 27 = .ok (.new 23, 3) := by decide +kernel
theorem dX8_init_30 : decode cX8_init 30 = .ok (.dup, 1) := by decide +kernel
theorem dX8_init_31 : decode cX8_init 31 = .ok (.invokespecial 25, 3) := by decide +kernel
theorem dX8_init_34 : decode cX8_init 34 = .ok (.putfield 26, 3) := by decide +kernel
theorem dX8_init_37 : decode cX8_init 37 = .ok (.aload_n 0, 1) := by decide +kernel
theorem dX8_init_38 : decode cX8_init 38 = .ok (.new 30, 3) := by decide +kernel
theorem dX8_init_41 : decode cX8_init 41 = .ok (.dup, 1) := by decide +kernel
theorem dX8_init_42 : decode cX8_init 42 = .ok (.invokespecial 32, 3) := by decide +kernel
theorem dX8_init_45 : decode cX8_init 45 = .ok (.putfield 33, 3) := by decide +kernel
theorem dX8_init_48 : decode cX8_init 48 = .ok (.aload_n 0, 1) := by decide +kernel
theorem dX8_init_49 : decode cX8_init 49 = .ok (.new 37, 3) := by decide +kernel
theorem dX8_init_52 : decode cX8_init 52 = .ok (.dup, 1) := by decide +kernel
theorem dX8_init_53 : decode cX8_init 53 = .ok (.invokespecial 39, 3) := by decide +kernel
theorem dX8_init_56 : decode cX8_init 56 = .ok (.putfield 40, 3) := by decide +kernel
theorem dX8_init_59 : decode cX8_init 59 = .ok (.aload_n 0, 1) := by decide +kernel
theorem dX8_init_60 : decode cX8_init 60 = .ok (.new 44, 3) := by decide +kernel
theorem dX8_init_63 : decode cX8_init 63 = .ok (.dup, 1) := by decide +kernel
theorem dX8_init_64 : decode cX8_init 64 = .ok (.invokespecial 46, 3) := by decide +kernel
theorem dX8_init_67 : decode cX8_init 67 = .ok (.putfield 47, 3) := by decide +kernel
theorem dX8_init_70 : decode cX8_init 70 = .ok (.aload_n 0, 1) := by decide +kernel
theorem dX8_init_71 : decode cX8_init 71 = .ok (.new 51, 3) := by decide +kernel
theorem dX8_init_74 : decode cX8_init 74 = .ok (.dup, 1) := by decide +kernel
theorem dX8_init_75 : decode cX8_init 75 = .ok (.invokespecial 53, 3) := by decide +kernel
theorem dX8_init_78 : decode cX8_init 78 = .ok (.putfield 54, 3) := by decide +kernel
theorem dX8_init_81 : decode cX8_init 81 = .ok (.aload_n 0, 1) := by decide +kernel
theorem dX8_init_82 : decode cX8_init 82 = .ok (.iconst 2, 1) := by decide +kernel
theorem dX8_init_83 : decode cX8_init 83 = .ok (.anewarray 44, 3) := by decide +kernel
theorem dX8_init_86 : decode cX8_init 86 = .ok (.putfield 58, 3) := by decide +kernel
theorem dX8_init_89 : decode cX8_init 89 = .ok (.aload_n 0, 1) := by decide +kernel
theorem dX8_init_90 : decode cX8_init 90 = .ok (.iconst 2, 1) := by decide +kernel
theorem dX8_init_91 : decode cX8_init 91 = .ok (.newarray .boolean, 2) := by decide +kernel
theorem dX8_init_93 : decode cX8_init 93 = .ok (.putfield 62, 3) := by decide +kernel
theorem dX8_init_96 : decode cX8_init 96 = .ok (.aload_n 0, 1) := by decide +kernel
theorem dX8_init_97 : decode cX8_init 97 = .ok (.new 66, 3) := by decide +kernel
theorem dX8_init_100 : decode cX8_init 100 = .ok (.dup, 1) := by decide +kernel
theorem dX8_init_101 : decode cX8_init 101 = .ok (.invokespecial 68, 3) := by decide +kernel
theorem dX8_init_104 : decode cX8_init 104 = .ok (.putfield 69, 3) := by decide +kernel
theorem dX8_init_107 : decode cX8_init 107 = .ok (.aload_n 0, 1) := by decide +kernel
theorem dX8_init_108 : decode cX8_init 108 = .ok (.new 66, 3) := by decide +kernel
theorem dX8_init_111 : decode cX8_init 111 = .ok (.dup, 1) := by decide +kernel
theorem dX8_init_112 : decode cX8_init 112 = .ok (.invokespecial 68, 3) := by decide +kernel
theorem dX8_init_115 : decode cX8_init 115 = .ok (.putfield 73, 3) := by decide +kernel
theorem dX8_init_118 : decode cX8_init 118 = .ok (.iconst 0, 1) := by decide +kernel
theorem dX8_init_119 : decode cX8_init 119 = .ok (.istore_n 1, 1) := by decide +kernel
theorem dX8_init_120 : decode cX8_init 120 = .ok (.iload_n 1, 1) := by decide +kernel
theorem dX8_init_121 : decode cX8_init 121 = .ok (.iconst 2, 1) := by decide +kernel
theorem dX8_init_122 : decode cX8_init 122 = .ok (.if_icmp .ge 22, 3) := by decide +kernel
theorem dX8_init_125 : decode cX8_init 125 = .ok (.aload_n 0, 1) := by decide +kernel
theorem dX8_init_126 : decode cX8_init 126 = .ok (.getfield 58, 3) := by decide +kernel
theorem dX8_init_129 : decode cX8_init 129 = .ok (.iload_n 1, 1) := by decide +kernel
theorem dX8_init_130 : decode cX8_init 130 = .ok (.new 44, 3) := by decide +kernel
theorem dX8_init_133 : decode cX8_init 133 = .ok (.dup, 1) := by decide +kernel
theorem dX8_init_134 : decode cX8_init 134 = .ok (.invokespecial 46, 3) := by decide +kernel
theorem dX8_init_137 : decode cX8_init 137 = .ok (.aastore, 1) := by decide +kernel
theorem dX8_init_138 : decode cX8_init 138 = .ok (.iinc 1 1, 3) := by decide +kernel
theorem dX8_init_141 : decode cX8_init 141 = .ok (.goto (-21), 3) := by decide +kernel
theorem dX8_init_144 : decode cX8_init 144 = .ok (.aload_n 0, 1) := by decide +kernel
theorem dX8_init_145 : decode cX8_init 145 = .ok (.getfield 26, 3) := by decide +kernel
theorem dX8_init_148 : decode cX8_init 148 = .ok (.aload_n 0, 1) := by decide +kernel
theorem dX8_init_149 : decode cX8_init 149 = .ok (.getfield 69, 3) := by decide +kernel
theorem dX8_init_152 : decode cX8_init 152 = .ok (.invokevirtual 76, 3) := by decide +kernel
theorem dX8_init_155 : decode cX8_init 155 = .ok (.return_, 1) := by decide +kernel
theorem dX8_write_0 : decode cX8_write 0 = .ok (.iload_n 1, 1) := by decide +kernel
theorem dX8_write_1 : decode cX8_write 1 = .ok (.iconst 1, 1) := by decide +kernel
theorem dX8_write_2 : decode cX8_write 2 = .ok (.if_icmp .lt 9, 3) := by decide +kernel
theorem dX8_write_5 : decode cX8_write 5 = .ok (.iload_n 1, 1) := by decide +kernel
theorem dX8_write_6 : decode cX8_write 6 = .ok (.bipush 8, 2) := by decide +kernel
theorem dX8_write_8 : decode cX8_write 8 = .ok (.if_icmp .le 6, 3) := by decide +kernel
theorem dX8_write_11 : decode cX8_write 11 = .ok (.bipush (-2), 2) := by decide +kernel
theorem dX8_write_13 : decode cX8_write 13 = .ok (.ireturn, 1) := by decide +kernel
theorem dX8_write_14 : decode cX8_write 14 = .ok (.aload_n 0, 1) := by decide +kernel
theorem dX8_write_15 : decode cX8_write 15 = .ok (.getfield 12, 3) := by decide +kernel
theorem dX8_write_18 : decode cX8_write 18 = .ok (.iload_n 1, 1) := by decide +kernel
theorem dX8_write_19 : decode cX8_write 19 = .ok (.invokevirtual 80, 3) := by decide +kernel
theorem dX8_write_22 : decode cX8_write 22 = .ok (.ifCond .ne 6, 3) := by decide +kernel
theorem dX8_write_25 : decode cX8_write 25 = .ok (.bipush (-4), 2) := by decide +kernel
theorem dX8_write_27 : decode cX8_write 27 = .ok (.ireturn, 1) := by decide +kernel
theorem dX8_write_28 : decode cX8_write 28 = .ok (.aload_n 0, 1) := by decide +kernel
theorem dX8_write_29 : decode cX8_write 29 = .ok (.getfield 12, 3) := by decide +kernel
theorem dX8_write_32 : decode cX8_write 32 = .ok (.iload_n 1, 1) := by decide +kernel
theorem dX8_write_33 : decode cX8_write 33 = .ok (.lload_n 2, 1) := by decide +kernel
theorem dX8_write_34 : decode cX8_write 34 = .ok (.invokevirtual 84, 3) := by decide +kernel
theorem dX8_write_37 : decode cX8_write 37 = .ok (.aload_n 0, 1) := by decide +kernel
theorem dX8_write_38 : decode cX8_write 38 = .ok (.getfield 12, 3) := by decide +kernel
theorem dX8_write_41 : decode cX8_write 41 = .ok (.invokevirtual 88, 3) := by decide +kernel
theorem dX8_write_44 : decode cX8_write 44 = .ok (.ireturn, 1) := by decide +kernel
theorem dX8_wipe_0 : decode cX8_wipe 0 = .ok (.aload_n 0, 1) := by decide +kernel
theorem dX8_wipe_1 : decode cX8_wipe 1 = .ok (.getfield 12, 3) := by decide +kernel
theorem dX8_wipe_4 : decode cX8_wipe 4 = .ok (.invokevirtual 92, 3) := by decide +kernel
theorem dX8_wipe_7 : decode cX8_wipe 7 = .ok (.ireturn, 1) := by decide +kernel
theorem dX8_fault_0 : decode cX8_fault 0 = .ok (.aload_n 0, 1) := by decide +kernel
theorem dX8_fault_1 : decode cX8_fault 1 = .ok (.getfield 19, 3) := by decide +kernel
theorem dX8_fault_4 : decode cX8_fault 4 = .ok (.aload_n 0, 1) := by decide +kernel
theorem dX8_fault_5 : decode cX8_fault 5 = .ok (.getfield 12, 3) := by decide +kernel
theorem dX8_fault_8 : decode cX8_fault 8 = .ok (.aload_n 0, 1) := by decide +kernel
theorem dX8_fault_9 : decode cX8_fault 9 = .ok (.getfield 73, 3) := by decide +kernel
theorem dX8_fault_12 : decode cX8_fault 12 = .ok (.invokevirtual 95, 3) := by decide +kernel
theorem dX8_fault_15 : decode cX8_fault 15 = .ok (.ireturn, 1) := by decide +kernel
theorem dX8_town_0 : decode cX8_town 0 = .ok (.aload_n 0, 1) := by decide +kernel
theorem dX8_town_1 : decode cX8_town 1 = .ok (.getfield 19, 3) := by decide +kernel
theorem dX8_town_4 : decode cX8_town 4 = .ok (.aload_n 0, 1) := by decide +kernel
theorem dX8_town_5 : decode cX8_town 5 = .ok (.getfield 12, 3) := by decide +kernel
theorem dX8_town_8 : decode cX8_town 8 = .ok (.aload_n 0, 1) := by decide +kernel
theorem dX8_town_9 : decode cX8_town 9 = .ok (.getfield 73, 3) := by decide +kernel
theorem dX8_town_12 : decode cX8_town 12 = .ok (.invokevirtual 95, 3) := by decide +kernel
theorem dX8_town_15 : decode cX8_town 15 = .ok (.bipush (-9), 2) := by decide +kernel
theorem dX8_town_17 : decode cX8_town 17 = .ok (.if_icmp .eq 6, 3) := by decide +kernel
theorem dX8_town_20 : decode cX8_town 20 = .ok (.bipush (-3), 2) := by decide +kernel
theorem dX8_town_22 : decode cX8_town 22 = .ok (.ireturn, 1) := by decide +kernel
theorem dX8_town_23 : decode cX8_town 23 = .ok (.aload_n 0, 1) := by decide +kernel
theorem dX8_town_24 : decode cX8_town 24 = .ok (.getfield 69, 3) := by decide +kernel
theorem dX8_town_27 : decode cX8_town 27 = .ok (.astore_n 1, 1) := by decide +kernel
theorem dX8_town_28 : decode cX8_town 28 = .ok (.aload_n 0, 1) := by decide +kernel
theorem dX8_town_29 : decode cX8_town 29 = .ok (.aload_n 0, 1) := by decide +kernel
theorem dX8_town_30 : decode cX8_town 30 = .ok (.getfield 73, 3) := by decide +kernel
theorem dX8_town_33 : decode cX8_town 33 = .ok (.putfield 69, 3) := by decide +kernel
theorem dX8_town_36 : decode cX8_town 36 = .ok (.aload_n 0, 1) := by decide +kernel
theorem dX8_town_37 : decode cX8_town 37 = .ok (.aload_n 1, 1) := by decide +kernel
theorem dX8_town_38 : decode cX8_town 38 = .ok (.putfield 73, 3) := by decide +kernel
theorem dX8_town_41 : decode cX8_town 41 = .ok (.aload_n 0, 1) := by decide +kernel
theorem dX8_town_42 : decode cX8_town 42 = .ok (.getfield 26, 3) := by decide +kernel
theorem dX8_town_45 : decode cX8_town 45 = .ok (.aload_n 0, 1) := by decide +kernel
theorem dX8_town_46 : decode cX8_town 46 = .ok (.getfield 69, 3) := by decide +kernel
theorem dX8_town_49 : decode cX8_town 49 = .ok (.invokevirtual 76, 3) := by decide +kernel
theorem dX8_town_52 : decode cX8_town 52 = .ok (.aload_n 0, 1) := by decide +kernel
theorem dX8_town_53 : decode cX8_town 53 = .ok (.getfield 33, 3) := by decide +kernel
theorem dX8_town_56 : decode cX8_town 56 = .ok (.invokevirtual 99, 3) := by decide +kernel
theorem dX8_town_59 : decode cX8_town 59 = .ok (.pop, 1) := by decide +kernel
theorem dX8_town_60 : decode cX8_town 60 = .ok (.aload_n 0, 1) := by decide +kernel
theorem dX8_town_61 : decode cX8_town 61 = .ok (.getfield 47, 3) := by decide +kernel
theorem dX8_town_64 : decode cX8_town 64 = .ok (.invokevirtual 100, 3) := by decide +kernel
theorem dX8_town_67 : decode cX8_town 67 = .ok (.iconst 0, 1) := by decide +kernel
theorem dX8_town_68 : decode cX8_town 68 = .ok (.istore_n 2, 1) := by decide +kernel
theorem dX8_town_69 : decode cX8_town 69 = .ok (.iload_n 2, 1) := by decide +kernel
theorem dX8_town_70 : decode cX8_town 70 = .ok (.iconst 2, 1) := by decide +kernel
theorem dX8_town_71 : decode cX8_town 71 = .ok (.if_icmp .ge 16, 3) := by decide +kernel
theorem dX8_town_74 : decode cX8_town 74 = .ok (.aload_n 0, 1) := by decide +kernel
theorem dX8_town_75 : decode cX8_town 75 = .ok (.getfield 62, 3) := by decide +kernel
theorem dX8_town_78 : decode cX8_town 78 = .ok (.iload_n 2, 1) := by decide +kernel
theorem dX8_town_79 : decode cX8_town 79 = .ok (.iconst 0, 1) := by decide +kernel
theorem dX8_town_80 : decode cX8_town 80 = .ok (.bastore, 1) := by decide +kernel
theorem dX8_town_81 : decode cX8_town 81 = .ok (.iinc 2 1, 3) := by decide +kernel
theorem dX8_town_84 : decode cX8_town 84 = .ok (.goto (-15), 3) := by decide +kernel
theorem dX8_town_87 : decode cX8_town 87 = .ok (.aload_n 0, 1) := by decide +kernel
theorem dX8_town_88 : decode cX8_town 88 = .ok (.getfield 19, 3) := by decide +kernel
theorem dX8_town_91 : decode cX8_town 91 = .ok (.invokevirtual 103, 3) := by decide +kernel
theorem dX8_town_94 : decode cX8_town 94 = .ok (.ireturn, 1) := by decide +kernel
theorem dX8_wants_0 : decode cX8_wants 0 = .ok (.aload_n 0, 1) := by decide +kernel
theorem dX8_wants_1 : decode cX8_wants 1 = .ok (.getfield 69, 3) := by decide +kernel
theorem dX8_wants_4 : decode cX8_wants 4 = .ok (.iload_n 1, 1) := by decide +kernel
theorem dX8_wants_5 : decode cX8_wants 5 = .ok (.invokevirtual 106, 3) := by decide +kernel
theorem dX8_wants_8 : decode cX8_wants 8 = .ok (.ifCond .eq 10, 3) := by decide +kernel
theorem dX8_wants_11 : decode cX8_wants 11 = .ok (.iload_n 2, 1) := by decide +kernel
theorem dX8_wants_12 : decode cX8_wants 12 = .ok (.invokestatic 109, 3) := by decide +kernel
theorem dX8_wants_15 : decode cX8_wants 15 = .ok (.ifCond .ne 5, 3) := by decide +kernel
theorem dX8_wants_18 : decode cX8_wants 18 = .ok (.iconst (-1), 1) := by decide +kernel
theorem dX8_wants_19 : decode cX8_wants 19 = .ok (.ireturn, 1) := by decide +kernel
theorem dX8_wants_20 : decode cX8_wants 20 = .ok (.iload_n 3, 1) := by decide +kernel
theorem dX8_wants_21 : decode cX8_wants 21 = .ok (.ifCond .lt 8, 3) := by decide +kernel
theorem dX8_wants_24 : decode cX8_wants 24 = .ok (.iload_n 3, 1) := by decide +kernel
theorem dX8_wants_25 : decode cX8_wants 25 = .ok (.iconst 1, 1) := by decide +kernel
theorem dX8_wants_26 : decode cX8_wants 26 = .ok (.if_icmp .le 6, 3) := by decide +kernel
theorem dX8_wants_29 : decode cX8_wants 29 = .ok (.bipush (-2), 2) := by decide +kernel
theorem dX8_wants_31 : decode cX8_wants 31 = .ok (.ireturn, 1) := by decide +kernel
theorem dX8_wants_32 : decode cX8_wants 32 = .ok (.iload_n 3, 1) := by decide +kernel
theorem dX8_wants_33 : decode cX8_wants 33 = .ok (.ifCond .ne 15, 3) := by decide +kernel
theorem dX8_wants_36 : decode cX8_wants 36 = .ok (.aload_n 0, 1) := by decide +kernel
theorem dX8_wants_37 : decode cX8_wants 37 = .ok (.getfield 69, 3) := by decide +kernel
theorem dX8_wants_40 : decode cX8_wants 40 = .ok (.iload_n 1, 1) := by decide +kernel
theorem dX8_wants_41 : decode cX8_wants 41 = .ok (.iload_n 2, 1) := by decide +kernel
theorem dX8_wants_42 : decode cX8_wants 42 = .ok (.invokevirtual 112, 3) := by decide +kernel
theorem dX8_wants_45 : decode cX8_wants 45 = .ok (.goto 12, 3) := by decide +kernel
theorem dX8_wants_48 : decode cX8_wants 48 = .ok (.aload_n 0, 1) := by decide +kernel
theorem dX8_wants_49 : decode cX8_wants 49 = .ok (.getfield 69, 3) := by decide +kernel
theorem dX8_wants_52 : decode cX8_wants 52 = .ok (.iload_n 1, 1) := by decide +kernel
theorem dX8_wants_53 : decode cX8_wants 53 = .ok (.iload_n 2, 1) := by decide +kernel
theorem dX8_wants_54 : decode cX8_wants 54 = .ok (.invokevirtual 116, 3) := by decide +kernel
theorem dX8_wants_57 : decode cX8_wants 57 = .ok (.ireturn, 1) := by decide +kernel
theorem dX8_about_0 : decode cX8_about 0 = .ok (.iload_n 1, 1) := by decide +kernel
theorem dX8_about_1 : decode cX8_about 1 = .ok (.ifCond .lt 9, 3) := by decide +kernel
theorem dX8_about_4 : decode cX8_about 4 = .ok (.iload_n 1, 1) := by decide +kernel
theorem dX8_about_5 : decode cX8_about 5 = .ok (.bipush 9, 2) := by decide +kernel
theorem dX8_about_7 : decode cX8_about 7 = .ok (.if_icmp .le 6, 3) := by decide +kernel
theorem dX8_about_10 : decode cX8_about 10 = .ok (.bipush (-2), 2) := by decide +kernel
theorem dX8_about_12 : decode cX8_about 12 = .ok (.ireturn, 1) := by decide +kernel
theorem dX8_about_13 : decode cX8_about 13 = .ok (.iload_n 1, 1) := by decide +kernel
theorem dX8_about_14 : decode cX8_about 14 = .ok (.ifCond .ne 11, 3) := by decide +kernel
theorem dX8_about_17 : decode cX8_about 17 = .ok (.aload_n 0, 1) := by decide +kernel
theorem dX8_about_18 : decode cX8_about 18 = .ok (.getfield 69, 3) := by decide +kernel
theorem dX8_about_21 : decode cX8_about 21 = .ok (.getfield 119, 3) := by decide +kernel
theorem dX8_about_24 : decode cX8_about 24 = .ok (.ireturn, 1) := by decide +kernel
theorem dX8_about_25 : decode cX8_about 25 = .ok (.iload_n 1, 1) := by decide +kernel
theorem dX8_about_26 : decode cX8_about 26 = .ok (.iconst 3, 1) := by decide +kernel
theorem dX8_about_27 : decode cX8_about 27 = .ok (.if_icmp .gt 14, 3) := by decide +kernel
theorem dX8_about_30 : decode cX8_about 30 = .ok (.aload_n 0, 1) := by decide +kernel
theorem dX8_about_31 : decode cX8_about 31 = .ok (.getfield 69, 3) := by decide +kernel
theorem dX8_about_34 : decode cX8_about 34 = .ok (.iload_n 1, 1) := by decide +kernel
theorem dX8_about_35 : decode cX8_about 35 = .ok (.iconst 1, 1) := by decide +kernel
theorem dX8_about_36 : decode cX8_about 36 = .ok (.isub, 1) := by decide +kernel
theorem dX8_about_37 : decode cX8_about 37 = .ok (.invokevirtual 123, 3) := by decide +kernel
theorem dX8_about_40 : decode cX8_about 40 = .ok (.ireturn, 1) := by decide +kernel
theorem dX8_about_41 : decode cX8_about 41 = .ok (.iload_n 1, 1) := by decide +kernel
theorem dX8_about_42 : decode cX8_about 42 = .ok (.bipush 6, 2) := by decide +kernel
theorem dX8_about_44 : decode cX8_about 44 = .ok (.if_icmp .gt 41, 3) := by decide +kernel
theorem dX8_about_47 : decode cX8_about 47 = .ok (.iload_n 1, 1) := by decide +kernel
theorem dX8_about_48 : decode cX8_about 48 = .ok (.iconst 4, 1) := by decide +kernel
theorem dX8_about_49 : decode cX8_about 49 = .ok (.if_icmp .ne 13, 3) := by decide +kernel
theorem dX8_about_52 : decode cX8_about 52 = .ok (.aload_n 0, 1) := by decide +kernel
theorem dX8_about_53 : decode cX8_about 53 = .ok (.getfield 69, 3) := by decide +kernel
theorem dX8_about_56 : decode cX8_about 56 = .ok (.getfield 127, 3) := by decide +kernel
theorem dX8_about_59 : decode cX8_about 59 = .ok (.goto 25, 3) := by decide +kernel
theorem dX8_about_62 : decode cX8_about 62 = .ok (.iload_n 1, 1) := by decide +kernel
theorem dX8_about_63 : decode cX8_about 63 = .ok (.iconst 5, 1) := by decide +kernel
theorem dX8_about_64 : decode cX8_about 64 = .ok (.if_icmp .ne 13, 3) := by decide +kernel
theorem dX8_about_67 : decode cX8_about 67 = .ok (.aload_n 0, 1) := by decide +kernel
theorem dX8_about_68 : decode cX8_about 68 = .ok (.getfield 69, 3) := by decide +kernel
theorem dX8_about_71 : decode cX8_about 71 = .ok (.getfield 130, 3) := by decide +kernel
theorem dX8_about_74 : decode cX8_about 74 = .ok (.goto 10, 3) := by decide +kernel
theorem dX8_about_77 : decode cX8_about 77 = .ok (.aload_n 0, 1) := by decide +kernel
theorem dX8_about_78 : decode cX8_about 78 = .ok (.getfield 69, 3) := by decide +kernel
theorem dX8_about_81 : decode cX8_about 81 = .ok (.getfield 133, 3) := by decide +kernel
theorem dX8_about_84 : decode cX8_about 84 = .ok (.ireturn, 1) := by decide +kernel
theorem dX8_about_85 : decode cX8_about 85 = .ok (.aload_n 0, 1) := by decide +kernel
theorem dX8_about_86 : decode cX8_about 86 = .ok (.getfield 69, 3) := by decide +kernel
theorem dX8_about_89 : decode cX8_about 89 = .ok (.iload_n 1, 1) := by decide +kernel
theorem dX8_about_90 : decode cX8_about 90 = .ok (.bipush 7, 2) := by decide +kernel
theorem dX8_about_92 : decode cX8_about 92 = .ok (.isub, 1) := by decide +kernel
theorem dX8_about_93 : decode cX8_about 93 = .ok (.invokevirtual 106, 3) := by decide +kernel
theorem dX8_about_96 : decode cX8_about 96 = .ok (.ifCond .eq 17, 3) := by decide +kernel
theorem dX8_about_99 : decode cX8_about 99 = .ok (.aload_n 0, 1) := by decide +kernel
theorem dX8_about_100 : decode cX8_about 100 = .ok (.getfield 69, 3) := by decide +kernel
theorem dX8_about_103 : decode cX8_about 103 = .ok (.iload_n 1, 1) := by decide +kernel
theorem dX8_about_104 : decode cX8_about 104 = .ok (.bipush 7, 2) := by decide +kernel
theorem dX8_about_106 : decode cX8_about 106 = .ok (.isub, 1) := by decide +kernel
theorem dX8_about_107 : decode cX8_about 107 = .ok (.invokevirtual 136, 3) := by decide +kernel
theorem dX8_about_110 : decode cX8_about 110 = .ok (.goto 4, 3) := by decide +kernel
theorem dX8_about_113 : decode cX8_about 113 = .ok (.iconst (-1), 1) := by decide +kernel
theorem dX8_about_114 : decode cX8_about 114 = .ok (.ireturn, 1) := by decide +kernel
theorem dX8_sold_0 : decode cX8_sold 0 = .ok (.aload_n 0, 1) := by decide +kernel
theorem dX8_sold_1 : decode cX8_sold 1 = .ok (.iload_n 1, 1) := by decide +kernel
theorem dX8_sold_2 : decode cX8_sold 2 = .ok (.iload_n 2, 1) := by decide +kernel
theorem dX8_sold_3 : decode cX8_sold 3 = .ok (.invokevirtual 139, 3) := by decide +kernel
theorem dX8_sold_6 : decode cX8_sold 6 = .ok (.istore 4, 2) := by decide +kernel
theorem dX8_sold_8 : decode cX8_sold 8 = .ok (.iload 4, 2) := by decide +kernel
theorem dX8_sold_10 : decode cX8_sold 10 = .ok (.ifCond .eq 9, 3) := by decide +kernel
theorem dX8_sold_13 : decode cX8_sold 13 = .ok (.iload 4, 2) := by decide +kernel
theorem dX8_sold_15 : decode cX8_sold 15 = .ok (.i2l, 1) := by decide +kernel
theorem dX8_sold_16 : decode cX8_sold 16 = .ok (.goto 23, 3) := by decide +kernel
theorem dX8_sold_19 : decode cX8_sold 19 = .ok (.aload_n 0, 1) := by decide +kernel
theorem dX8_sold_20 : decode cX8_sold 20 = .ok (.getfield 26, 3) := by decide +kernel
theorem dX8_sold_23 : decode cX8_sold 23 = .ok (.iload_n 1, 1) := by decide +kernel
theorem dX8_sold_24 : decode cX8_sold 24 = .ok (.iload_n 2, 1) := by decide +kernel
theorem dX8_sold_25 : decode cX8_sold 25 = .ok (.invokevirtual 142, 3) := by decide +kernel
theorem dX8_sold_28 : decode cX8_sold 28 = .ok (.aload_n 0, 1) := by decide +kernel
theorem dX8_sold_29 : decode cX8_sold 29 = .ok (.getfield 26, 3) := by decide +kernel
theorem dX8_sold_32 : decode cX8_sold 32 = .ok (.invokevirtual 146, 3) := by decide +kernel
theorem dX8_sold_35 : decode cX8_sold 35 = .ok (.iload_n 3, 1) := by decide +kernel
theorem dX8_sold_36 : decode cX8_sold 36 = .ok (.invokestatic 150, 3) := by decide +kernel
theorem dX8_sold_39 : decode cX8_sold 39 = .ok (.lreturn, 1) := by decide +kernel
theorem dX8_out_0 : decode cX8_out 0 = .ok (.aload_n 0, 1) := by decide +kernel
theorem dX8_out_1 : decode cX8_out 1 = .ok (.iload_n 1, 1) := by decide +kernel
theorem dX8_out_2 : decode cX8_out 2 = .ok (.iload_n 2, 1) := by decide +kernel
theorem dX8_out_3 : decode cX8_out 3 = .ok (.invokevirtual 139, 3) := by decide +kernel
theorem dX8_out_6 : decode cX8_out 6 = .ok (.istore 4, 2) := by decide +kernel
theorem dX8_out_8 : decode cX8_out 8 = .ok (.iload 4, 2) := by decide +kernel
theorem dX8_out_10 : decode cX8_out 10 = .ok (.ifCond .eq 9, 3) := by decide +kernel
theorem dX8_out_13 : decode cX8_out 13 = .ok (.iload 4, 2) := by decide +kernel
theorem dX8_out_15 : decode cX8_out 15 = .ok (.i2l, 1) := by decide +kernel
theorem dX8_out_16 : decode cX8_out 16 = .ok (.goto 23, 3) := by decide +kernel
theorem dX8_out_19 : decode cX8_out 19 = .ok (.aload_n 0, 1) := by decide +kernel
theorem dX8_out_20 : decode cX8_out 20 = .ok (.getfield 26, 3) := by decide +kernel
theorem dX8_out_23 : decode cX8_out 23 = .ok (.iload_n 1, 1) := by decide +kernel
theorem dX8_out_24 : decode cX8_out 24 = .ok (.iload_n 2, 1) := by decide +kernel
theorem dX8_out_25 : decode cX8_out 25 = .ok (.invokevirtual 154, 3) := by decide +kernel
theorem dX8_out_28 : decode cX8_out 28 = .ok (.aload_n 0, 1) := by decide +kernel
theorem dX8_out_29 : decode cX8_out 29 = .ok (.getfield 26, 3) := by decide +kernel
theorem dX8_out_32 : decode cX8_out 32 = .ok (.invokevirtual 146, 3) := by decide +kernel
theorem dX8_out_35 : decode cX8_out 35 = .ok (.iload_n 3, 1) := by decide +kernel
theorem dX8_out_36 : decode cX8_out 36 = .ok (.invokestatic 150, 3) := by decide +kernel
theorem dX8_out_39 : decode cX8_out 39 = .ok (.lreturn, 1) := by decide +kernel
theorem dX8_given_0 : decode cX8_given 0 = .ok (.aload_n 0, 1) := by decide +kernel
theorem dX8_given_1 : decode cX8_given 1 = .ok (.iload_n 2, 1) := by decide +kernel
theorem dX8_given_2 : decode cX8_given 2 = .ok (.iload_n 1, 1) := by decide +kernel
theorem dX8_given_3 : decode cX8_given 3 = .ok (.invokevirtual 139, 3) := by decide +kernel
theorem dX8_given_6 : decode cX8_given 6 = .ok (.istore_n 3, 1) := by decide +kernel
theorem dX8_given_7 : decode cX8_given 7 = .ok (.iload_n 3, 1) := by decide +kernel
theorem dX8_given_8 : decode cX8_given 8 = .ok (.ifCond .eq 7, 3) := by decide +kernel
theorem dX8_given_11 : decode cX8_given 11 = .ok (.iload_n 3, 1) := by decide +kernel
theorem dX8_given_12 : decode cX8_given 12 = .ok (.goto 16, 3) := by decide +kernel
theorem dX8_given_15 : decode cX8_given 15 = .ok (.aload_n 0, 1) := by decide +kernel
theorem dX8_given_16 : decode cX8_given 16 = .ok (.getfield 26, 3) := by decide +kernel
theorem dX8_given_19 : decode cX8_given 19 = .ok (.aload_n 0, 1) := by decide +kernel
theorem dX8_given_20 : decode cX8_given 20 = .ok (.getfield 69, 3) := by decide +kernel
theorem dX8_given_23 : decode cX8_given 23 = .ok (.iload_n 1, 1) := by decide +kernel
theorem dX8_given_24 : decode cX8_given 24 = .ok (.iload_n 2, 1) := by decide +kernel
theorem dX8_given_25 : decode cX8_given 25 = .ok (.invokevirtual 157, 3) := by decide +kernel
theorem dX8_given_28 : decode cX8_given 28 = .ok (.ireturn, 1) := by decide +kernel
theorem dX8_earned_0 : decode cX8_earned 0 = .ok (.iload_n 1, 1) := by decide +kernel
theorem dX8_earned_1 : decode cX8_earned 1 = .ok (.invokestatic 161, 3) := by decide +kernel
theorem dX8_earned_4 : decode cX8_earned 4 = .ok (.ifCond .ne 7, 3) := by decide +kernel
theorem dX8_earned_7 : decode cX8_earned 7 = .ok (.ldc2_w 164, 3) := by decide +kernel
theorem dX8_earned_10 : decode cX8_earned 10 = .ok (.lreturn, 1) := by decide +kernel
theorem dX8_earned_11 : decode cX8_earned 11 = .ok (.aload_n 0, 1) := by decide +kernel
theorem dX8_earned_12 : decode cX8_earned 12 = .ok (.getfield 26, 3) := by decide +kernel
theorem dX8_earned_15 : decode cX8_earned 15 = .ok (.aload_n 0, 1) := by decide +kernel
theorem dX8_earned_16 : decode cX8_earned 16 = .ok (.getfield 69, 3) := by decide +kernel
theorem dX8_earned_19 : decode cX8_earned 19 = .ok (.iload_n 1, 1) := by decide +kernel
theorem dX8_earned_20 : decode cX8_earned 20 = .ok (.invokevirtual 166, 3) := by decide +kernel
theorem dX8_earned_23 : decode cX8_earned 23 = .ok (.aload_n 0, 1) := by decide +kernel
theorem dX8_earned_24 : decode cX8_earned 24 = .ok (.getfield 26, 3) := by decide +kernel
theorem dX8_earned_27 : decode cX8_earned 27 = .ok (.invokevirtual 146, 3) := by decide +kernel
theorem dX8_earned_30 : decode cX8_earned 30 = .ok (.iload_n 2, 1) := by decide +kernel
theorem dX8_earned_31 : decode cX8_earned 31 = .ok (.invokestatic 150, 3) := by decide +kernel
theorem dX8_earned_34 : decode cX8_earned 34 = .ok (.lstore_n 3, 1) := by decide +kernel
theorem dX8_earned_35 : decode cX8_earned 35 = .ok (.iload_n 2, 1) := by decide +kernel
theorem dX8_earned_36 : decode cX8_earned 36 = .ok (.ifCond .eq 11, 3) := by decide +kernel
theorem dX8_earned_39 : decode cX8_earned 39 = .ok (.lload_n 3, 1) := by decide +kernel
theorem dX8_earned_40 : decode cX8_earned 40 = .ok (.ldc2_w 170, 3) := by decide +kernel
theorem dX8_earned_43 : decode cX8_earned 43 = .ok (.ladd, 1) := by decide +kernel
theorem dX8_earned_44 : decode cX8_earned 44 = .ok (.goto 4, 3) := by decide +kernel
theorem dX8_earned_47 : decode cX8_earned 47 = .ok (.lload_n 3, 1) := by decide +kernel
theorem dX8_earned_48 : decode cX8_earned 48 = .ok (.lreturn, 1) := by decide +kernel
theorem dX8_print_0 : decode cX8_print 0 = .ok (.aload_n 0, 1) := by decide +kernel
theorem dX8_print_1 : decode cX8_print 1 = .ok (.getfield 26, 3) := by decide +kernel
theorem dX8_print_4 : decode cX8_print 4 = .ok (.aload_n 0, 1) := by decide +kernel
theorem dX8_print_5 : decode cX8_print 5 = .ok (.getfield 69, 3) := by decide +kernel
theorem dX8_print_8 : decode cX8_print 8 = .ok (.invokevirtual 172, 3) := by decide +kernel
theorem dX8_print_11 : decode cX8_print 11 = .ok (.ireturn, 1) := by decide +kernel
theorem dX8_loss_0 : decode cX8_loss 0 = .ok (.aload_n 0, 1) := by decide +kernel
theorem dX8_loss_1 : decode cX8_loss 1 = .ok (.iload_n 2, 1) := by decide +kernel
theorem dX8_loss_2 : decode cX8_loss 2 = .ok (.iload_n 1, 1) := by decide +kernel
theorem dX8_loss_3 : decode cX8_loss 3 = .ok (.invokevirtual 139, 3) := by decide +kernel
theorem dX8_loss_6 : decode cX8_loss 6 = .ok (.istore 5, 2) := by decide +kernel
theorem dX8_loss_8 : decode cX8_loss 8 = .ok (.iload 5, 2) := by decide +kernel
theorem dX8_loss_10 : decode cX8_loss 10 = .ok (.ifCond .eq 7, 3) := by decide +kernel
theorem dX8_loss_13 : decode cX8_loss 13 = .ok (.iload 5, 2) := by decide +kernel
theorem dX8_loss_15 : decode cX8_loss 15 = .ok (.i2l, 1) := by decide +kernel
theorem dX8_loss_16 : decode cX8_loss 16 = .ok (.lreturn, 1) := by decide +kernel
theorem dX8_loss_17 : decode cX8_loss 17 = .ok (.iload_n 3, 1) := by decide +kernel
theorem dX8_loss_18 : decode cX8_loss 18 = .ok (.ifCond .lt 8, 3) := by decide +kernel
theorem dX8_loss_21 : decode cX8_loss 21 = .ok (.iload_n 3, 1) := by decide +kernel
theorem dX8_loss_22 : decode cX8_loss 22 = .ok (.iload_n 1, 1) := by decide +kernel
theorem dX8_loss_23 : decode cX8_loss 23 = .ok (.if_icmp .le 7, 3) := by decide +kernel
theorem dX8_loss_26 : decode cX8_loss 26 = .ok (.ldc2_w 164, 3) := by decide +kernel
theorem dX8_loss_29 : decode cX8_loss 29 = .ok (.lreturn, 1) := by decide +kernel
theorem dX8_loss_30 : decode cX8_loss 30 = .ok (.aload_n 0, 1) := by decide +kernel
theorem dX8_loss_31 : decode cX8_loss 31 = .ok (.getfield 26, 3) := by decide +kernel
theorem dX8_loss_34 : decode cX8_loss 34 = .ok (.aload_n 0, 1) := by decide +kernel
theorem dX8_loss_35 : decode cX8_loss 35 = .ok (.getfield 69, 3) := by decide +kernel
theorem dX8_loss_38 : decode cX8_loss 38 = .ok (.iload_n 1, 1) := by decide +kernel
theorem dX8_loss_39 : decode cX8_loss 39 = .ok (.invokevirtual 166, 3) := by decide +kernel
theorem dX8_loss_42 : decode cX8_loss 42 = .ok (.aload_n 0, 1) := by decide +kernel
theorem dX8_loss_43 : decode cX8_loss 43 = .ok (.getfield 26, 3) := by decide +kernel
theorem dX8_loss_46 : decode cX8_loss 46 = .ok (.aload_n 0, 1) := by decide +kernel
theorem dX8_loss_47 : decode cX8_loss 47 = .ok (.getfield 69, 3) := by decide +kernel
theorem dX8_loss_50 : decode cX8_loss 50 = .ok (.iload_n 1, 1) := by decide +kernel
theorem dX8_loss_51 : decode cX8_loss 51 = .ok (.iload_n 2, 1) := by decide +kernel
theorem dX8_loss_52 : decode cX8_loss 52 = .ok (.iload_n 3, 1) := by decide +kernel
theorem dX8_loss_53 : decode cX8_loss 53 = .ok (.invokevirtual 176, 3) := by decide +kernel
theorem dX8_loss_56 : decode cX8_loss 56 = .ok (.lsub, 1) := by decide +kernel
theorem dX8_loss_57 : decode cX8_loss 57 = .ok (.lstore 6, 2) := by decide +kernel
theorem dX8_loss_59 : decode cX8_loss 59 = .ok (.lload 6, 2) := by decide +kernel
theorem dX8_loss_61 : decode cX8_loss 61 = .ok (.aload_n 0, 1) := by decide +kernel
theorem dX8_loss_62 : decode cX8_loss 62 = .ok (.getfield 26, 3) := by decide +kernel
theorem dX8_loss_65 : decode cX8_loss 65 = .ok (.invokevirtual 146, 3) := by decide +kernel
theorem dX8_loss_68 : decode cX8_loss 68 = .ok (.iload 4, 2) := by decide +kernel
theorem dX8_loss_70 : decode cX8_loss 70 = .ok (.invokestatic 150, 3) := by decide +kernel
theorem dX8_loss_73 : decode cX8_loss 73 = .ok (.lreturn, 1) := by decide +kernel
theorem dX8_see_0 : decode cX8_see 0 = .ok (.aload_n 0, 1) := by decide +kernel
theorem dX8_see_1 : decode cX8_see 1 = .ok (.getfield 69, 3) := by decide +kernel
theorem dX8_see_4 : decode cX8_see 4 = .ok (.iload_n 1, 1) := by decide +kernel
theorem dX8_see_5 : decode cX8_see 5 = .ok (.invokevirtual 106, 3) := by decide +kernel
theorem dX8_see_8 : decode cX8_see 8 = .ok (.ifCond .ne 5, 3) := by decide +kernel
theorem dX8_see_11 : decode cX8_see 11 = .ok (.iconst (-1), 1) := by decide +kernel
theorem dX8_see_12 : decode cX8_see 12 = .ok (.ireturn, 1) := by decide +kernel
theorem dX8_see_13 : decode cX8_see 13 = .ok (.iload_n 2, 1) := by decide +kernel
theorem dX8_see_14 : decode cX8_see 14 = .ok (.ifCond .lt 9, 3) := by decide +kernel
theorem dX8_see_17 : decode cX8_see 17 = .ok (.iload_n 2, 1) := by decide +kernel
theorem dX8_see_18 : decode cX8_see 18 = .ok (.bipush 9, 2) := by decide +kernel
theorem dX8_see_20 : decode cX8_see 20 = .ok (.if_icmp .le 6, 3) := by decide +kernel
theorem dX8_see_23 : decode cX8_see 23 = .ok (.bipush (-2), 2) := by decide +kernel
theorem dX8_see_25 : decode cX8_see 25 = .ok (.ireturn, 1) := by decide +kernel
theorem dX8_see_26 : decode cX8_see 26 = .ok (.aload_n 0, 1) := by decide +kernel
theorem dX8_see_27 : decode cX8_see 27 = .ok (.getfield 33, 3) := by decide +kernel
theorem dX8_see_30 : decode cX8_see 30 = .ok (.iload_n 1, 1) := by decide +kernel
theorem dX8_see_31 : decode cX8_see 31 = .ok (.iload_n 2, 1) := by decide +kernel
theorem dX8_see_32 : decode cX8_see 32 = .ok (.invokevirtual 180, 3) := by decide +kernel
theorem dX8_see_35 : decode cX8_see 35 = .ok (.ifCond .eq 13, 3) := by decide +kernel
theorem dX8_see_38 : decode cX8_see 38 = .ok (.aload_n 0, 1) := by decide +kernel
theorem dX8_see_39 : decode cX8_see 39 = .ok (.getfield 33, 3) := by decide +kernel
theorem dX8_see_42 : decode cX8_see 42 = .ok (.invokevirtual 184, 3) := by decide +kernel
theorem dX8_see_45 : decode cX8_see 45 = .ok (.goto 5, 3) := by decide +kernel
theorem dX8_see_48 : decode cX8_see 48 = .ok (.bipush (-4), 2) := by decide +kernel
theorem dX8_see_50 : decode cX8_see 50 = .ok (.ireturn, 1) := by decide +kernel
theorem dX8_unsee_0 : decode cX8_unsee 0 = .ok (.aload_n 0, 1) := by decide +kernel
theorem dX8_unsee_1 : decode cX8_unsee 1 = .ok (.getfield 33, 3) := by decide +kernel
theorem dX8_unsee_4 : decode cX8_unsee 4 = .ok (.invokevirtual 99, 3) := by decide +kernel
theorem dX8_unsee_7 : decode cX8_unsee 7 = .ok (.ireturn, 1) := by decide +kernel
theorem dX8_likely_0 : decode cX8_likely 0 = .ok (.iload_n 1, 1) := by decide +kernel
theorem dX8_likely_1 : decode cX8_likely 1 = .ok (.invokestatic 109, 3) := by decide +kernel
theorem dX8_likely_4 : decode cX8_likely 4 = .ok (.ifCond .ne 7, 3) := by decide +kernel
theorem dX8_likely_7 : decode cX8_likely 7 = .ok (.ldc2_w 185, 3) := by decide +kernel
theorem dX8_likely_10 : decode cX8_likely 10 = .ok (.lreturn, 1) := by decide +kernel
theorem dX8_likely_11 : decode cX8_likely 11 = .ok (.aload_n 0, 1) := by decide +kernel
theorem dX8_likely_12 : decode cX8_likely 12 = .ok (.getfield 33, 3) := by decide +kernel
theorem dX8_likely_15 : decode cX8_likely 15 = .ok (.aload_n 0, 1) := by decide +kernel
theorem dX8_likely_16 : decode cX8_likely 16 = .ok (.getfield 69, 3) := by decide +kernel
theorem dX8_likely_19 : decode cX8_likely 19 = .ok (.invokevirtual 187, 3) := by decide +kernel
theorem dX8_likely_22 : decode cX8_likely 22 = .ok (.lstore_n 3, 1) := by decide +kernel
theorem dX8_likely_23 : decode cX8_likely 23 = .ok (.lload_n 3, 1) := by decide +kernel
theorem dX8_likely_24 : decode cX8_likely 24 = .ok (.lconst 0, 1) := by decide +kernel
theorem dX8_likely_25 : decode cX8_likely 25 = .ok (.lcmp, 1) := by decide +kernel
theorem dX8_likely_26 : decode cX8_likely 26 = .ok (.ifCond .ne 9, 3) := by decide +kernel
theorem dX8_likely_29 : decode cX8_likely 29 = .ok (.ldc2_w 191, 3) := by decide +kernel
theorem dX8_likely_32 : decode cX8_likely 32 = .ok (.goto 20, 3) := by decide +kernel
theorem dX8_likely_35 : decode cX8_likely 35 = .ok (.aload_n 0, 1) := by decide +kernel
theorem dX8_likely_36 : decode cX8_likely 36 = .ok (.getfield 33, 3) := by decide +kernel
theorem dX8_likely_39 : decode cX8_likely 39 = .ok (.aload_n 0, 1) := by decide +kernel
theorem dX8_likely_40 : decode cX8_likely 40 = .ok (.getfield 69, 3) := by decide +kernel
theorem dX8_likely_43 : decode cX8_likely 43 = .ok (.iload_n 1, 1) := by decide +kernel
theorem dX8_likely_44 : decode cX8_likely 44 = .ok (.invokevirtual 193, 3) := by decide +kernel
theorem dX8_likely_47 : decode cX8_likely 47 = .ok (.lload_n 3, 1) := by decide +kernel
theorem dX8_likely_48 : decode cX8_likely 48 = .ok (.iload_n 2, 1) := by decide +kernel
theorem dX8_likely_49 : decode cX8_likely 49 = .ok (.invokestatic 150, 3) := by decide +kernel
theorem dX8_likely_52 : decode cX8_likely 52 = .ok (.lreturn, 1) := by decide +kernel
theorem dX8_likeliest_0 : decode cX8_likeliest 0 = .ok (.aload_n 0, 1) := by decide +kernel
theorem dX8_likeliest_1 : decode cX8_likeliest 1 = .ok (.getfield 33, 3) := by decide +kernel
theorem dX8_likeliest_4 : decode cX8_likeliest 4 = .ok (.aload_n 0, 1) := by decide +kernel
theorem dX8_likeliest_5 : decode cX8_likeliest 5 = .ok (.getfield 69, 3) := by decide +kernel
theorem dX8_likeliest_8 : decode cX8_likeliest 8 = .ok (.invokevirtual 187, 3) := by decide +kernel
theorem dX8_likeliest_11 : decode cX8_likeliest 11 = .ok (.lconst 0, 1) := by decide +kernel
theorem dX8_likeliest_12 : decode cX8_likeliest 12 = .ok (.lcmp, 1) := by decide +kernel
theorem dX8_likeliest_13 : decode cX8_likeliest 13 = .ok (.ifCond .ne 8, 3) := by decide +kernel
theorem dX8_likeliest_16 : decode cX8_likeliest 16 = .ok (.bipush (-3), 2) := by decide +kernel
theorem dX8_likeliest_18 : decode cX8_likeliest 18 = .ok (.goto 14, 3) := by decide +kernel
theorem dX8_likeliest_21 : decode cX8_likeliest 21 = .ok (.aload_n 0, 1) := by decide +kernel
theorem dX8_likeliest_22 : decode cX8_likeliest 22 = .ok (.getfield 33, 3) := by decide +kernel
theorem dX8_likeliest_25 : decode cX8_likeliest 25 = .ok (.aload_n 0, 1) := by decide +kernel
theorem dX8_likeliest_26 : decode cX8_likeliest 26 = .ok (.getfield 69, 3) := by decide +kernel
theorem dX8_likeliest_29 : decode cX8_likeliest 29 = .ok (.invokevirtual 196, 3) := by decide +kernel
theorem dX8_likeliest_32 : decode cX8_likeliest 32 = .ok (.ireturn, 1) := by decide +kernel
theorem dX8_ask_0 : decode cX8_ask 0 = .ok (.aload_n 0, 1) := by decide +kernel
theorem dX8_ask_1 : decode cX8_ask 1 = .ok (.getfield 33, 3) := by decide +kernel
theorem dX8_ask_4 : decode cX8_ask 4 = .ok (.aload_n 0, 1) := by decide +kernel
theorem dX8_ask_5 : decode cX8_ask 5 = .ok (.getfield 69, 3) := by decide +kernel
theorem dX8_ask_8 : decode cX8_ask 8 = .ok (.invokevirtual 187, 3) := by decide +kernel
theorem dX8_ask_11 : decode cX8_ask 11 = .ok (.lconst 0, 1) := by decide +kernel
theorem dX8_ask_12 : decode cX8_ask 12 = .ok (.lcmp, 1) := by decide +kernel
theorem dX8_ask_13 : decode cX8_ask 13 = .ok (.ifCond .ne 8, 3) := by decide +kernel
theorem dX8_ask_16 : decode cX8_ask 16 = .ok (.bipush (-3), 2) := by decide +kernel
theorem dX8_ask_18 : decode cX8_ask 18 = .ok (.goto 14, 3) := by decide +kernel
theorem dX8_ask_21 : decode cX8_ask 21 = .ok (.aload_n 0, 1) := by decide +kernel
theorem dX8_ask_22 : decode cX8_ask 22 = .ok (.getfield 33, 3) := by decide +kernel
theorem dX8_ask_25 : decode cX8_ask 25 = .ok (.aload_n 0, 1) := by decide +kernel
theorem dX8_ask_26 : decode cX8_ask 26 = .ok (.getfield 69, 3) := by decide +kernel
theorem dX8_ask_29 : decode cX8_ask 29 = .ok (.invokevirtual 199, 3) := by decide +kernel
theorem dX8_ask_32 : decode cX8_ask 32 = .ok (.ireturn, 1) := by decide +kernel
theorem dX8_best_0 : decode cX8_best 0 = .ok (.aload_n 0, 1) := by decide +kernel
theorem dX8_best_1 : decode cX8_best 1 = .ok (.iload_n 1, 1) := by decide +kernel
theorem dX8_best_2 : decode cX8_best 2 = .ok (.iload_n 2, 1) := by decide +kernel
theorem dX8_best_3 : decode cX8_best 3 = .ok (.iload_n 3, 1) := by decide +kernel
theorem dX8_best_4 : decode cX8_best 4 = .ok (.iload 4, 2) := by decide +kernel
theorem dX8_best_6 : decode cX8_best 6 = .ok (.iload 5, 2) := by decide +kernel
theorem dX8_best_8 : decode cX8_best 8 = .ok (.iconst 0, 1) := by decide +kernel
theorem dX8_best_9 : decode cX8_best 9 = .ok (.invokevirtual 202, 3) := by decide +kernel
theorem dX8_best_12 : decode cX8_best 12 = .ok (.istore 7, 2) := by decide +kernel
theorem dX8_best_14 : decode cX8_best 14 = .ok (.iload 7, 2) := by decide +kernel
theorem dX8_best_16 : decode cX8_best 16 = .ok (.ifCond .eq 7, 3) := by decide +kernel
theorem dX8_best_19 : decode cX8_best 19 = .ok (.iload 7, 2) := by decide +kernel
theorem dX8_best_21 : decode cX8_best 21 = .ok (.i2l, 1) := by decide +kernel
theorem dX8_best_22 : decode cX8_best 22 = .ok (.lreturn, 1) := by decide +kernel
theorem dX8_best_23 : decode cX8_best 23 = .ok (.aload_n 0, 1) := by decide +kernel
theorem dX8_best_24 : decode cX8_best 24 = .ok (.getfield 40, 3) := by decide +kernel
theorem dX8_best_27 : decode cX8_best 27 = .ok (.aload_n 0, 1) := by decide +kernel
theorem dX8_best_28 : decode cX8_best 28 = .ok (.getfield 69, 3) := by decide +kernel
theorem dX8_best_31 : decode cX8_best 31 = .ok (.iload_n 1, 1) := by decide +kernel
theorem dX8_best_32 : decode cX8_best 32 = .ok (.bipush 10, 2) := by decide +kernel
theorem dX8_best_34 : decode cX8_best 34 = .ok (.idiv, 1) := by decide +kernel
theorem dX8_best_35 : decode cX8_best 35 = .ok (.iload_n 1, 1) := by decide +kernel
theorem dX8_best_36 : decode cX8_best 36 = .ok (.bipush 10, 2) := by decide +kernel
theorem dX8_best_38 : decode cX8_best 38 = .ok (.irem, 1) := by decide +kernel
theorem dX8_best_39 : decode cX8_best 39 = .ok (.iload_n 2, 1) := by decide +kernel
theorem dX8_best_40 : decode cX8_best 40 = .ok (.invokevirtual 206, 3) := by decide +kernel
theorem dX8_best_43 : decode cX8_best 43 = .ok (.aload_n 0, 1) := by decide +kernel
theorem dX8_best_44 : decode cX8_best 44 = .ok (.getfield 40, 3) := by decide +kernel
theorem dX8_best_47 : decode cX8_best 47 = .ok (.iload_n 3, 1) := by decide +kernel
theorem dX8_best_48 : decode cX8_best 48 = .ok (.bipush 100, 2) := by decide +kernel
theorem dX8_best_50 : decode cX8_best 50 = .ok (.idiv, 1) := by decide +kernel
theorem dX8_best_51 : decode cX8_best 51 = .ok (.iload_n 3, 1) := by decide +kernel
theorem dX8_best_52 : decode cX8_best 52 = .ok (.bipush 100, 2) := by decide +kernel
theorem dX8_best_54 : decode cX8_best 54 = .ok (.irem, 1) := by decide +kernel
theorem dX8_best_55 : decode cX8_best 55 = .ok (.iadd, 1) := by decide +kernel
theorem dX8_best_56 : decode cX8_best 56 = .ok (.iload 4, 2) := by decide +kernel
theorem dX8_best_58 : decode cX8_best 58 = .ok (.iload 5, 2) := by decide +kernel
theorem dX8_best_60 : decode cX8_best 60 = .ok (.invokevirtual 210, 3) := by decide +kernel
theorem dX8_best_63 : decode cX8_best 63 = .ok (.aload_n 0, 1) := by decide +kernel
theorem dX8_best_64 : decode cX8_best 64 = .ok (.getfield 40, 3) := by decide +kernel
theorem dX8_best_67 : decode cX8_best 67 = .ok (.iload_n 3, 1) := by decide +kernel
theorem dX8_best_68 : decode cX8_best 68 = .ok (.bipush 100, 2) := by decide +kernel
theorem dX8_best_70 : decode cX8_best 70 = .ok (.idiv, 1) := by decide +kernel
theorem dX8_best_71 : decode cX8_best 71 = .ok (.iload_n 3, 1) := by decide +kernel
theorem dX8_best_72 : decode cX8_best 72 = .ok (.bipush 100, 2) := by decide +kernel
theorem dX8_best_74 : decode cX8_best 74 = .ok (.irem, 1) := by decide +kernel
theorem dX8_best_75 : decode cX8_best 75 = .ok (.iload 4, 2) := by decide +kernel
theorem dX8_best_77 : decode cX8_best 77 = .ok (.invokevirtual 213, 3) := by decide +kernel
theorem dX8_best_80 : decode cX8_best 80 = .ok (.aload_n 0, 1) := by decide +kernel
theorem dX8_best_81 : decode cX8_best 81 = .ok (.getfield 40, 3) := by decide +kernel
theorem dX8_best_84 : decode cX8_best 84 = .ok (.invokevirtual 217, 3) := by decide +kernel
theorem dX8_best_87 : decode cX8_best 87 = .ok (.iload 6, 2) := by decide +kernel
theorem dX8_best_89 : decode cX8_best 89 = .ok (.invokestatic 150, 3) := by decide +kernel
theorem dX8_best_92 : decode cX8_best 92 = .ok (.lreturn, 1) := by decide +kernel
theorem dX8_now_0 : decode cX8_now 0 = .ok (.aload_n 0, 1) := by decide +kernel
theorem dX8_now_1 : decode cX8_now 1 = .ok (.iload_n 1, 1) := by decide +kernel
theorem dX8_now_2 : decode cX8_now 2 = .ok (.iload_n 2, 1) := by decide +kernel
theorem dX8_now_3 : decode cX8_now 3 = .ok (.iload_n 3, 1) := by decide +kernel
theorem dX8_now_4 : decode cX8_now 4 = .ok (.iload 4, 2) := by decide +kernel
theorem dX8_now_6 : decode cX8_now 6 = .ok (.iload 5, 2) := by decide +kernel
theorem dX8_now_8 : decode cX8_now 8 = .ok (.iconst 1, 1) := by decide +kernel
theorem dX8_now_9 : decode cX8_now 9 = .ok (.invokevirtual 202, 3) := by decide +kernel
theorem dX8_now_12 : decode cX8_now 12 = .ok (.istore 6, 2) := by decide +kernel
theorem dX8_now_14 : decode cX8_now 14 = .ok (.iload 6, 2) := by decide +kernel
theorem dX8_now_16 : decode cX8_now 16 = .ok (.ifCond .eq 6, 3) := by decide +kernel
theorem dX8_now_19 : decode cX8_now 19 = .ok (.iload 6, 2) := by decide +kernel
theorem dX8_now_21 : decode cX8_now 21 = .ok (.ireturn, 1) := by decide +kernel
theorem dX8_now_22 : decode cX8_now 22 = .ok (.aload_n 0, 1) := by decide +kernel
theorem dX8_now_23 : decode cX8_now 23 = .ok (.getfield 40, 3) := by decide +kernel
theorem dX8_now_26 : decode cX8_now 26 = .ok (.aload_n 0, 1) := by decide +kernel
theorem dX8_now_27 : decode cX8_now 27 = .ok (.getfield 69, 3) := by decide +kernel
theorem dX8_now_30 : decode cX8_now 30 = .ok (.iload_n 1, 1) := by decide +kernel
theorem dX8_now_31 : decode cX8_now 31 = .ok (.bipush 10, 2) := by decide +kernel
theorem dX8_now_33 : decode cX8_now 33 = .ok (.idiv, 1) := by decide +kernel
theorem dX8_now_34 : decode cX8_now 34 = .ok (.iload_n 1, 1) := by decide +kernel
theorem dX8_now_35 : decode cX8_now 35 = .ok (.bipush 10, 2) := by decide +kernel
theorem dX8_now_37 : decode cX8_now 37 = .ok (.irem, 1) := by decide +kernel
theorem dX8_now_38 : decode cX8_now 38 = .ok (.iload_n 2, 1) := by decide +kernel
theorem dX8_now_39 : decode cX8_now 39 = .ok (.invokevirtual 206, 3) := by decide +kernel
theorem dX8_now_42 : decode cX8_now 42 = .ok (.aload_n 0, 1) := by decide +kernel
theorem dX8_now_43 : decode cX8_now 43 = .ok (.getfield 40, 3) := by decide +kernel
theorem dX8_now_46 : decode cX8_now 46 = .ok (.iload_n 3, 1) := by decide +kernel
theorem dX8_now_47 : decode cX8_now 47 = .ok (.bipush 100, 2) := by decide +kernel
theorem dX8_now_49 : decode cX8_now 49 = .ok (.idiv, 1) := by decide +kernel
theorem dX8_now_50 : decode cX8_now 50 = .ok (.iload_n 3, 1) := by decide +kernel
theorem dX8_now_51 : decode cX8_now 51 = .ok (.bipush 100, 2) := by decide +kernel
theorem dX8_now_53 : decode cX8_now 53 = .ok (.irem, 1) := by decide +kernel
theorem dX8_now_54 : decode cX8_now 54 = .ok (.iadd, 1) := by decide +kernel
theorem dX8_now_55 : decode cX8_now 55 = .ok (.iload 4, 2) := by decide +kernel
theorem dX8_now_57 : decode cX8_now 57 = .ok (.iload 5, 2) := by decide +kernel
theorem dX8_now_59 : decode cX8_now 59 = .ok (.invokevirtual 210, 3) := by decide +kernel
theorem dX8_now_62 : decode cX8_now 62 = .ok (.aload_n 0, 1) := by decide +kernel
theorem dX8_now_63 : decode cX8_now 63 = .ok (.getfield 40, 3) := by decide +kernel
theorem dX8_now_66 : decode cX8_now 66 = .ok (.iload_n 3, 1) := by decide +kernel
theorem dX8_now_67 : decode cX8_now 67 = .ok (.bipush 100, 2) := by decide +kernel
theorem dX8_now_69 : decode cX8_now 69 = .ok (.idiv, 1) := by decide +kernel
theorem dX8_now_70 : decode cX8_now 70 = .ok (.iload_n 3, 1) := by decide +kernel
theorem dX8_now_71 : decode cX8_now 71 = .ok (.bipush 100, 2) := by decide +kernel
theorem dX8_now_73 : decode cX8_now 73 = .ok (.irem, 1) := by decide +kernel
theorem dX8_now_74 : decode cX8_now 74 = .ok (.iload 4, 2) := by decide +kernel
theorem dX8_now_76 : decode cX8_now 76 = .ok (.invokevirtual 218, 3) := by decide +kernel
theorem dX8_now_79 : decode cX8_now 79 = .ok (.ireturn, 1) := by decide +kernel
theorem dX8_day_0 : decode cX8_day 0 = .ok (.iload_n 1, 1) := by decide +kernel
theorem dX8_day_1 : decode cX8_day 1 = .ok (.invokestatic 109, 3) := by decide +kernel
theorem dX8_day_4 : decode cX8_day 4 = .ok (.ifCond .ne 5, 3) := by decide +kernel
theorem dX8_day_7 : decode cX8_day 7 = .ok (.iconst (-1), 1) := by decide +kernel
theorem dX8_day_8 : decode cX8_day 8 = .ok (.ireturn, 1) := by decide +kernel
theorem dX8_day_9 : decode cX8_day 9 = .ok (.aload_n 0, 1) := by decide +kernel
theorem dX8_day_10 : decode cX8_day 10 = .ok (.getfield 47, 3) := by decide +kernel
theorem dX8_day_13 : decode cX8_day 13 = .ok (.getfield 222, 3) := by decide +kernel
theorem dX8_day_16 : decode cX8_day 16 = .ok (.istore_n 2, 1) := by decide +kernel
theorem dX8_day_17 : decode cX8_day 17 = .ok (.aload_n 0, 1) := by decide +kernel
theorem dX8_day_18 : decode cX8_day 18 = .ok (.getfield 47, 3) := by decide +kernel
theorem dX8_day_21 : decode cX8_day 21 = .ok (.iload_n 1, 1) := by decide +kernel
theorem dX8_day_22 : decode cX8_day 22 = .ok (.putfield 222, 3) := by decide +kernel
theorem dX8_day_25 : decode cX8_day 25 = .ok (.iload_n 2, 1) := by decide +kernel
theorem dX8_day_26 : decode cX8_day 26 = .ok (.ireturn, 1) := by decide +kernel
theorem dX8_gives_0 : decode cX8_gives 0 = .ok (.aload_n 0, 1) := by decide +kernel
theorem dX8_gives_1 : decode cX8_gives 1 = .ok (.iload_n 1, 1) := by decide +kernel
theorem dX8_gives_2 : decode cX8_gives 2 = .ok (.iload_n 2, 1) := by decide +kernel
theorem dX8_gives_3 : decode cX8_gives 3 = .ok (.invokevirtual 139, 3) := by decide +kernel
theorem dX8_gives_6 : decode cX8_gives 6 = .ok (.istore_n 3, 1) := by decide +kernel
theorem dX8_gives_7 : decode cX8_gives 7 = .ok (.iload_n 3, 1) := by decide +kernel
theorem dX8_gives_8 : decode cX8_gives 8 = .ok (.ifCond .eq 7, 3) := by decide +kernel
theorem dX8_gives_11 : decode cX8_gives 11 = .ok (.iload_n 3, 1) := by decide +kernel
theorem dX8_gives_12 : decode cX8_gives 12 = .ok (.goto 12, 3) := by decide +kernel
theorem dX8_gives_15 : decode cX8_gives 15 = .ok (.aload_n 0, 1) := by decide +kernel
theorem dX8_gives_16 : decode cX8_gives 16 = .ok (.getfield 47, 3) := by decide +kernel
theorem dX8_gives_19 : decode cX8_gives 19 = .ok (.iload_n 1, 1) := by decide +kernel
theorem dX8_gives_20 : decode cX8_gives 20 = .ok (.iload_n 2, 1) := by decide +kernel
theorem dX8_gives_21 : decode cX8_gives 21 = .ok (.invokevirtual 225, 3) := by decide +kernel
theorem dX8_gives_24 : decode cX8_gives 24 = .ok (.ireturn, 1) := by decide +kernel
theorem dX8_more_0 : decode cX8_more 0 = .ok (.aload_n 0, 1) := by decide +kernel
theorem dX8_more_1 : decode cX8_more 1 = .ok (.getfield 69, 3) := by decide +kernel
theorem dX8_more_4 : decode cX8_more 4 = .ok (.iload_n 1, 1) := by decide +kernel
theorem dX8_more_5 : decode cX8_more 5 = .ok (.invokevirtual 106, 3) := by decide +kernel
theorem dX8_more_8 : decode cX8_more 8 = .ok (.ifCond .ne 5, 3) := by decide +kernel
theorem dX8_more_11 : decode cX8_more 11 = .ok (.iconst (-1), 1) := by decide +kernel
theorem dX8_more_12 : decode cX8_more 12 = .ok (.ireturn, 1) := by decide +kernel
theorem dX8_more_13 : decode cX8_more 13 = .ok (.iload_n 2, 1) := by decide +kernel
theorem dX8_more_14 : decode cX8_more 14 = .ok (.ifCond .lt 9, 3) := by decide +kernel
theorem dX8_more_17 : decode cX8_more 17 = .ok (.iload_n 2, 1) := by decide +kernel
theorem dX8_more_18 : decode cX8_more 18 = .ok (.bipush 63, 2) := by decide +kernel
theorem dX8_more_20 : decode cX8_more 20 = .ok (.if_icmp .le 8, 3) := by decide +kernel
theorem dX8_more_23 : decode cX8_more 23 = .ok (.bipush (-2), 2) := by decide +kernel
theorem dX8_more_25 : decode cX8_more 25 = .ok (.goto 12, 3) := by decide +kernel
theorem dX8_more_28 : decode cX8_more 28 = .ok (.aload_n 0, 1) := by decide +kernel
theorem dX8_more_29 : decode cX8_more 29 = .ok (.getfield 47, 3) := by decide +kernel
theorem dX8_more_32 : decode cX8_more 32 = .ok (.iload_n 1, 1) := by decide +kernel
theorem dX8_more_33 : decode cX8_more 33 = .ok (.iload_n 2, 1) := by decide +kernel
theorem dX8_more_34 : decode cX8_more 34 = .ok (.invokevirtual 228, 3) := by decide +kernel
theorem dX8_more_37 : decode cX8_more 37 = .ok (.ireturn, 1) := by decide +kernel
theorem dX8_van_0 : decode cX8_van 0 = .ok (.iload_n 1, 1) := by decide +kernel
theorem dX8_van_1 : decode cX8_van 1 = .ok (.invokestatic 161, 3) := by decide +kernel
theorem dX8_van_4 : decode cX8_van 4 = .ok (.ifCond .eq 11, 3) := by decide +kernel
theorem dX8_van_7 : decode cX8_van 7 = .ok (.iload_n 2, 1) := by decide +kernel
theorem dX8_van_8 : decode cX8_van 8 = .ok (.iload_n 3, 1) := by decide +kernel
theorem dX8_van_9 : decode cX8_van 9 = .ok (.invokestatic 231, 3) := by decide +kernel
theorem dX8_van_12 : decode cX8_van 12 = .ok (.ifCond .ne 6, 3) := by decide +kernel
theorem dX8_van_15 : decode cX8_van 15 = .ok (.bipush (-2), 2) := by decide +kernel
theorem dX8_van_17 : decode cX8_van 17 = .ok (.ireturn, 1) := by decide +kernel
theorem dX8_van_18 : decode cX8_van 18 = .ok (.aload_n 0, 1) := by decide +kernel
theorem dX8_van_19 : decode cX8_van 19 = .ok (.getfield 47, 3) := by decide +kernel
theorem dX8_van_22 : decode cX8_van 22 = .ok (.getfield 234, 3) := by decide +kernel
theorem dX8_van_25 : decode cX8_van 25 = .ok (.istore 4, 2) := by decide +kernel
theorem dX8_van_27 : decode cX8_van 27 = .ok (.aload_n 0, 1) := by decide +kernel
theorem dX8_van_28 : decode cX8_van 28 = .ok (.getfield 47, 3) := by decide +kernel
theorem dX8_van_31 : decode cX8_van 31 = .ok (.iload_n 1, 1) := by decide +kernel
theorem dX8_van_32 : decode cX8_van 32 = .ok (.putfield 234, 3) := by decide +kernel
theorem dX8_van_35 : decode cX8_van 35 = .ok (.aload_n 0, 1) := by decide +kernel
theorem dX8_van_36 : decode cX8_van 36 = .ok (.getfield 47, 3) := by decide +kernel
theorem dX8_van_39 : decode cX8_van 39 = .ok (.iload_n 2, 1) := by decide +kernel
theorem dX8_van_40 : decode cX8_van 40 = .ok (.putfield 237, 3) := by decide +kernel
theorem dX8_van_43 : decode cX8_van 43 = .ok (.aload_n 0, 1) := by decide +kernel
theorem dX8_van_44 : decode cX8_van 44 = .ok (.getfield 47, 3) := by decide +kernel
theorem dX8_van_47 : decode cX8_van 47 = .ok (.iload_n 3, 1) := by decide +kernel
theorem dX8_van_48 : decode cX8_van 48 = .ok (.putfield 240, 3) := by decide +kernel
theorem dX8_van_51 : decode cX8_van 51 = .ok (.iload 4, 2) := by decide +kernel
theorem dX8_van_53 : decode cX8_van 53 = .ok (.ireturn, 1) := by decide +kernel
theorem dX8_order_0 : decode cX8_order 0 = .ok (.iload_n 1, 1) := by decide +kernel
theorem dX8_order_1 : decode cX8_order 1 = .ok (.invokestatic 243, 3) := by decide +kernel
theorem dX8_order_4 : decode cX8_order 4 = .ok (.ifCond .eq 14, 3) := by decide +kernel
theorem dX8_order_7 : decode cX8_order 7 = .ok (.aload_n 0, 1) := by decide +kernel
theorem dX8_order_8 : decode cX8_order 8 = .ok (.getfield 69, 3) := by decide +kernel
theorem dX8_order_11 : decode cX8_order 11 = .ok (.iload_n 2, 1) := by decide +kernel
theorem dX8_order_12 : decode cX8_order 12 = .ok (.invokevirtual 106, 3) := by decide +kernel
theorem dX8_order_15 : decode cX8_order 15 = .ok (.ifCond .ne 5, 3) := by decide +kernel
theorem dX8_order_18 : decode cX8_order 18 = .ok (.iconst (-1), 1) := by decide +kernel
theorem dX8_order_19 : decode cX8_order 19 = .ok (.ireturn, 1) := by decide +kernel
theorem dX8_order_20 : decode cX8_order 20 = .ok (.iload_n 3, 1) := by decide +kernel
theorem dX8_order_21 : decode cX8_order 21 = .ok (.iconst 1, 1) := by decide +kernel
theorem dX8_order_22 : decode cX8_order 22 = .ok (.if_icmp .lt 9, 3) := by decide +kernel
theorem dX8_order_25 : decode cX8_order 25 = .ok (.iload_n 3, 1) := by decide +kernel
theorem dX8_order_26 : decode cX8_order 26 = .ok (.bipush 20, 2) := by decide +kernel
theorem dX8_order_28 : decode cX8_order 28 = .ok (.if_icmp .le 6, 3) := by decide +kernel
theorem dX8_order_31 : decode cX8_order 31 = .ok (.bipush (-2), 2) := by decide +kernel
theorem dX8_order_33 : decode cX8_order 33 = .ok (.ireturn, 1) := by decide +kernel
theorem dX8_order_34 : decode cX8_order 34 = .ok (.aload_n 0, 1) := by decide +kernel
theorem dX8_order_35 : decode cX8_order 35 = .ok (.getfield 47, 3) := by decide +kernel
theorem dX8_order_38 : decode cX8_order 38 = .ok (.iload_n 1, 1) := by decide +kernel
theorem dX8_order_39 : decode cX8_order 39 = .ok (.iload_n 2, 1) := by decide +kernel
theorem dX8_order_40 : decode cX8_order 40 = .ok (.iload_n 3, 1) := by decide +kernel
theorem dX8_order_41 : decode cX8_order 41 = .ok (.invokevirtual 246, 3) := by decide +kernel
theorem dX8_order_44 : decode cX8_order 44 = .ok (.ifCond .eq 15, 3) := by decide +kernel
theorem dX8_order_47 : decode cX8_order 47 = .ok (.aload_n 0, 1) := by decide +kernel
theorem dX8_order_48 : decode cX8_order 48 = .ok (.getfield 47, 3) := by decide +kernel
theorem dX8_order_51 : decode cX8_order 51 = .ok (.getfield 250, 3) := by decide +kernel
theorem dX8_order_54 : decode cX8_order 54 = .ok (.iconst 1, 1) := by decide +kernel
theorem dX8_order_55 : decode cX8_order 55 = .ok (.isub, 1) := by decide +kernel
theorem dX8_order_56 : decode cX8_order 56 = .ok (.goto 5, 3) := by decide +kernel
theorem dX8_order_59 : decode cX8_order 59 = .ok (.bipush (-4), 2) := by decide +kernel
theorem dX8_order_61 : decode cX8_order 61 = .ok (.ireturn, 1) := by decide +kernel
theorem dX8_unorder_0 : decode cX8_unorder 0 = .ok (.aload_n 0, 1) := by decide +kernel
theorem dX8_unorder_1 : decode cX8_unorder 1 = .ok (.getfield 47, 3) := by decide +kernel
theorem dX8_unorder_4 : decode cX8_unorder 4 = .ok (.getfield 250, 3) := by decide +kernel
theorem dX8_unorder_7 : decode cX8_unorder 7 = .ok (.istore_n 1, 1) := by decide +kernel
theorem dX8_unorder_8 : decode cX8_unorder 8 = .ok (.aload_n 0, 1) := by decide +kernel
theorem dX8_unorder_9 : decode cX8_unorder 9 = .ok (.getfield 47, 3) := by decide +kernel
theorem dX8_unorder_12 : decode cX8_unorder 12 = .ok (.iconst 0, 1) := by decide +kernel
theorem dX8_unorder_13 : decode cX8_unorder 13 = .ok (.putfield 250, 3) := by decide +kernel
theorem dX8_unorder_16 : decode cX8_unorder 16 = .ok (.iload_n 1, 1) := by decide +kernel
theorem dX8_unorder_17 : decode cX8_unorder 17 = .ok (.ireturn, 1) := by decide +kernel
theorem dX8_morning_0 : decode cX8_morning 0 = .ok (.aload_n 0, 1) := by decide +kernel
theorem dX8_morning_1 : decode cX8_morning 1 = .ok (.getfield 69, 3) := by decide +kernel
theorem dX8_morning_4 : decode cX8_morning 4 = .ok (.iload_n 1, 1) := by decide +kernel
theorem dX8_morning_5 : decode cX8_morning 5 = .ok (.invokevirtual 106, 3) := by decide +kernel
theorem dX8_morning_8 : decode cX8_morning 8 = .ok (.ifCond .eq 10, 3) := by decide +kernel
theorem dX8_morning_11 : decode cX8_morning 11 = .ok (.iload_n 2, 1) := by decide +kernel
theorem dX8_morning_12 : decode cX8_morning 12 = .ok (.invokestatic 243, 3) := by decide +kernel
theorem dX8_morning_15 : decode cX8_morning 15 = .ok (.ifCond .ne 5, 3) := by decide +kernel
theorem dX8_morning_18 : decode cX8_morning 18 = .ok (.iconst (-1), 1) := by decide +kernel
theorem dX8_morning_19 : decode cX8_morning 19 = .ok (.ireturn, 1) := by decide +kernel
theorem dX8_morning_20 : decode cX8_morning 20 = .ok (.iload_n 3, 1) := by decide +kernel
theorem dX8_morning_21 : decode cX8_morning 21 = .ok (.ifCond .lt 8, 3) := by decide +kernel
theorem dX8_morning_24 : decode cX8_morning 24 = .ok (.iload_n 3, 1) := by decide +kernel
theorem dX8_morning_25 : decode cX8_morning 25 = .ok (.iconst 3, 1) := by decide +kernel
theorem dX8_morning_26 : decode cX8_morning 26 = .ok (.if_icmp .le 6, 3) := by decide +kernel
theorem dX8_morning_29 : decode cX8_morning 29 = .ok (.bipush (-2), 2) := by decide +kernel
theorem dX8_morning_31 : decode cX8_morning 31 = .ok (.ireturn, 1) := by decide +kernel
theorem dX8_morning_32 : decode cX8_morning 32 = .ok (.aload_n 0, 1) := by decide +kernel
theorem dX8_morning_33 : decode cX8_morning 33 = .ok (.getfield 54, 3) := by decide +kernel
theorem dX8_morning_36 : decode cX8_morning 36 = .ok (.aload_n 0, 1) := by decide +kernel
theorem dX8_morning_37 : decode cX8_morning 37 = .ok (.getfield 69, 3) := by decide +kernel
theorem dX8_morning_40 : decode cX8_morning 40 = .ok (.aload_n 0, 1) := by decide +kernel
theorem dX8_morning_41 : decode cX8_morning 41 = .ok (.getfield 47, 3) := by decide +kernel
theorem dX8_morning_44 : decode cX8_morning 44 = .ok (.invokevirtual 253, 3) := by decide +kernel
theorem dX8_morning_47 : decode cX8_morning 47 = .ok (.aload_n 0, 1) := by decide +kernel
theorem dX8_morning_48 : decode cX8_morning 48 = .ok (.getfield 54, 3) := by decide +kernel
theorem dX8_morning_51 : decode cX8_morning 51 = .ok (.iload_n 1, 1) := by decide +kernel
theorem dX8_morning_52 : decode cX8_morning 52 = .ok (.iload_n 2, 1) := by decide +kernel
theorem dX8_morning_53 : decode cX8_morning 53 = .ok (.iload_n 3, 1) := by decide +kernel
theorem dX8_morning_54 : decode cX8_morning 54 = .ok (.invokevirtual 257, 3) := by decide +kernel
theorem dX8_morning_57 : decode cX8_morning 57 = .ok (.ireturn, 1) := by decide +kernel
theorem dX8_ended_0 : decode cX8_ended 0 = .ok (.iload_n 1, 1) := by decide +kernel
theorem dX8_ended_1 : decode cX8_ended 1 = .ok (.ifCond .lt 8, 3) := by decide +kernel
theorem dX8_ended_4 : decode cX8_ended 4 = .ok (.iload_n 1, 1) := by decide +kernel
theorem dX8_ended_5 : decode cX8_ended 5 = .ok (.iconst 4, 1) := by decide +kernel
theorem dX8_ended_6 : decode cX8_ended 6 = .ok (.if_icmp .le 6, 3) := by decide +kernel
theorem dX8_ended_9 : decode cX8_ended 9 = .ok (.bipush (-2), 2) := by decide +kernel
theorem dX8_ended_11 : decode cX8_ended 11 = .ok (.ireturn, 1) := by decide +kernel
theorem dX8_ended_12 : decode cX8_ended 12 = .ok (.aload_n 0, 1) := by decide +kernel
theorem dX8_ended_13 : decode cX8_ended 13 = .ok (.getfield 54, 3) := by decide +kernel
theorem dX8_ended_16 : decode cX8_ended 16 = .ok (.aload_n 0, 1) := by decide +kernel
theorem dX8_ended_17 : decode cX8_ended 17 = .ok (.getfield 69, 3) := by decide +kernel
theorem dX8_ended_20 : decode cX8_ended 20 = .ok (.aload_n 0, 1) := by decide +kernel
theorem dX8_ended_21 : decode cX8_ended 21 = .ok (.getfield 47, 3) := by decide +kernel
theorem dX8_ended_24 : decode cX8_ended 24 = .ok (.invokevirtual 253, 3) := by decide +kernel
theorem dX8_ended_27 : decode cX8_ended 27 = .ok (.iload_n 1, 1) := by decide +kernel
theorem dX8_ended_28 : decode cX8_ended 28 = .ok (.tableswitch 64 0 3 #[32, 40, 48, 56], 32) := by decide +kernel
theorem dX8_ended_60 : decode cX8_ended 60 = .ok (.aload_n 0, 1) := by decide +kernel
theorem dX8_ended_61 : decode cX8_ended 61 = .ok (.getfield 54, 3) := by decide +kernel
theorem dX8_ended_64 : decode cX8_ended 64 = .ok (.invokevirtual 260, 3) := by decide +kernel
theorem dX8_ended_67 : decode cX8_ended 67 = .ok (.ireturn, 1) := by decide +kernel
theorem dX8_ended_68 : decode cX8_ended 68 = .ok (.aload_n 0, 1) := by decide +kernel
theorem dX8_ended_69 : decode cX8_ended 69 = .ok (.getfield 54, 3) := by decide +kernel
theorem dX8_ended_72 : decode cX8_ended 72 = .ok (.invokevirtual 263, 3) := by decide +kernel
theorem dX8_ended_75 : decode cX8_ended 75 = .ok (.ireturn, 1) := by decide +kernel
theorem dX8_ended_76 : decode cX8_ended 76 = .ok (.aload_n 0, 1) := by decide +kernel
theorem dX8_ended_77 : decode cX8_ended 77 = .ok (.getfield 54, 3) := by decide +kernel
theorem dX8_ended_80 : decode cX8_ended 80 = .ok (.invokevirtual 266, 3) := by decide +kernel
theorem dX8_ended_83 : decode cX8_ended 83 = .ok (.ireturn, 1) := by decide +kernel
theorem dX8_ended_84 : decode cX8_ended 84 = .ok (.aload_n 0, 1) := by decide +kernel
theorem dX8_ended_85 : decode cX8_ended 85 = .ok (.getfield 54, 3) := by decide +kernel
theorem dX8_ended_88 : decode cX8_ended 88 = .ok (.invokevirtual 269, 3) := by decide +kernel
theorem dX8_ended_91 : decode cX8_ended 91 = .ok (.ireturn, 1) := by decide +kernel
theorem dX8_ended_92 : decode cX8_ended 92 = .ok (.aload_n 0, 1) := by decide +kernel
theorem dX8_ended_93 : decode cX8_ended 93 = .ok (.getfield 54, 3) := by decide +kernel
theorem dX8_ended_96 : decode cX8_ended 96 = .ok (.aload_n 0, 1) := by decide +kernel
theorem dX8_ended_97 : decode cX8_ended 97 = .ok (.getfield 69, 3) := by decide +kernel
theorem dX8_ended_100 : decode cX8_ended 100 = .ok (.aload_n 0, 1) := by decide +kernel
theorem dX8_ended_101 : decode cX8_ended 101 = .ok (.getfield 47, 3) := by decide +kernel
theorem dX8_ended_104 : decode cX8_ended 104 = .ok (.invokevirtual 272, 3) := by decide +kernel
theorem dX8_ended_107 : decode cX8_ended 107 = .ok (.ldc_w 276, 3) := by decide +kernel
theorem dX8_ended_110 : decode cX8_ended 110 = .ok (.iadd, 1) := by decide +kernel
theorem dX8_ended_111 : decode cX8_ended 111 = .ok (.ireturn, 1) := by decide +kernel
theorem dX8_ranOut_0 : decode cX8_ranOut 0 = .ok (.aload_n 0, 1) := by decide +kernel
theorem dX8_ranOut_1 : decode cX8_ranOut 1 = .ok (.getfield 69, 3) := by decide +kernel
theorem dX8_ranOut_4 : decode cX8_ranOut 4 = .ok (.iload_n 1, 1) := by decide +kernel
theorem dX8_ranOut_5 : decode cX8_ranOut 5 = .ok (.invokevirtual 106, 3) := by decide +kernel
theorem dX8_ranOut_8 : decode cX8_ranOut 8 = .ok (.ifCond .ne 5, 3) := by decide +kernel
theorem dX8_ranOut_11 : decode cX8_ranOut 11 = .ok (.iconst (-1), 1) := by decide +kernel
theorem dX8_ranOut_12 : decode cX8_ranOut 12 = .ok (.ireturn, 1) := by decide +kernel
theorem dX8_ranOut_13 : decode cX8_ranOut 13 = .ok (.aload_n 0, 1) := by decide +kernel
theorem dX8_ranOut_14 : decode cX8_ranOut 14 = .ok (.getfield 54, 3) := by decide +kernel
theorem dX8_ranOut_17 : decode cX8_ranOut 17 = .ok (.aload_n 0, 1) := by decide +kernel
theorem dX8_ranOut_18 : decode cX8_ranOut 18 = .ok (.getfield 69, 3) := by decide +kernel
theorem dX8_ranOut_21 : decode cX8_ranOut 21 = .ok (.aload_n 0, 1) := by decide +kernel
theorem dX8_ranOut_22 : decode cX8_ranOut 22 = .ok (.getfield 47, 3) := by decide +kernel
theorem dX8_ranOut_25 : decode cX8_ranOut 25 = .ok (.invokevirtual 253, 3) := by decide +kernel
theorem dX8_ranOut_28 : decode cX8_ranOut 28 = .ok (.aload_n 0, 1) := by decide +kernel
theorem dX8_ranOut_29 : decode cX8_ranOut 29 = .ok (.getfield 54, 3) := by decide +kernel
theorem dX8_ranOut_32 : decode cX8_ranOut 32 = .ok (.iload_n 1, 1) := by decide +kernel
theorem dX8_ranOut_33 : decode cX8_ranOut 33 = .ok (.invokevirtual 277, 3) := by decide +kernel
theorem dX8_ranOut_36 : decode cX8_ranOut 36 = .ok (.ireturn, 1) := by decide +kernel
theorem dX8_habit_0 : decode cX8_habit 0 = .ok (.aload_n 0, 1) := by decide +kernel
theorem dX8_habit_1 : decode cX8_habit 1 = .ok (.getfield 69, 3) := by decide +kernel
theorem dX8_habit_4 : decode cX8_habit 4 = .ok (.iload_n 1, 1) := by decide +kernel
theorem dX8_habit_5 : decode cX8_habit 5 = .ok (.invokevirtual 106, 3) := by decide +kernel
theorem dX8_habit_8 : decode cX8_habit 8 = .ok (.ifCond .eq 14, 3) := by decide +kernel
theorem dX8_habit_11 : decode cX8_habit 11 = .ok (.aload_n 0, 1) := by decide +kernel
theorem dX8_habit_12 : decode cX8_habit 12 = .ok (.getfield 47, 3) := by decide +kernel
theorem dX8_habit_15 : decode cX8_habit 15 = .ok (.iload_n 1, 1) := by decide +kernel
theorem dX8_habit_16 : decode cX8_habit 16 = .ok (.invokevirtual 280, 3) := by decide +kernel
theorem dX8_habit_19 : decode cX8_habit 19 = .ok (.goto 4, 3) := by decide +kernel
theorem dX8_habit_22 : decode cX8_habit 22 = .ok (.iconst (-1), 1) := by decide +kernel
theorem dX8_habit_23 : decode cX8_habit 23 = .ok (.ireturn, 1) := by decide +kernel
theorem dX8_days_0 : decode cX8_days 0 = .ok (.iload_n 1, 1) := by decide +kernel
theorem dX8_days_1 : decode cX8_days 1 = .ok (.iconst 1, 1) := by decide +kernel
theorem dX8_days_2 : decode cX8_days 2 = .ok (.if_icmp .lt 9, 3) := by decide +kernel
theorem dX8_days_5 : decode cX8_days 5 = .ok (.iload_n 1, 1) := by decide +kernel
theorem dX8_days_6 : decode cX8_days 6 = .ok (.bipush 30, 2) := by decide +kernel
theorem dX8_days_8 : decode cX8_days 8 = .ok (.if_icmp .le 6, 3) := by decide +kernel
theorem dX8_days_11 : decode cX8_days 11 = .ok (.bipush (-2), 2) := by decide +kernel
theorem dX8_days_13 : decode cX8_days 13 = .ok (.ireturn, 1) := by decide +kernel
theorem dX8_days_14 : decode cX8_days 14 = .ok (.iconst 0, 1) := by decide +kernel
theorem dX8_days_15 : decode cX8_days 15 = .ok (.istore_n 2, 1) := by decide +kernel
theorem dX8_days_16 : decode cX8_days 16 = .ok (.iconst 0, 1) := by decide +kernel
theorem dX8_days_17 : decode cX8_days 17 = .ok (.istore_n 3, 1) := by decide +kernel
theorem dX8_days_18 : decode cX8_days 18 = .ok (.iload_n 3, 1) := by decide +kernel
theorem dX8_days_19 : decode cX8_days 19 = .ok (.iload_n 1, 1) := by decide +kernel
theorem dX8_days_20 : decode cX8_days 20 = .ok (.if_icmp .ge 14, 3) := by decide +kernel
theorem dX8_days_23 : decode cX8_days 23 = .ok (.aload_n 0, 1) := by decide +kernel
theorem dX8_days_24 : decode cX8_days 24 = .ok (.invokevirtual 283, 3) := by decide +kernel
theorem dX8_days_27 : decode cX8_days 27 = .ok (.istore_n 2, 1) := by decide +kernel
theorem dX8_days_28 : decode cX8_days 28 = .ok (.iinc 3 1, 3) := by decide +kernel
theorem dX8_days_31 : decode cX8_days 31 = .ok (.goto (-13), 3) := by decide +kernel
theorem dX8_days_34 : decode cX8_days 34 = .ok (.iload_n 2, 1) := by decide +kernel
theorem dX8_days_35 : decode cX8_days 35 = .ok (.ireturn, 1) := by decide +kernel
theorem dX8_second_0 : decode cX8_second 0 = .ok (.aload_n 0, 1) := by decide +kernel
theorem dX8_second_1 : decode cX8_second 1 = .ok (.getfield 69, 3) := by decide +kernel
theorem dX8_second_4 : decode cX8_second 4 = .ok (.iload_n 1, 1) := by decide +kernel
theorem dX8_second_5 : decode cX8_second 5 = .ok (.invokevirtual 106, 3) := by decide +kernel
theorem dX8_second_8 : decode cX8_second 8 = .ok (.ifCond .eq 10, 3) := by decide +kernel
theorem dX8_second_11 : decode cX8_second 11 = .ok (.iload_n 2, 1) := by decide +kernel
theorem dX8_second_12 : decode cX8_second 12 = .ok (.invokestatic 243, 3) := by decide +kernel
theorem dX8_second_15 : decode cX8_second 15 = .ok (.ifCond .ne 5, 3) := by decide +kernel
theorem dX8_second_18 : decode cX8_second 18 = .ok (.iconst (-1), 1) := by decide +kernel
theorem dX8_second_19 : decode cX8_second 19 = .ok (.ireturn, 1) := by decide +kernel
theorem dX8_second_20 : decode cX8_second 20 = .ok (.iload_n 3, 1) := by decide +kernel
theorem dX8_second_21 : decode cX8_second 21 = .ok (.iconst 1, 1) := by decide +kernel
theorem dX8_second_22 : decode cX8_second 22 = .ok (.if_icmp .lt 21, 3) := by decide +kernel
theorem dX8_second_25 : decode cX8_second 25 = .ok (.iload_n 3, 1) := by decide +kernel
theorem dX8_second_26 : decode cX8_second 26 = .ok (.bipush 60, 2) := by decide +kernel
theorem dX8_second_28 : decode cX8_second 28 = .ok (.if_icmp .gt 15, 3) := by decide +kernel
theorem dX8_second_31 : decode cX8_second 31 = .ok (.iload 4, 2) := by decide +kernel
theorem dX8_second_33 : decode cX8_second 33 = .ok (.ifCond .lt 10, 3) := by decide +kernel
theorem dX8_second_36 : decode cX8_second 36 = .ok (.iload 4, 2) := by decide +kernel
theorem dX8_second_38 : decode cX8_second 38 = .ok (.bipush 20, 2) := by decide +kernel
theorem dX8_second_40 : decode cX8_second 40 = .ok (.if_icmp .le 6, 3) := by decide +kernel
theorem dX8_second_43 : decode cX8_second 43 = .ok (.bipush (-2), 2) := by decide +kernel
theorem dX8_second_45 : decode cX8_second 45 = .ok (.ireturn, 1) := by decide +kernel
theorem dX8_second_46 : decode cX8_second 46 = .ok (.aload_n 0, 1) := by decide +kernel
theorem dX8_second_47 : decode cX8_second 47 = .ok (.getfield 54, 3) := by decide +kernel
theorem dX8_second_50 : decode cX8_second 50 = .ok (.aload_n 0, 1) := by decide +kernel
theorem dX8_second_51 : decode cX8_second 51 = .ok (.getfield 69, 3) := by decide +kernel
theorem dX8_second_54 : decode cX8_second 54 = .ok (.aload_n 0, 1) := by decide +kernel
theorem dX8_second_55 : decode cX8_second 55 = .ok (.getfield 47, 3) := by decide +kernel
theorem dX8_second_58 : decode cX8_second 58 = .ok (.invokevirtual 253, 3) := by decide +kernel
theorem dX8_second_61 : decode cX8_second 61 = .ok (.aload_n 0, 1) := by decide +kernel
theorem dX8_second_62 : decode cX8_second 62 = .ok (.getfield 54, 3) := by decide +kernel
theorem dX8_second_65 : decode cX8_second 65 = .ok (.invokevirtual 260, 3) := by decide +kernel
theorem dX8_second_68 : decode cX8_second 68 = .ok (.istore 5, 2) := by decide +kernel
theorem dX8_second_70 : decode cX8_second 70 = .ok (.aload_n 0, 1) := by decide +kernel
theorem dX8_second_71 : decode cX8_second 71 = .ok (.getfield 54, 3) := by decide +kernel
theorem dX8_second_74 : decode cX8_second 74 = .ok (.invokevirtual 263, 3) := by decide +kernel
theorem dX8_second_77 : decode cX8_second 77 = .ok (.aload_n 0, 1) := by decide +kernel
theorem dX8_second_78 : decode cX8_second 78 = .ok (.getfield 54, 3) := by decide +kernel
theorem dX8_second_81 : decode cX8_second 81 = .ok (.invokevirtual 266, 3) := by decide +kernel
theorem dX8_second_84 : decode cX8_second 84 = .ok (.iadd, 1) := by decide +kernel
theorem dX8_second_85 : decode cX8_second 85 = .ok (.istore 6, 2) := by decide +kernel
theorem dX8_second_87 : decode cX8_second 87 = .ok (.aload_n 0, 1) := by decide +kernel
theorem dX8_second_88 : decode cX8_second 88 = .ok (.getfield 54, 3) := by decide +kernel
theorem dX8_second_91 : decode cX8_second 91 = .ok (.aload_n 0, 1) := by decide +kernel
theorem dX8_second_92 : decode cX8_second 92 = .ok (.getfield 69, 3) := by decide +kernel
theorem dX8_second_95 : decode cX8_second 95 = .ok (.aload_n 0, 1) := by decide +kernel
theorem dX8_second_96 : decode cX8_second 96 = .ok (.getfield 47, 3) := by decide +kernel
theorem dX8_second_99 : decode cX8_second 99 = .ok (.iload_n 1, 1) := by decide +kernel
theorem dX8_second_100 : decode cX8_second 100 = .ok (.iload_n 2, 1) := by decide +kernel
theorem dX8_second_101 : decode cX8_second 101 = .ok (.iload_n 3, 1) := by decide +kernel
theorem dX8_second_102 : decode cX8_second 102 = .ok (.invokevirtual 286, 3) := by decide +kernel
theorem dX8_second_105 : decode cX8_second 105 = .ok (.aload_n 0, 1) := by decide +kernel
theorem dX8_second_106 : decode cX8_second 106 = .ok (.getfield 54, 3) := by decide +kernel
theorem dX8_second_109 : decode cX8_second 109 = .ok (.invokevirtual 260, 3) := by decide +kernel
theorem dX8_second_112 : decode cX8_second 112 = .ok (.iload 5, 2) := by decide +kernel
theorem dX8_second_114 : decode cX8_second 114 = .ok (.isub, 1) := by decide +kernel
theorem dX8_second_115 : decode cX8_second 115 = .ok (.istore 7, 2) := by decide +kernel
theorem dX8_second_117 : decode cX8_second 117 = .ok (.aload_n 0, 1) := by decide +kernel
theorem dX8_second_118 : decode cX8_second 118 = .ok (.getfield 54, 3) := by decide +kernel
theorem dX8_second_121 : decode cX8_second 121 = .ok (.invokevirtual 263, 3) := by decide +kernel
theorem dX8_second_124 : decode cX8_second 124 = .ok (.aload_n 0, 1) := by decide +kernel
theorem dX8_second_125 : decode cX8_second 125 = .ok (.getfield 54, 3) := by decide +kernel
theorem dX8_second_128 : decode cX8_second 128 = .ok (.invokevirtual 266, 3) := by decide +kernel
theorem dX8_second_131 : decode cX8_second 131 = .ok (.iadd, 1) := by decide +kernel
theorem dX8_second_132 : decode cX8_second 132 = .ok (.iload 6, 2) := by decide +kernel
theorem dX8_second_134 : decode cX8_second 134 = .ok (.isub, 1) := by decide +kernel
theorem dX8_second_135 : decode cX8_second 135 = .ok (.istore 8, 2) := by decide +kernel
theorem dX8_second_137 : decode cX8_second 137 = .ok (.iload 7, 2) := by decide +kernel
theorem dX8_second_139 : decode cX8_second 139 = .ok (.aload_n 0, 1) := by decide +kernel
theorem dX8_second_140 : decode cX8_second 140 = .ok (.getfield 69, 3) := by decide +kernel
theorem dX8_second_143 : decode cX8_second 143 = .ok (.getfield 130, 3) := by decide +kernel
theorem dX8_second_146 : decode cX8_second 146 = .ok (.imul, 1) := by decide +kernel
theorem dX8_second_147 : decode cX8_second 147 = .ok (.iload 8, 2) := by decide +kernel
theorem dX8_second_149 : decode cX8_second 149 = .ok (.aload_n 0, 1) := by decide +kernel
theorem dX8_second_150 : decode cX8_second 150 = .ok (.getfield 69, 3) := by decide +kernel
theorem dX8_second_153 : decode cX8_second 153 = .ok (.getfield 133, 3) := by decide +kernel
theorem dX8_second_156 : decode cX8_second 156 = .ok (.imul, 1) := by decide +kernel
theorem dX8_second_157 : decode cX8_second 157 = .ok (.iadd, 1) := by decide +kernel
theorem dX8_second_158 : decode cX8_second 158 = .ok (.iload_n 3, 1) := by decide +kernel
theorem dX8_second_159 : decode cX8_second 159 = .ok (.aload_n 0, 1) := by decide +kernel
theorem dX8_second_160 : decode cX8_second 160 = .ok (.getfield 69, 3) := by decide +kernel
theorem dX8_second_163 : decode cX8_second 163 = .ok (.getfield 127, 3) := by decide +kernel
theorem dX8_second_166 : decode cX8_second 166 = .ok (.iload 4, 2) := by decide +kernel
theorem dX8_second_168 : decode cX8_second 168 = .ok (.iadd, 1) := by decide +kernel
theorem dX8_second_169 : decode cX8_second 169 = .ok (.imul, 1) := by decide +kernel
theorem dX8_second_170 : decode cX8_second 170 = .ok (.isub, 1) := by decide +kernel
theorem dX8_second_171 : decode cX8_second 171 = .ok (.istore 9, 2) := by decide +kernel
theorem dX8_second_173 : decode cX8_second 173 = .ok (.iload 9, 2) := by decide +kernel
theorem dX8_second_175 : decode cX8_second 175 = .ok (.ldc_w 276, 3) := by decide +kernel
theorem dX8_second_178 : decode cX8_second 178 = .ok (.iadd, 1) := by decide +kernel
theorem dX8_second_179 : decode cX8_second 179 = .ok (.ireturn, 1) := by decide +kernel
theorem dX8_paid_0 : decode cX8_paid 0 = .ok (.aload_n 0, 1) := by decide +kernel
theorem dX8_paid_1 : decode cX8_paid 1 = .ok (.getfield 69, 3) := by decide +kernel
theorem dX8_paid_4 : decode cX8_paid 4 = .ok (.iload_n 1, 1) := by decide +kernel
theorem dX8_paid_5 : decode cX8_paid 5 = .ok (.invokevirtual 106, 3) := by decide +kernel
theorem dX8_paid_8 : decode cX8_paid 8 = .ok (.ifCond .ne 5, 3) := by decide +kernel
theorem dX8_paid_11 : decode cX8_paid 11 = .ok (.iconst (-1), 1) := by decide +kernel
theorem dX8_paid_12 : decode cX8_paid 12 = .ok (.ireturn, 1) := by decide +kernel
theorem dX8_paid_13 : decode cX8_paid 13 = .ok (.iload_n 2, 1) := by decide +kernel
theorem dX8_paid_14 : decode cX8_paid 14 = .ok (.ifCond .lt 16, 3) := by decide +kernel
theorem dX8_paid_17 : decode cX8_paid 17 = .ok (.iload_n 2, 1) := by decide +kernel
theorem dX8_paid_18 : decode cX8_paid 18 = .ok (.bipush 20, 2) := by decide +kernel
theorem dX8_paid_20 : decode cX8_paid 20 = .ok (.if_icmp .gt 10, 3) := by decide +kernel
theorem dX8_paid_23 : decode cX8_paid 23 = .ok (.iload_n 3, 1) := by decide +kernel
theorem dX8_paid_24 : decode cX8_paid 24 = .ok (.invokestatic 290, 3) := by decide +kernel
theorem dX8_paid_27 : decode cX8_paid 27 = .ok (.ifCond .ne 6, 3) := by decide +kernel
theorem dX8_paid_30 : decode cX8_paid 30 = .ok (.bipush (-2), 2) := by decide +kernel
theorem dX8_paid_32 : decode cX8_paid 32 = .ok (.ireturn, 1) := by decide +kernel
theorem dX8_paid_33 : decode cX8_paid 33 = .ok (.iload_n 2, 1) := by decide +kernel
theorem dX8_paid_34 : decode cX8_paid 34 = .ok (.aload_n 0, 1) := by decide +kernel
theorem dX8_paid_35 : decode cX8_paid 35 = .ok (.iload_n 1, 1) := by decide +kernel
theorem dX8_paid_36 : decode cX8_paid 36 = .ok (.iload_n 2, 1) := by decide +kernel
theorem dX8_paid_37 : decode cX8_paid 37 = .ok (.iload_n 3, 1) := by decide +kernel
theorem dX8_paid_38 : decode cX8_paid 38 = .ok (.if_icmp .lt 7, 3) := by decide +kernel
theorem dX8_paid_41 : decode cX8_paid 41 = .ok (.iconst 1, 1) := by decide +kernel
theorem dX8_paid_42 : decode cX8_paid 42 = .ok (.goto 4, 3) := by decide +kernel
theorem dX8_paid_45 : decode cX8_paid 45 = .ok (.iconst 0, 1) := by decide +kernel
theorem dX8_paid_46 : decode cX8_paid 46 = .ok (.invokevirtual 293, 3) := by decide +kernel
theorem dX8_paid_49 : decode cX8_paid 49 = .ok (.imul, 1) := by decide +kernel
theorem dX8_paid_50 : decode cX8_paid 50 = .ok (.ireturn, 1) := by decide +kernel
theorem dX8_leastPay_0 : decode cX8_leastPay 0 = .ok (.aload_n 0, 1) := by decide +kernel
theorem dX8_leastPay_1 : decode cX8_leastPay 1 = .ok (.getfield 69, 3) := by decide +kernel
theorem dX8_leastPay_4 : decode cX8_leastPay 4 = .ok (.iload_n 1, 1) := by decide +kernel
theorem dX8_leastPay_5 : decode cX8_leastPay 5 = .ok (.invokevirtual 106, 3) := by decide +kernel
theorem dX8_leastPay_8 : decode cX8_leastPay 8 = .ok (.ifCond .ne 5, 3) := by decide +kernel
theorem dX8_leastPay_11 : decode cX8_leastPay 11 = .ok (.iconst (-1), 1) := by decide +kernel
theorem dX8_leastPay_12 : decode cX8_leastPay 12 = .ok (.ireturn, 1) := by decide +kernel
theorem dX8_leastPay_13 : decode cX8_leastPay 13 = .ok (.iload_n 2, 1) := by decide +kernel
theorem dX8_leastPay_14 : decode cX8_leastPay 14 = .ok (.invokestatic 290, 3) := by decide +kernel
theorem dX8_leastPay_17 : decode cX8_leastPay 17 = .ok (.ifCond .eq 14, 3) := by decide +kernel
theorem dX8_leastPay_20 : decode cX8_leastPay 20 = .ok (.iload_n 3, 1) := by decide +kernel
theorem dX8_leastPay_21 : decode cX8_leastPay 21 = .ok (.ifCond .lt 10, 3) := by decide +kernel
theorem dX8_leastPay_24 : decode cX8_leastPay 24 = .ok (.iload_n 3, 1) := by decide +kernel
theorem dX8_leastPay_25 : decode cX8_leastPay 25 = .ok (.sipush 999, 3) := by decide +kernel
theorem dX8_leastPay_28 : decode cX8_leastPay 28 = .ok (.if_icmp .le 6, 3) := by decide +kernel
theorem dX8_leastPay_31 : decode cX8_leastPay 31 = .ok (.bipush (-2), 2) := by decide +kernel
theorem dX8_leastPay_33 : decode cX8_leastPay 33 = .ok (.ireturn, 1) := by decide +kernel
theorem dX8_leastPay_34 : decode cX8_leastPay 34 = .ok (.aload_n 0, 1) := by decide +kernel
theorem dX8_leastPay_35 : decode cX8_leastPay 35 = .ok (.iload_n 1, 1) := by decide +kernel
theorem dX8_leastPay_36 : decode cX8_leastPay 36 = .ok (.iconst 0, 1) := by decide +kernel
theorem dX8_leastPay_37 : decode cX8_leastPay 37 = .ok (.invokevirtual 293, 3) := by decide +kernel
theorem dX8_leastPay_40 : decode cX8_leastPay 40 = .ok (.istore 4, 2) := by decide +kernel
theorem dX8_leastPay_42 : decode cX8_leastPay 42 = .ok (.aload_n 0, 1) := by decide +kernel
theorem dX8_leastPay_43 : decode cX8_leastPay 43 = .ok (.iload_n 1, 1) := by decide +kernel
theorem dX8_leastPay_44 : decode cX8_leastPay 44 = .ok (.iconst 1, 1) := by decide +kernel
theorem dX8_leastPay_45 : decode cX8_leastPay 45 = .ok (.invokevirtual 293, 3) := by decide +kernel
theorem dX8_leastPay_48 : decode cX8_leastPay 48 = .ok (.istore 5, 2) := by decide +kernel
theorem dX8_leastPay_50 : decode cX8_leastPay 50 = .ok (.iconst 0, 1) := by decide +kernel
theorem dX8_leastPay_51 : decode cX8_leastPay 51 = .ok (.istore 6, 2) := by decide +kernel
theorem dX8_leastPay_53 : decode cX8_leastPay 53 = .ok (.iload 6, 2) := by decide +kernel
theorem dX8_leastPay_55 : decode cX8_leastPay 55 = .ok (.bipush 20, 2) := by decide +kernel
theorem dX8_leastPay_57 : decode cX8_leastPay 57 = .ok (.if_icmp .gt 32, 3) := by decide +kernel
theorem dX8_leastPay_60 : decode cX8_leastPay 60 = .ok (.iload 6, 2) := by decide +kernel
theorem dX8_leastPay_62 : decode cX8_leastPay 62 = .ok (.iload 6, 2) := by decide +kernel
theorem dX8_leastPay_64 : decode cX8_leastPay 64 = .ok (.iload_n 2, 1) := by decide +kernel
theorem dX8_leastPay_65 : decode cX8_leastPay 65 = .ok (.if_icmp .lt 8, 3) := by decide +kernel
theorem dX8_leastPay_68 : decode cX8_leastPay 68 = .ok (.iload 5, 2) := by decide +kernel
theorem dX8_leastPay_70 : decode cX8_leastPay 70 = .ok (.goto 5, 3) := by decide +kernel
theorem dX8_leastPay_73 : decode cX8_leastPay 73 = .ok (.iload 4, 2) := by decide +kernel
theorem dX8_leastPay_75 : decode cX8_leastPay 75 = .ok (.imul, 1) := by decide +kernel
theorem dX8_leastPay_76 : decode cX8_leastPay 76 = .ok (.iload_n 3, 1) := by decide +kernel
theorem dX8_leastPay_77 : decode cX8_leastPay 77 = .ok (.if_icmp .lt 6, 3) := by decide +kernel
theorem dX8_leastPay_80 : decode cX8_leastPay 80 = .ok (.iload 6, 2) := by decide +kernel
theorem dX8_leastPay_82 : decode cX8_leastPay 82 = .ok (.ireturn, 1) := by decide +kernel
theorem dX8_leastPay_83 : decode cX8_leastPay 83 = .ok (.iinc 6 1, 3) := by decide +kernel
theorem dX8_leastPay_86 : decode cX8_leastPay 86 = .ok (.goto (-33), 3) := by decide +kernel
theorem dX8_leastPay_89 : decode cX8_leastPay 89 = .ok (.bipush (-9), 2) := by decide +kernel
theorem dX8_leastPay_91 : decode cX8_leastPay 91 = .ok (.ireturn, 1) := by decide +kernel
theorem dX8_keep_0 : decode cX8_keep 0 = .ok (.iload_n 1, 1) := by decide +kernel
theorem dX8_keep_1 : decode cX8_keep 1 = .ok (.invokestatic 297, 3) := by decide +kernel
theorem dX8_keep_4 : decode cX8_keep 4 = .ok (.ifCond .ne 5, 3) := by decide +kernel
theorem dX8_keep_7 : decode cX8_keep 7 = .ok (.iconst (-1), 1) := by decide +kernel
theorem dX8_keep_8 : decode cX8_keep 8 = .ok (.ireturn, 1) := by decide +kernel
theorem dX8_keep_9 : decode cX8_keep 9 = .ok (.aload_n 0, 1) := by decide +kernel
theorem dX8_keep_10 : decode cX8_keep 10 = .ok (.getfield 58, 3) := by decide +kernel
theorem dX8_keep_13 : decode cX8_keep 13 = .ok (.iload_n 1, 1) := by decide +kernel
theorem dX8_keep_14 : decode cX8_keep 14 = .ok (.aaload, 1) := by decide +kernel
theorem dX8_keep_15 : decode cX8_keep 15 = .ok (.aload_n 0, 1) := by decide +kernel
theorem dX8_keep_16 : decode cX8_keep 16 = .ok (.getfield 47, 3) := by decide +kernel
theorem dX8_keep_19 : decode cX8_keep 19 = .ok (.invokevirtual 300, 3) := by decide +kernel
theorem dX8_keep_22 : decode cX8_keep 22 = .ok (.aload_n 0, 1) := by decide +kernel
theorem dX8_keep_23 : decode cX8_keep 23 = .ok (.getfield 62, 3) := by decide +kernel
theorem dX8_keep_26 : decode cX8_keep 26 = .ok (.iload_n 1, 1) := by decide +kernel
theorem dX8_keep_27 : decode cX8_keep 27 = .ok (.iconst 1, 1) := by decide +kernel
theorem dX8_keep_28 : decode cX8_keep 28 = .ok (.bastore, 1) := by decide +kernel
theorem dX8_keep_29 : decode cX8_keep 29 = .ok (.aload_n 0, 1) := by decide +kernel
theorem dX8_keep_30 : decode cX8_keep 30 = .ok (.getfield 47, 3) := by decide +kernel
theorem dX8_keep_33 : decode cX8_keep 33 = .ok (.invokevirtual 304, 3) := by decide +kernel
theorem dX8_keep_36 : decode cX8_keep 36 = .ok (.ireturn, 1) := by decide +kernel
theorem dX8_again_0 : decode cX8_again 0 = .ok (.iload_n 1, 1) := by decide +kernel
theorem dX8_again_1 : decode cX8_again 1 = .ok (.invokestatic 297, 3) := by decide +kernel
theorem dX8_again_4 : decode cX8_again 4 = .ok (.ifCond .ne 5, 3) := by decide +kernel
theorem dX8_again_7 : decode cX8_again 7 = .ok (.iconst (-1), 1) := by decide +kernel
theorem dX8_again_8 : decode cX8_again 8 = .ok (.ireturn, 1) := by decide +kernel
theorem dX8_again_9 : decode cX8_again 9 = .ok (.aload_n 0, 1) := by decide +kernel
theorem dX8_again_10 : decode cX8_again 10 = .ok (.getfield 62, 3) := by decide +kernel
theorem dX8_again_13 : decode cX8_again 13 = .ok (.iload_n 1, 1) := by decide +kernel
theorem dX8_again_14 : decode cX8_again 14 = .ok (.baload, 1) := by decide +kernel
theorem dX8_again_15 : decode cX8_again 15 = .ok (.ifCond .ne 6, 3) := by decide +kernel
theorem dX8_again_18 : decode cX8_again 18 = .ok (.bipush (-3), 2) := by decide +kernel
theorem dX8_again_20 : decode cX8_again 20 = .ok (.ireturn, 1) := by decide +kernel
theorem dX8_again_21 : decode cX8_again 21 = .ok (.aload_n 0, 1) := by decide +kernel
theorem dX8_again_22 : decode cX8_again 22 = .ok (.getfield 47, 3) := by decide +kernel
theorem dX8_again_25 : decode cX8_again 25 = .ok (.aload_n 0, 1) := by decide +kernel
theorem dX8_again_26 : decode cX8_again 26 = .ok (.getfield 58, 3) := by decide +kernel
theorem dX8_again_29 : decode cX8_again 29 = .ok (.iload_n 1, 1) := by decide +kernel
theorem dX8_again_30 : decode cX8_again 30 = .ok (.aaload, 1) := by decide +kernel
theorem dX8_again_31 : decode cX8_again 31 = .ok (.invokevirtual 300, 3) := by decide +kernel
theorem dX8_again_34 : decode cX8_again 34 = .ok (.aload_n 0, 1) := by decide +kernel
theorem dX8_again_35 : decode cX8_again 35 = .ok (.getfield 47, 3) := by decide +kernel
theorem dX8_again_38 : decode cX8_again 38 = .ok (.invokevirtual 304, 3) := by decide +kernel
theorem dX8_again_41 : decode cX8_again 41 = .ok (.ireturn, 1) := by decide +kernel
theorem dX8_count_0 : decode cX8_count 0 = .ok (.iload_n 1, 1) := by decide +kernel
theorem dX8_count_1 : decode cX8_count 1 = .ok (.tableswitch 63 0 3 #[31, 39, 47, 55], 31) := by decide +kernel
theorem dX8_count_32 : decode cX8_count 32 = .ok (.aload_n 0, 1) := by decide +kernel
theorem dX8_count_33 : decode cX8_count 33 = .ok (.getfield 12, 3) := by decide +kernel
theorem dX8_count_36 : decode cX8_count 36 = .ok (.invokevirtual 88, 3) := by decide +kernel
theorem dX8_count_39 : decode cX8_count 39 = .ok (.ireturn, 1) := by decide +kernel
theorem dX8_count_40 : decode cX8_count 40 = .ok (.aload_n 0, 1) := by decide +kernel
theorem dX8_count_41 : decode cX8_count 41 = .ok (.getfield 33, 3) := by decide +kernel
theorem dX8_count_44 : decode cX8_count 44 = .ok (.invokevirtual 184, 3) := by decide +kernel
theorem dX8_count_47 : decode cX8_count 47 = .ok (.ireturn, 1) := by decide +kernel
theorem dX8_count_48 : decode cX8_count 48 = .ok (.aload_n 0, 1) := by decide +kernel
theorem dX8_count_49 : decode cX8_count 49 = .ok (.getfield 47, 3) := by decide +kernel
theorem dX8_count_52 : decode cX8_count 52 = .ok (.getfield 250, 3) := by decide +kernel
theorem dX8_count_55 : decode cX8_count 55 = .ok (.ireturn, 1) := by decide +kernel
theorem dX8_count_56 : decode cX8_count 56 = .ok (.aload_n 0, 1) := by decide +kernel
theorem dX8_count_57 : decode cX8_count 57 = .ok (.getfield 47, 3) := by decide +kernel
theorem dX8_count_60 : decode cX8_count 60 = .ok (.invokevirtual 304, 3) := by decide +kernel
theorem dX8_count_63 : decode cX8_count 63 = .ok (.ireturn, 1) := by decide +kernel
theorem dX8_count_64 : decode cX8_count 64 = .ok (.bipush (-2), 2) := by decide +kernel
theorem dX8_count_66 : decode cX8_count 66 = .ok (.ireturn, 1) := by decide +kernel
theorem dX8_isRow_0 : decode cX8_isRow 0 = .ok (.iload_n 0, 1) := by decide +kernel
theorem dX8_isRow_1 : decode cX8_isRow 1 = .ok (.ifCond .lt 12, 3) := by decide +kernel
theorem dX8_isRow_4 : decode cX8_isRow 4 = .ok (.iload_n 0, 1) := by decide +kernel
theorem dX8_isRow_5 : decode cX8_isRow 5 = .ok (.iconst 3, 1) := by decide +kernel
theorem dX8_isRow_6 : decode cX8_isRow 6 = .ok (.if_icmp .ge 7, 3) := by decide +kernel
theorem dX8_isRow_9 : decode cX8_isRow 9 = .ok (.iconst 1, 1) := by decide +kernel
theorem dX8_isRow_10 : decode cX8_isRow 10 = .ok (.goto 4, 3) := by decide +kernel
theorem dX8_isRow_13 : decode cX8_isRow 13 = .ok (.iconst 0, 1) := by decide +kernel
theorem dX8_isRow_14 : decode cX8_isRow 14 = .ok (.ireturn, 1) := by decide +kernel
theorem dX8_isKind_0 : decode cX8_isKind 0 = .ok (.iload_n 0, 1) := by decide +kernel
theorem dX8_isKind_1 : decode cX8_isKind 1 = .ok (.ifCond .lt 12, 3) := by decide +kernel
theorem dX8_isKind_4 : decode cX8_isKind 4 = .ok (.iload_n 0, 1) := by decide +kernel
theorem dX8_isKind_5 : decode cX8_isKind 5 = .ok (.iconst 3, 1) := by decide +kernel
theorem dX8_isKind_6 : decode cX8_isKind 6 = .ok (.if_icmp .ge 7, 3) := by decide +kernel
theorem dX8_isKind_9 : decode cX8_isKind 9 = .ok (.iconst 1, 1) := by decide +kernel
theorem dX8_isKind_10 : decode cX8_isKind 10 = .ok (.goto 4, 3) := by decide +kernel
theorem dX8_isKind_13 : decode cX8_isKind 13 = .ok (.iconst 0, 1) := by decide +kernel
theorem dX8_isKind_14 : decode cX8_isKind 14 = .ok (.ireturn, 1) := by decide +kernel
theorem dX8_isHalfHour_0 : decode cX8_isHalfHour 0 = .ok (.iload_n 0, 1) := by decide +kernel
theorem dX8_isHalfHour_1 : decode cX8_isHalfHour 1 = .ok (.ifCond .lt 13, 3) := by decide +kernel
theorem dX8_isHalfHour_4 : decode cX8_isHalfHour 4 = .ok (.iload_n 0, 1) := by decide +kernel
theorem dX8_isHalfHour_5 : decode cX8_isHalfHour 5 = .ok (.bipush 6, 2) := by decide +kernel
theorem dX8_isHalfHour_7 : decode cX8_isHalfHour 7 = .ok (.if_icmp .ge 7, 3) := by decide +kernel
theorem dX8_isHalfHour_10 : decode cX8_isHalfHour 10 = .ok (.iconst 1, 1) := by decide +kernel
theorem dX8_isHalfHour_11 : decode cX8_isHalfHour 11 = .ok (.goto 4, 3) := by decide +kernel
theorem dX8_isHalfHour_14 : decode cX8_isHalfHour 14 = .ok (.iconst 0, 1) := by decide +kernel
theorem dX8_isHalfHour_15 : decode cX8_isHalfHour 15 = .ok (.ireturn, 1) := by decide +kernel
theorem dX8_isSlot_0 : decode cX8_isSlot 0 = .ok (.iload_n 0, 1) := by decide +kernel
theorem dX8_isSlot_1 : decode cX8_isSlot 1 = .ok (.ifCond .lt 12, 3) := by decide +kernel
theorem dX8_isSlot_4 : decode cX8_isSlot 4 = .ok (.iload_n 0, 1) := by decide +kernel
theorem dX8_isSlot_5 : decode cX8_isSlot 5 = .ok (.iconst 2, 1) := by decide +kernel
theorem dX8_isSlot_6 : decode cX8_isSlot 6 = .ok (.if_icmp .ge 7, 3) := by decide +kernel
theorem dX8_isSlot_9 : decode cX8_isSlot 9 = .ok (.iconst 1, 1) := by decide +kernel
theorem dX8_isSlot_10 : decode cX8_isSlot 10 = .ok (.goto 4, 3) := by decide +kernel
theorem dX8_isSlot_13 : decode cX8_isSlot 13 = .ok (.iconst 0, 1) := by decide +kernel
theorem dX8_isSlot_14 : decode cX8_isSlot 14 = .ok (.ireturn, 1) := by decide +kernel
theorem dX8_isPapers_0 : decode cX8_isPapers 0 = .ok (.iload_n 0, 1) := by decide +kernel
theorem dX8_isPapers_1 : decode cX8_isPapers 1 = .ok (.ifCond .lt 13, 3) := by decide +kernel
theorem dX8_isPapers_4 : decode cX8_isPapers 4 = .ok (.iload_n 0, 1) := by decide +kernel
theorem dX8_isPapers_5 : decode cX8_isPapers 5 = .ok (.bipush 60, 2) := by decide +kernel
theorem dX8_isPapers_7 : decode cX8_isPapers 7 = .ok (.if_icmp .gt 7, 3) := by decide +kernel
theorem dX8_isPapers_10 : decode cX8_isPapers 10 = .ok (.iconst 1, 1) := by decide +kernel
theorem dX8_isPapers_11 : decode cX8_isPapers 11 = .ok (.goto 4, 3) := by decide +kernel
theorem dX8_isPapers_14 : decode cX8_isPapers 14 = .ok (.iconst 0, 1) := by decide +kernel
theorem dX8_isPapers_15 : decode cX8_isPapers 15 = .ok (.ireturn, 1) := by decide +kernel
theorem dX8_isCryingPay_0 : decode cX8_isCryingPay 0 = .ok (.iload_n 0, 1) := by decide +kernel
theorem dX8_isCryingPay_1 : decode cX8_isCryingPay 1 = .ok (.ifCond .lt 13, 3) := by decide +kernel
theorem dX8_isCryingPay_4 : decode cX8_isCryingPay 4 = .ok (.iload_n 0, 1) := by decide +kernel
theorem dX8_isCryingPay_5 : decode cX8_isCryingPay 5 = .ok (.bipush 21, 2) := by decide +kernel
theorem dX8_isCryingPay_7 : decode cX8_isCryingPay 7 = .ok (.if_icmp .gt 7, 3) := by decide +kernel
theorem dX8_isCryingPay_10 : decode cX8_isCryingPay 10 = .ok (.iconst 1, 1) := by decide +kernel
theorem dX8_isCryingPay_11 : decode cX8_isCryingPay 11 = .ok (.goto 4, 3) := by decide +kernel
theorem dX8_isCryingPay_14 : decode cX8_isCryingPay 14 = .ok (.iconst 0, 1) := by decide +kernel
theorem dX8_isCryingPay_15 : decode cX8_isCryingPay 15 = .ok (.ireturn, 1) := by decide +kernel
theorem dX8_refusalOfPapers_0 : decode cX8_refusalOfPapers 0 = .ok (.aload_n 0, 1) := by decide +kernel
theorem dX8_refusalOfPapers_1 : decode cX8_refusalOfPapers 1 = .ok (.getfield 69, 3) := by decide +kernel
theorem dX8_refusalOfPapers_4 : decode cX8_refusalOfPapers 4 = .ok (.iload_n 1, 1) := by decide +kernel
theorem dX8_refusalOfPapers_5 : decode cX8_refusalOfPapers 5 = .ok (.invokevirtual 106, 3) := by decide +kernel
theorem dX8_refusalOfPapers_8 : decode cX8_refusalOfPapers 8 = .ok (.ifCond .ne 5, 3) := by decide +kernel
theorem dX8_refusalOfPapers_11 : decode cX8_refusalOfPapers 11 = .ok (.iconst (-1), 1) := by decide +kernel
theorem dX8_refusalOfPapers_12 : decode cX8_refusalOfPapers 12 = .ok (.ireturn, 1) := by decide +kernel
theorem dX8_refusalOfPapers_13 : decode cX8_refusalOfPapers 13 = .ok (.iload_n 2, 1) := by decide +kernel
theorem dX8_refusalOfPapers_14 : decode cX8_refusalOfPapers 14 = .ok (.invokestatic 161, 3) := by decide +kernel
theorem dX8_refusalOfPapers_17 : decode cX8_refusalOfPapers 17 = .ok (.ifCond .eq 7, 3) := by decide +kernel
theorem dX8_refusalOfPapers_20 : decode cX8_refusalOfPapers 20 = .ok (.iconst 0, 1) := by decide +kernel
theorem dX8_refusalOfPapers_21 : decode cX8_refusalOfPapers 21 = .ok (.goto 5, 3) := by decide +kernel
theorem dX8_refusalOfPapers_24 : decode cX8_refusalOfPapers 24 = .ok (.bipush (-2), 2) := by decide +kernel
theorem dX8_refusalOfPapers_26 : decode cX8_refusalOfPapers 26 = .ok (.ireturn, 1) := by decide +kernel
theorem dX8_refusalOfPlan_0 : decode cX8_refusalOfPlan 0 = .ok (.iload_n 1, 1) := by decide +kernel
theorem dX8_refusalOfPlan_1 : decode cX8_refusalOfPlan 1 = .ok (.ifCond .lt 38, 3) := by decide +kernel
theorem dX8_refusalOfPlan_4 : decode cX8_refusalOfPlan 4 = .ok (.aload_n 0, 1) := by decide +kernel
theorem dX8_refusalOfPlan_5 : decode cX8_refusalOfPlan 5 = .ok (.getfield 69, 3) := by decide +kernel
theorem dX8_refusalOfPlan_8 : decode cX8_refusalOfPlan 8 = .ok (.iload_n 1, 1) := by decide +kernel
theorem dX8_refusalOfPlan_9 : decode cX8_refusalOfPlan 9 = .ok (.bipush 10, 2) := by decide +kernel
theorem dX8_refusalOfPlan_11 : decode cX8_refusalOfPlan 11 = .ok (.idiv, 1) := by decide +kernel
theorem dX8_refusalOfPlan_12 : decode cX8_refusalOfPlan 12 = .ok (.invokevirtual 106, 3) := by decide +kernel
theorem dX8_refusalOfPlan_15 : decode cX8_refusalOfPlan 15 = .ok (.ifCond .eq 24, 3) := by decide +kernel
theorem dX8_refusalOfPlan_18 : decode cX8_refusalOfPlan 18 = .ok (.aload_n 0, 1) := by decide +kernel
theorem dX8_refusalOfPlan_19 : decode cX8_refusalOfPlan 19 = .ok (.getfield 69, 3) := by decide +kernel
theorem dX8_refusalOfPlan_22 : decode cX8_refusalOfPlan 22 = .ok (.iload_n 1, 1) := by decide +kernel
theorem dX8_refusalOfPlan_23 : decode cX8_refusalOfPlan 23 = .ok (.bipush 10, 2) := by decide +kernel
theorem dX8_refusalOfPlan_25 : decode cX8_refusalOfPlan 25 = .ok (.irem, 1) := by decide +kernel
theorem dX8_refusalOfPlan_26 : decode cX8_refusalOfPlan 26 = .ok (.invokevirtual 106, 3) := by decide +kernel
theorem dX8_refusalOfPlan_29 : decode cX8_refusalOfPlan 29 = .ok (.ifCond .eq 10, 3) := by decide +kernel
theorem dX8_refusalOfPlan_32 : decode cX8_refusalOfPlan 32 = .ok (.iload_n 2, 1) := by decide +kernel
theorem dX8_refusalOfPlan_33 : decode cX8_refusalOfPlan 33 = .ok (.invokestatic 109, 3) := by decide +kernel
theorem dX8_refusalOfPlan_36 : decode cX8_refusalOfPlan 36 = .ok (.ifCond .ne 5, 3) := by decide +kernel
theorem dX8_refusalOfPlan_39 : decode cX8_refusalOfPlan 39 = .ok (.iconst (-1), 1) := by decide +kernel
theorem dX8_refusalOfPlan_40 : decode cX8_refusalOfPlan 40 = .ok (.ireturn, 1) := by decide +kernel
theorem dX8_refusalOfPlan_41 : decode cX8_refusalOfPlan 41 = .ok (.iload_n 3, 1) := by decide +kernel
theorem dX8_refusalOfPlan_42 : decode cX8_refusalOfPlan 42 = .ok (.ifCond .lt 33, 3) := by decide +kernel
theorem dX8_refusalOfPlan_45 : decode cX8_refusalOfPlan 45 = .ok (.iload_n 3, 1) := by decide +kernel
theorem dX8_refusalOfPlan_46 : decode cX8_refusalOfPlan 46 = .ok (.bipush 100, 2) := by decide +kernel
theorem dX8_refusalOfPlan_48 : decode cX8_refusalOfPlan 48 = .ok (.idiv, 1) := by decide +kernel
theorem dX8_refusalOfPlan_49 : decode cX8_refusalOfPlan 49 = .ok (.iload_n 3, 1) := by decide +kernel
theorem dX8_refusalOfPlan_50 : decode cX8_refusalOfPlan 50 = .ok (.bipush 100, 2) := by decide +kernel
theorem dX8_refusalOfPlan_52 : decode cX8_refusalOfPlan 52 = .ok (.irem, 1) := by decide +kernel
theorem dX8_refusalOfPlan_53 : decode cX8_refusalOfPlan 53 = .ok (.iload 4, 2) := by decide +kernel
theorem dX8_refusalOfPlan_55 : decode cX8_refusalOfPlan 55 = .ok (.invokestatic 307, 3) := by decide +kernel
theorem dX8_refusalOfPlan_58 : decode cX8_refusalOfPlan 58 = .ok (.ifCond .eq 17, 3) := by decide +kernel
theorem dX8_refusalOfPlan_61 : decode cX8_refusalOfPlan 61 = .ok (.iload 5, 2) := by decide +kernel
theorem dX8_refusalOfPlan_63 : decode cX8_refusalOfPlan 63 = .ok (.iload 6, 2) := by decide +kernel
theorem dX8_refusalOfPlan_65 : decode cX8_refusalOfPlan 65 = .ok (.if_icmp .lt 10, 3) := by decide +kernel
theorem dX8_refusalOfPlan_68 : decode cX8_refusalOfPlan 68 = .ok (.iload 5, 2) := by decide +kernel
theorem dX8_refusalOfPlan_70 : decode cX8_refusalOfPlan 70 = .ok (.bipush 6, 2) := by decide +kernel
theorem dX8_refusalOfPlan_72 : decode cX8_refusalOfPlan 72 = .ok (.if_icmp .le 6, 3) := by decide +kernel
theorem dX8_refusalOfPlan_75 : decode cX8_refusalOfPlan 75 = .ok (.bipush (-2), 2) := by decide +kernel
theorem dX8_refusalOfPlan_77 : decode cX8_refusalOfPlan 77 = .ok (.ireturn, 1) := by decide +kernel
theorem dX8_refusalOfPlan_78 : decode cX8_refusalOfPlan 78 = .ok (.iload_n 1, 1) := by decide +kernel
theorem dX8_refusalOfPlan_79 : decode cX8_refusalOfPlan 79 = .ok (.bipush 10, 2) := by decide +kernel
theorem dX8_refusalOfPlan_81 : decode cX8_refusalOfPlan 81 = .ok (.idiv, 1) := by decide +kernel
theorem dX8_refusalOfPlan_82 : decode cX8_refusalOfPlan 82 = .ok (.iload_n 1, 1) := by decide +kernel
theorem dX8_refusalOfPlan_83 : decode cX8_refusalOfPlan 83 = .ok (.bipush 10, 2) := by decide +kernel
theorem dX8_refusalOfPlan_85 : decode cX8_refusalOfPlan 85 = .ok (.irem, 1) := by decide +kernel
theorem dX8_refusalOfPlan_86 : decode cX8_refusalOfPlan 86 = .ok (.if_icmp .ne 8, 3) := by decide +kernel
theorem dX8_refusalOfPlan_89 : decode cX8_refusalOfPlan 89 = .ok (.bipush (-3), 2) := by decide +kernel
theorem dX8_refusalOfPlan_91 : decode cX8_refusalOfPlan 91 = .ok (.goto 4, 3) := by decide +kernel
theorem dX8_refusalOfPlan_94 : decode cX8_refusalOfPlan 94 = .ok (.iconst 0, 1) := by decide +kernel
theorem dX8_refusalOfPlan_95 : decode cX8_refusalOfPlan 95 = .ok (.ireturn, 1) := by decide +kernel
theorem dX8_letDayGoBy_0 : decode cX8_letDayGoBy 0 = .ok (.aload_n 0, 1) := by decide +kernel
theorem dX8_letDayGoBy_1 : decode cX8_letDayGoBy 1 = .ok (.getfield 54, 3) := by decide +kernel
theorem dX8_letDayGoBy_4 : decode cX8_letDayGoBy 4 = .ok (.aload_n 0, 1) := by decide +kernel
theorem dX8_letDayGoBy_5 : decode cX8_letDayGoBy 5 = .ok (.getfield 69, 3) := by decide +kernel
theorem dX8_letDayGoBy_8 : decode cX8_letDayGoBy 8 = .ok (.aload_n 0, 1) := by decide +kernel
theorem dX8_letDayGoBy_9 : decode cX8_letDayGoBy 9 = .ok (.getfield 47, 3) := by decide +kernel
theorem dX8_letDayGoBy_12 : decode cX8_letDayGoBy 12 = .ok (.invokevirtual 253, 3) := by decide +kernel
theorem dX8_letDayGoBy_15 : decode cX8_letDayGoBy 15 = .ok (.iconst 0, 1) := by decide +kernel
theorem dX8_letDayGoBy_16 : decode cX8_letDayGoBy 16 = .ok (.istore_n 1, 1) := by decide +kernel
theorem dX8_letDayGoBy_17 : decode cX8_letDayGoBy 17 = .ok (.iconst 0, 1) := by decide +kernel
theorem dX8_letDayGoBy_18 : decode cX8_letDayGoBy 18 = .ok (.istore_n 2, 1) := by decide +kernel
theorem dX8_letDayGoBy_19 : decode cX8_letDayGoBy 19 = .ok (.iload_n 2, 1) := by decide +kernel
theorem dX8_letDayGoBy_20 : decode cX8_letDayGoBy 20 = .ok (.aload_n 0, 1) := by decide +kernel
theorem dX8_letDayGoBy_21 : decode cX8_letDayGoBy 21 = .ok (.getfield 69, 3) := by decide +kernel
theorem dX8_letDayGoBy_24 : decode cX8_letDayGoBy 24 = .ok (.getfield 119, 3) := by decide +kernel
theorem dX8_letDayGoBy_27 : decode cX8_letDayGoBy 27 = .ok (.if_icmp .ge 41, 3) := by decide +kernel
theorem dX8_letDayGoBy_30 : decode cX8_letDayGoBy 30 = .ok (.aload_n 0, 1) := by decide +kernel
theorem dX8_letDayGoBy_31 : decode cX8_letDayGoBy 31 = .ok (.getfield 47, 3) := by decide +kernel
theorem dX8_letDayGoBy_34 : decode cX8_letDayGoBy 34 = .ok (.iload_n 2, 1) := by decide +kernel
theorem dX8_letDayGoBy_35 : decode cX8_letDayGoBy 35 = .ok (.aload_n 0, 1) := by decide +kernel
theorem dX8_letDayGoBy_36 : decode cX8_letDayGoBy 36 = .ok (.getfield 54, 3) := by decide +kernel
theorem dX8_letDayGoBy_39 : decode cX8_letDayGoBy 39 = .ok (.iload_n 2, 1) := by decide +kernel
theorem dX8_letDayGoBy_40 : decode cX8_letDayGoBy 40 = .ok (.invokevirtual 277, 3) := by decide +kernel
theorem dX8_letDayGoBy_43 : decode cX8_letDayGoBy 43 = .ok (.bipush (-9), 2) := by decide +kernel
theorem dX8_letDayGoBy_45 : decode cX8_letDayGoBy 45 = .ok (.if_icmp .ne 7, 3) := by decide +kernel
theorem dX8_letDayGoBy_48 : decode cX8_letDayGoBy 48 = .ok (.iconst 1, 1) := by decide +kernel
theorem dX8_letDayGoBy_49 : decode cX8_letDayGoBy 49 = .ok (.goto 4, 3) := by decide +kernel
theorem dX8_letDayGoBy_52 : decode cX8_letDayGoBy 52 = .ok (.iconst 0, 1) := by decide +kernel
theorem dX8_letDayGoBy_53 : decode cX8_letDayGoBy 53 = .ok (.invokevirtual 310, 3) := by decide +kernel
theorem dX8_letDayGoBy_56 : decode cX8_letDayGoBy 56 = .ok (.ifCond .eq 6, 3) := by decide +kernel
theorem dX8_letDayGoBy_59 : decode cX8_letDayGoBy 59 = .ok (.iinc 1 1, 3) := by decide +kernel
theorem dX8_letDayGoBy_62 : decode cX8_letDayGoBy 62 = .ok (.iinc 2 1, 3) := by decide +kernel
theorem dX8_letDayGoBy_65 : decode cX8_letDayGoBy 65 = .ok (.goto (-46), 3) := by decide +kernel
theorem dX8_letDayGoBy_68 : decode cX8_letDayGoBy 68 = .ok (.iload_n 1, 1) := by decide +kernel
theorem dX8_letDayGoBy_69 : decode cX8_letDayGoBy 69 = .ok (.ireturn, 1) := by decide +kernel
theorem dX8_soldAt_0 : decode cX8_soldAt 0 = .ok (.iload_n 2, 1) := by decide +kernel
theorem dX8_soldAt_1 : decode cX8_soldAt 1 = .ok (.ifCond .eq 22, 3) := by decide +kernel
theorem dX8_soldAt_4 : decode cX8_soldAt 4 = .ok (.aload_n 0, 1) := by decide +kernel
theorem dX8_soldAt_5 : decode cX8_soldAt 5 = .ok (.getfield 54, 3) := by decide +kernel
theorem dX8_soldAt_8 : decode cX8_soldAt 8 = .ok (.aload_n 0, 1) := by decide +kernel
theorem dX8_soldAt_9 : decode cX8_soldAt 9 = .ok (.getfield 69, 3) := by decide +kernel
theorem dX8_soldAt_12 : decode cX8_soldAt 12 = .ok (.aload_n 0, 1) := by decide +kernel
theorem dX8_soldAt_13 : decode cX8_soldAt 13 = .ok (.getfield 47, 3) := by decide +kernel
theorem dX8_soldAt_16 : decode cX8_soldAt 16 = .ok (.iload_n 1, 1) := by decide +kernel
theorem dX8_soldAt_17 : decode cX8_soldAt 17 = .ok (.invokevirtual 314, 3) := by decide +kernel
theorem dX8_soldAt_20 : decode cX8_soldAt 20 = .ok (.goto 18, 3) := by decide +kernel
theorem dX8_soldAt_23 : decode cX8_soldAt 23 = .ok (.aload_n 0, 1) := by decide +kernel
theorem dX8_soldAt_24 : decode cX8_soldAt 24 = .ok (.getfield 54, 3) := by decide +kernel
theorem dX8_soldAt_27 : decode cX8_soldAt 27 = .ok (.aload_n 0, 1) := by decide +kernel
theorem dX8_soldAt_28 : decode cX8_soldAt 28 = .ok (.getfield 69, 3) := by decide +kernel
theorem dX8_soldAt_31 : decode cX8_soldAt 31 = .ok (.aload_n 0, 1) := by decide +kernel
theorem dX8_soldAt_32 : decode cX8_soldAt 32 = .ok (.getfield 47, 3) := by decide +kernel
theorem dX8_soldAt_35 : decode cX8_soldAt 35 = .ok (.invokevirtual 253, 3) := by decide +kernel
theorem dX8_soldAt_38 : decode cX8_soldAt 38 = .ok (.aload_n 0, 1) := by decide +kernel
theorem dX8_soldAt_39 : decode cX8_soldAt 39 = .ok (.getfield 54, 3) := by decide +kernel
theorem dX8_soldAt_42 : decode cX8_soldAt 42 = .ok (.iload_n 1, 1) := by decide +kernel
theorem dX8_soldAt_43 : decode cX8_soldAt 43 = .ok (.iconst 5, 1) := by decide +kernel
theorem dX8_soldAt_44 : decode cX8_soldAt 44 = .ok (.invokevirtual 318, 3) := by decide +kernel
theorem dX8_soldAt_47 : decode cX8_soldAt 47 = .ok (.ireturn, 1) := by decide +kernel
theorem dX8_fraction_0 : decode cX8_fraction 0 = .ok (.lload_n 0, 1) := by decide +kernel
theorem dX8_fraction_1 : decode cX8_fraction 1 = .ok (.lload_n 2, 1) := by decide +kernel
theorem dX8_fraction_2 : decode cX8_fraction 2 = .ok (.invokestatic 321, 3) := by decide +kernel
theorem dX8_fraction_5 : decode cX8_fraction 5 = .ok (.lstore 5, 2) := by decide +kernel
theorem dX8_fraction_7 : decode cX8_fraction 7 = .ok (.lload 5, 2) := by decide +kernel
theorem dX8_fraction_9 : decode cX8_fraction 9 = .ok (.lconst 0, 1) := by decide +kernel
theorem dX8_fraction_10 : decode cX8_fraction 10 = .ok (.lcmp, 1) := by decide +kernel
theorem dX8_fraction_11 : decode cX8_fraction 11 = .ok (.ifCond .ne 5, 3) := by decide +kernel
theorem dX8_fraction_14 : decode cX8_fraction 14 = .ok (.lconst 0, 1) := by decide +kernel
theorem dX8_fraction_15 : decode cX8_fraction 15 = .ok (.lreturn, 1) := by decide +kernel
theorem dX8_fraction_16 : decode cX8_fraction 16 = .ok (.iload 4, 2) := by decide +kernel
theorem dX8_fraction_18 : decode cX8_fraction 18 = .ok (.ifCond .eq 7, 3) := by decide +kernel
theorem dX8_fraction_21 : decode cX8_fraction 21 = .ok (.lload_n 0, 1) := by decide +kernel
theorem dX8_fraction_22 : decode cX8_fraction 22 = .ok (.goto 4, 3) := by decide +kernel
theorem dX8_fraction_25 : decode cX8_fraction 25 = .ok (.lload_n 2, 1) := by decide +kernel
theorem dX8_fraction_26 : decode cX8_fraction 26 = .ok (.lload 5, 2) := by decide +kernel
theorem dX8_fraction_28 : decode cX8_fraction 28 = .ok (.ldiv, 1) := by decide +kernel
theorem dX8_fraction_29 : decode cX8_fraction 29 = .ok (.lreturn, 1) := by decide +kernel
theorem dX8_commonDivisor_0 : decode cX8_commonDivisor 0 = .ok (.lload_n 0, 1) := by decide +kernel
theorem dX8_commonDivisor_1 : decode cX8_commonDivisor 1 = .ok (.invokestatic 325, 3) := by decide +kernel
theorem dX8_commonDivisor_4 : decode cX8_commonDivisor 4 = .ok (.lstore 4, 2) := by decide +kernel
theorem dX8_commonDivisor_6 : decode cX8_commonDivisor 6 = .ok (.lload_n 2, 1) := by decide +kernel
theorem dX8_commonDivisor_7 : decode cX8_commonDivisor 7 = .ok (.invokestatic 325, 3) := by decide +kernel
theorem dX8_commonDivisor_10 : decode cX8_commonDivisor 10 = .ok (.lstore 6, 2) := by decide +kernel
theorem dX8_commonDivisor_12 : decode cX8_commonDivisor 12 = .ok (.iconst 0, 1) := by decide +kernel
theorem dX8_commonDivisor_13 : decode cX8_commonDivisor 13 = .ok (.istore 8, 2) := by decide +kernel
theorem dX8_commonDivisor_15 : decode cX8_commonDivisor 15 = .ok (.iload 8, 2) := by decide +kernel
theorem dX8_commonDivisor_17 : decode cX8_commonDivisor 17 = .ok (.bipush 100, 2) := by decide +kernel
theorem dX8_commonDivisor_19 : decode cX8_commonDivisor 19 = .ok (.if_icmp .ge 31, 3) := by decide +kernel
theorem dX8_commonDivisor_22 : decode cX8_commonDivisor 22 = .ok (.lload 6, 2) := by decide +kernel
theorem dX8_commonDivisor_24 : decode cX8_commonDivisor 24 = .ok (.lconst 0, 1) := by decide +kernel
theorem dX8_commonDivisor_25 : decode cX8_commonDivisor 25 = .ok (.lcmp, 1) := by decide +kernel
theorem dX8_commonDivisor_26 : decode cX8_commonDivisor 26 = .ok (.ifCond .eq 24, 3) := by decide +kernel
theorem dX8_commonDivisor_29 : decode cX8_commonDivisor 29 = .ok (.lload 4, 2) := by decide +kernel
theorem dX8_commonDivisor_31 : decode cX8_commonDivisor 31 = .ok (.lload 6, 2) := by decide +kernel
theorem dX8_commonDivisor_33 : decode cX8_commonDivisor 33 = .ok (.lrem, 1) := by decide +kernel
theorem dX8_commonDivisor_34 : decode cX8_commonDivisor 34 = .ok (.lstore 9, 2) := by decide +kernel
theorem dX8_commonDivisor_36 : decode cX8_commonDivisor 36 = .ok (.lload 6, 2) := by decide +kernel
theorem dX8_commonDivisor_38 : decode cX8_commonDivisor 38 = .ok (.lstore 4, 2) := by decide +kernel
theorem dX8_commonDivisor_40 : decode cX8_commonDivisor 40 = .ok (.lload 9, 2) := by decide +kernel
theorem dX8_commonDivisor_42 : decode cX8_commonDivisor 42 = .ok (.lstore 6, 2) := by decide +kernel
theorem dX8_commonDivisor_44 : decode cX8_commonDivisor 44 = .ok (.iinc 8 1, 3) := by decide +kernel
theorem dX8_commonDivisor_47 : decode cX8_commonDivisor 47 = .ok (.goto (-32), 3) := by decide +kernel
theorem dX8_commonDivisor_50 : decode cX8_commonDivisor 50 = .ok (.lload 4, 2) := by decide +kernel
theorem dX8_commonDivisor_52 : decode cX8_commonDivisor 52 = .ok (.lreturn, 1) := by decide +kernel
theorem dX9_init_0 : decode cX9_init 0 = .ok (.aload_n 0, 1) := by decide +kernel
theorem dX9_init_1 : decode cX9_init 1 = .ok (.invokespecial 1, 3) := by decide +kernel
theorem dX9_init_4 : decode cX9_init 4 = .ok (.aload_n 0, 1) := by decide +kernel
theorem dX9_init_5 : decode cX9_init 5 = .ok (.bipush 28, 2) := by decide +kernel
theorem dX9_init_7 : decode cX9_init 7 = .ok (.newarray .int, 2) := by decide +kernel
theorem dX9_init_9 : decode cX9_init 9 = .ok (.putfield 7, 3) := by decide +kernel
theorem dX9_init_12 : decode cX9_init 12 = .ok (.aload_n 0, 1) := by decide +kernel
theorem dX9_init_13 : decode cX9_init 13 = .ok (.bipush 28, 2) := by decide +kernel
theorem dX9_init_15 : decode cX9_init 15 = .ok (.newarray .int, 2) := by decide +kernel
theorem dX9_init_17 : decode cX9_init 17 = .ok (.putfield 13, 3) := by decide +kernel
theorem dX9_init_20 : decode cX9_init 20 = .ok (.aload_n 0, 1) := by decide +kernel
theorem dX9_init_21 : decode cX9_init 21 = .ok (.bipush 28, 2) := by decide +kernel
theorem dX9_init_23 : decode cX9_init 23 = .ok (.newarray .boolean, 2) := by decide +kernel
theorem dX9_init_25 : decode cX9_init 25 = .ok (.putfield 16, 3) := by decide +kernel
theorem dX9_init_28 : decode cX9_init 28 = .ok (.aload_n 0, 1) := by decide +kernel
theorem dX9_init_29 : decode cX9_init 29 = .ok (.bipush 64, 2) := by decide +kernel
theorem dX9_init_31 : decode cX9_init 31 = .ok (.newarray .int, 2) := by decide +kernel
theorem dX9_init_33 : decode cX9_init 33 = .ok (.putfield 20, 3) := by decide +kernel
theorem dX9_init_36 : decode cX9_init 36 = .ok (.aload_n 0, 1) := by decide +kernel
theorem dX9_init_37 : decode cX9_init 37 = .ok (.iconst 3, 1) := by decide +kernel
theorem dX9_init_38 : decode cX9_init 38 = .ok (.newarray .int, 2) := by decide +kernel
theorem dX9_init_40 : decode cX9_init 40 = .ok (.putfield 23, 3) := by decide +kernel
theorem dX9_init_43 : decode cX9_init 43 = .ok (.aload_n 0, 1) := by decide +kernel
theorem dX9_init_44 : decode cX9_init 44 = .ok (.bipush 8, 2) := by decide +kernel
theorem dX9_init_46 : decode cX9_init 46 = .ok (.newarray .int, 2) := by decide +kernel
theorem dX9_init_48 : decode cX9_init 48 = .ok (.putfield 26, 3) := by decide +kernel
theorem dX9_init_51 : decode cX9_init 51 = .ok (.aload_n 0, 1) := by decide +kernel
theorem dX9_init_52 : decode cX9_init 52 = .ok (.bipush 8, 2) := by decide +kernel
theorem dX9_init_54 : decode cX9_init 54 = .ok (.newarray .int, 2) := by decide +kernel
theorem dX9_init_56 : decode cX9_init 56 = .ok (.putfield 29, 3) := by decide +kernel
theorem dX9_init_59 : decode cX9_init 59 = .ok (.aload_n 0, 1) := by decide +kernel
theorem dX9_init_60 : decode cX9_init 60 = .ok (.sipush 2197, 3) := by decide +kernel
theorem dX9_init_63 : decode cX9_init 63 = .ok (.newarray .long, 2) := by decide +kernel
theorem dX9_init_65 : decode cX9_init 65 = .ok (.putfield 32, 3) := by decide +kernel
theorem dX9_init_68 : decode cX9_init 68 = .ok (.aload_n 0, 1) := by decide +kernel
theorem dX9_init_69 : decode cX9_init 69 = .ok (.sipush 2197, 3) := by decide +kernel
theorem dX9_init_72 : decode cX9_init 72 = .ok (.newarray .long, 2) := by decide +kernel
theorem dX9_init_74 : decode cX9_init 74 = .ok (.putfield 36, 3) := by decide +kernel
theorem dX9_init_77 : decode cX9_init 77 = .ok (.aload_n 0, 1) := by decide +kernel
theorem dX9_init_78 : decode cX9_init 78 = .ok (.iconst 3, 1) := by decide +kernel
theorem dX9_init_79 : decode cX9_init 79 = .ok (.newarray .int, 2) := by decide +kernel
theorem dX9_init_81 : decode cX9_init 81 = .ok (.putfield 39, 3) := by decide +kernel
theorem dX9_init_84 : decode cX9_init 84 = .ok (.aload_n 0, 1) := by decide +kernel
theorem dX9_init_85 : decode cX9_init 85 = .ok (.iconst 3, 1) := by decide +kernel
theorem dX9_init_86 : decode cX9_init 86 = .ok (.newarray .int, 2) := by decide +kernel
theorem dX9_init_88 : decode cX9_init 88 = .ok (.putfield 42, 3) := by decide +kernel
theorem dX9_init_91 : decode cX9_init 91 = .ok (.aload_n 0, 1) := by decide +kernel
theorem dX9_init_92 : decode cX9_init 92 = .ok (.iconst 3, 1) := by decide +kernel
theorem dX9_init_93 : decode cX9_init 93 = .ok (.newarray .int, 2) := by decide +kernel
theorem dX9_init_95 : decode cX9_init 95 = .ok (.putfield 45, 3) := by decide +kernel
theorem dX9_init_98 : decode cX9_init 98 = .ok (.aload_n 0, 1) := by decide +kernel
theorem dX9_init_99 : decode cX9_init 99 = .ok (.bipush 6, 2) := by decide +kernel
theorem dX9_init_101 : decode cX9_init 101 = .ok (.newarray .int, 2) := by decide +kernel
theorem dX9_init_103 : decode cX9_init 103 = .ok (.putfield 48, 3) := by decide +kernel
theorem dX9_init_106 : decode cX9_init 106 = .ok (.aload_n 0, 1) := by decide +kernel
theorem dX9_init_107 : decode cX9_init 107 = .ok (.bipush 6, 2) := by decide +kernel
theorem dX9_init_109 : decode cX9_init 109 = .ok (.newarray .int, 2) := by decide +kernel
theorem dX9_init_111 : decode cX9_init 111 = .ok (.putfield 51, 3) := by decide +kernel
theorem dX9_init_114 : decode cX9_init 114 = .ok (.aload_n 0, 1) := by decide +kernel
theorem dX9_init_115 : decode cX9_init 115 = .ok (.bipush 6, 2) := by decide +kernel
theorem dX9_init_117 : decode cX9_init 117 = .ok (.newarray .int, 2) := by decide +kernel
theorem dX9_init_119 : decode cX9_init 119 = .ok (.putfield 54, 3) := by decide +kernel
theorem dX9_init_122 : decode cX9_init 122 = .ok (.aload_n 0, 1) := by decide +kernel
theorem dX9_init_123 : decode cX9_init 123 = .ok (.bipush 18, 2) := by decide +kernel
theorem dX9_init_125 : decode cX9_init 125 = .ok (.newarray .int, 2) := by decide +kernel
theorem dX9_init_127 : decode cX9_init 127 = .ok (.putfield 57, 3) := by decide +kernel
theorem dX9_init_130 : decode cX9_init 130 = .ok (.aload_n 0, 1) := by decide +kernel
theorem dX9_init_131 : decode cX9_init 131 = .ok (.bipush 18, 2) := by decide +kernel
theorem dX9_init_133 : decode cX9_init 133 = .ok (.newarray .int, 2) := by decide +kernel
theorem dX9_init_135 : decode cX9_init 135 = .ok (.putfield 60, 3) := by decide +kernel
theorem dX9_init_138 : decode cX9_init 138 = .ok (.aload_n 0, 1) := by decide +kernel
theorem dX9_init_139 : decode cX9_init 139 = .ok (.bipush 18, 2) := by decide +kernel
theorem dX9_init_141 : decode cX9_init 141 = .ok (.newarray .int, 2) := by decide +kernel
theorem dX9_init_143 : decode cX9_init 143 = .ok (.putfield 63, 3) := by decide +kernel
theorem dX9_init_146 : decode cX9_init 146 = .ok (.aload_n 0, 1) := by decide +kernel
theorem dX9_init_147 : decode cX9_init 147 = .ok (.bipush 18, 2) := by decide +kernel
theorem dX9_init_149 : decode cX9_init 149 = .ok (.newarray .int, 2) := by decide +kernel
theorem dX9_init_151 : decode cX9_init 151 = .ok (.putfield 66, 3) := by decide +kernel
theorem dX9_init_154 : decode cX9_init 154 = .ok (.aload_n 0, 1) := by decide +kernel
theorem dX9_init_155 : decode cX9_init 155 = .ok (.iconst 3, 1) := by decide +kernel
theorem dX9_init_156 : decode cX9_init 156 = .ok (.newarray .int, 2) := by decide +kernel
theorem dX9_init_158 : decode cX9_init 158 = .ok (.putfield 69, 3) := by decide +kernel
theorem dX9_init_161 : decode cX9_init 161 = .ok (.aload_n 0, 1) := by decide +kernel
theorem dX9_init_162 : decode cX9_init 162 = .ok (.iconst 3, 1) := by decide +kernel
theorem dX9_init_163 : decode cX9_init 163 = .ok (.newarray .int, 2) := by decide +kernel
theorem dX9_init_165 : decode cX9_init 165 = .ok (.putfield 72, 3) := by decide +kernel
theorem dX9_init_168 : decode cX9_init 168 = .ok (.aload_n 0, 1) := by decide +kernel
theorem dX9_init_169 : decode cX9_init 169 = .ok (.iconst 3, 1) := by decide +kernel
theorem dX9_init_170 : decode cX9_init 170 = .ok (.newarray .int, 2) := by decide +kernel
theorem dX9_init_172 : decode cX9_init 172 = .ok (.putfield 75, 3) := by decide +kernel
theorem dX9_init_175 : decode cX9_init 175 = .ok (.aload_n 0, 1) := by decide +kernel
theorem dX9_init_176 : decode cX9_init 176 = .ok (.iconst 2, 1) := by decide +kernel
theorem dX9_init_177 : decode cX9_init 177 = .ok (.newarray .boolean, 2) := by decide +kernel
theorem dX9_init_179 : decode cX9_init 179 = .ok (.putfield 78, 3) := by decide +kernel
theorem dX9_init_182 : decode cX9_init 182 = .ok (.aload_n 0, 1) := by decide +kernel
theorem dX9_init_183 : decode cX9_init 183 = .ok (.bipush 6, 2) := by decide +kernel
theorem dX9_init_185 : decode cX9_init 185 = .ok (.newarray .int, 2) := by decide +kernel
theorem dX9_init_187 : decode cX9_init 187 = .ok (.putfield 81, 3) := by decide +kernel
theorem dX9_init_190 : decode cX9_init 190 = .ok (.aload_n 0, 1) := by decide +kernel
theorem dX9_init_191 : decode cX9_init 191 = .ok (.bipush 6, 2) := by decide +kernel
theorem dX9_init_193 : decode cX9_init 193 = .ok (.newarray .int, 2) := by decide +kernel
theorem dX9_init_195 : decode cX9_init 195 = .ok (.putfield 84, 3) := by decide +kernel
theorem dX9_init_198 : decode cX9_init 198 = .ok (.aload_n 0, 1) := by decide +kernel
theorem dX9_init_199 : decode cX9_init 199 = .ok (.bipush 6, 2) := by decide +kernel
theorem dX9_init_201 : decode cX9_init 201 = .ok (.newarray .int, 2) := by decide +kernel
theorem dX9_init_203 : decode cX9_init 203 = .ok (.putfield 87, 3) := by decide +kernel
theorem dX9_init_206 : decode cX9_init 206 = .ok (.aload_n 0, 1) := by decide +kernel
theorem dX9_init_207 : decode cX9_init 207 = .ok (.bipush 10, 2) := by decide +kernel
theorem dX9_init_209 : decode cX9_init 209 = .ok (.newarray .int, 2) := by decide +kernel
theorem dX9_init_211 : decode cX9_init 211 = .ok (.putfield 90, 3) := by decide +kernel
theorem dX9_init_214 : decode cX9_init 214 = .ok (.aload_n 0, 1) := by decide +kernel
theorem dX9_init_215 : decode cX9_init 215 = .ok (.bipush 36, 2) := by decide +kernel
theorem dX9_init_217 : decode cX9_init 217 = .ok (.newarray .int, 2) := by decide +kernel
theorem dX9_init_219 : decode cX9_init 219 = .ok (.putfield 93, 3) := by decide +kernel
theorem dX9_init_222 : decode cX9_init 222 = .ok (.aload_n 0, 1) := by decide +kernel
theorem dX9_init_223 : decode cX9_init 223 = .ok (.invokevirtual 96, 3) := by decide +kernel
theorem dX9_init_226 : decode cX9_init 226 = .ok (.aload_n 0, 1) := by decide +kernel
theorem dX9_init_227 : decode cX9_init 227 = .ok (.getfield 7, 3) := by decide +kernel
theorem dX9_init_230 : decode cX9_init 230 = .ok (.iconst 0, 1) := by decide +kernel
theorem dX9_init_231 : decode cX9_init 231 = .ok (.iconst 1, 1) := by decide +kernel
theorem dX9_init_232 : decode cX9_init 232 = .ok (.iastore, 1) := by decide +kernel
theorem dX9_init_233 : decode cX9_init 233 = .ok (.aload_n 0, 1) := by decide +kernel
theorem dX9_init_234 : decode cX9_init 234 = .ok (.invokevirtual 99, 3) := by decide +kernel
theorem dX9_init_237 : decode cX9_init 237 = .ok (.return_, 1) := by decide +kernel
theorem dX9_in_0 : decode cX9_in 0 = .ok (.lload_n 0, 1) := by decide +kernel
theorem dX9_in_1 : decode cX9_in 1 = .ok (.lload_n 2, 1) := by decide +kernel
theorem dX9_in_2 : decode cX9_in 2 = .ok (.lcmp, 1) := by decide +kernel
theorem dX9_in_3 : decode cX9_in 3 = .ok (.ifCond .lt 14, 3) := by decide +kernel
theorem dX9_in_6 : decode cX9_in 6 = .ok (.lload_n 0, 1) := by decide +kernel
theorem dX9_in_7 : decode cX9_in 7 = .ok (.lload 4, 2) := by decide +kernel
theorem dX9_in_9 : decode cX9_in 9 = .ok (.lcmp, 1) := by decide +kernel
theorem dX9_in_10 : decode cX9_in 10 = .ok (.ifCond .gt 7, 3) := by decide +kernel
theorem dX9_in_13 : decode cX9_in 13 = .ok (.iconst 1, 1) := by decide +kernel
theorem dX9_in_14 : decode cX9_in 14 = .ok (.goto 4, 3) := by decide +kernel
theorem dX9_in_17 : decode cX9_in 17 = .ok (.iconst 0, 1) := by decide +kernel
theorem dX9_in_18 : decode cX9_in 18 = .ok (.ireturn, 1) := by decide +kernel
theorem dX9_blank_0 : decode cX9_blank 0 = .ok (.iconst 0, 1) := by decide +kernel
theorem dX9_blank_1 : decode cX9_blank 1 = .ok (.istore_n 1, 1) := by decide +kernel
theorem dX9_blank_2 : decode cX9_blank 2 = .ok (.iload_n 1, 1) := by decide +kernel
theorem dX9_blank_3 : decode cX9_blank 3 = .ok (.bipush 28, 2) := by decide +kernel
theorem dX9_blank_5 : decode cX9_blank 5 = .ok (.if_icmp .ge 92, 3) := by decide +kernel
theorem dX9_blank_8 : decode cX9_blank 8 = .ok (.aload_n 0, 1) := by decide +kernel
theorem dX9_blank_9 : decode cX9_blank 9 = .ok (.getfield 7, 3) := by decide +kernel
theorem dX9_blank_12 : decode cX9_blank 12 = .ok (.iload_n 1, 1) := by decide +kernel
theorem dX9_blank_13 : decode cX9_blank 13 = .ok (.iload_n 1, 1) := by decide +kernel
theorem dX9_blank_14 : decode cX9_blank 14 = .ok (.bipush 18, 2) := by decide +kernel
theorem dX9_blank_16 : decode cX9_blank 16 = .ok (.if_icmp .gt 9, 3) := by decide +kernel
theorem dX9_blank_19 : decode cX9_blank 19 = .ok (.iload_n 1, 1) := by decide +kernel
theorem dX9_blank_20 : decode cX9_blank 20 = .ok (.bipush 6, 2) := by decide +kernel
theorem dX9_blank_22 : decode cX9_blank 22 = .ok (.if_icmp .ne 7, 3) := by decide +kernel
theorem dX9_blank_25 : decode cX9_blank 25 = .ok (.iconst 5, 1) := by decide +kernel
theorem dX9_blank_26 : decode cX9_blank 26 = .ok (.goto 57, 3) := by decide +kernel
theorem dX9_blank_29 : decode cX9_blank 29 = .ok (.iload_n 1, 1) := by decide +kernel
theorem dX9_blank_30 : decode cX9_blank 30 = .ok (.bipush 9, 2) := by decide +kernel
theorem dX9_blank_32 : decode cX9_blank 32 = .ok (.if_icmp .gt 15, 3) := by decide +kernel
theorem dX9_blank_35 : decode cX9_blank 35 = .ok (.iload_n 1, 1) := by decide +kernel
theorem dX9_blank_36 : decode cX9_blank 36 = .ok (.i2l, 1) := by decide +kernel
theorem dX9_blank_37 : decode cX9_blank 37 = .ok (.lconst 1, 1) := by decide +kernel
theorem dX9_blank_38 : decode cX9_blank 38 = .ok (.ldc2_w 102, 3) := by decide +kernel
theorem dX9_blank_41 : decode cX9_blank 41 = .ok (.invokestatic 104, 3) := by decide +kernel
theorem dX9_blank_44 : decode cX9_blank 44 = .ok (.ifCond .eq 7, 3) := by decide +kernel
theorem dX9_blank_47 : decode cX9_blank 47 = .ok (.iconst 1, 1) := by decide +kernel
theorem dX9_blank_48 : decode cX9_blank 48 = .ok (.goto 35, 3) := by decide +kernel
theorem dX9_blank_51 : decode cX9_blank 51 = .ok (.iload_n 1, 1) := by decide +kernel
theorem dX9_blank_52 : decode cX9_blank 52 = .ok (.bipush 6, 2) := by decide +kernel
theorem dX9_blank_54 : decode cX9_blank 54 = .ok (.if_icmp .le 8, 3) := by decide +kernel
theorem dX9_blank_57 : decode cX9_blank 57 = .ok (.bipush (-9), 2) := by decide +kernel
theorem dX9_blank_59 : decode cX9_blank 59 = .ok (.goto 24, 3) := by decide +kernel
theorem dX9_blank_62 : decode cX9_blank 62 = .ok (.iload_n 1, 1) := by decide +kernel
theorem dX9_blank_63 : decode cX9_blank 63 = .ok (.iconst 4, 1) := by decide +kernel
theorem dX9_blank_64 : decode cX9_blank 64 = .ok (.if_icmp .ne 8, 3) := by decide +kernel
theorem dX9_blank_67 : decode cX9_blank 67 = .ok (.bipush 10, 2) := by decide +kernel
theorem dX9_blank_69 : decode cX9_blank 69 = .ok (.goto 14, 3) := by decide +kernel
theorem dX9_blank_72 : decode cX9_blank 72 = .ok (.iload_n 1, 1) := by decide +kernel
theorem dX9_blank_73 : decode cX9_blank 73 = .ok (.iconst 5, 1) := by decide +kernel
theorem dX9_blank_74 : decode cX9_blank 74 = .ok (.if_icmp .ne 8, 3) := by decide +kernel
theorem dX9_blank_77 : decode cX9_blank 77 = .ok (.bipush 20, 2) := by decide +kernel
theorem dX9_blank_79 : decode cX9_blank 79 = .ok (.goto 4, 3) := by decide +kernel
theorem dX9_blank_82 : decode cX9_blank 82 = .ok (.iconst 0, 1) := by decide +kernel
theorem dX9_blank_83 : decode cX9_blank 83 = .ok (.iastore, 1) := by decide +kernel
theorem dX9_blank_84 : decode cX9_blank 84 = .ok (.aload_n 0, 1) := by decide +kernel
theorem dX9_blank_85 : decode cX9_blank 85 = .ok (.getfield 16, 3) := by decide +kernel
theorem dX9_blank_88 : decode cX9_blank 88 = .ok (.iload_n 1, 1) := by decide +kernel
theorem dX9_blank_89 : decode cX9_blank 89 = .ok (.iconst 0, 1) := by decide +kernel
theorem dX9_blank_90 : decode cX9_blank 90 = .ok (.bastore, 1) := by decide +kernel
theorem dX9_blank_91 : decode cX9_blank 91 = .ok (.iinc 1 1, 3) := by decide +kernel
theorem dX9_blank_94 : decode cX9_blank 94 = .ok (.goto (-92), 3) := by decide +kernel
theorem dX9_blank_97 : decode cX9_blank 97 = .ok (.return_, 1) := by decide +kernel
theorem dX9_take_0 : decode cX9_take 0 = .ok (.iconst 0, 1) := by decide +kernel
theorem dX9_take_1 : decode cX9_take 1 = .ok (.istore_n 1, 1) := by decide +kernel
theorem dX9_take_2 : decode cX9_take 2 = .ok (.iload_n 1, 1) := by decide +kernel
theorem dX9_take_3 : decode cX9_take 3 = .ok (.bipush 28, 2) := by decide +kernel
theorem dX9_take_5 : decode cX9_take 5 = .ok (.if_icmp .ge 21, 3) := by decide +kernel
theorem dX9_take_8 : decode cX9_take 8 = .ok (.aload_n 0, 1) := by decide +kernel
theorem dX9_take_9 : decode cX9_take 9 = .ok (.getfield 13, 3) := by decide +kernel
theorem dX9_take_12 : decode cX9_take 12 = .ok (.iload_n 1, 1) := by decide +kernel
theorem dX9_take_13 : decode cX9_take 13 = .ok (.aload_n 0, 1) := by decide +kernel
theorem dX9_take_14 : decode cX9_take 14 = .ok (.getfield 7, 3) := by decide +kernel
theorem dX9_take_17 : decode cX9_take 17 = .ok (.iload_n 1, 1) := by decide +kernel
theorem dX9_take_18 : decode cX9_take 18 = .ok (.iaload, 1) := by decide +kernel
theorem dX9_take_19 : decode cX9_take 19 = .ok (.iastore, 1) := by decide +kernel
theorem dX9_take_20 : decode cX9_take 20 = .ok (.iinc 1 1, 3) := by decide +kernel
theorem dX9_take_23 : decode cX9_take 23 = .ok (.goto (-21), 3) := by decide +kernel
theorem dX9_take_26 : decode cX9_take 26 = .ok (.aload_n 0, 1) := by decide +kernel
theorem dX9_take_27 : decode cX9_take 27 = .ok (.iconst 0, 1) := by decide +kernel
theorem dX9_take_28 : decode cX9_take 28 = .ok (.putfield 108, 3) := by decide +kernel
theorem dX9_take_31 : decode cX9_take 31 = .ok (.aload_n 0, 1) := by decide +kernel
theorem dX9_take_32 : decode cX9_take 32 = .ok (.getfield 78, 3) := by decide +kernel
theorem dX9_take_35 : decode cX9_take 35 = .ok (.iconst 0, 1) := by decide +kernel
theorem dX9_take_36 : decode cX9_take 36 = .ok (.iconst 0, 1) := by decide +kernel
theorem dX9_take_37 : decode cX9_take 37 = .ok (.bastore, 1) := by decide +kernel
theorem dX9_take_38 : decode cX9_take 38 = .ok (.aload_n 0, 1) := by decide +kernel
theorem dX9_take_39 : decode cX9_take 39 = .ok (.getfield 78, 3) := by decide +kernel
theorem dX9_take_42 : decode cX9_take 42 = .ok (.iconst 1, 1) := by decide +kernel
theorem dX9_take_43 : decode cX9_take 43 = .ok (.iconst 0, 1) := by decide +kernel
