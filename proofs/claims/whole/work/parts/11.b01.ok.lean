theorem o48_0 : OkE cX3_go RX3 "go" 5 4 false (0, .aload 0, 1, []) := (r_aload_n dX3_go_0 rfl).row
theorem o48_1 : OkE cX3_go RX3 "go" 5 4 false (1, .aload 1, 2, []) := (r_aload_n dX3_go_1 rfl).row
theorem o48_2 : OkE cX3_go RX3 "go" 5 4 false (2, .invokeinterface 6 4, 5, []) := (r_getN (C := RX6) (T := TX6) (N := 8) (ci := 6) (j := 4) (ref := RX6) dX3_go_2 rfl inX6 (by decide) wd_308 rfl).row
theorem o48_5 : OkE cX3_go RX3 "go" 5 4 false (5, .multianewarray 3 6, 8, []) := r_putI (C := RX3) (T := TX3) (N := 13) (ci := 3) (j := 6) (ref := RX3) dX3_go_5 rfl inX3 tyX3 tyX3_ok nmX3 (by decide) wd_255 rfl rfl (tyX3_ok 6 (by decide)) rfl
theorem o48_8 : OkE cX3_go RX3 "go" 5 4 false (8, .aload 0, 9, []) := (r_aload_n dX3_go_8 rfl).row
theorem o48_9 : OkE cX3_go RX3 "go" 5 4 false (9, .aload 2, 10, []) := (r_aload_n dX3_go_9 rfl).row
theorem o48_10 : OkE cX3_go RX3 "go" 5 4 false (10, .invokeinterface 1 7, 13, []) := (r_getN (C := RX1) (T := TX1) (N := 11) (ci := 1) (j := 7) (ref := RX1) dX3_go_10 rfl inX1 (by decide) wd_209 rfl).row
theorem o48_13 : OkE cX3_go RX3 "go" 5 4 false (13, .multianewarray 3 7, 16, []) := r_putI (C := RX3) (T := TX3) (N := 13) (ci := 3) (j := 7) (ref := RX3) dX3_go_13 rfl inX3 tyX3 tyX3_ok nmX3 (by decide) wd_256 rfl rfl (tyX3_ok 7 (by decide)) rfl
theorem o48_16 : OkE cX3_go RX3 "go" 5 4 false (16, .aload 0, 17, []) := (r_aload_n dX3_go_16 rfl).row
theorem o48_17 : OkE cX3_go RX3 "go" 5 4 false (17, .iconst 0, 18, []) := (r_iconst dX3_go_17 rfl).row
theorem o48_18 : OkE cX3_go RX3 "go" 5 4 false (18, .multianewarray 3 8, 21, []) := r_putI (C := RX3) (T := TX3) (N := 13) (ci := 3) (j := 8) (ref := RX3) dX3_go_18 rfl inX3 tyX3 tyX3_ok nmX3 (by decide) wd_257 rfl rfl (tyX3_ok 8 (by decide)) rfl
theorem o48_21 : OkE cX3_go RX3 "go" 5 4 false (21, .iconst 0, 22, []) := (r_iconst dX3_go_21 rfl).row
theorem o48_22 : OkE cX3_go RX3 "go" 5 4 false (22, .istore 3, 23, []) := (r_istore_n dX3_go_22 rfl).row
theorem o48_23 : OkE cX3_go RX3 "go" 5 4 false (23, .iload 3, 24, []) := (r_iload_n dX3_go_23 rfl).row
theorem o48_24 : OkE cX3_go RX3 "go" 5 4 false (24, .aload 0, 25, []) := (r_aload_n dX3_go_24 rfl).row
theorem o48_25 : OkE cX3_go RX3 "go" 5 4 false (25, .invokeinterface 3 6, 28, []) := (r_get (C := RX3) (T := TX3) (N := 13) (ci := 3) (j := 6) (ref := RX3) dX3_go_25 rfl inX3 (by decide) wd_255 rfl).row
theorem o48_28 : OkE cX3_go RX3 "go" 5 4 false (28, .if_icmp .ge 60, 31, []) := (r_icmp_ge dX3_go_28 rfl).row
theorem o48_31 : OkE cX3_go RX3 "go" 5 4 false (31, .iload 3, 32, []) := (r_iload_n dX3_go_31 rfl).row
theorem o48_32 : OkE cX3_go RX3 "go" 5 4 false (32, .iconst 3, 33, []) := (r_iconst dX3_go_32 rfl).row
theorem o48_33 : OkE cX3_go RX3 "go" 5 4 false (33, .if_icmp .ge 60, 36, []) := (r_icmp_ge dX3_go_33 rfl).row
theorem o48_36 : OkE cX3_go RX3 "go" 5 4 false (36, .aload 0, 37, []) := (r_aload_n dX3_go_36 rfl).row
theorem o48_37 : OkE cX3_go RX3 "go" 5 4 false (37, .invokeinterface 3 4, 40, []) := (r_get (C := RX3) (T := TX3) (N := 13) (ci := 3) (j := 4) (ref := RX3) dX3_go_37 rfl inX3 (by decide) wd_253 rfl).row
theorem o48_40 : OkE cX3_go RX3 "go" 5 4 false (40, .iload 3, 41, []) := (r_iload_n dX3_go_40 rfl).row
theorem o48_41 : OkE cX3_go RX3 "go" 5 4 false (41, .aload 2, 42, []) := (r_aload_n dX3_go_41 rfl).row
theorem o48_42 : OkE cX3_go RX3 "go" 5 4 false (42, .iload 3, 43, []) := (r_iload_n dX3_go_42 rfl).row
theorem o48_43 : OkE cX3_go RX3 "go" 5 4 false (43, .invokevirtual 21, 46, []) := ⟨rfl, c_V dX3_go_43 wd_822 wd_775 wd_776 wd_70 wd_777 nmh_1⟩
theorem o48_46 : OkE cX3_go RX3 "go" 5 4 false (46, .iastore, 47, []) := r_iast dX3_go_46
theorem o48_47 : OkE cX3_go RX3 "go" 5 4 false (47, .aload 0, 48, []) := (r_aload_n dX3_go_47 rfl).row
theorem o48_48 : OkE cX3_go RX3 "go" 5 4 false (48, .invokeinterface 3 5, 51, []) := (r_get (C := RX3) (T := TX3) (N := 13) (ci := 3) (j := 5) (ref := RX3) dX3_go_48 rfl inX3 (by decide) wd_254 rfl).row
theorem o48_51 : OkE cX3_go RX3 "go" 5 4 false (51, .iload 3, 52, []) := (r_iload_n dX3_go_51 rfl).row
theorem o48_52 : OkE cX3_go RX3 "go" 5 4 false (52, .iconst 0, 53, []) := (r_iconst dX3_go_52 rfl).row
theorem o48_53 : OkE cX3_go RX3 "go" 5 4 false (53, .iastore, 54, []) := r_iast dX3_go_53
theorem o48_54 : OkE cX3_go RX3 "go" 5 4 false (54, .iinc 3 1, 57, []) := (r_iinc dX3_go_54 rfl).row
theorem o48_57 : OkE cX3_go RX3 "go" 5 4 false (57, .goto 23, 60, []) := (r_goto dX3_go_57 rfl).row
theorem o48_60 : OkE cX3_go RX3 "go" 5 4 false (60, .iconst 0, 61, [3]) := (r_iconst dX3_go_60 rfl).row
theorem o48_61 : OkE cX3_go RX3 "go" 5 4 false (61, .istore 3, 62, []) := (r_istore_n dX3_go_61 rfl).row
theorem o48_62 : OkE cX3_go RX3 "go" 5 4 false (62, .iload 3, 63, [4]) := (r_iload_n dX3_go_62 rfl).row
theorem o48_63 : OkE cX3_go RX3 "go" 5 4 false (63, .iconst 6, 65, []) := (r_bipush dX3_go_63 rfl).row
theorem o48_65 : OkE cX3_go RX3 "go" 5 4 false (65, .if_icmp .ge 118, 68, []) := (r_icmp_ge dX3_go_65 rfl).row
theorem o48_68 : OkE cX3_go RX3 "go" 5 4 false (68, .aload 0, 69, []) := (r_aload_n dX3_go_68 rfl).row
theorem o48_69 : OkE cX3_go RX3 "go" 5 4 false (69, .aload 2, 70, []) := (r_aload_n dX3_go_69 rfl).row
theorem o48_70 : OkE cX3_go RX3 "go" 5 4 false (70, .iload 3, 71, []) := (r_iload_n dX3_go_70 rfl).row
theorem o48_71 : OkE cX3_go RX3 "go" 5 4 false (71, .invokevirtual 49, 74, []) := ⟨rfl, c_V dX3_go_71 wd_823 wd_825 wd_27 wd_72 wd_826 nmh_3⟩
theorem o48_74 : OkE cX3_go RX3 "go" 5 4 false (74, .aload 0, 75, []) := (r_aload_n dX3_go_74 rfl).row
theorem o48_75 : OkE cX3_go RX3 "go" 5 4 false (75, .aload 2, 76, []) := (r_aload_n dX3_go_75 rfl).row
theorem o48_76 : OkE cX3_go RX3 "go" 5 4 false (76, .iload 3, 77, []) := (r_iload_n dX3_go_76 rfl).row
theorem o48_77 : OkE cX3_go RX3 "go" 5 4 false (77, .invokevirtual 50, 80, []) := ⟨rfl, c_V dX3_go_77 wd_833 wd_835 wd_29 wd_72 wd_836 nmh_3⟩
theorem o48_80 : OkE cX3_go RX3 "go" 5 4 false (80, .aload 0, 81, []) := (r_aload_n dX3_go_80 rfl).row
theorem o48_81 : OkE cX3_go RX3 "go" 5 4 false (81, .iload 3, 82, []) := (r_iload_n dX3_go_81 rfl).row
theorem o48_82 : OkE cX3_go RX3 "go" 5 4 false (82, .invokevirtual 52, 85, []) := ⟨rfl, c_V dX3_go_82 wd_837 wd_839 wd_30 wd_72 wd_840 nmh_3⟩
theorem o48_85 : OkE cX3_go RX3 "go" 5 4 false (85, .iconst 0, 86, []) := (r_iconst dX3_go_85 rfl).row
theorem o48_86 : OkE cX3_go RX3 "go" 5 4 false (86, .istore 4, 88, []) := (r_istore dX3_go_86).row
theorem o48_88 : OkE cX3_go RX3 "go" 5 4 false (88, .iload 4, 90, []) := (r_iload dX3_go_88).row
theorem o48_90 : OkE cX3_go RX3 "go" 5 4 false (90, .aload 0, 91, []) := (r_aload_n dX3_go_90 rfl).row
theorem o48_91 : OkE cX3_go RX3 "go" 5 4 false (91, .invokeinterface 3 6, 94, []) := (r_get (C := RX3) (T := TX3) (N := 13) (ci := 3) (j := 6) (ref := RX3) dX3_go_91 rfl inX3 (by decide) wd_255 rfl).row
theorem o48_94 : OkE cX3_go RX3 "go" 5 4 false (94, .if_icmp .ge 112, 97, []) := (r_icmp_ge dX3_go_94 rfl).row
theorem o48_97 : OkE cX3_go RX3 "go" 5 4 false (97, .aload 0, 98, []) := (r_aload_n dX3_go_97 rfl).row
theorem o48_98 : OkE cX3_go RX3 "go" 5 4 false (98, .aload 1, 99, []) := (r_aload_n dX3_go_98 rfl).row
theorem o48_99 : OkE cX3_go RX3 "go" 5 4 false (99, .aload 2, 100, []) := (r_aload_n dX3_go_99 rfl).row
theorem o48_100 : OkE cX3_go RX3 "go" 5 4 false (100, .iload 4, 102, []) := (r_iload dX3_go_100).row
theorem o48_102 : OkE cX3_go RX3 "go" 5 4 false (102, .iload 3, 103, []) := (r_iload_n dX3_go_102 rfl).row
theorem o48_103 : OkE cX3_go RX3 "go" 5 4 false (103, .invokevirtual 53, 106, []) := ⟨rfl, c_V dX3_go_103 wd_841 wd_843 wd_31 wd_72 wd_844 nmh_3⟩
theorem o48_106 : OkE cX3_go RX3 "go" 5 4 false (106, .iinc 4 1, 109, []) := (r_iinc dX3_go_106 rfl).row
theorem o48_109 : OkE cX3_go RX3 "go" 5 4 false (109, .goto 88, 112, []) := (r_goto dX3_go_109 rfl).row
theorem o48_112 : OkE cX3_go RX3 "go" 5 4 false (112, .iinc 3 1, 115, []) := (r_iinc dX3_go_112 rfl).row
theorem o48_115 : OkE cX3_go RX3 "go" 5 4 false (115, .goto 62, 118, []) := (r_goto dX3_go_115 rfl).row
theorem o48_118 : OkE cX3_go RX3 "go" 5 4 false (118, .return_, 119, []) := dX3_go_118
theorem ok48 : ∀ x ∈ k48, OkE cX3_go RX3 "go" 5 4 false x := List.forall_mem_cons.mpr ⟨o48_0, List.forall_mem_cons.mpr ⟨o48_1, List.forall_mem_cons.mpr ⟨o48_2, List.forall_mem_cons.mpr ⟨o48_5, List.forall_mem_cons.mpr ⟨o48_8, List.forall_mem_cons.mpr ⟨o48_9, List.forall_mem_cons.mpr ⟨o48_10, List.forall_mem_cons.mpr ⟨o48_13, List.forall_mem_cons.mpr ⟨o48_16, List.forall_mem_cons.mpr ⟨o48_17, List.forall_mem_cons.mpr ⟨o48_18, List.forall_mem_cons.mpr ⟨o48_21, List.forall_mem_cons.mpr ⟨o48_22, List.forall_mem_cons.mpr ⟨o48_23, List.forall_mem_cons.mpr ⟨o48_24, List.forall_mem_cons.mpr ⟨o48_25, List.forall_mem_cons.mpr ⟨o48_28, List.forall_mem_cons.mpr ⟨o48_31, List.forall_mem_cons.mpr ⟨o48_32, List.forall_mem_cons.mpr ⟨o48_33, List.forall_mem_cons.mpr ⟨o48_36, List.forall_mem_cons.mpr ⟨o48_37, List.forall_mem_cons.mpr ⟨o48_40, List.forall_mem_cons.mpr ⟨o48_41, List.forall_mem_cons.mpr ⟨o48_42, List.forall_mem_cons.mpr ⟨o48_43, List.forall_mem_cons.mpr ⟨o48_46, List.forall_mem_cons.mpr ⟨o48_47, List.forall_mem_cons.mpr ⟨o48_48, List.forall_mem_cons.mpr ⟨o48_51, List.forall_mem_cons.mpr ⟨o48_52, List.forall_mem_cons.mpr ⟨o48_53, List.forall_mem_cons.mpr ⟨o48_54, List.forall_mem_cons.mpr ⟨o48_57, List.forall_mem_cons.mpr ⟨o48_60, List.forall_mem_cons.mpr ⟨o48_61, List.forall_mem_cons.mpr ⟨o48_62, List.forall_mem_cons.mpr ⟨o48_63, List.forall_mem_cons.mpr ⟨o48_65, List.forall_mem_cons.mpr ⟨o48_68, List.forall_mem_cons.mpr ⟨o48_69, List.forall_mem_cons.mpr ⟨o48_70, List.forall_mem_cons.mpr ⟨o48_71, List.forall_mem_cons.mpr ⟨o48_74, List.forall_mem_cons.mpr ⟨o48_75, List.forall_mem_cons.mpr ⟨o48_76, List.forall_mem_cons.mpr ⟨o48_77, List.forall_mem_cons.mpr ⟨o48_80, List.forall_mem_cons.mpr ⟨o48_81, List.forall_mem_cons.mpr ⟨o48_82, List.forall_mem_cons.mpr ⟨o48_85, List.forall_mem_cons.mpr ⟨o48_86, List.forall_mem_cons.mpr ⟨o48_88, List.forall_mem_cons.mpr ⟨o48_90, List.forall_mem_cons.mpr ⟨o48_91, List.forall_mem_cons.mpr ⟨o48_94, List.forall_mem_cons.mpr ⟨o48_97, List.forall_mem_cons.mpr ⟨o48_98, List.forall_mem_cons.mpr ⟨o48_99, List.forall_mem_cons.mpr ⟨o48_100, List.forall_mem_cons.mpr ⟨o48_102, List.forall_mem_cons.mpr ⟨o48_103, List.forall_mem_cons.mpr ⟨o48_106, List.forall_mem_cons.mpr ⟨o48_109, List.forall_mem_cons.mpr ⟨o48_112, List.forall_mem_cons.mpr ⟨o48_115, List.forall_mem_cons.mpr ⟨o48_118, fun _ h => absurd h List.not_mem_nil⟩⟩⟩⟩⟩⟩⟩⟩⟩⟩⟩⟩⟩⟩⟩⟩⟩⟩⟩⟩⟩⟩⟩⟩⟩⟩⟩⟩⟩⟩⟩⟩⟩⟩⟩⟩⟩⟩⟩⟩⟩⟩⟩⟩⟩⟩⟩⟩⟩⟩⟩⟩⟩⟩⟩⟩⟩⟩⟩⟩⟩⟩⟩⟩⟩⟩⟩
theorem o49_0 : OkE cX3_giveByOrders RX3 "giveByOrders" 4 2 false (0, .iconst 0, 1, []) := (r_iconst dX3_giveByOrders_0 rfl).row
theorem o49_1 : OkE cX3_giveByOrders RX3 "giveByOrders" 4 2 false (1, .istore 3, 2, []) := (r_istore_n dX3_giveByOrders_1 rfl).row
theorem o49_2 : OkE cX3_giveByOrders RX3 "giveByOrders" 4 2 false (2, .iload 3, 3, []) := (r_iload_n dX3_giveByOrders_2 rfl).row
theorem o49_3 : OkE cX3_giveByOrders RX3 "giveByOrders" 4 2 false (3, .aload 1, 4, []) := (r_aload_n dX3_giveByOrders_3 rfl).row
theorem o49_4 : OkE cX3_giveByOrders RX3 "giveByOrders" 4 2 false (4, .invokeinterface 1 10, 7, []) := (r_getN (C := RX1) (T := TX1) (N := 11) (ci := 1) (j := 10) (ref := RX1) dX3_giveByOrders_4 rfl inX1 (by decide) wd_218 rfl).row
theorem o49_7 : OkE cX3_giveByOrders RX3 "giveByOrders" 4 2 false (7, .if_icmp .ge 48, 10, []) := (r_icmp_ge dX3_giveByOrders_7 rfl).row
theorem o49_10 : OkE cX3_giveByOrders RX3 "giveByOrders" 4 2 false (10, .iload 3, 11, []) := (r_iload_n dX3_giveByOrders_10 rfl).row
theorem o49_11 : OkE cX3_giveByOrders RX3 "giveByOrders" 4 2 false (11, .iconst 6, 13, []) := (r_bipush dX3_giveByOrders_11 rfl).row
theorem o49_13 : OkE cX3_giveByOrders RX3 "giveByOrders" 4 2 false (13, .if_icmp .ge 48, 16, []) := (r_icmp_ge dX3_giveByOrders_13 rfl).row
theorem o49_16 : OkE cX3_giveByOrders RX3 "giveByOrders" 4 2 false (16, .aload 1, 17, []) := (r_aload_n dX3_giveByOrders_16 rfl).row
theorem o49_17 : OkE cX3_giveByOrders RX3 "giveByOrders" 4 2 false (17, .invokeinterface 1 3, 20, []) := (r_getN (C := RX1) (T := TX1) (N := 11) (ci := 1) (j := 3) (ref := RX1) dX3_giveByOrders_17 rfl inX1 (by decide) wd_200 rfl).row
theorem o49_20 : OkE cX3_giveByOrders RX3 "giveByOrders" 4 2 false (20, .iload 3, 21, []) := (r_iload_n dX3_giveByOrders_20 rfl).row
theorem o49_21 : OkE cX3_giveByOrders RX3 "giveByOrders" 4 2 false (21, .iaload, 22, []) := (r_iald dX3_giveByOrders_21).row
theorem o49_22 : OkE cX3_giveByOrders RX3 "giveByOrders" 4 2 false (22, .iload 2, 23, []) := (r_iload_n dX3_giveByOrders_22 rfl).row
theorem o49_23 : OkE cX3_giveByOrders RX3 "giveByOrders" 4 2 false (23, .if_icmp .ne 42, 26, []) := (r_icmp_ne dX3_giveByOrders_23 rfl).row
theorem o49_26 : OkE cX3_giveByOrders RX3 "giveByOrders" 4 2 false (26, .aload 0, 27, []) := (r_aload_n dX3_giveByOrders_26 rfl).row
theorem o49_27 : OkE cX3_giveByOrders RX3 "giveByOrders" 4 2 false (27, .aload 1, 28, []) := (r_aload_n dX3_giveByOrders_27 rfl).row
theorem o49_28 : OkE cX3_giveByOrders RX3 "giveByOrders" 4 2 false (28, .invokeinterface 1 4, 31, []) := (r_getN (C := RX1) (T := TX1) (N := 11) (ci := 1) (j := 4) (ref := RX1) dX3_giveByOrders_28 rfl inX1 (by decide) wd_202 rfl).row
theorem o49_31 : OkE cX3_giveByOrders RX3 "giveByOrders" 4 2 false (31, .iload 3, 32, []) := (r_iload_n dX3_giveByOrders_31 rfl).row
theorem o49_32 : OkE cX3_giveByOrders RX3 "giveByOrders" 4 2 false (32, .iaload, 33, []) := (r_iald dX3_giveByOrders_32).row
theorem o49_33 : OkE cX3_giveByOrders RX3 "giveByOrders" 4 2 false (33, .aload 1, 34, []) := (r_aload_n dX3_giveByOrders_33 rfl).row
theorem o49_34 : OkE cX3_giveByOrders RX3 "giveByOrders" 4 2 false (34, .invokeinterface 1 5, 37, []) := (r_getN (C := RX1) (T := TX1) (N := 11) (ci := 1) (j := 5) (ref := RX1) dX3_giveByOrders_34 rfl inX1 (by decide) wd_204 rfl).row
theorem o49_37 : OkE cX3_giveByOrders RX3 "giveByOrders" 4 2 false (37, .iload 3, 38, []) := (r_iload_n dX3_giveByOrders_37 rfl).row
theorem o49_38 : OkE cX3_giveByOrders RX3 "giveByOrders" 4 2 false (38, .iaload, 39, []) := (r_iald dX3_giveByOrders_38).row
theorem o49_39 : OkE cX3_giveByOrders RX3 "giveByOrders" 4 2 false (39, .invokevirtual 51, 42, []) := ⟨rfl, c_V dX3_giveByOrders_39 wd_827 wd_829 wd_28 wd_72 wd_830 nmh_3⟩
theorem o49_42 : OkE cX3_giveByOrders RX3 "giveByOrders" 4 2 false (42, .iinc 3 1, 45, []) := (r_iinc dX3_giveByOrders_42 rfl).row
theorem o49_45 : OkE cX3_giveByOrders RX3 "giveByOrders" 4 2 false (45, .goto 2, 48, []) := (r_goto dX3_giveByOrders_45 rfl).row
theorem o49_48 : OkE cX3_giveByOrders RX3 "giveByOrders" 4 2 false (48, .return_, 49, [0, 1, 2, 3]) := dX3_giveByOrders_48
theorem ok49 : ∀ x ∈ k49, OkE cX3_giveByOrders RX3 "giveByOrders" 4 2 false x := List.forall_mem_cons.mpr ⟨o49_0, List.forall_mem_cons.mpr ⟨o49_1, List.forall_mem_cons.mpr ⟨o49_2, List.forall_mem_cons.mpr ⟨o49_3, List.forall_mem_cons.mpr ⟨o49_4, List.forall_mem_cons.mpr ⟨o49_7, List.forall_mem_cons.mpr ⟨o49_10, List.forall_mem_cons.mpr ⟨o49_11, List.forall_mem_cons.mpr ⟨o49_13, List.forall_mem_cons.mpr ⟨o49_16, List.forall_mem_cons.mpr ⟨o49_17, List.forall_mem_cons.mpr ⟨o49_20, List.forall_mem_cons.mpr ⟨o49_21, List.forall_mem_cons.mpr ⟨o49_22, List.forall_mem_cons.mpr ⟨o49_23, List.forall_mem_cons.mpr ⟨o49_26, List.forall_mem_cons.mpr ⟨o49_27, List.forall_mem_cons.mpr ⟨o49_28, List.forall_mem_cons.mpr ⟨o49_31, List.forall_mem_cons.mpr ⟨o49_32, List.forall_mem_cons.mpr ⟨o49_33, List.forall_mem_cons.mpr ⟨o49_34, List.forall_mem_cons.mpr ⟨o49_37, List.forall_mem_cons.mpr ⟨o49_38, List.forall_mem_cons.mpr ⟨o49_39, List.forall_mem_cons.mpr ⟨o49_42, List.forall_mem_cons.mpr ⟨o49_45, List.forall_mem_cons.mpr ⟨o49_48, fun _ h => absurd h List.not_mem_nil⟩⟩⟩⟩⟩⟩⟩⟩⟩⟩⟩⟩⟩⟩⟩⟩⟩⟩⟩⟩⟩⟩⟩⟩⟩⟩⟩⟩
theorem o50_0 : OkE cX3_giveByRule RX3 "giveByRule" 5 2 false (0, .aload 1, 1, []) := (r_aload_n dX3_giveByRule_0 rfl).row
theorem o50_1 : OkE cX3_giveByRule RX3 "giveByRule" 5 2 false (1, .invokeinterface 1 8, 4, []) := (r_getN (C := RX1) (T := TX1) (N := 11) (ci := 1) (j := 8) (ref := RX1) dX3_giveByRule_1 rfl inX1 (by decide) wd_212 rfl).row
theorem o50_4 : OkE cX3_giveByRule RX3 "giveByRule" 5 2 false (4, .iconst 1, 5, []) := (r_iconst dX3_giveByRule_4 rfl).row
theorem o50_5 : OkE cX3_giveByRule RX3 "giveByRule" 5 2 false (5, .if_icmp .ne 51, 8, []) := (r_icmp_ne dX3_giveByRule_5 rfl).row
theorem o50_8 : OkE cX3_giveByRule RX3 "giveByRule" 5 2 false (8, .iload 2, 9, []) := (r_iload_n dX3_giveByRule_8 rfl).row
theorem o50_9 : OkE cX3_giveByRule RX3 "giveByRule" 5 2 false (9, .ifCond .le 51, 12, []) := (r_if_le dX3_giveByRule_9 rfl).row
theorem o50_12 : OkE cX3_giveByRule RX3 "giveByRule" 5 2 false (12, .iconst 0, 13, []) := (r_iconst dX3_giveByRule_12 rfl).row
theorem o50_13 : OkE cX3_giveByRule RX3 "giveByRule" 5 2 false (13, .istore 3, 14, []) := (r_istore_n dX3_giveByRule_13 rfl).row
theorem o50_14 : OkE cX3_giveByRule RX3 "giveByRule" 5 2 false (14, .iload 3, 15, []) := (r_iload_n dX3_giveByRule_14 rfl).row
theorem o50_15 : OkE cX3_giveByRule RX3 "giveByRule" 5 2 false (15, .aload 0, 16, []) := (r_aload_n dX3_giveByRule_15 rfl).row
theorem o50_16 : OkE cX3_giveByRule RX3 "giveByRule" 5 2 false (16, .invokeinterface 3 6, 19, []) := (r_get (C := RX3) (T := TX3) (N := 13) (ci := 3) (j := 6) (ref := RX3) dX3_giveByRule_16 rfl inX3 (by decide) wd_255 rfl).row
theorem o50_19 : OkE cX3_giveByRule RX3 "giveByRule" 5 2 false (19, .if_icmp .ge 51, 22, []) := (r_icmp_ge dX3_giveByRule_19 rfl).row
theorem o50_22 : OkE cX3_giveByRule RX3 "giveByRule" 5 2 false (22, .iload 3, 23, []) := (r_iload_n dX3_giveByRule_22 rfl).row
theorem o50_23 : OkE cX3_giveByRule RX3 "giveByRule" 5 2 false (23, .iconst 3, 24, []) := (r_iconst dX3_giveByRule_23 rfl).row
theorem o50_24 : OkE cX3_giveByRule RX3 "giveByRule" 5 2 false (24, .if_icmp .ge 51, 27, []) := (r_icmp_ge dX3_giveByRule_24 rfl).row
theorem o50_27 : OkE cX3_giveByRule RX3 "giveByRule" 5 2 false (27, .aload 0, 28, []) := (r_aload_n dX3_giveByRule_27 rfl).row
theorem o50_28 : OkE cX3_giveByRule RX3 "giveByRule" 5 2 false (28, .invokeinterface 3 4, 31, []) := (r_get (C := RX3) (T := TX3) (N := 13) (ci := 3) (j := 4) (ref := RX3) dX3_giveByRule_28 rfl inX3 (by decide) wd_253 rfl).row
theorem o50_31 : OkE cX3_giveByRule RX3 "giveByRule" 5 2 false (31, .iload 3, 32, []) := (r_iload_n dX3_giveByRule_31 rfl).row
theorem o50_32 : OkE cX3_giveByRule RX3 "giveByRule" 5 2 false (32, .iaload, 33, []) := (r_iald dX3_giveByRule_32).row
theorem o50_33 : OkE cX3_giveByRule RX3 "giveByRule" 5 2 false (33, .ifCond .ne 45, 36, []) := (r_if_ne dX3_giveByRule_33 rfl).row
theorem o50_36 : OkE cX3_giveByRule RX3 "giveByRule" 5 2 false (36, .aload 0, 37, []) := (r_aload_n dX3_giveByRule_36 rfl).row
theorem o50_37 : OkE cX3_giveByRule RX3 "giveByRule" 5 2 false (37, .iload 3, 38, []) := (r_iload_n dX3_giveByRule_37 rfl).row
theorem o50_38 : OkE cX3_giveByRule RX3 "giveByRule" 5 2 false (38, .aload 1, 39, []) := (r_aload_n dX3_giveByRule_38 rfl).row
theorem o50_39 : OkE cX3_giveByRule RX3 "giveByRule" 5 2 false (39, .invokeinterface 1 9, 42, []) := (r_getN (C := RX1) (T := TX1) (N := 11) (ci := 1) (j := 9) (ref := RX1) dX3_giveByRule_39 rfl inX1 (by decide) wd_215 rfl).row
theorem o50_42 : OkE cX3_giveByRule RX3 "giveByRule" 5 2 false (42, .invokevirtual 51, 45, []) := ⟨rfl, c_V dX3_giveByRule_42 wd_827 wd_829 wd_28 wd_72 wd_830 nmh_3⟩
theorem o50_45 : OkE cX3_giveByRule RX3 "giveByRule" 5 2 false (45, .iinc 3 1, 48, []) := (r_iinc dX3_giveByRule_45 rfl).row
theorem o50_48 : OkE cX3_giveByRule RX3 "giveByRule" 5 2 false (48, .goto 14, 51, []) := (r_goto dX3_giveByRule_48 rfl).row
theorem o50_51 : OkE cX3_giveByRule RX3 "giveByRule" 5 2 false (51, .aload 1, 52, [3]) := (r_aload_n dX3_giveByRule_51 rfl).row
theorem o50_52 : OkE cX3_giveByRule RX3 "giveByRule" 5 2 false (52, .invokeinterface 1 8, 55, []) := (r_getN (C := RX1) (T := TX1) (N := 11) (ci := 1) (j := 8) (ref := RX1) dX3_giveByRule_52 rfl inX1 (by decide) wd_212 rfl).row
theorem o50_55 : OkE cX3_giveByRule RX3 "giveByRule" 5 2 false (55, .iconst 2, 56, []) := (r_iconst dX3_giveByRule_55 rfl).row
theorem o50_56 : OkE cX3_giveByRule RX3 "giveByRule" 5 2 false (56, .if_icmp .ne 106, 59, []) := (r_icmp_ne dX3_giveByRule_56 rfl).row
theorem o50_59 : OkE cX3_giveByRule RX3 "giveByRule" 5 2 false (59, .iload 2, 60, []) := (r_iload_n dX3_giveByRule_59 rfl).row
theorem o50_60 : OkE cX3_giveByRule RX3 "giveByRule" 5 2 false (60, .aload 1, 61, []) := (r_aload_n dX3_giveByRule_60 rfl).row
theorem o50_61 : OkE cX3_giveByRule RX3 "giveByRule" 5 2 false (61, .invokeinterface 1 9, 64, []) := (r_getN (C := RX1) (T := TX1) (N := 11) (ci := 1) (j := 9) (ref := RX1) dX3_giveByRule_61 rfl inX1 (by decide) wd_215 rfl).row
theorem o50_64 : OkE cX3_giveByRule RX3 "giveByRule" 5 2 false (64, .if_icmp .ne 106, 67, []) := (r_icmp_ne dX3_giveByRule_64 rfl).row
theorem o50_67 : OkE cX3_giveByRule RX3 "giveByRule" 5 2 false (67, .aload 0, 68, []) := (r_aload_n dX3_giveByRule_67 rfl).row
theorem o50_68 : OkE cX3_giveByRule RX3 "giveByRule" 5 2 false (68, .invokeinterface 3 7, 71, []) := (r_get (C := RX3) (T := TX3) (N := 13) (ci := 3) (j := 7) (ref := RX3) dX3_giveByRule_68 rfl inX3 (by decide) wd_256 rfl).row
theorem o50_71 : OkE cX3_giveByRule RX3 "giveByRule" 5 2 false (71, .istore 3, 72, []) := (r_istore_n dX3_giveByRule_71 rfl).row
theorem o50_72 : OkE cX3_giveByRule RX3 "giveByRule" 5 2 false (72, .iconst 0, 73, []) := (r_iconst dX3_giveByRule_72 rfl).row
theorem o50_73 : OkE cX3_giveByRule RX3 "giveByRule" 5 2 false (73, .istore 4, 75, []) := (r_istore dX3_giveByRule_73).row
theorem o50_75 : OkE cX3_giveByRule RX3 "giveByRule" 5 2 false (75, .iload 4, 77, [1, 2]) := (r_iload dX3_giveByRule_75).row
theorem o50_77 : OkE cX3_giveByRule RX3 "giveByRule" 5 2 false (77, .iload 3, 78, []) := (r_iload_n dX3_giveByRule_77 rfl).row
theorem o50_78 : OkE cX3_giveByRule RX3 "giveByRule" 5 2 false (78, .if_icmp .ge 106, 81, []) := (r_icmp_ge dX3_giveByRule_78 rfl).row
theorem o50_81 : OkE cX3_giveByRule RX3 "giveByRule" 5 2 false (81, .aload 0, 82, []) := (r_aload_n dX3_giveByRule_81 rfl).row
theorem o50_82 : OkE cX3_giveByRule RX3 "giveByRule" 5 2 false (82, .invokeinterface 3 6, 85, []) := (r_get (C := RX3) (T := TX3) (N := 13) (ci := 3) (j := 6) (ref := RX3) dX3_giveByRule_82 rfl inX3 (by decide) wd_255 rfl).row
theorem o50_85 : OkE cX3_giveByRule RX3 "giveByRule" 5 2 false (85, .ifCond .le 106, 88, []) := (r_if_le dX3_giveByRule_85 rfl).row
theorem o50_88 : OkE cX3_giveByRule RX3 "giveByRule" 5 2 false (88, .aload 0, 89, []) := (r_aload_n dX3_giveByRule_88 rfl).row
theorem o50_89 : OkE cX3_giveByRule RX3 "giveByRule" 5 2 false (89, .iload 4, 91, []) := (r_iload dX3_giveByRule_89).row
theorem o50_91 : OkE cX3_giveByRule RX3 "giveByRule" 5 2 false (91, .aload 0, 92, []) := (r_aload_n dX3_giveByRule_91 rfl).row
theorem o50_92 : OkE cX3_giveByRule RX3 "giveByRule" 5 2 false (92, .invokeinterface 3 6, 95, []) := (r_get (C := RX3) (T := TX3) (N := 13) (ci := 3) (j := 6) (ref := RX3) dX3_giveByRule_92 rfl inX3 (by decide) wd_255 rfl).row
theorem o50_95 : OkE cX3_giveByRule RX3 "giveByRule" 5 2 false (95, .irem, 96, []) := (r_irem dX3_giveByRule_95).row
theorem o50_96 : OkE cX3_giveByRule RX3 "giveByRule" 5 2 false (96, .iconst 1, 97, []) := (r_iconst dX3_giveByRule_96 rfl).row
theorem o50_97 : OkE cX3_giveByRule RX3 "giveByRule" 5 2 false (97, .invokevirtual 51, 100, []) := ⟨rfl, c_V dX3_giveByRule_97 wd_827 wd_829 wd_28 wd_72 wd_830 nmh_3⟩
theorem o50_100 : OkE cX3_giveByRule RX3 "giveByRule" 5 2 false (100, .iinc 4 1, 103, []) := (r_iinc dX3_giveByRule_100 rfl).row
theorem o50_103 : OkE cX3_giveByRule RX3 "giveByRule" 5 2 false (103, .goto 75, 106, []) := (r_goto dX3_giveByRule_103 rfl).row
theorem o50_106 : OkE cX3_giveByRule RX3 "giveByRule" 5 2 false (106, .return_, 107, [0, 1, 2, 3, 4]) := dX3_giveByRule_106
theorem ok50 : ∀ x ∈ k50, OkE cX3_giveByRule RX3 "giveByRule" 5 2 false x := List.forall_mem_cons.mpr ⟨o50_0, List.forall_mem_cons.mpr ⟨o50_1, List.forall_mem_cons.mpr ⟨o50_4, List.forall_mem_cons.mpr ⟨o50_5, List.forall_mem_cons.mpr ⟨o50_8, List.forall_mem_cons.mpr ⟨o50_9, List.forall_mem_cons.mpr ⟨o50_12, List.forall_mem_cons.mpr ⟨o50_13, List.forall_mem_cons.mpr ⟨o50_14, List.forall_mem_cons.mpr ⟨o50_15, List.forall_mem_cons.mpr ⟨o50_16, List.forall_mem_cons.mpr ⟨o50_19, List.forall_mem_cons.mpr ⟨o50_22, List.forall_mem_cons.mpr ⟨o50_23, List.forall_mem_cons.mpr ⟨o50_24, List.forall_mem_cons.mpr ⟨o50_27, List.forall_mem_cons.mpr ⟨o50_28, List.forall_mem_cons.mpr ⟨o50_31, List.forall_mem_cons.mpr ⟨o50_32, List.forall_mem_cons.mpr ⟨o50_33, List.forall_mem_cons.mpr ⟨o50_36, List.forall_mem_cons.mpr ⟨o50_37, List.forall_mem_cons.mpr ⟨o50_38, List.forall_mem_cons.mpr ⟨o50_39, List.forall_mem_cons.mpr ⟨o50_42, List.forall_mem_cons.mpr ⟨o50_45, List.forall_mem_cons.mpr ⟨o50_48, List.forall_mem_cons.mpr ⟨o50_51, List.forall_mem_cons.mpr ⟨o50_52, List.forall_mem_cons.mpr ⟨o50_55, List.forall_mem_cons.mpr ⟨o50_56, List.forall_mem_cons.mpr ⟨o50_59, List.forall_mem_cons.mpr ⟨o50_60, List.forall_mem_cons.mpr ⟨o50_61, List.forall_mem_cons.mpr ⟨o50_64, List.forall_mem_cons.mpr ⟨o50_67, List.forall_mem_cons.mpr ⟨o50_68, List.forall_mem_cons.mpr ⟨o50_71, List.forall_mem_cons.mpr ⟨o50_72, List.forall_mem_cons.mpr ⟨o50_73, List.forall_mem_cons.mpr ⟨o50_75, List.forall_mem_cons.mpr ⟨o50_77, List.forall_mem_cons.mpr ⟨o50_78, List.forall_mem_cons.mpr ⟨o50_81, List.forall_mem_cons.mpr ⟨o50_82, List.forall_mem_cons.mpr ⟨o50_85, List.forall_mem_cons.mpr ⟨o50_88, List.forall_mem_cons.mpr ⟨o50_89, List.forall_mem_cons.mpr ⟨o50_91, List.forall_mem_cons.mpr ⟨o50_92, List.forall_mem_cons.mpr ⟨o50_95, List.forall_mem_cons.mpr ⟨o50_96, List.forall_mem_cons.mpr ⟨o50_97, List.forall_mem_cons.mpr ⟨o50_100, List.forall_mem_cons.mpr ⟨o50_103, List.forall_mem_cons.mpr ⟨o50_106, fun _ h => absurd h List.not_mem_nil⟩⟩⟩⟩⟩⟩⟩⟩⟩⟩⟩⟩⟩⟩⟩⟩⟩⟩⟩⟩⟩⟩⟩⟩⟩⟩⟩⟩⟩⟩⟩⟩⟩⟩⟩⟩⟩⟩⟩⟩⟩⟩⟩⟩⟩⟩⟩⟩⟩⟩⟩⟩⟩⟩⟩⟩
theorem o51_0 : OkE cX3_giveFromVan RX3 "giveFromVan" 4 1 false (0, .iload 1, 1, []) := (r_iload_n dX3_giveFromVan_0 rfl).row
theorem o51_1 : OkE cX3_giveFromVan RX3 "giveFromVan" 4 1 false (1, .invokestatic 139, 4, []) := ⟨rfl, c_SN dX3_giveFromVan_1 wd_831 wd_379 wd_64 wd_380 nmh_8⟩
theorem o51_4 : OkE cX3_giveFromVan RX3 "giveFromVan" 4 1 false (4, .ifCond .eq 36, 7, []) := (r_if_eq dX3_giveFromVan_4 rfl).row
theorem o51_7 : OkE cX3_giveFromVan RX3 "giveFromVan" 4 1 false (7, .iload 2, 8, []) := (r_iload_n dX3_giveFromVan_7 rfl).row
theorem o51_8 : OkE cX3_giveFromVan RX3 "giveFromVan" 4 1 false (8, .aload 0, 9, []) := (r_aload_n dX3_giveFromVan_8 rfl).row
theorem o51_9 : OkE cX3_giveFromVan RX3 "giveFromVan" 4 1 false (9, .invokeinterface 3 7, 12, []) := (r_get (C := RX3) (T := TX3) (N := 13) (ci := 3) (j := 7) (ref := RX3) dX3_giveFromVan_9 rfl inX3 (by decide) wd_256 rfl).row
theorem o51_12 : OkE cX3_giveFromVan RX3 "giveFromVan" 4 1 false (12, .fsub, 15, []) := (r_mini dX3_giveFromVan_12 wd_832 wd_746 wd_75 wd_747 (by decide)).row
theorem o51_15 : OkE cX3_giveFromVan RX3 "giveFromVan" 4 1 false (15, .istore 3, 16, []) := (r_istore_n dX3_giveFromVan_15 rfl).row
theorem o51_16 : OkE cX3_giveFromVan RX3 "giveFromVan" 4 1 false (16, .aload 0, 17, []) := (r_aload_n dX3_giveFromVan_16 rfl).row
theorem o51_17 : OkE cX3_giveFromVan RX3 "giveFromVan" 4 1 false (17, .invokeinterface 3 4, 20, []) := (r_get (C := RX3) (T := TX3) (N := 13) (ci := 3) (j := 4) (ref := RX3) dX3_giveFromVan_17 rfl inX3 (by decide) wd_253 rfl).row
theorem o51_20 : OkE cX3_giveFromVan RX3 "giveFromVan" 4 1 false (20, .iload 1, 21, []) := (r_iload_n dX3_giveFromVan_20 rfl).row
theorem o51_21 : OkE cX3_giveFromVan RX3 "giveFromVan" 4 1 false (21, .dup2, 22, []) := (r_dup2 dX3_giveFromVan_21).row
theorem o51_22 : OkE cX3_giveFromVan RX3 "giveFromVan" 4 1 false (22, .iaload, 23, []) := (r_iald dX3_giveFromVan_22).row
theorem o51_23 : OkE cX3_giveFromVan RX3 "giveFromVan" 4 1 false (23, .iload 3, 24, []) := (r_iload_n dX3_giveFromVan_23 rfl).row
theorem o51_24 : OkE cX3_giveFromVan RX3 "giveFromVan" 4 1 false (24, .iadd, 25, []) := (r_iadd dX3_giveFromVan_24).row
theorem o51_25 : OkE cX3_giveFromVan RX3 "giveFromVan" 4 1 false (25, .iastore, 26, []) := r_iast dX3_giveFromVan_25
theorem o51_26 : OkE cX3_giveFromVan RX3 "giveFromVan" 4 1 false (26, .aload 0, 27, []) := (r_aload_n dX3_giveFromVan_26 rfl).row
theorem o51_27 : OkE cX3_giveFromVan RX3 "giveFromVan" 4 1 false (27, .dup, 28, []) := (r_dup dX3_giveFromVan_27).row
theorem o51_28 : OkE cX3_giveFromVan RX3 "giveFromVan" 4 1 false (28, .invokeinterface 3 7, 31, []) := (r_get (C := RX3) (T := TX3) (N := 13) (ci := 3) (j := 7) (ref := RX3) dX3_giveFromVan_28 rfl inX3 (by decide) wd_256 rfl).row
theorem o51_31 : OkE cX3_giveFromVan RX3 "giveFromVan" 4 1 false (31, .iload 3, 32, []) := (r_iload_n dX3_giveFromVan_31 rfl).row
theorem o51_32 : OkE cX3_giveFromVan RX3 "giveFromVan" 4 1 false (32, .isub, 33, []) := (r_isub dX3_giveFromVan_32).row
theorem o51_33 : OkE cX3_giveFromVan RX3 "giveFromVan" 4 1 false (33, .multianewarray 3 7, 36, []) := r_putI (C := RX3) (T := TX3) (N := 13) (ci := 3) (j := 7) (ref := RX3) dX3_giveFromVan_33 rfl inX3 tyX3 tyX3_ok nmX3 (by decide) wd_256 rfl rfl (tyX3_ok 7 (by decide)) rfl
theorem o51_36 : OkE cX3_giveFromVan RX3 "giveFromVan" 4 1 false (36, .return_, 37, [0, 1, 2, 3]) := dX3_giveFromVan_36
theorem ok51 : ∀ x ∈ k51, OkE cX3_giveFromVan RX3 "giveFromVan" 4 1 false x := List.forall_mem_cons.mpr ⟨o51_0, List.forall_mem_cons.mpr ⟨o51_1, List.forall_mem_cons.mpr ⟨o51_4, List.forall_mem_cons.mpr ⟨o51_7, List.forall_mem_cons.mpr ⟨o51_8, List.forall_mem_cons.mpr ⟨o51_9, List.forall_mem_cons.mpr ⟨o51_12, List.forall_mem_cons.mpr ⟨o51_15, List.forall_mem_cons.mpr ⟨o51_16, List.forall_mem_cons.mpr ⟨o51_17, List.forall_mem_cons.mpr ⟨o51_20, List.forall_mem_cons.mpr ⟨o51_21, List.forall_mem_cons.mpr ⟨o51_22, List.forall_mem_cons.mpr ⟨o51_23, List.forall_mem_cons.mpr ⟨o51_24, List.forall_mem_cons.mpr ⟨o51_25, List.forall_mem_cons.mpr ⟨o51_26, List.forall_mem_cons.mpr ⟨o51_27, List.forall_mem_cons.mpr ⟨o51_28, List.forall_mem_cons.mpr ⟨o51_31, List.forall_mem_cons.mpr ⟨o51_32, List.forall_mem_cons.mpr ⟨o51_33, List.forall_mem_cons.mpr ⟨o51_36, fun _ h => absurd h List.not_mem_nil⟩⟩⟩⟩⟩⟩⟩⟩⟩⟩⟩⟩⟩⟩⟩⟩⟩⟩⟩⟩⟩⟩⟩
theorem o52_0 : OkE cX3_giveSecond RX3 "giveSecond" 2 1 false (0, .iload 1, 1, []) := (r_iload_n dX3_giveSecond_0 rfl).row
theorem o52_1 : OkE cX3_giveSecond RX3 "giveSecond" 2 1 false (1, .aload 0, 2, []) := (r_aload_n dX3_giveSecond_1 rfl).row
theorem o52_2 : OkE cX3_giveSecond RX3 "giveSecond" 2 1 false (2, .invokeinterface 3 11, 5, []) := (r_get (C := RX3) (T := TX3) (N := 13) (ci := 3) (j := 11) (ref := RX3) dX3_giveSecond_2 rfl inX3 (by decide) wd_260 rfl).row
theorem o52_5 : OkE cX3_giveSecond RX3 "giveSecond" 2 1 false (5, .if_icmp .ne 34, 8, []) := (r_icmp_ne dX3_giveSecond_5 rfl).row
theorem o52_8 : OkE cX3_giveSecond RX3 "giveSecond" 2 1 false (8, .aload 0, 9, []) := (r_aload_n dX3_giveSecond_8 rfl).row
theorem o52_9 : OkE cX3_giveSecond RX3 "giveSecond" 2 1 false (9, .invokeinterface 3 10, 12, []) := (r_get (C := RX3) (T := TX3) (N := 13) (ci := 3) (j := 10) (ref := RX3) dX3_giveSecond_9 rfl inX3 (by decide) wd_259 rfl).row
theorem o52_12 : OkE cX3_giveSecond RX3 "giveSecond" 2 1 false (12, .invokestatic 139, 15, []) := ⟨rfl, c_SN dX3_giveSecond_12 wd_831 wd_379 wd_64 wd_380 nmh_8⟩
theorem o52_15 : OkE cX3_giveSecond RX3 "giveSecond" 2 1 false (15, .ifCond .eq 34, 18, []) := (r_if_eq dX3_giveSecond_15 rfl).row
theorem o52_18 : OkE cX3_giveSecond RX3 "giveSecond" 2 1 false (18, .aload 0, 19, []) := (r_aload_n dX3_giveSecond_18 rfl).row
theorem o52_19 : OkE cX3_giveSecond RX3 "giveSecond" 2 1 false (19, .invokeinterface 3 4, 22, []) := (r_get (C := RX3) (T := TX3) (N := 13) (ci := 3) (j := 4) (ref := RX3) dX3_giveSecond_19 rfl inX3 (by decide) wd_253 rfl).row
theorem o52_22 : OkE cX3_giveSecond RX3 "giveSecond" 2 1 false (22, .aload 0, 23, []) := (r_aload_n dX3_giveSecond_22 rfl).row
theorem o52_23 : OkE cX3_giveSecond RX3 "giveSecond" 2 1 false (23, .invokeinterface 3 10, 26, []) := (r_get (C := RX3) (T := TX3) (N := 13) (ci := 3) (j := 10) (ref := RX3) dX3_giveSecond_23 rfl inX3 (by decide) wd_259 rfl).row
theorem o52_26 : OkE cX3_giveSecond RX3 "giveSecond" 2 1 false (26, .dup2, 27, []) := (r_dup2 dX3_giveSecond_26).row
theorem o52_27 : OkE cX3_giveSecond RX3 "giveSecond" 2 1 false (27, .iaload, 28, []) := (r_iald dX3_giveSecond_27).row
theorem o52_28 : OkE cX3_giveSecond RX3 "giveSecond" 2 1 false (28, .aload 0, 29, []) := (r_aload_n dX3_giveSecond_28 rfl).row
theorem o52_29 : OkE cX3_giveSecond RX3 "giveSecond" 2 1 false (29, .invokeinterface 3 12, 32, []) := (r_get (C := RX3) (T := TX3) (N := 13) (ci := 3) (j := 12) (ref := RX3) dX3_giveSecond_29 rfl inX3 (by decide) wd_261 rfl).row
theorem o52_32 : OkE cX3_giveSecond RX3 "giveSecond" 2 1 false (32, .iadd, 33, []) := (r_iadd dX3_giveSecond_32).row
theorem o52_33 : OkE cX3_giveSecond RX3 "giveSecond" 2 1 false (33, .iastore, 34, []) := r_iast dX3_giveSecond_33
theorem o52_34 : OkE cX3_giveSecond RX3 "giveSecond" 2 1 false (34, .return_, 35, [0, 1]) := dX3_giveSecond_34
theorem ok52 : ∀ x ∈ k52, OkE cX3_giveSecond RX3 "giveSecond" 2 1 false x := List.forall_mem_cons.mpr ⟨o52_0, List.forall_mem_cons.mpr ⟨o52_1, List.forall_mem_cons.mpr ⟨o52_2, List.forall_mem_cons.mpr ⟨o52_5, List.forall_mem_cons.mpr ⟨o52_8, List.forall_mem_cons.mpr ⟨o52_9, List.forall_mem_cons.mpr ⟨o52_12, List.forall_mem_cons.mpr ⟨o52_15, List.forall_mem_cons.mpr ⟨o52_18, List.forall_mem_cons.mpr ⟨o52_19, List.forall_mem_cons.mpr ⟨o52_22, List.forall_mem_cons.mpr ⟨o52_23, List.forall_mem_cons.mpr ⟨o52_26, List.forall_mem_cons.mpr ⟨o52_27, List.forall_mem_cons.mpr ⟨o52_28, List.forall_mem_cons.mpr ⟨o52_29, List.forall_mem_cons.mpr ⟨o52_32, List.forall_mem_cons.mpr ⟨o52_33, List.forall_mem_cons.mpr ⟨o52_34, fun _ h => absurd h List.not_mem_nil⟩⟩⟩⟩⟩⟩⟩⟩⟩⟩⟩⟩⟩⟩⟩⟩⟩⟩⟩
theorem o53_0 : OkE cX3_sell RX3 "sell" 8 3 false (0, .iload 3, 1, []) := (r_iload_n dX3_sell_0 rfl).row
theorem o53_1 : OkE cX3_sell RX3 "sell" 8 3 false (1, .invokestatic 139, 4, []) := ⟨rfl, c_SN dX3_sell_1 wd_831 wd_379 wd_64 wd_380 nmh_8⟩
theorem o53_4 : OkE cX3_sell RX3 "sell" 8 3 false (4, .ifCond .ne 8, 7, []) := (r_if_ne dX3_sell_4 rfl).row
theorem o53_7 : OkE cX3_sell RX3 "sell" 8 3 false (7, .return_, 8, []) := dX3_sell_7
theorem o53_8 : OkE cX3_sell RX3 "sell" 8 3 false (8, .aload 2, 9, []) := (r_aload_n dX3_sell_8 rfl).row
theorem o53_9 : OkE cX3_sell RX3 "sell" 8 3 false (9, .iload 3, 10, []) := (r_iload_n dX3_sell_9 rfl).row
theorem o53_10 : OkE cX3_sell RX3 "sell" 8 3 false (10, .aload 1, 11, []) := (r_aload_n dX3_sell_10 rfl).row
theorem o53_11 : OkE cX3_sell RX3 "sell" 8 3 false (11, .iload 3, 12, []) := (r_iload_n dX3_sell_11 rfl).row
theorem o53_12 : OkE cX3_sell RX3 "sell" 8 3 false (12, .aload 2, 13, []) := (r_aload_n dX3_sell_12 rfl).row
theorem o53_13 : OkE cX3_sell RX3 "sell" 8 3 false (13, .invokeinterface 1 6, 16, []) := (r_getN (C := RX1) (T := TX1) (N := 11) (ci := 1) (j := 6) (ref := RX1) dX3_sell_13 rfl inX1 (by decide) wd_206 rfl).row
theorem o53_16 : OkE cX3_sell RX3 "sell" 8 3 false (16, .invokevirtual 84, 19, []) := ⟨rfl, c_V dX3_sell_16 wd_845 wd_359 wd_360 wd_73 wd_361 nmh_6⟩
theorem o53_19 : OkE cX3_sell RX3 "sell" 8 3 false (19, .invokevirtual 29, 22, []) := ⟨rfl, c_V dX3_sell_19 wd_846 wd_847 wd_848 wd_70 wd_849 nmh_1⟩
theorem o53_22 : OkE cX3_sell RX3 "sell" 8 3 false (22, .aload 0, 23, []) := (r_aload_n dX3_sell_22 rfl).row
theorem o53_23 : OkE cX3_sell RX3 "sell" 8 3 false (23, .aload 1, 24, []) := (r_aload_n dX3_sell_23 rfl).row
theorem o53_24 : OkE cX3_sell RX3 "sell" 8 3 false (24, .iload 3, 25, []) := (r_iload_n dX3_sell_24 rfl).row
theorem o53_25 : OkE cX3_sell RX3 "sell" 8 3 false (25, .iload 4, 27, []) := (r_iload dX3_sell_25).row
theorem o53_27 : OkE cX3_sell RX3 "sell" 8 3 false (27, .invokevirtual 54, 30, []) := ⟨rfl, c_V dX3_sell_27 wd_855 wd_857 wd_32 wd_72 wd_858 nmh_3⟩
theorem o53_30 : OkE cX3_sell RX3 "sell" 8 3 false (30, .iadd, 31, []) := (r_iadd dX3_sell_30).row
theorem o53_31 : OkE cX3_sell RX3 "sell" 8 3 false (31, .istore 5, 33, []) := (r_istore dX3_sell_31).row
theorem o53_33 : OkE cX3_sell RX3 "sell" 8 3 false (33, .iload 3, 34, []) := (r_iload_n dX3_sell_33 rfl).row
theorem o53_34 : OkE cX3_sell RX3 "sell" 8 3 false (34, .aload 0, 35, []) := (r_aload_n dX3_sell_34 rfl).row
theorem o53_35 : OkE cX3_sell RX3 "sell" 8 3 false (35, .invokeinterface 3 9, 38, []) := (r_get (C := RX3) (T := TX3) (N := 13) (ci := 3) (j := 9) (ref := RX3) dX3_sell_35 rfl inX3 (by decide) wd_258 rfl).row
theorem o53_38 : OkE cX3_sell RX3 "sell" 8 3 false (38, .if_icmp .eq 51, 41, []) := (r_icmp_eq dX3_sell_38 rfl).row
theorem o53_41 : OkE cX3_sell RX3 "sell" 8 3 false (41, .aload 2, 42, []) := (r_aload_n dX3_sell_41 rfl).row
theorem o53_42 : OkE cX3_sell RX3 "sell" 8 3 false (42, .iload 3, 43, []) := (r_iload_n dX3_sell_42 rfl).row
theorem o53_43 : OkE cX3_sell RX3 "sell" 8 3 false (43, .iload 4, 45, []) := (r_iload dX3_sell_43).row
theorem o53_45 : OkE cX3_sell RX3 "sell" 8 3 false (45, .invokevirtual 23, 48, []) := ⟨rfl, c_V dX3_sell_45 wd_863 wd_864 wd_865 wd_70 wd_866 nmh_1⟩
theorem o53_48 : OkE cX3_sell RX3 "sell" 8 3 false (48, .ifCond .eq 54, 51, []) := (r_if_eq dX3_sell_48 rfl).row
theorem o53_51 : OkE cX3_sell RX3 "sell" 8 3 false (51, .iinc 5 1, 54, [2]) := (r_iinc dX3_sell_51 rfl).row
theorem o53_54 : OkE cX3_sell RX3 "sell" 8 3 false (54, .iload 5, 56, [2]) := (r_iload dX3_sell_54).row
theorem o53_56 : OkE cX3_sell RX3 "sell" 8 3 false (56, .aload 0, 57, []) := (r_aload_n dX3_sell_56 rfl).row
theorem o53_57 : OkE cX3_sell RX3 "sell" 8 3 false (57, .invokeinterface 3 4, 60, []) := (r_get (C := RX3) (T := TX3) (N := 13) (ci := 3) (j := 4) (ref := RX3) dX3_sell_57 rfl inX3 (by decide) wd_253 rfl).row
theorem o53_60 : OkE cX3_sell RX3 "sell" 8 3 false (60, .iload 3, 61, []) := (r_iload_n dX3_sell_60 rfl).row
theorem o53_61 : OkE cX3_sell RX3 "sell" 8 3 false (61, .iaload, 62, []) := (r_iald dX3_sell_61).row
theorem o53_62 : OkE cX3_sell RX3 "sell" 8 3 false (62, .fsub, 65, []) := (r_mini dX3_sell_62 wd_832 wd_746 wd_75 wd_747 (by decide)).row
theorem o53_65 : OkE cX3_sell RX3 "sell" 8 3 false (65, .istore 6, 67, []) := (r_istore dX3_sell_65).row
theorem o53_67 : OkE cX3_sell RX3 "sell" 8 3 false (67, .aload 0, 68, []) := (r_aload_n dX3_sell_67 rfl).row
theorem o53_68 : OkE cX3_sell RX3 "sell" 8 3 false (68, .invokeinterface 3 4, 71, []) := (r_get (C := RX3) (T := TX3) (N := 13) (ci := 3) (j := 4) (ref := RX3) dX3_sell_68 rfl inX3 (by decide) wd_253 rfl).row
theorem o53_71 : OkE cX3_sell RX3 "sell" 8 3 false (71, .iload 3, 72, []) := (r_iload_n dX3_sell_71 rfl).row
theorem o53_72 : OkE cX3_sell RX3 "sell" 8 3 false (72, .dup2, 73, []) := (r_dup2 dX3_sell_72).row
theorem o53_73 : OkE cX3_sell RX3 "sell" 8 3 false (73, .iaload, 74, []) := (r_iald dX3_sell_73).row
theorem o53_74 : OkE cX3_sell RX3 "sell" 8 3 false (74, .iload 6, 76, []) := (r_iload dX3_sell_74).row
theorem o53_76 : OkE cX3_sell RX3 "sell" 8 3 false (76, .isub, 77, []) := (r_isub dX3_sell_76).row
theorem o53_77 : OkE cX3_sell RX3 "sell" 8 3 false (77, .iastore, 78, []) := r_iast dX3_sell_77
theorem o53_78 : OkE cX3_sell RX3 "sell" 8 3 false (78, .aload 0, 79, []) := (r_aload_n dX3_sell_78 rfl).row
theorem o53_79 : OkE cX3_sell RX3 "sell" 8 3 false (79, .invokeinterface 3 5, 82, []) := (r_get (C := RX3) (T := TX3) (N := 13) (ci := 3) (j := 5) (ref := RX3) dX3_sell_79 rfl inX3 (by decide) wd_254 rfl).row
theorem o53_82 : OkE cX3_sell RX3 "sell" 8 3 false (82, .iload 3, 83, []) := (r_iload_n dX3_sell_82 rfl).row
theorem o53_83 : OkE cX3_sell RX3 "sell" 8 3 false (83, .dup2, 84, []) := (r_dup2 dX3_sell_83).row
theorem o53_84 : OkE cX3_sell RX3 "sell" 8 3 false (84, .iaload, 85, []) := (r_iald dX3_sell_84).row
theorem o53_85 : OkE cX3_sell RX3 "sell" 8 3 false (85, .iload 6, 87, []) := (r_iload dX3_sell_85).row
theorem o53_87 : OkE cX3_sell RX3 "sell" 8 3 false (87, .iadd, 88, []) := (r_iadd dX3_sell_87).row
theorem o53_88 : OkE cX3_sell RX3 "sell" 8 3 false (88, .iastore, 89, []) := r_iast dX3_sell_88
theorem o53_89 : OkE cX3_sell RX3 "sell" 8 3 false (89, .iload 3, 90, []) := (r_iload_n dX3_sell_89 rfl).row
theorem o53_90 : OkE cX3_sell RX3 "sell" 8 3 false (90, .iload 4, 92, []) := (r_iload dX3_sell_90).row
theorem o53_92 : OkE cX3_sell RX3 "sell" 8 3 false (92, .invokestatic 55, 95, []) := ⟨rfl, c_S dX3_sell_92 wd_860 wd_861 wd_72 wd_862 nmh_3⟩
theorem o53_95 : OkE cX3_sell RX3 "sell" 8 3 false (95, .istore 7, 97, []) := (r_istore dX3_sell_95).row
theorem o53_97 : OkE cX3_sell RX3 "sell" 8 3 false (97, .aload 0, 98, []) := (r_aload_n dX3_sell_97 rfl).row
theorem o53_98 : OkE cX3_sell RX3 "sell" 8 3 false (98, .invokeinterface 3 0, 101, []) := (r_get (C := RX3) (T := TX3) (N := 13) (ci := 3) (j := 0) (ref := RX3) dX3_sell_98 rfl inX3 (by decide) wd_249 rfl).row
theorem o53_101 : OkE cX3_sell RX3 "sell" 8 3 false (101, .iload 7, 103, []) := (r_iload dX3_sell_101).row
theorem o53_103 : OkE cX3_sell RX3 "sell" 8 3 false (103, .aload 0, 104, []) := (r_aload_n dX3_sell_103 rfl).row
theorem o53_104 : OkE cX3_sell RX3 "sell" 8 3 false (104, .invokeinterface 3 4, 107, []) := (r_get (C := RX3) (T := TX3) (N := 13) (ci := 3) (j := 4) (ref := RX3) dX3_sell_104 rfl inX3 (by decide) wd_253 rfl).row
theorem o53_107 : OkE cX3_sell RX3 "sell" 8 3 false (107, .iload 3, 108, []) := (r_iload_n dX3_sell_107 rfl).row
theorem o53_108 : OkE cX3_sell RX3 "sell" 8 3 false (108, .iaload, 109, []) := (r_iald dX3_sell_108).row
theorem o53_109 : OkE cX3_sell RX3 "sell" 8 3 false (109, .iastore, 110, []) := r_iast dX3_sell_109
theorem o53_110 : OkE cX3_sell RX3 "sell" 8 3 false (110, .aload 0, 111, []) := (r_aload_n dX3_sell_110 rfl).row
theorem o53_111 : OkE cX3_sell RX3 "sell" 8 3 false (111, .invokeinterface 3 1, 114, []) := (r_get (C := RX3) (T := TX3) (N := 13) (ci := 3) (j := 1) (ref := RX3) dX3_sell_111 rfl inX3 (by decide) wd_250 rfl).row
theorem o53_114 : OkE cX3_sell RX3 "sell" 8 3 false (114, .iload 7, 116, []) := (r_iload dX3_sell_114).row
theorem o53_116 : OkE cX3_sell RX3 "sell" 8 3 false (116, .aload 0, 117, []) := (r_aload_n dX3_sell_116 rfl).row
theorem o53_117 : OkE cX3_sell RX3 "sell" 8 3 false (117, .invokeinterface 3 5, 120, []) := (r_get (C := RX3) (T := TX3) (N := 13) (ci := 3) (j := 5) (ref := RX3) dX3_sell_117 rfl inX3 (by decide) wd_254 rfl).row
theorem o53_120 : OkE cX3_sell RX3 "sell" 8 3 false (120, .iload 3, 121, []) := (r_iload_n dX3_sell_120 rfl).row
theorem o53_121 : OkE cX3_sell RX3 "sell" 8 3 false (121, .iaload, 122, []) := (r_iald dX3_sell_121).row
theorem o53_122 : OkE cX3_sell RX3 "sell" 8 3 false (122, .iastore, 123, []) := r_iast dX3_sell_122
theorem o53_123 : OkE cX3_sell RX3 "sell" 8 3 false (123, .aload 0, 124, []) := (r_aload_n dX3_sell_123 rfl).row
theorem o53_124 : OkE cX3_sell RX3 "sell" 8 3 false (124, .invokeinterface 3 2, 127, []) := (r_get (C := RX3) (T := TX3) (N := 13) (ci := 3) (j := 2) (ref := RX3) dX3_sell_124 rfl inX3 (by decide) wd_251 rfl).row
theorem o53_127 : OkE cX3_sell RX3 "sell" 8 3 false (127, .iload 7, 129, []) := (r_iload dX3_sell_127).row
theorem o53_129 : OkE cX3_sell RX3 "sell" 8 3 false (129, .iload 5, 131, []) := (r_iload dX3_sell_129).row
theorem o53_131 : OkE cX3_sell RX3 "sell" 8 3 false (131, .iastore, 132, []) := r_iast dX3_sell_131
theorem o53_132 : OkE cX3_sell RX3 "sell" 8 3 false (132, .aload 0, 133, []) := (r_aload_n dX3_sell_132 rfl).row
theorem o53_133 : OkE cX3_sell RX3 "sell" 8 3 false (133, .invokeinterface 3 3, 136, []) := (r_get (C := RX3) (T := TX3) (N := 13) (ci := 3) (j := 3) (ref := RX3) dX3_sell_133 rfl inX3 (by decide) wd_252 rfl).row
theorem o53_136 : OkE cX3_sell RX3 "sell" 8 3 false (136, .iload 7, 138, []) := (r_iload dX3_sell_136).row
theorem o53_138 : OkE cX3_sell RX3 "sell" 8 3 false (138, .iload 5, 140, []) := (r_iload dX3_sell_138).row
theorem o53_140 : OkE cX3_sell RX3 "sell" 8 3 false (140, .iload 6, 142, []) := (r_iload dX3_sell_140).row
theorem o53_142 : OkE cX3_sell RX3 "sell" 8 3 false (142, .isub, 143, []) := (r_isub dX3_sell_142).row
theorem o53_143 : OkE cX3_sell RX3 "sell" 8 3 false (143, .iastore, 144, []) := r_iast dX3_sell_143
theorem o53_144 : OkE cX3_sell RX3 "sell" 8 3 false (144, .iload 4, 146, []) := (r_iload dX3_sell_144).row
theorem o53_146 : OkE cX3_sell RX3 "sell" 8 3 false (146, .iconst 5, 147, []) := (r_iconst dX3_sell_146 rfl).row
theorem o53_147 : OkE cX3_sell RX3 "sell" 8 3 false (147, .if_icmp .eq 160, 150, []) := (r_icmp_eq dX3_sell_147 rfl).row
theorem o53_150 : OkE cX3_sell RX3 "sell" 8 3 false (150, .aload 1, 151, []) := (r_aload_n dX3_sell_150 rfl).row
theorem o53_151 : OkE cX3_sell RX3 "sell" 8 3 false (151, .iload 3, 152, []) := (r_iload_n dX3_sell_151 rfl).row
theorem o53_152 : OkE cX3_sell RX3 "sell" 8 3 false (152, .invokevirtual 86, 155, []) := ⟨rfl, c_V dX3_sell_152 wd_859 wd_550 wd_551 wd_73 wd_552 nmh_6⟩
theorem o53_155 : OkE cX3_sell RX3 "sell" 8 3 false (155, .iconst (-9), 157, []) := (r_bipush dX3_sell_155 rfl).row
theorem o53_157 : OkE cX3_sell RX3 "sell" 8 3 false (157, .if_icmp .ne 174, 160, []) := (r_icmp_ne dX3_sell_157 rfl).row
theorem o53_160 : OkE cX3_sell RX3 "sell" 8 3 false (160, .aload 0, 161, [1, 2, 3, 4, 7]) := (r_aload_n dX3_sell_160 rfl).row
theorem o53_161 : OkE cX3_sell RX3 "sell" 8 3 false (161, .dup, 162, []) := (r_dup dX3_sell_161).row
theorem o53_162 : OkE cX3_sell RX3 "sell" 8 3 false (162, .invokeinterface 3 8, 165, []) := (r_get (C := RX3) (T := TX3) (N := 13) (ci := 3) (j := 8) (ref := RX3) dX3_sell_162 rfl inX3 (by decide) wd_257 rfl).row
theorem o53_165 : OkE cX3_sell RX3 "sell" 8 3 false (165, .iload 5, 167, []) := (r_iload dX3_sell_165).row
theorem o53_167 : OkE cX3_sell RX3 "sell" 8 3 false (167, .iload 6, 169, []) := (r_iload dX3_sell_167).row
theorem o53_169 : OkE cX3_sell RX3 "sell" 8 3 false (169, .isub, 170, []) := (r_isub dX3_sell_169).row
theorem o53_170 : OkE cX3_sell RX3 "sell" 8 3 false (170, .iadd, 171, []) := (r_iadd dX3_sell_170).row
theorem o53_171 : OkE cX3_sell RX3 "sell" 8 3 false (171, .multianewarray 3 8, 174, []) := r_putI (C := RX3) (T := TX3) (N := 13) (ci := 3) (j := 8) (ref := RX3) dX3_sell_171 rfl inX3 tyX3 tyX3_ok nmX3 (by decide) wd_257 rfl rfl (tyX3_ok 8 (by decide)) rfl
theorem o53_174 : OkE cX3_sell RX3 "sell" 8 3 false (174, .return_, 175, [0, 1, 2, 3, 4, 5, 6, 7]) := dX3_sell_174
theorem ok53_0 : ∀ x ∈ k53_0, OkE cX3_sell RX3 "sell" 8 3 false x := List.forall_mem_cons.mpr ⟨o53_0, List.forall_mem_cons.mpr ⟨o53_1, List.forall_mem_cons.mpr ⟨o53_4, List.forall_mem_cons.mpr ⟨o53_7, List.forall_mem_cons.mpr ⟨o53_8, List.forall_mem_cons.mpr ⟨o53_9, List.forall_mem_cons.mpr ⟨o53_10, List.forall_mem_cons.mpr ⟨o53_11, List.forall_mem_cons.mpr ⟨o53_12, List.forall_mem_cons.mpr ⟨o53_13, List.forall_mem_cons.mpr ⟨o53_16, List.forall_mem_cons.mpr ⟨o53_19, List.forall_mem_cons.mpr ⟨o53_22, List.forall_mem_cons.mpr ⟨o53_23, List.forall_mem_cons.mpr ⟨o53_24, List.forall_mem_cons.mpr ⟨o53_25, List.forall_mem_cons.mpr ⟨o53_27, List.forall_mem_cons.mpr ⟨o53_30, List.forall_mem_cons.mpr ⟨o53_31, List.forall_mem_cons.mpr ⟨o53_33, List.forall_mem_cons.mpr ⟨o53_34, List.forall_mem_cons.mpr ⟨o53_35, List.forall_mem_cons.mpr ⟨o53_38, List.forall_mem_cons.mpr ⟨o53_41, List.forall_mem_cons.mpr ⟨o53_42, List.forall_mem_cons.mpr ⟨o53_43, List.forall_mem_cons.mpr ⟨o53_45, List.forall_mem_cons.mpr ⟨o53_48, List.forall_mem_cons.mpr ⟨o53_51, List.forall_mem_cons.mpr ⟨o53_54, List.forall_mem_cons.mpr ⟨o53_56, List.forall_mem_cons.mpr ⟨o53_57, List.forall_mem_cons.mpr ⟨o53_60, List.forall_mem_cons.mpr ⟨o53_61, List.forall_mem_cons.mpr ⟨o53_62, List.forall_mem_cons.mpr ⟨o53_65, List.forall_mem_cons.mpr ⟨o53_67, List.forall_mem_cons.mpr ⟨o53_68, List.forall_mem_cons.mpr ⟨o53_71, List.forall_mem_cons.mpr ⟨o53_72, List.forall_mem_cons.mpr ⟨o53_73, List.forall_mem_cons.mpr ⟨o53_74, List.forall_mem_cons.mpr ⟨o53_76, List.forall_mem_cons.mpr ⟨o53_77, List.forall_mem_cons.mpr ⟨o53_78, List.forall_mem_cons.mpr ⟨o53_79, List.forall_mem_cons.mpr ⟨o53_82, List.forall_mem_cons.mpr ⟨o53_83, List.forall_mem_cons.mpr ⟨o53_84, List.forall_mem_cons.mpr ⟨o53_85, List.forall_mem_cons.mpr ⟨o53_87, List.forall_mem_cons.mpr ⟨o53_88, List.forall_mem_cons.mpr ⟨o53_89, List.forall_mem_cons.mpr ⟨o53_90, List.forall_mem_cons.mpr ⟨o53_92, List.forall_mem_cons.mpr ⟨o53_95, List.forall_mem_cons.mpr ⟨o53_97, List.forall_mem_cons.mpr ⟨o53_98, List.forall_mem_cons.mpr ⟨o53_101, List.forall_mem_cons.mpr ⟨o53_103, List.forall_mem_cons.mpr ⟨o53_104, List.forall_mem_cons.mpr ⟨o53_107, List.forall_mem_cons.mpr ⟨o53_108, List.forall_mem_cons.mpr ⟨o53_109, List.forall_mem_cons.mpr ⟨o53_110, List.forall_mem_cons.mpr ⟨o53_111, List.forall_mem_cons.mpr ⟨o53_114, List.forall_mem_cons.mpr ⟨o53_116, List.forall_mem_cons.mpr ⟨o53_117, List.forall_mem_cons.mpr ⟨o53_120, List.forall_mem_cons.mpr ⟨o53_121, List.forall_mem_cons.mpr ⟨o53_122, List.forall_mem_cons.mpr ⟨o53_123, List.forall_mem_cons.mpr ⟨o53_124, List.forall_mem_cons.mpr ⟨o53_127, List.forall_mem_cons.mpr ⟨o53_129, List.forall_mem_cons.mpr ⟨o53_131, List.forall_mem_cons.mpr ⟨o53_132, List.forall_mem_cons.mpr ⟨o53_133, List.forall_mem_cons.mpr ⟨o53_136, fun _ h => absurd h List.not_mem_nil⟩⟩⟩⟩⟩⟩⟩⟩⟩⟩⟩⟩⟩⟩⟩⟩⟩⟩⟩⟩⟩⟩⟩⟩⟩⟩⟩⟩⟩⟩⟩⟩⟩⟩⟩⟩⟩⟩⟩⟩⟩⟩⟩⟩⟩⟩⟩⟩⟩⟩⟩⟩⟩⟩⟩⟩⟩⟩⟩⟩⟩⟩⟩⟩⟩⟩⟩⟩⟩⟩⟩⟩⟩⟩⟩⟩⟩⟩⟩⟩
theorem ok53_1 : ∀ x ∈ k53_1, OkE cX3_sell RX3 "sell" 8 3 false x := List.forall_mem_cons.mpr ⟨o53_138, List.forall_mem_cons.mpr ⟨o53_140, List.forall_mem_cons.mpr ⟨o53_142, List.forall_mem_cons.mpr ⟨o53_143, List.forall_mem_cons.mpr ⟨o53_144, List.forall_mem_cons.mpr ⟨o53_146, List.forall_mem_cons.mpr ⟨o53_147, List.forall_mem_cons.mpr ⟨o53_150, List.forall_mem_cons.mpr ⟨o53_151, List.forall_mem_cons.mpr ⟨o53_152, List.forall_mem_cons.mpr ⟨o53_155, List.forall_mem_cons.mpr ⟨o53_157, List.forall_mem_cons.mpr ⟨o53_160, List.forall_mem_cons.mpr ⟨o53_161, List.forall_mem_cons.mpr ⟨o53_162, List.forall_mem_cons.mpr ⟨o53_165, List.forall_mem_cons.mpr ⟨o53_167, List.forall_mem_cons.mpr ⟨o53_169, List.forall_mem_cons.mpr ⟨o53_170, List.forall_mem_cons.mpr ⟨o53_171, List.forall_mem_cons.mpr ⟨o53_174, fun _ h => absurd h List.not_mem_nil⟩⟩⟩⟩⟩⟩⟩⟩⟩⟩⟩⟩⟩⟩⟩⟩⟩⟩⟩⟩⟩
theorem ok53 : ∀ x ∈ k53, OkE cX3_sell RX3 "sell" 8 3 false x := List.forall_mem_append.mpr ⟨ok53_0, ok53_1⟩
theorem o54_0 : OkE cX3_comeOn RX3 "comeOn" 6 2 false (0, .iconst 0, 1, []) := (r_iconst dX3_comeOn_0 rfl).row
theorem o54_1 : OkE cX3_comeOn RX3 "comeOn" 6 2 false (1, .istore 4, 3, []) := (r_istore dX3_comeOn_1).row
theorem o54_3 : OkE cX3_comeOn RX3 "comeOn" 6 2 false (3, .iconst 0, 4, []) := (r_iconst dX3_comeOn_3 rfl).row
theorem o54_4 : OkE cX3_comeOn RX3 "comeOn" 6 2 false (4, .istore 5, 6, []) := (r_istore dX3_comeOn_4).row
theorem o54_6 : OkE cX3_comeOn RX3 "comeOn" 6 2 false (6, .iload 5, 8, []) := (r_iload dX3_comeOn_6).row
theorem o54_8 : OkE cX3_comeOn RX3 "comeOn" 6 2 false (8, .aload 0, 9, []) := (r_aload_n dX3_comeOn_8 rfl).row
theorem o54_9 : OkE cX3_comeOn RX3 "comeOn" 6 2 false (9, .invokeinterface 3 6, 12, []) := (r_get (C := RX3) (T := TX3) (N := 13) (ci := 3) (j := 6) (ref := RX3) dX3_comeOn_9 rfl inX3 (by decide) wd_255 rfl).row
theorem o54_12 : OkE cX3_comeOn RX3 "comeOn" 6 2 false (12, .if_icmp .ge 53, 15, []) := (r_icmp_ge dX3_comeOn_12 rfl).row
theorem o54_15 : OkE cX3_comeOn RX3 "comeOn" 6 2 false (15, .iload 3, 16, []) := (r_iload_n dX3_comeOn_15 rfl).row
theorem o54_16 : OkE cX3_comeOn RX3 "comeOn" 6 2 false (16, .ifCond .le 53, 19, []) := (r_if_le dX3_comeOn_16 rfl).row
theorem o54_19 : OkE cX3_comeOn RX3 "comeOn" 6 2 false (19, .aload 1, 20, []) := (r_aload_n dX3_comeOn_19 rfl).row
theorem o54_20 : OkE cX3_comeOn RX3 "comeOn" 6 2 false (20, .iload 5, 22, []) := (r_iload dX3_comeOn_20).row
theorem o54_22 : OkE cX3_comeOn RX3 "comeOn" 6 2 false (22, .invokevirtual 86, 25, []) := ⟨rfl, c_V dX3_comeOn_22 wd_859 wd_550 wd_551 wd_73 wd_552 nmh_6⟩
theorem o54_25 : OkE cX3_comeOn RX3 "comeOn" 6 2 false (25, .iload 2, 26, []) := (r_iload_n dX3_comeOn_25 rfl).row
theorem o54_26 : OkE cX3_comeOn RX3 "comeOn" 6 2 false (26, .if_icmp .ne 47, 29, []) := (r_icmp_ne dX3_comeOn_26 rfl).row
theorem o54_29 : OkE cX3_comeOn RX3 "comeOn" 6 2 false (29, .iload 4, 31, []) := (r_iload dX3_comeOn_29).row
theorem o54_31 : OkE cX3_comeOn RX3 "comeOn" 6 2 false (31, .aload 0, 32, []) := (r_aload_n dX3_comeOn_31 rfl).row
theorem o54_32 : OkE cX3_comeOn RX3 "comeOn" 6 2 false (32, .invokeinterface 3 3, 35, []) := (r_get (C := RX3) (T := TX3) (N := 13) (ci := 3) (j := 3) (ref := RX3) dX3_comeOn_32 rfl inX3 (by decide) wd_252 rfl).row
theorem o54_35 : OkE cX3_comeOn RX3 "comeOn" 6 2 false (35, .iload 5, 37, []) := (r_iload dX3_comeOn_35).row
theorem o54_37 : OkE cX3_comeOn RX3 "comeOn" 6 2 false (37, .iload 3, 38, []) := (r_iload_n dX3_comeOn_37 rfl).row
theorem o54_38 : OkE cX3_comeOn RX3 "comeOn" 6 2 false (38, .iconst 1, 39, []) := (r_iconst dX3_comeOn_38 rfl).row
theorem o54_39 : OkE cX3_comeOn RX3 "comeOn" 6 2 false (39, .isub, 40, []) := (r_isub dX3_comeOn_39).row
theorem o54_40 : OkE cX3_comeOn RX3 "comeOn" 6 2 false (40, .invokestatic 55, 43, []) := ⟨rfl, c_S dX3_comeOn_40 wd_860 wd_861 wd_72 wd_862 nmh_3⟩
theorem o54_43 : OkE cX3_comeOn RX3 "comeOn" 6 2 false (43, .iaload, 44, []) := (r_iald dX3_comeOn_43).row
theorem o54_44 : OkE cX3_comeOn RX3 "comeOn" 6 2 false (44, .iadd, 45, []) := (r_iadd dX3_comeOn_44).row
theorem o54_45 : OkE cX3_comeOn RX3 "comeOn" 6 2 false (45, .istore 4, 47, []) := (r_istore dX3_comeOn_45).row
theorem o54_47 : OkE cX3_comeOn RX3 "comeOn" 6 2 false (47, .iinc 5 1, 50, []) := (r_iinc dX3_comeOn_47 rfl).row
theorem o54_50 : OkE cX3_comeOn RX3 "comeOn" 6 2 false (50, .goto 6, 53, []) := (r_goto dX3_comeOn_50 rfl).row
theorem o54_53 : OkE cX3_comeOn RX3 "comeOn" 6 2 false (53, .iload 4, 55, [0, 1, 2, 3, 5]) := (r_iload dX3_comeOn_53).row
theorem o54_55 : OkE cX3_comeOn RX3 "comeOn" 6 2 false (55, .ireturn, 56, []) := dX3_comeOn_55
theorem ok54 : ∀ x ∈ k54, OkE cX3_comeOn RX3 "comeOn" 6 2 false x := List.forall_mem_cons.mpr ⟨o54_0, List.forall_mem_cons.mpr ⟨o54_1, List.forall_mem_cons.mpr ⟨o54_3, List.forall_mem_cons.mpr ⟨o54_4, List.forall_mem_cons.mpr ⟨o54_6, List.forall_mem_cons.mpr ⟨o54_8, List.forall_mem_cons.mpr ⟨o54_9, List.forall_mem_cons.mpr ⟨o54_12, List.forall_mem_cons.mpr ⟨o54_15, List.forall_mem_cons.mpr ⟨o54_16, List.forall_mem_cons.mpr ⟨o54_19, List.forall_mem_cons.mpr ⟨o54_20, List.forall_mem_cons.mpr ⟨o54_22, List.forall_mem_cons.mpr ⟨o54_25, List.forall_mem_cons.mpr ⟨o54_26, List.forall_mem_cons.mpr ⟨o54_29, List.forall_mem_cons.mpr ⟨o54_31, List.forall_mem_cons.mpr ⟨o54_32, List.forall_mem_cons.mpr ⟨o54_35, List.forall_mem_cons.mpr ⟨o54_37, List.forall_mem_cons.mpr ⟨o54_38, List.forall_mem_cons.mpr ⟨o54_39, List.forall_mem_cons.mpr ⟨o54_40, List.forall_mem_cons.mpr ⟨o54_43, List.forall_mem_cons.mpr ⟨o54_44, List.forall_mem_cons.mpr ⟨o54_45, List.forall_mem_cons.mpr ⟨o54_47, List.forall_mem_cons.mpr ⟨o54_50, List.forall_mem_cons.mpr ⟨o54_53, List.forall_mem_cons.mpr ⟨o54_55, fun _ h => absurd h List.not_mem_nil⟩⟩⟩⟩⟩⟩⟩⟩⟩⟩⟩⟩⟩⟩⟩⟩⟩⟩⟩⟩⟩⟩⟩⟩⟩⟩⟩⟩⟩⟩
theorem o55_0 : OkE cX3_row RX3 "row" 3 0 false (0, .iload 0, 1, []) := (r_iload_n dX3_row_0 rfl).row
theorem o55_1 : OkE cX3_row RX3 "row" 3 0 false (1, .iconst 6, 3, []) := (r_bipush dX3_row_1 rfl).row
theorem o55_3 : OkE cX3_row RX3 "row" 3 0 false (3, .imul, 4, []) := (r_imul dX3_row_3).row
theorem o55_4 : OkE cX3_row RX3 "row" 3 0 false (4, .iload 1, 5, []) := (r_iload_n dX3_row_4 rfl).row
theorem o55_5 : OkE cX3_row RX3 "row" 3 0 false (5, .iadd, 6, []) := (r_iadd dX3_row_5).row
theorem o55_6 : OkE cX3_row RX3 "row" 3 0 false (6, .istore 2, 7, []) := (r_istore_n dX3_row_6 rfl).row
theorem o55_7 : OkE cX3_row RX3 "row" 3 0 false (7, .iload 2, 8, []) := (r_iload_n dX3_row_7 rfl).row
theorem o55_8 : OkE cX3_row RX3 "row" 3 0 false (8, .ifCond .lt 21, 11, []) := (r_if_lt dX3_row_8 rfl).row
theorem o55_11 : OkE cX3_row RX3 "row" 3 0 false (11, .iload 2, 12, []) := (r_iload_n dX3_row_11 rfl).row
theorem o55_12 : OkE cX3_row RX3 "row" 3 0 false (12, .iconst 18, 14, []) := (r_bipush dX3_row_12 rfl).row
theorem o55_14 : OkE cX3_row RX3 "row" 3 0 false (14, .if_icmp .ge 21, 17, []) := (r_icmp_ge dX3_row_14 rfl).row
theorem o55_17 : OkE cX3_row RX3 "row" 3 0 false (17, .iload 2, 18, []) := (r_iload_n dX3_row_17 rfl).row
theorem o55_18 : OkE cX3_row RX3 "row" 3 0 false (18, .goto 22, 21, []) := (r_goto dX3_row_18 rfl).row
theorem o55_21 : OkE cX3_row RX3 "row" 3 0 false (21, .iconst 0, 22, [0, 1, 2]) := (r_iconst dX3_row_21 rfl).row
theorem o55_22 : OkE cX3_row RX3 "row" 3 0 false (22, .ireturn, 23, [0, 1, 2]) := dX3_row_22
theorem ok55 : ∀ x ∈ k55, OkE cX3_row RX3 "row" 3 0 false x := List.forall_mem_cons.mpr ⟨o55_0, List.forall_mem_cons.mpr ⟨o55_1, List.forall_mem_cons.mpr ⟨o55_3, List.forall_mem_cons.mpr ⟨o55_4, List.forall_mem_cons.mpr ⟨o55_5, List.forall_mem_cons.mpr ⟨o55_6, List.forall_mem_cons.mpr ⟨o55_7, List.forall_mem_cons.mpr ⟨o55_8, List.forall_mem_cons.mpr ⟨o55_11, List.forall_mem_cons.mpr ⟨o55_12, List.forall_mem_cons.mpr ⟨o55_14, List.forall_mem_cons.mpr ⟨o55_17, List.forall_mem_cons.mpr ⟨o55_18, List.forall_mem_cons.mpr ⟨o55_21, List.forall_mem_cons.mpr ⟨o55_22, fun _ h => absurd h List.not_mem_nil⟩⟩⟩⟩⟩⟩⟩⟩⟩⟩⟩⟩⟩⟩⟩
theorem o56_0 : OkE cX3_tellBehind RX3 "tellBehind" 5 1 false (0, .iload 1, 1, []) := (r_iload_n dX3_tellBehind_0 rfl).row
theorem o56_1 : OkE cX3_tellBehind RX3 "tellBehind" 5 1 false (1, .iload 2, 2, []) := (r_iload_n dX3_tellBehind_1 rfl).row
theorem o56_2 : OkE cX3_tellBehind RX3 "tellBehind" 5 1 false (2, .invokestatic 55, 5, []) := ⟨rfl, c_S dX3_tellBehind_2 wd_860 wd_861 wd_72 wd_862 nmh_3⟩
theorem o56_5 : OkE cX3_tellBehind RX3 "tellBehind" 5 1 false (5, .istore 4, 7, []) := (r_istore dX3_tellBehind_5).row
theorem o56_7 : OkE cX3_tellBehind RX3 "tellBehind" 5 1 false (7, .iload 3, 8, []) := (r_iload_n dX3_tellBehind_7 rfl).row
theorem o56_8 : OkE cX3_tellBehind RX3 "tellBehind" 5 1 false (8, .tableswitch 60 0 2 #[36, 44, 52], 36, []) := (r_tsw dX3_tellBehind_8 rfl rfl rfl (by decide) rfl).row
theorem o56_36 : OkE cX3_tellBehind RX3 "tellBehind" 5 1 false (36, .aload 0, 37, []) := (r_aload_n dX3_tellBehind_36 rfl).row
theorem o56_37 : OkE cX3_tellBehind RX3 "tellBehind" 5 1 false (37, .invokeinterface 3 0, 40, []) := (r_get (C := RX3) (T := TX3) (N := 13) (ci := 3) (j := 0) (ref := RX3) dX3_tellBehind_37 rfl inX3 (by decide) wd_249 rfl).row
theorem o56_40 : OkE cX3_tellBehind RX3 "tellBehind" 5 1 false (40, .iload 4, 42, []) := (r_iload dX3_tellBehind_40).row
theorem o56_42 : OkE cX3_tellBehind RX3 "tellBehind" 5 1 false (42, .iaload, 43, []) := (r_iald dX3_tellBehind_42).row
theorem o56_43 : OkE cX3_tellBehind RX3 "tellBehind" 5 1 false (43, .ireturn, 44, []) := dX3_tellBehind_43
theorem o56_44 : OkE cX3_tellBehind RX3 "tellBehind" 5 1 false (44, .aload 0, 45, []) := (r_aload_n dX3_tellBehind_44 rfl).row
theorem o56_45 : OkE cX3_tellBehind RX3 "tellBehind" 5 1 false (45, .invokeinterface 3 1, 48, []) := (r_get (C := RX3) (T := TX3) (N := 13) (ci := 3) (j := 1) (ref := RX3) dX3_tellBehind_45 rfl inX3 (by decide) wd_250 rfl).row
theorem o56_48 : OkE cX3_tellBehind RX3 "tellBehind" 5 1 false (48, .iload 4, 50, []) := (r_iload dX3_tellBehind_48).row
theorem o56_50 : OkE cX3_tellBehind RX3 "tellBehind" 5 1 false (50, .iaload, 51, []) := (r_iald dX3_tellBehind_50).row
theorem o56_51 : OkE cX3_tellBehind RX3 "tellBehind" 5 1 false (51, .ireturn, 52, []) := dX3_tellBehind_51
theorem o56_52 : OkE cX3_tellBehind RX3 "tellBehind" 5 1 false (52, .aload 0, 53, []) := (r_aload_n dX3_tellBehind_52 rfl).row
theorem o56_53 : OkE cX3_tellBehind RX3 "tellBehind" 5 1 false (53, .invokeinterface 3 2, 56, []) := (r_get (C := RX3) (T := TX3) (N := 13) (ci := 3) (j := 2) (ref := RX3) dX3_tellBehind_53 rfl inX3 (by decide) wd_251 rfl).row
theorem o56_56 : OkE cX3_tellBehind RX3 "tellBehind" 5 1 false (56, .iload 4, 58, []) := (r_iload dX3_tellBehind_56).row
theorem o56_58 : OkE cX3_tellBehind RX3 "tellBehind" 5 1 false (58, .iaload, 59, []) := (r_iald dX3_tellBehind_58).row
theorem o56_59 : OkE cX3_tellBehind RX3 "tellBehind" 5 1 false (59, .ireturn, 60, []) := dX3_tellBehind_59
theorem o56_60 : OkE cX3_tellBehind RX3 "tellBehind" 5 1 false (60, .aload 0, 61, []) := (r_aload_n dX3_tellBehind_60 rfl).row
theorem o56_61 : OkE cX3_tellBehind RX3 "tellBehind" 5 1 false (61, .invokeinterface 3 3, 64, []) := (r_get (C := RX3) (T := TX3) (N := 13) (ci := 3) (j := 3) (ref := RX3) dX3_tellBehind_61 rfl inX3 (by decide) wd_252 rfl).row
theorem o56_64 : OkE cX3_tellBehind RX3 "tellBehind" 5 1 false (64, .iload 4, 66, []) := (r_iload dX3_tellBehind_64).row
theorem o56_66 : OkE cX3_tellBehind RX3 "tellBehind" 5 1 false (66, .iaload, 67, []) := (r_iald dX3_tellBehind_66).row
theorem o56_67 : OkE cX3_tellBehind RX3 "tellBehind" 5 1 false (67, .ireturn, 68, []) := dX3_tellBehind_67
theorem ok56 : ∀ x ∈ k56, OkE cX3_tellBehind RX3 "tellBehind" 5 1 false x := List.forall_mem_cons.mpr ⟨o56_0, List.forall_mem_cons.mpr ⟨o56_1, List.forall_mem_cons.mpr ⟨o56_2, List.forall_mem_cons.mpr ⟨o56_5, List.forall_mem_cons.mpr ⟨o56_7, List.forall_mem_cons.mpr ⟨o56_8, List.forall_mem_cons.mpr ⟨o56_36, List.forall_mem_cons.mpr ⟨o56_37, List.forall_mem_cons.mpr ⟨o56_40, List.forall_mem_cons.mpr ⟨o56_42, List.forall_mem_cons.mpr ⟨o56_43, List.forall_mem_cons.mpr ⟨o56_44, List.forall_mem_cons.mpr ⟨o56_45, List.forall_mem_cons.mpr ⟨o56_48, List.forall_mem_cons.mpr ⟨o56_50, List.forall_mem_cons.mpr ⟨o56_51, List.forall_mem_cons.mpr ⟨o56_52, List.forall_mem_cons.mpr ⟨o56_53, List.forall_mem_cons.mpr ⟨o56_56, List.forall_mem_cons.mpr ⟨o56_58, List.forall_mem_cons.mpr ⟨o56_59, List.forall_mem_cons.mpr ⟨o56_60, List.forall_mem_cons.mpr ⟨o56_61, List.forall_mem_cons.mpr ⟨o56_64, List.forall_mem_cons.mpr ⟨o56_66, List.forall_mem_cons.mpr ⟨o56_67, fun _ h => absurd h List.not_mem_nil⟩⟩⟩⟩⟩⟩⟩⟩⟩⟩⟩⟩⟩⟩⟩⟩⟩⟩⟩⟩⟩⟩⟩⟩⟩⟩
theorem o57_0 : OkE cX3_soldBy RX3 "soldBy" 3 1 false (0, .aload 0, 1, []) := (r_aload_n dX3_soldBy_0 rfl).row
theorem o57_1 : OkE cX3_soldBy RX3 "soldBy" 3 1 false (1, .invokeinterface 3 1, 4, []) := (r_get (C := RX3) (T := TX3) (N := 13) (ci := 3) (j := 1) (ref := RX3) dX3_soldBy_1 rfl inX3 (by decide) wd_250 rfl).row
theorem o57_4 : OkE cX3_soldBy RX3 "soldBy" 3 1 false (4, .iload 1, 5, []) := (r_iload_n dX3_soldBy_4 rfl).row
theorem o57_5 : OkE cX3_soldBy RX3 "soldBy" 3 1 false (5, .iload 2, 6, []) := (r_iload_n dX3_soldBy_5 rfl).row
theorem o57_6 : OkE cX3_soldBy RX3 "soldBy" 3 1 false (6, .invokestatic 55, 9, []) := ⟨rfl, c_S dX3_soldBy_6 wd_860 wd_861 wd_72 wd_862 nmh_3⟩
theorem o57_9 : OkE cX3_soldBy RX3 "soldBy" 3 1 false (9, .iaload, 10, []) := (r_iald dX3_soldBy_9).row
theorem o57_10 : OkE cX3_soldBy RX3 "soldBy" 3 1 false (10, .ireturn, 11, []) := dX3_soldBy_10
theorem ok57 : ∀ x ∈ k57, OkE cX3_soldBy RX3 "soldBy" 3 1 false x := List.forall_mem_cons.mpr ⟨o57_0, List.forall_mem_cons.mpr ⟨o57_1, List.forall_mem_cons.mpr ⟨o57_4, List.forall_mem_cons.mpr ⟨o57_5, List.forall_mem_cons.mpr ⟨o57_6, List.forall_mem_cons.mpr ⟨o57_9, List.forall_mem_cons.mpr ⟨o57_10, fun _ h => absurd h List.not_mem_nil⟩⟩⟩⟩⟩⟩⟩
theorem o58_0 : OkE cX3_firstWithout RX3 "firstWithout" 3 1 false (0, .iconst 0, 1, []) := (r_iconst dX3_firstWithout_0 rfl).row
theorem o58_1 : OkE cX3_firstWithout RX3 "firstWithout" 3 1 false (1, .istore 2, 2, []) := (r_istore_n dX3_firstWithout_1 rfl).row
theorem o58_2 : OkE cX3_firstWithout RX3 "firstWithout" 3 1 false (2, .iload 2, 3, []) := (r_iload_n dX3_firstWithout_2 rfl).row
theorem o58_3 : OkE cX3_firstWithout RX3 "firstWithout" 3 1 false (3, .iconst 6, 5, []) := (r_bipush dX3_firstWithout_3 rfl).row
theorem o58_5 : OkE cX3_firstWithout RX3 "firstWithout" 3 1 false (5, .if_icmp .ge 29, 8, []) := (r_icmp_ge dX3_firstWithout_5 rfl).row
theorem o58_8 : OkE cX3_firstWithout RX3 "firstWithout" 3 1 false (8, .aload 0, 9, []) := (r_aload_n dX3_firstWithout_8 rfl).row
theorem o58_9 : OkE cX3_firstWithout RX3 "firstWithout" 3 1 false (9, .invokeinterface 3 3, 12, []) := (r_get (C := RX3) (T := TX3) (N := 13) (ci := 3) (j := 3) (ref := RX3) dX3_firstWithout_9 rfl inX3 (by decide) wd_252 rfl).row
theorem o58_12 : OkE cX3_firstWithout RX3 "firstWithout" 3 1 false (12, .iload 1, 13, []) := (r_iload_n dX3_firstWithout_12 rfl).row
theorem o58_13 : OkE cX3_firstWithout RX3 "firstWithout" 3 1 false (13, .iload 2, 14, []) := (r_iload_n dX3_firstWithout_13 rfl).row
theorem o58_14 : OkE cX3_firstWithout RX3 "firstWithout" 3 1 false (14, .invokestatic 55, 17, []) := ⟨rfl, c_S dX3_firstWithout_14 wd_860 wd_861 wd_72 wd_862 nmh_3⟩
theorem o58_17 : OkE cX3_firstWithout RX3 "firstWithout" 3 1 false (17, .iaload, 18, []) := (r_iald dX3_firstWithout_17).row
theorem o58_18 : OkE cX3_firstWithout RX3 "firstWithout" 3 1 false (18, .ifCond .le 23, 21, []) := (r_if_le dX3_firstWithout_18 rfl).row
theorem o58_21 : OkE cX3_firstWithout RX3 "firstWithout" 3 1 false (21, .iload 2, 22, []) := (r_iload_n dX3_firstWithout_21 rfl).row
theorem o58_22 : OkE cX3_firstWithout RX3 "firstWithout" 3 1 false (22, .ireturn, 23, []) := dX3_firstWithout_22
theorem o58_23 : OkE cX3_firstWithout RX3 "firstWithout" 3 1 false (23, .iinc 2 1, 26, []) := (r_iinc dX3_firstWithout_23 rfl).row
theorem o58_26 : OkE cX3_firstWithout RX3 "firstWithout" 3 1 false (26, .goto 2, 29, []) := (r_goto dX3_firstWithout_26 rfl).row
theorem o58_29 : OkE cX3_firstWithout RX3 "firstWithout" 3 1 false (29, .iconst (-9), 31, []) := (r_bipush dX3_firstWithout_29 rfl).row
theorem o58_31 : OkE cX3_firstWithout RX3 "firstWithout" 3 1 false (31, .ireturn, 32, []) := dX3_firstWithout_31
theorem ok58 : ∀ x ∈ k58, OkE cX3_firstWithout RX3 "firstWithout" 3 1 false x := List.forall_mem_cons.mpr ⟨o58_0, List.forall_mem_cons.mpr ⟨o58_1, List.forall_mem_cons.mpr ⟨o58_2, List.forall_mem_cons.mpr ⟨o58_3, List.forall_mem_cons.mpr ⟨o58_5, List.forall_mem_cons.mpr ⟨o58_8, List.forall_mem_cons.mpr ⟨o58_9, List.forall_mem_cons.mpr ⟨o58_12, List.forall_mem_cons.mpr ⟨o58_13, List.forall_mem_cons.mpr ⟨o58_14, List.forall_mem_cons.mpr ⟨o58_17, List.forall_mem_cons.mpr ⟨o58_18, List.forall_mem_cons.mpr ⟨o58_21, List.forall_mem_cons.mpr ⟨o58_22, List.forall_mem_cons.mpr ⟨o58_23, List.forall_mem_cons.mpr ⟨o58_26, List.forall_mem_cons.mpr ⟨o58_29, List.forall_mem_cons.mpr ⟨o58_31, fun _ h => absurd h List.not_mem_nil⟩⟩⟩⟩⟩⟩⟩⟩⟩⟩⟩⟩⟩⟩⟩⟩⟩⟩
theorem o59_0 : OkE cX3_soldInAll RX3 "soldInAll" 3 0 false (0, .iconst 0, 1, []) := (r_iconst dX3_soldInAll_0 rfl).row
theorem o59_1 : OkE cX3_soldInAll RX3 "soldInAll" 3 0 false (1, .istore 1, 2, []) := (r_istore_n dX3_soldInAll_1 rfl).row
theorem o59_2 : OkE cX3_soldInAll RX3 "soldInAll" 3 0 false (2, .iconst 0, 3, []) := (r_iconst dX3_soldInAll_2 rfl).row
theorem o59_3 : OkE cX3_soldInAll RX3 "soldInAll" 3 0 false (3, .istore 2, 4, []) := (r_istore_n dX3_soldInAll_3 rfl).row
theorem o59_4 : OkE cX3_soldInAll RX3 "soldInAll" 3 0 false (4, .iload 2, 5, []) := (r_iload_n dX3_soldInAll_4 rfl).row
theorem o59_5 : OkE cX3_soldInAll RX3 "soldInAll" 3 0 false (5, .aload 0, 6, []) := (r_aload_n dX3_soldInAll_5 rfl).row
theorem o59_6 : OkE cX3_soldInAll RX3 "soldInAll" 3 0 false (6, .invokeinterface 3 6, 9, []) := (r_get (C := RX3) (T := TX3) (N := 13) (ci := 3) (j := 6) (ref := RX3) dX3_soldInAll_6 rfl inX3 (by decide) wd_255 rfl).row
theorem o59_9 : OkE cX3_soldInAll RX3 "soldInAll" 3 0 false (9, .if_icmp .ge 32, 12, []) := (r_icmp_ge dX3_soldInAll_9 rfl).row
theorem o59_12 : OkE cX3_soldInAll RX3 "soldInAll" 3 0 false (12, .iload 2, 13, []) := (r_iload_n dX3_soldInAll_12 rfl).row
theorem o59_13 : OkE cX3_soldInAll RX3 "soldInAll" 3 0 false (13, .iconst 3, 14, []) := (r_iconst dX3_soldInAll_13 rfl).row
theorem o59_14 : OkE cX3_soldInAll RX3 "soldInAll" 3 0 false (14, .if_icmp .ge 32, 17, []) := (r_icmp_ge dX3_soldInAll_14 rfl).row
theorem o59_17 : OkE cX3_soldInAll RX3 "soldInAll" 3 0 false (17, .iload 1, 18, []) := (r_iload_n dX3_soldInAll_17 rfl).row
theorem o59_18 : OkE cX3_soldInAll RX3 "soldInAll" 3 0 false (18, .aload 0, 19, []) := (r_aload_n dX3_soldInAll_18 rfl).row
theorem o59_19 : OkE cX3_soldInAll RX3 "soldInAll" 3 0 false (19, .invokeinterface 3 5, 22, []) := (r_get (C := RX3) (T := TX3) (N := 13) (ci := 3) (j := 5) (ref := RX3) dX3_soldInAll_19 rfl inX3 (by decide) wd_254 rfl).row
theorem o59_22 : OkE cX3_soldInAll RX3 "soldInAll" 3 0 false (22, .iload 2, 23, []) := (r_iload_n dX3_soldInAll_22 rfl).row
theorem o59_23 : OkE cX3_soldInAll RX3 "soldInAll" 3 0 false (23, .iaload, 24, []) := (r_iald dX3_soldInAll_23).row
theorem o59_24 : OkE cX3_soldInAll RX3 "soldInAll" 3 0 false (24, .iadd, 25, []) := (r_iadd dX3_soldInAll_24).row
theorem o59_25 : OkE cX3_soldInAll RX3 "soldInAll" 3 0 false (25, .istore 1, 26, []) := (r_istore_n dX3_soldInAll_25 rfl).row
theorem o59_26 : OkE cX3_soldInAll RX3 "soldInAll" 3 0 false (26, .iinc 2 1, 29, []) := (r_iinc dX3_soldInAll_26 rfl).row
theorem o59_29 : OkE cX3_soldInAll RX3 "soldInAll" 3 0 false (29, .goto 4, 32, []) := (r_goto dX3_soldInAll_29 rfl).row
theorem o59_32 : OkE cX3_soldInAll RX3 "soldInAll" 3 0 false (32, .iload 1, 33, [0, 2]) := (r_iload_n dX3_soldInAll_32 rfl).row
theorem o59_33 : OkE cX3_soldInAll RX3 "soldInAll" 3 0 false (33, .ireturn, 34, []) := dX3_soldInAll_33
theorem ok59 : ∀ x ∈ k59, OkE cX3_soldInAll RX3 "soldInAll" 3 0 false x := List.forall_mem_cons.mpr ⟨o59_0, List.forall_mem_cons.mpr ⟨o59_1, List.forall_mem_cons.mpr ⟨o59_2, List.forall_mem_cons.mpr ⟨o59_3, List.forall_mem_cons.mpr ⟨o59_4, List.forall_mem_cons.mpr ⟨o59_5, List.forall_mem_cons.mpr ⟨o59_6, List.forall_mem_cons.mpr ⟨o59_9, List.forall_mem_cons.mpr ⟨o59_12, List.forall_mem_cons.mpr ⟨o59_13, List.forall_mem_cons.mpr ⟨o59_14, List.forall_mem_cons.mpr ⟨o59_17, List.forall_mem_cons.mpr ⟨o59_18, List.forall_mem_cons.mpr ⟨o59_19, List.forall_mem_cons.mpr ⟨o59_22, List.forall_mem_cons.mpr ⟨o59_23, List.forall_mem_cons.mpr ⟨o59_24, List.forall_mem_cons.mpr ⟨o59_25, List.forall_mem_cons.mpr ⟨o59_26, List.forall_mem_cons.mpr ⟨o59_29, List.forall_mem_cons.mpr ⟨o59_32, List.forall_mem_cons.mpr ⟨o59_33, fun _ h => absurd h List.not_mem_nil⟩⟩⟩⟩⟩⟩⟩⟩⟩⟩⟩⟩⟩⟩⟩⟩⟩⟩⟩⟩⟩⟩
theorem o60_0 : OkE cX3_leftAtCorners RX3 "leftAtCorners" 3 0 false (0, .iconst 0, 1, []) := (r_iconst dX3_leftAtCorners_0 rfl).row
theorem o60_1 : OkE cX3_leftAtCorners RX3 "leftAtCorners" 3 0 false (1, .istore 1, 2, []) := (r_istore_n dX3_leftAtCorners_1 rfl).row
theorem o60_2 : OkE cX3_leftAtCorners RX3 "leftAtCorners" 3 0 false (2, .iconst 0, 3, []) := (r_iconst dX3_leftAtCorners_2 rfl).row
theorem o60_3 : OkE cX3_leftAtCorners RX3 "leftAtCorners" 3 0 false (3, .istore 2, 4, []) := (r_istore_n dX3_leftAtCorners_3 rfl).row
theorem o60_4 : OkE cX3_leftAtCorners RX3 "leftAtCorners" 3 0 false (4, .iload 2, 5, []) := (r_iload_n dX3_leftAtCorners_4 rfl).row
theorem o60_5 : OkE cX3_leftAtCorners RX3 "leftAtCorners" 3 0 false (5, .aload 0, 6, []) := (r_aload_n dX3_leftAtCorners_5 rfl).row
theorem o60_6 : OkE cX3_leftAtCorners RX3 "leftAtCorners" 3 0 false (6, .invokeinterface 3 6, 9, []) := (r_get (C := RX3) (T := TX3) (N := 13) (ci := 3) (j := 6) (ref := RX3) dX3_leftAtCorners_6 rfl inX3 (by decide) wd_255 rfl).row
theorem o60_9 : OkE cX3_leftAtCorners RX3 "leftAtCorners" 3 0 false (9, .if_icmp .ge 32, 12, []) := (r_icmp_ge dX3_leftAtCorners_9 rfl).row
theorem o60_12 : OkE cX3_leftAtCorners RX3 "leftAtCorners" 3 0 false (12, .iload 2, 13, []) := (r_iload_n dX3_leftAtCorners_12 rfl).row
theorem o60_13 : OkE cX3_leftAtCorners RX3 "leftAtCorners" 3 0 false (13, .iconst 3, 14, []) := (r_iconst dX3_leftAtCorners_13 rfl).row
theorem o60_14 : OkE cX3_leftAtCorners RX3 "leftAtCorners" 3 0 false (14, .if_icmp .ge 32, 17, []) := (r_icmp_ge dX3_leftAtCorners_14 rfl).row
theorem o60_17 : OkE cX3_leftAtCorners RX3 "leftAtCorners" 3 0 false (17, .iload 1, 18, []) := (r_iload_n dX3_leftAtCorners_17 rfl).row
theorem o60_18 : OkE cX3_leftAtCorners RX3 "leftAtCorners" 3 0 false (18, .aload 0, 19, []) := (r_aload_n dX3_leftAtCorners_18 rfl).row
theorem o60_19 : OkE cX3_leftAtCorners RX3 "leftAtCorners" 3 0 false (19, .invokeinterface 3 4, 22, []) := (r_get (C := RX3) (T := TX3) (N := 13) (ci := 3) (j := 4) (ref := RX3) dX3_leftAtCorners_19 rfl inX3 (by decide) wd_253 rfl).row
theorem o60_22 : OkE cX3_leftAtCorners RX3 "leftAtCorners" 3 0 false (22, .iload 2, 23, []) := (r_iload_n dX3_leftAtCorners_22 rfl).row
theorem o60_23 : OkE cX3_leftAtCorners RX3 "leftAtCorners" 3 0 false (23, .iaload, 24, []) := (r_iald dX3_leftAtCorners_23).row
theorem o60_24 : OkE cX3_leftAtCorners RX3 "leftAtCorners" 3 0 false (24, .iadd, 25, []) := (r_iadd dX3_leftAtCorners_24).row
theorem o60_25 : OkE cX3_leftAtCorners RX3 "leftAtCorners" 3 0 false (25, .istore 1, 26, []) := (r_istore_n dX3_leftAtCorners_25 rfl).row
theorem o60_26 : OkE cX3_leftAtCorners RX3 "leftAtCorners" 3 0 false (26, .iinc 2 1, 29, []) := (r_iinc dX3_leftAtCorners_26 rfl).row
theorem o60_29 : OkE cX3_leftAtCorners RX3 "leftAtCorners" 3 0 false (29, .goto 4, 32, []) := (r_goto dX3_leftAtCorners_29 rfl).row
theorem o60_32 : OkE cX3_leftAtCorners RX3 "leftAtCorners" 3 0 false (32, .iload 1, 33, [0, 2]) := (r_iload_n dX3_leftAtCorners_32 rfl).row
theorem o60_33 : OkE cX3_leftAtCorners RX3 "leftAtCorners" 3 0 false (33, .ireturn, 34, []) := dX3_leftAtCorners_33
theorem ok60 : ∀ x ∈ k60, OkE cX3_leftAtCorners RX3 "leftAtCorners" 3 0 false x := List.forall_mem_cons.mpr ⟨o60_0, List.forall_mem_cons.mpr ⟨o60_1, List.forall_mem_cons.mpr ⟨o60_2, List.forall_mem_cons.mpr ⟨o60_3, List.forall_mem_cons.mpr ⟨o60_4, List.forall_mem_cons.mpr ⟨o60_5, List.forall_mem_cons.mpr ⟨o60_6, List.forall_mem_cons.mpr ⟨o60_9, List.forall_mem_cons.mpr ⟨o60_12, List.forall_mem_cons.mpr ⟨o60_13, List.forall_mem_cons.mpr ⟨o60_14, List.forall_mem_cons.mpr ⟨o60_17, List.forall_mem_cons.mpr ⟨o60_18, List.forall_mem_cons.mpr ⟨o60_19, List.forall_mem_cons.mpr ⟨o60_22, List.forall_mem_cons.mpr ⟨o60_23, List.forall_mem_cons.mpr ⟨o60_24, List.forall_mem_cons.mpr ⟨o60_25, List.forall_mem_cons.mpr ⟨o60_26, List.forall_mem_cons.mpr ⟨o60_29, List.forall_mem_cons.mpr ⟨o60_32, List.forall_mem_cons.mpr ⟨o60_33, fun _ h => absurd h List.not_mem_nil⟩⟩⟩⟩⟩⟩⟩⟩⟩⟩⟩⟩⟩⟩⟩⟩⟩⟩⟩⟩⟩⟩
theorem o61_0 : OkE cX3_leftInVan RX3 "leftInVan" 1 0 false (0, .aload 0, 1, []) := (r_aload_n dX3_leftInVan_0 rfl).row
theorem o61_1 : OkE cX3_leftInVan RX3 "leftInVan" 1 0 false (1, .invokeinterface 3 7, 4, []) := (r_get (C := RX3) (T := TX3) (N := 13) (ci := 3) (j := 7) (ref := RX3) dX3_leftInVan_1 rfl inX3 (by decide) wd_256 rfl).row
theorem o61_4 : OkE cX3_leftInVan RX3 "leftInVan" 1 0 false (4, .ireturn, 5, []) := dX3_leftInVan_4
theorem ok61 : ∀ x ∈ k61, OkE cX3_leftInVan RX3 "leftInVan" 1 0 false x := List.forall_mem_cons.mpr ⟨o61_0, List.forall_mem_cons.mpr ⟨o61_1, List.forall_mem_cons.mpr ⟨o61_4, fun _ h => absurd h List.not_mem_nil⟩⟩⟩
theorem o62_0 : OkE cX3_wentHome RX3 "wentHome" 1 0 false (0, .aload 0, 1, []) := (r_aload_n dX3_wentHome_0 rfl).row
theorem o62_1 : OkE cX3_wentHome RX3 "wentHome" 1 0 false (1, .invokeinterface 3 8, 4, []) := (r_get (C := RX3) (T := TX3) (N := 13) (ci := 3) (j := 8) (ref := RX3) dX3_wentHome_1 rfl inX3 (by decide) wd_257 rfl).row
theorem o62_4 : OkE cX3_wentHome RX3 "wentHome" 1 0 false (4, .ireturn, 5, []) := dX3_wentHome_4
theorem ok62 : ∀ x ∈ k62, OkE cX3_wentHome RX3 "wentHome" 1 0 false x := List.forall_mem_cons.mpr ⟨o62_0, List.forall_mem_cons.mpr ⟨o62_1, List.forall_mem_cons.mpr ⟨o62_4, fun _ h => absurd h List.not_mem_nil⟩⟩⟩
theorem o63_0 : OkE cX3_earnedAtEnd RX3 "earnedAtEnd" 5 1 false (0, .aload 0, 1, []) := (r_aload_n dX3_earnedAtEnd_0 rfl).row
theorem o63_1 : OkE cX3_earnedAtEnd RX3 "earnedAtEnd" 5 1 false (1, .invokevirtual 60, 4, []) := ⟨rfl, c_V dX3_earnedAtEnd_1 wd_895 wd_880 wd_881 wd_72 wd_882 nmh_3⟩
theorem o63_4 : OkE cX3_earnedAtEnd RX3 "earnedAtEnd" 5 1 false (4, .aload 0, 5, []) := (r_aload_n dX3_earnedAtEnd_4 rfl).row
theorem o63_5 : OkE cX3_earnedAtEnd RX3 "earnedAtEnd" 5 1 false (5, .invokeinterface 3 7, 8, []) := (r_get (C := RX3) (T := TX3) (N := 13) (ci := 3) (j := 7) (ref := RX3) dX3_earnedAtEnd_5 rfl inX3 (by decide) wd_256 rfl).row
theorem o63_8 : OkE cX3_earnedAtEnd RX3 "earnedAtEnd" 5 1 false (8, .iadd, 9, []) := (r_iadd dX3_earnedAtEnd_8).row
theorem o63_9 : OkE cX3_earnedAtEnd RX3 "earnedAtEnd" 5 1 false (9, .istore 3, 10, []) := (r_istore_n dX3_earnedAtEnd_9 rfl).row
theorem o63_10 : OkE cX3_earnedAtEnd RX3 "earnedAtEnd" 5 1 false (10, .aload 2, 11, []) := (r_aload_n dX3_earnedAtEnd_10 rfl).row
theorem o63_11 : OkE cX3_earnedAtEnd RX3 "earnedAtEnd" 5 1 false (11, .invokevirtual 27, 14, []) := ⟨rfl, c_V dX3_earnedAtEnd_11 wd_896 wd_897 wd_898 wd_70 wd_899 nmh_1⟩
theorem o63_14 : OkE cX3_earnedAtEnd RX3 "earnedAtEnd" 5 1 false (14, .aload 2, 15, []) := (r_aload_n dX3_earnedAtEnd_14 rfl).row
theorem o63_15 : OkE cX3_earnedAtEnd RX3 "earnedAtEnd" 5 1 false (15, .invokeinterface 1 7, 18, []) := (r_getN (C := RX1) (T := TX1) (N := 11) (ci := 1) (j := 7) (ref := RX1) dX3_earnedAtEnd_15 rfl inX1 (by decide) wd_209 rfl).row
theorem o63_18 : OkE cX3_earnedAtEnd RX3 "earnedAtEnd" 5 1 false (18, .iadd, 19, []) := (r_iadd dX3_earnedAtEnd_18).row
theorem o63_19 : OkE cX3_earnedAtEnd RX3 "earnedAtEnd" 5 1 false (19, .aload 1, 20, []) := (r_aload_n dX3_earnedAtEnd_19 rfl).row
theorem o63_20 : OkE cX3_earnedAtEnd RX3 "earnedAtEnd" 5 1 false (20, .invokeinterface 6 5, 23, []) := (r_getN (C := RX6) (T := TX6) (N := 8) (ci := 6) (j := 5) (ref := RX6) dX3_earnedAtEnd_20 rfl inX6 (by decide) wd_315 rfl).row
theorem o63_23 : OkE cX3_earnedAtEnd RX3 "earnedAtEnd" 5 1 false (23, .imul, 24, []) := (r_imul dX3_earnedAtEnd_23).row
theorem o63_24 : OkE cX3_earnedAtEnd RX3 "earnedAtEnd" 5 1 false (24, .istore 4, 26, []) := (r_istore dX3_earnedAtEnd_24).row
theorem o63_26 : OkE cX3_earnedAtEnd RX3 "earnedAtEnd" 5 1 false (26, .aload 0, 27, []) := (r_aload_n dX3_earnedAtEnd_26 rfl).row
theorem o63_27 : OkE cX3_earnedAtEnd RX3 "earnedAtEnd" 5 1 false (27, .invokevirtual 59, 30, []) := ⟨rfl, c_V dX3_earnedAtEnd_27 wd_900 wd_876 wd_877 wd_72 wd_878 nmh_3⟩
theorem o63_30 : OkE cX3_earnedAtEnd RX3 "earnedAtEnd" 5 1 false (30, .aload 1, 31, []) := (r_aload_n dX3_earnedAtEnd_30 rfl).row
theorem o63_31 : OkE cX3_earnedAtEnd RX3 "earnedAtEnd" 5 1 false (31, .invokeinterface 6 6, 34, []) := (r_getN (C := RX6) (T := TX6) (N := 8) (ci := 6) (j := 6) (ref := RX6) dX3_earnedAtEnd_31 rfl inX6 (by decide) wd_320 rfl).row
theorem o63_34 : OkE cX3_earnedAtEnd RX3 "earnedAtEnd" 5 1 false (34, .imul, 35, []) := (r_imul dX3_earnedAtEnd_34).row
theorem o63_35 : OkE cX3_earnedAtEnd RX3 "earnedAtEnd" 5 1 false (35, .iload 3, 36, []) := (r_iload_n dX3_earnedAtEnd_35 rfl).row
theorem o63_36 : OkE cX3_earnedAtEnd RX3 "earnedAtEnd" 5 1 false (36, .aload 1, 37, []) := (r_aload_n dX3_earnedAtEnd_36 rfl).row
theorem o63_37 : OkE cX3_earnedAtEnd RX3 "earnedAtEnd" 5 1 false (37, .invokeinterface 6 7, 40, []) := (r_getN (C := RX6) (T := TX6) (N := 8) (ci := 6) (j := 7) (ref := RX6) dX3_earnedAtEnd_37 rfl inX6 (by decide) wd_325 rfl).row
theorem o63_40 : OkE cX3_earnedAtEnd RX3 "earnedAtEnd" 5 1 false (40, .imul, 41, []) := (r_imul dX3_earnedAtEnd_40).row
theorem o63_41 : OkE cX3_earnedAtEnd RX3 "earnedAtEnd" 5 1 false (41, .iadd, 42, []) := (r_iadd dX3_earnedAtEnd_41).row
theorem o63_42 : OkE cX3_earnedAtEnd RX3 "earnedAtEnd" 5 1 false (42, .iload 4, 44, []) := (r_iload dX3_earnedAtEnd_42).row
theorem o63_44 : OkE cX3_earnedAtEnd RX3 "earnedAtEnd" 5 1 false (44, .isub, 45, []) := (r_isub dX3_earnedAtEnd_44).row
theorem o63_45 : OkE cX3_earnedAtEnd RX3 "earnedAtEnd" 5 1 false (45, .ireturn, 46, []) := dX3_earnedAtEnd_45
theorem ok63 : ∀ x ∈ k63, OkE cX3_earnedAtEnd RX3 "earnedAtEnd" 5 1 false x := List.forall_mem_cons.mpr ⟨o63_0, List.forall_mem_cons.mpr ⟨o63_1, List.forall_mem_cons.mpr ⟨o63_4, List.forall_mem_cons.mpr ⟨o63_5, List.forall_mem_cons.mpr ⟨o63_8, List.forall_mem_cons.mpr ⟨o63_9, List.forall_mem_cons.mpr ⟨o63_10, List.forall_mem_cons.mpr ⟨o63_11, List.forall_mem_cons.mpr ⟨o63_14, List.forall_mem_cons.mpr ⟨o63_15, List.forall_mem_cons.mpr ⟨o63_18, List.forall_mem_cons.mpr ⟨o63_19, List.forall_mem_cons.mpr ⟨o63_20, List.forall_mem_cons.mpr ⟨o63_23, List.forall_mem_cons.mpr ⟨o63_24, List.forall_mem_cons.mpr ⟨o63_26, List.forall_mem_cons.mpr ⟨o63_27, List.forall_mem_cons.mpr ⟨o63_30, List.forall_mem_cons.mpr ⟨o63_31, List.forall_mem_cons.mpr ⟨o63_34, List.forall_mem_cons.mpr ⟨o63_35, List.forall_mem_cons.mpr ⟨o63_36, List.forall_mem_cons.mpr ⟨o63_37, List.forall_mem_cons.mpr ⟨o63_40, List.forall_mem_cons.mpr ⟨o63_41, List.forall_mem_cons.mpr ⟨o63_42, List.forall_mem_cons.mpr ⟨o63_44, List.forall_mem_cons.mpr ⟨o63_45, fun _ h => absurd h List.not_mem_nil⟩⟩⟩⟩⟩⟩⟩⟩⟩⟩⟩⟩⟩⟩⟩⟩⟩⟩⟩⟩⟩⟩⟩⟩⟩⟩⟩⟩
theorem o64_0 : OkE cX4_init RX4 "<init>" 1 1 false (0, .aload 0, 1, []) := (r_aload_n dX4_init_0 rfl).row
theorem o64_1 : OkE cX4_init RX4 "<init>" 1 1 false (1, .monitorexit, 4, []) := (r_obj dX4_init_1 wd_144 wd_83 wd_84 (by decide)).row
theorem o64_4 : OkE cX4_init RX4 "<init>" 1 1 false (4, .aload 0, 5, []) := (r_aload_n dX4_init_4 rfl).row
theorem o64_5 : OkE cX4_init RX4 "<init>" 1 1 false (5, .iconst 8, 7, []) := (r_bipush dX4_init_5 rfl).row
theorem o64_7 : OkE cX4_init RX4 "<init>" 1 1 false (7, .newarray .int, 9, []) := r_newi dX4_init_7 wd_98
theorem o64_9 : OkE cX4_init RX4 "<init>" 1 1 false (9, .multianewarray 4 0, 12, []) := r_putFR (C := RX4) (T := TX4) (N := 3) (ci := 4) (j := 0) (ref := RX4) dX4_init_9 rfl inX4 tyX4 tyX4_ok nmX4 (by decide) wd_145 rfl rfl rfl rfl (tyX4_ok 0 (by decide)) (fun a => ⟨rfl, rfl⟩) rfl
theorem o64_12 : OkE cX4_init RX4 "<init>" 1 1 false (12, .aload 0, 13, []) := (r_aload_n dX4_init_12 rfl).row
theorem o64_13 : OkE cX4_init RX4 "<init>" 1 1 false (13, .iconst 8, 15, []) := (r_bipush dX4_init_13 rfl).row
theorem o64_15 : OkE cX4_init RX4 "<init>" 1 1 false (15, .newarray .int, 17, []) := r_newi dX4_init_15 wd_98
theorem o64_17 : OkE cX4_init RX4 "<init>" 1 1 false (17, .multianewarray 4 1, 20, []) := r_putFR (C := RX4) (T := TX4) (N := 3) (ci := 4) (j := 1) (ref := RX4) dX4_init_17 rfl inX4 tyX4 tyX4_ok nmX4 (by decide) wd_146 rfl rfl rfl rfl (tyX4_ok 1 (by decide)) (fun a => ⟨rfl, rfl⟩) rfl
theorem o64_20 : OkE cX4_init RX4 "<init>" 1 1 false (20, .aload 0, 21, []) := (r_aload_n dX4_init_20 rfl).row
theorem o64_21 : OkE cX4_init RX4 "<init>" 1 1 false (21, .iconst 0, 22, []) := (r_iconst dX4_init_21 rfl).row
theorem o64_22 : OkE cX4_init RX4 "<init>" 1 1 false (22, .multianewarray 4 2, 25, []) := r_putI (C := RX4) (T := TX4) (N := 3) (ci := 4) (j := 2) (ref := RX4) dX4_init_22 rfl inX4 tyX4 tyX4_ok nmX4 (by decide) wd_147 rfl rfl (tyX4_ok 2 (by decide)) rfl
theorem o64_25 : OkE cX4_init RX4 "<init>" 1 1 false (25, .return_, 26, []) := dX4_init_25
theorem ok64 : ∀ x ∈ k64, OkE cX4_init RX4 "<init>" 1 1 false x := List.forall_mem_cons.mpr ⟨o64_0, List.forall_mem_cons.mpr ⟨o64_1, List.forall_mem_cons.mpr ⟨o64_4, List.forall_mem_cons.mpr ⟨o64_5, List.forall_mem_cons.mpr ⟨o64_7, List.forall_mem_cons.mpr ⟨o64_9, List.forall_mem_cons.mpr ⟨o64_12, List.forall_mem_cons.mpr ⟨o64_13, List.forall_mem_cons.mpr ⟨o64_15, List.forall_mem_cons.mpr ⟨o64_17, List.forall_mem_cons.mpr ⟨o64_20, List.forall_mem_cons.mpr ⟨o64_21, List.forall_mem_cons.mpr ⟨o64_22, List.forall_mem_cons.mpr ⟨o64_25, fun _ h => absurd h List.not_mem_nil⟩⟩⟩⟩⟩⟩⟩⟩⟩⟩⟩⟩⟩⟩
theorem o65_0 : OkE cX4_size RX4 "size" 1 0 false (0, .aload 0, 1, []) := (r_aload_n dX4_size_0 rfl).row
theorem o65_1 : OkE cX4_size RX4 "size" 1 0 false (1, .invokeinterface 4 2, 4, []) := (r_get (C := RX4) (T := TX4) (N := 3) (ci := 4) (j := 2) (ref := RX4) dX4_size_1 rfl inX4 (by decide) wd_147 rfl).row
theorem o65_4 : OkE cX4_size RX4 "size" 1 0 false (4, .ireturn, 5, []) := dX4_size_4
theorem ok65 : ∀ x ∈ k65, OkE cX4_size RX4 "size" 1 0 false x := List.forall_mem_cons.mpr ⟨o65_0, List.forall_mem_cons.mpr ⟨o65_1, List.forall_mem_cons.mpr ⟨o65_4, fun _ h => absurd h List.not_mem_nil⟩⟩⟩
theorem o66_0 : OkE cX4_add RX4 "add" 3 0 false (0, .aload 0, 1, []) := (r_aload_n dX4_add_0 rfl).row
theorem o66_1 : OkE cX4_add RX4 "add" 3 0 false (1, .invokeinterface 4 2, 4, []) := (r_get (C := RX4) (T := TX4) (N := 3) (ci := 4) (j := 2) (ref := RX4) dX4_add_1 rfl inX4 (by decide) wd_147 rfl).row
theorem o66_4 : OkE cX4_add RX4 "add" 3 0 false (4, .iconst 8, 6, []) := (r_bipush dX4_add_4 rfl).row
theorem o66_6 : OkE cX4_add RX4 "add" 3 0 false (6, .if_icmp .lt 11, 9, []) := (r_icmp_lt dX4_add_6 rfl).row
theorem o66_9 : OkE cX4_add RX4 "add" 3 0 false (9, .iconst 0, 10, []) := (r_iconst dX4_add_9 rfl).row
theorem o66_10 : OkE cX4_add RX4 "add" 3 0 false (10, .ireturn, 11, []) := dX4_add_10
theorem o66_11 : OkE cX4_add RX4 "add" 3 0 false (11, .aload 0, 12, []) := (r_aload_n dX4_add_11 rfl).row
theorem o66_12 : OkE cX4_add RX4 "add" 3 0 false (12, .invokeinterface 4 0, 15, []) := (r_get (C := RX4) (T := TX4) (N := 3) (ci := 4) (j := 0) (ref := RX4) dX4_add_12 rfl inX4 (by decide) wd_145 rfl).row
theorem o66_15 : OkE cX4_add RX4 "add" 3 0 false (15, .aload 0, 16, []) := (r_aload_n dX4_add_15 rfl).row
theorem o66_16 : OkE cX4_add RX4 "add" 3 0 false (16, .invokeinterface 4 2, 19, []) := (r_get (C := RX4) (T := TX4) (N := 3) (ci := 4) (j := 2) (ref := RX4) dX4_add_16 rfl inX4 (by decide) wd_147 rfl).row
theorem o66_19 : OkE cX4_add RX4 "add" 3 0 false (19, .iload 1, 20, []) := (r_iload_n dX4_add_19 rfl).row
theorem o66_20 : OkE cX4_add RX4 "add" 3 0 false (20, .iastore, 21, []) := r_iast dX4_add_20
theorem o66_21 : OkE cX4_add RX4 "add" 3 0 false (21, .aload 0, 22, []) := (r_aload_n dX4_add_21 rfl).row
theorem o66_22 : OkE cX4_add RX4 "add" 3 0 false (22, .invokeinterface 4 1, 25, []) := (r_get (C := RX4) (T := TX4) (N := 3) (ci := 4) (j := 1) (ref := RX4) dX4_add_22 rfl inX4 (by decide) wd_146 rfl).row
theorem o66_25 : OkE cX4_add RX4 "add" 3 0 false (25, .aload 0, 26, []) := (r_aload_n dX4_add_25 rfl).row
theorem o66_26 : OkE cX4_add RX4 "add" 3 0 false (26, .invokeinterface 4 2, 29, []) := (r_get (C := RX4) (T := TX4) (N := 3) (ci := 4) (j := 2) (ref := RX4) dX4_add_26 rfl inX4 (by decide) wd_147 rfl).row
theorem o66_29 : OkE cX4_add RX4 "add" 3 0 false (29, .iload 2, 30, []) := (r_iload_n dX4_add_29 rfl).row
theorem o66_30 : OkE cX4_add RX4 "add" 3 0 false (30, .iastore, 31, []) := r_iast dX4_add_30
theorem o66_31 : OkE cX4_add RX4 "add" 3 0 false (31, .aload 0, 32, []) := (r_aload_n dX4_add_31 rfl).row
theorem o66_32 : OkE cX4_add RX4 "add" 3 0 false (32, .dup, 33, []) := (r_dup dX4_add_32).row
theorem o66_33 : OkE cX4_add RX4 "add" 3 0 false (33, .invokeinterface 4 2, 36, []) := (r_get (C := RX4) (T := TX4) (N := 3) (ci := 4) (j := 2) (ref := RX4) dX4_add_33 rfl inX4 (by decide) wd_147 rfl).row
theorem o66_36 : OkE cX4_add RX4 "add" 3 0 false (36, .iconst 1, 37, []) := (r_iconst dX4_add_36 rfl).row
theorem o66_37 : OkE cX4_add RX4 "add" 3 0 false (37, .iadd, 38, []) := (r_iadd dX4_add_37).row
theorem o66_38 : OkE cX4_add RX4 "add" 3 0 false (38, .multianewarray 4 2, 41, []) := r_putI (C := RX4) (T := TX4) (N := 3) (ci := 4) (j := 2) (ref := RX4) dX4_add_38 rfl inX4 tyX4 tyX4_ok nmX4 (by decide) wd_147 rfl rfl (tyX4_ok 2 (by decide)) rfl
theorem o66_41 : OkE cX4_add RX4 "add" 3 0 false (41, .iconst 1, 42, []) := (r_iconst dX4_add_41 rfl).row
theorem o66_42 : OkE cX4_add RX4 "add" 3 0 false (42, .ireturn, 43, []) := dX4_add_42
theorem ok66 : ∀ x ∈ k66, OkE cX4_add RX4 "add" 3 0 false x := List.forall_mem_cons.mpr ⟨o66_0, List.forall_mem_cons.mpr ⟨o66_1, List.forall_mem_cons.mpr ⟨o66_4, List.forall_mem_cons.mpr ⟨o66_6, List.forall_mem_cons.mpr ⟨o66_9, List.forall_mem_cons.mpr ⟨o66_10, List.forall_mem_cons.mpr ⟨o66_11, List.forall_mem_cons.mpr ⟨o66_12, List.forall_mem_cons.mpr ⟨o66_15, List.forall_mem_cons.mpr ⟨o66_16, List.forall_mem_cons.mpr ⟨o66_19, List.forall_mem_cons.mpr ⟨o66_20, List.forall_mem_cons.mpr ⟨o66_21, List.forall_mem_cons.mpr ⟨o66_22, List.forall_mem_cons.mpr ⟨o66_25, List.forall_mem_cons.mpr ⟨o66_26, List.forall_mem_cons.mpr ⟨o66_29, List.forall_mem_cons.mpr ⟨o66_30, List.forall_mem_cons.mpr ⟨o66_31, List.forall_mem_cons.mpr ⟨o66_32, List.forall_mem_cons.mpr ⟨o66_33, List.forall_mem_cons.mpr ⟨o66_36, List.forall_mem_cons.mpr ⟨o66_37, List.forall_mem_cons.mpr ⟨o66_38, List.forall_mem_cons.mpr ⟨o66_41, List.forall_mem_cons.mpr ⟨o66_42, fun _ h => absurd h List.not_mem_nil⟩⟩⟩⟩⟩⟩⟩⟩⟩⟩⟩⟩⟩⟩⟩⟩⟩⟩⟩⟩⟩⟩⟩⟩⟩⟩
theorem o67_0 : OkE cX4_empty RX4 "empty" 2 0 false (0, .aload 0, 1, []) := (r_aload_n dX4_empty_0 rfl).row
theorem o67_1 : OkE cX4_empty RX4 "empty" 2 0 false (1, .invokeinterface 4 2, 4, []) := (r_get (C := RX4) (T := TX4) (N := 3) (ci := 4) (j := 2) (ref := RX4) dX4_empty_1 rfl inX4 (by decide) wd_147 rfl).row
theorem o67_4 : OkE cX4_empty RX4 "empty" 2 0 false (4, .istore 1, 5, []) := (r_istore_n dX4_empty_4 rfl).row
theorem o67_5 : OkE cX4_empty RX4 "empty" 2 0 false (5, .aload 0, 6, []) := (r_aload_n dX4_empty_5 rfl).row
theorem o67_6 : OkE cX4_empty RX4 "empty" 2 0 false (6, .iconst 0, 7, []) := (r_iconst dX4_empty_6 rfl).row
theorem o67_7 : OkE cX4_empty RX4 "empty" 2 0 false (7, .multianewarray 4 2, 10, []) := r_putI (C := RX4) (T := TX4) (N := 3) (ci := 4) (j := 2) (ref := RX4) dX4_empty_7 rfl inX4 tyX4 tyX4_ok nmX4 (by decide) wd_147 rfl rfl (tyX4_ok 2 (by decide)) rfl
theorem o67_10 : OkE cX4_empty RX4 "empty" 2 0 false (10, .iload 1, 11, []) := (r_iload_n dX4_empty_10 rfl).row
theorem o67_11 : OkE cX4_empty RX4 "empty" 2 0 false (11, .ireturn, 12, []) := dX4_empty_11
theorem ok67 : ∀ x ∈ k67, OkE cX4_empty RX4 "empty" 2 0 false x := List.forall_mem_cons.mpr ⟨o67_0, List.forall_mem_cons.mpr ⟨o67_1, List.forall_mem_cons.mpr ⟨o67_4, List.forall_mem_cons.mpr ⟨o67_5, List.forall_mem_cons.mpr ⟨o67_6, List.forall_mem_cons.mpr ⟨o67_7, List.forall_mem_cons.mpr ⟨o67_10, List.forall_mem_cons.mpr ⟨o67_11, fun _ h => absurd h List.not_mem_nil⟩⟩⟩⟩⟩⟩⟩⟩
theorem o68_0 : OkE cX4_weight RX4 "weight" 8 2 false (0, .aload 1, 1, []) := (r_aload_n dX4_weight_0 rfl).row
theorem o68_1 : OkE cX4_weight RX4 "weight" 8 2 false (1, .iload 2, 2, []) := (r_iload_n dX4_weight_1 rfl).row
theorem o68_2 : OkE cX4_weight RX4 "weight" 8 2 false (2, .invokevirtual 83, 5, []) := ⟨rfl, c_V dX4_weight_2 wd_669 wd_352 wd_353 wd_73 wd_354 nmh_6⟩
theorem o68_5 : OkE cX4_weight RX4 "weight" 8 2 false (5, .i2l, 6, []) := (r_i2l dX4_weight_5).row
theorem o68_6 : OkE cX4_weight RX4 "weight" 8 2 false (6, .lstore 3, 7, []) := (r_lstore_n dX4_weight_6 rfl).row
theorem o68_7 : OkE cX4_weight RX4 "weight" 8 2 false (7, .iconst 0, 8, []) := (r_iconst dX4_weight_7 rfl).row
theorem o68_8 : OkE cX4_weight RX4 "weight" 8 2 false (8, .istore 5, 10, []) := (r_istore dX4_weight_8).row
theorem o68_10 : OkE cX4_weight RX4 "weight" 8 2 false (10, .iload 5, 12, [6, 7]) := (r_iload dX4_weight_10).row
theorem o68_12 : OkE cX4_weight RX4 "weight" 8 2 false (12, .aload 0, 13, []) := (r_aload_n dX4_weight_12 rfl).row
theorem o68_13 : OkE cX4_weight RX4 "weight" 8 2 false (13, .invokeinterface 4 2, 16, []) := (r_get (C := RX4) (T := TX4) (N := 3) (ci := 4) (j := 2) (ref := RX4) dX4_weight_13 rfl inX4 (by decide) wd_147 rfl).row
theorem o68_16 : OkE cX4_weight RX4 "weight" 8 2 false (16, .if_icmp .ge 98, 19, []) := (r_icmp_ge dX4_weight_16 rfl).row
theorem o68_19 : OkE cX4_weight RX4 "weight" 8 2 false (19, .iload 5, 21, []) := (r_iload dX4_weight_19).row
theorem o68_21 : OkE cX4_weight RX4 "weight" 8 2 false (21, .iconst 8, 23, []) := (r_bipush dX4_weight_21 rfl).row
theorem o68_23 : OkE cX4_weight RX4 "weight" 8 2 false (23, .if_icmp .ge 98, 26, []) := (r_icmp_ge dX4_weight_23 rfl).row
theorem o68_26 : OkE cX4_weight RX4 "weight" 8 2 false (26, .aload 0, 27, []) := (r_aload_n dX4_weight_26 rfl).row
theorem o68_27 : OkE cX4_weight RX4 "weight" 8 2 false (27, .invokeinterface 4 1, 30, []) := (r_get (C := RX4) (T := TX4) (N := 3) (ci := 4) (j := 1) (ref := RX4) dX4_weight_27 rfl inX4 (by decide) wd_146 rfl).row
theorem o68_30 : OkE cX4_weight RX4 "weight" 8 2 false (30, .iload 5, 32, []) := (r_iload dX4_weight_30).row
theorem o68_32 : OkE cX4_weight RX4 "weight" 8 2 false (32, .iaload, 33, []) := (r_iald dX4_weight_32).row
theorem o68_33 : OkE cX4_weight RX4 "weight" 8 2 false (33, .aload 1, 34, []) := (r_aload_n dX4_weight_33 rfl).row
theorem o68_34 : OkE cX4_weight RX4 "weight" 8 2 false (34, .aload 0, 35, []) := (r_aload_n dX4_weight_34 rfl).row
theorem o68_35 : OkE cX4_weight RX4 "weight" 8 2 false (35, .invokeinterface 4 0, 38, []) := (r_get (C := RX4) (T := TX4) (N := 3) (ci := 4) (j := 0) (ref := RX4) dX4_weight_35 rfl inX4 (by decide) wd_145 rfl).row
theorem o68_38 : OkE cX4_weight RX4 "weight" 8 2 false (38, .iload 5, 40, []) := (r_iload dX4_weight_38).row
theorem o68_40 : OkE cX4_weight RX4 "weight" 8 2 false (40, .iaload, 41, []) := (r_iald dX4_weight_40).row
theorem o68_41 : OkE cX4_weight RX4 "weight" 8 2 false (41, .iload 2, 42, []) := (r_iload_n dX4_weight_41 rfl).row
theorem o68_42 : OkE cX4_weight RX4 "weight" 8 2 false (42, .invokevirtual 84, 45, []) := ⟨rfl, c_V dX4_weight_42 wd_670 wd_359 wd_360 wd_73 wd_361 nmh_6⟩
theorem o68_45 : OkE cX4_weight RX4 "weight" 8 2 false (45, .isub, 46, []) := (r_isub dX4_weight_45).row
theorem o68_46 : OkE cX4_weight RX4 "weight" 8 2 false (46, .istore 6, 48, []) := (r_istore dX4_weight_46).row
theorem o68_48 : OkE cX4_weight RX4 "weight" 8 2 false (48, .aload 1, 49, []) := (r_aload_n dX4_weight_48 rfl).row
theorem o68_49 : OkE cX4_weight RX4 "weight" 8 2 false (49, .aload 0, 50, []) := (r_aload_n dX4_weight_49 rfl).row
theorem o68_50 : OkE cX4_weight RX4 "weight" 8 2 false (50, .invokeinterface 4 0, 53, []) := (r_get (C := RX4) (T := TX4) (N := 3) (ci := 4) (j := 0) (ref := RX4) dX4_weight_50 rfl inX4 (by decide) wd_145 rfl).row
theorem o68_53 : OkE cX4_weight RX4 "weight" 8 2 false (53, .iload 5, 55, []) := (r_iload dX4_weight_53).row
theorem o68_55 : OkE cX4_weight RX4 "weight" 8 2 false (55, .iaload, 56, []) := (r_iald dX4_weight_55).row
theorem o68_56 : OkE cX4_weight RX4 "weight" 8 2 false (56, .iload 2, 57, []) := (r_iload_n dX4_weight_56 rfl).row
theorem o68_57 : OkE cX4_weight RX4 "weight" 8 2 false (57, .invokevirtual 85, 60, []) := ⟨rfl, c_V dX4_weight_57 wd_671 wd_363 wd_364 wd_73 wd_365 nmh_6⟩
theorem o68_60 : OkE cX4_weight RX4 "weight" 8 2 false (60, .istore 7, 62, []) := (r_istore dX4_weight_60).row
theorem o68_62 : OkE cX4_weight RX4 "weight" 8 2 false (62, .lload 3, 63, []) := (r_lload_n dX4_weight_62 rfl).row
theorem o68_63 : OkE cX4_weight RX4 "weight" 8 2 false (63, .iload 6, 65, []) := (r_iload dX4_weight_63).row
theorem o68_65 : OkE cX4_weight RX4 "weight" 8 2 false (65, .iconst 1, 66, []) := (r_iconst dX4_weight_65 rfl).row
theorem o68_66 : OkE cX4_weight RX4 "weight" 8 2 false (66, .if_icmp .ne 75, 69, []) := (r_icmp_ne dX4_weight_66 rfl).row
theorem o68_69 : OkE cX4_weight RX4 "weight" 8 2 false (69, .iload 7, 71, []) := (r_iload dX4_weight_69).row
theorem o68_71 : OkE cX4_weight RX4 "weight" 8 2 false (71, .i2l, 72, []) := (r_i2l dX4_weight_71).row
theorem o68_72 : OkE cX4_weight RX4 "weight" 8 2 false (72, .goto 90, 75, []) := (r_goto dX4_weight_72 rfl).row
theorem o68_75 : OkE cX4_weight RX4 "weight" 8 2 false (75, .iload 6, 77, []) := (r_iload dX4_weight_75).row
theorem o68_77 : OkE cX4_weight RX4 "weight" 8 2 false (77, .ifCond .ne 89, 80, []) := (r_if_ne dX4_weight_77 rfl).row
theorem o68_80 : OkE cX4_weight RX4 "weight" 8 2 false (80, .iconst 10, 82, []) := (r_bipush dX4_weight_80 rfl).row
theorem o68_82 : OkE cX4_weight RX4 "weight" 8 2 false (82, .iload 7, 84, []) := (r_iload dX4_weight_82).row
theorem o68_84 : OkE cX4_weight RX4 "weight" 8 2 false (84, .isub, 85, []) := (r_isub dX4_weight_84).row
theorem o68_85 : OkE cX4_weight RX4 "weight" 8 2 false (85, .i2l, 86, []) := (r_i2l dX4_weight_85).row
theorem o68_86 : OkE cX4_weight RX4 "weight" 8 2 false (86, .goto 90, 89, []) := (r_goto dX4_weight_86 rfl).row
theorem o68_89 : OkE cX4_weight RX4 "weight" 8 2 false (89, .sipush 0, 90, []) := (r_lconst dX4_weight_89 rfl).row
theorem o68_90 : OkE cX4_weight RX4 "weight" 8 2 false (90, .lmul, 91, [3, 6, 7]) := (r_lmul dX4_weight_90).row
theorem o68_91 : OkE cX4_weight RX4 "weight" 8 2 false (91, .lstore 3, 92, []) := (r_lstore_n dX4_weight_91 rfl).row
theorem o68_92 : OkE cX4_weight RX4 "weight" 8 2 false (92, .iinc 5 1, 95, []) := (r_iinc dX4_weight_92 rfl).row
theorem o68_95 : OkE cX4_weight RX4 "weight" 8 2 false (95, .goto 10, 98, []) := (r_goto dX4_weight_95 rfl).row
theorem o68_98 : OkE cX4_weight RX4 "weight" 8 2 false (98, .lload 3, 99, [0, 1, 2, 5, 6, 7]) := (r_lload_n dX4_weight_98 rfl).row
theorem o68_99 : OkE cX4_weight RX4 "weight" 8 2 false (99, .lreturn, 100, []) := dX4_weight_99
theorem ok68 : ∀ x ∈ k68, OkE cX4_weight RX4 "weight" 8 2 false x := List.forall_mem_cons.mpr ⟨o68_0, List.forall_mem_cons.mpr ⟨o68_1, List.forall_mem_cons.mpr ⟨o68_2, List.forall_mem_cons.mpr ⟨o68_5, List.forall_mem_cons.mpr ⟨o68_6, List.forall_mem_cons.mpr ⟨o68_7, List.forall_mem_cons.mpr ⟨o68_8, List.forall_mem_cons.mpr ⟨o68_10, List.forall_mem_cons.mpr ⟨o68_12, List.forall_mem_cons.mpr ⟨o68_13, List.forall_mem_cons.mpr ⟨o68_16, List.forall_mem_cons.mpr ⟨o68_19, List.forall_mem_cons.mpr ⟨o68_21, List.forall_mem_cons.mpr ⟨o68_23, List.forall_mem_cons.mpr ⟨o68_26, List.forall_mem_cons.mpr ⟨o68_27, List.forall_mem_cons.mpr ⟨o68_30, List.forall_mem_cons.mpr ⟨o68_32, List.forall_mem_cons.mpr ⟨o68_33, List.forall_mem_cons.mpr ⟨o68_34, List.forall_mem_cons.mpr ⟨o68_35, List.forall_mem_cons.mpr ⟨o68_38, List.forall_mem_cons.mpr ⟨o68_40, List.forall_mem_cons.mpr ⟨o68_41, List.forall_mem_cons.mpr ⟨o68_42, List.forall_mem_cons.mpr ⟨o68_45, List.forall_mem_cons.mpr ⟨o68_46, List.forall_mem_cons.mpr ⟨o68_48, List.forall_mem_cons.mpr ⟨o68_49, List.forall_mem_cons.mpr ⟨o68_50, List.forall_mem_cons.mpr ⟨o68_53, List.forall_mem_cons.mpr ⟨o68_55, List.forall_mem_cons.mpr ⟨o68_56, List.forall_mem_cons.mpr ⟨o68_57, List.forall_mem_cons.mpr ⟨o68_60, List.forall_mem_cons.mpr ⟨o68_62, List.forall_mem_cons.mpr ⟨o68_63, List.forall_mem_cons.mpr ⟨o68_65, List.forall_mem_cons.mpr ⟨o68_66, List.forall_mem_cons.mpr ⟨o68_69, List.forall_mem_cons.mpr ⟨o68_71, List.forall_mem_cons.mpr ⟨o68_72, List.forall_mem_cons.mpr ⟨o68_75, List.forall_mem_cons.mpr ⟨o68_77, List.forall_mem_cons.mpr ⟨o68_80, List.forall_mem_cons.mpr ⟨o68_82, List.forall_mem_cons.mpr ⟨o68_84, List.forall_mem_cons.mpr ⟨o68_85, List.forall_mem_cons.mpr ⟨o68_86, List.forall_mem_cons.mpr ⟨o68_89, List.forall_mem_cons.mpr ⟨o68_90, List.forall_mem_cons.mpr ⟨o68_91, List.forall_mem_cons.mpr ⟨o68_92, List.forall_mem_cons.mpr ⟨o68_95, List.forall_mem_cons.mpr ⟨o68_98, List.forall_mem_cons.mpr ⟨o68_99, fun _ h => absurd h List.not_mem_nil⟩⟩⟩⟩⟩⟩⟩⟩⟩⟩⟩⟩⟩⟩⟩⟩⟩⟩⟩⟩⟩⟩⟩⟩⟩⟩⟩⟩⟩⟩⟩⟩⟩⟩⟩⟩⟩⟩⟩⟩⟩⟩⟩⟩⟩⟩⟩⟩⟩⟩⟩⟩⟩⟩⟩⟩
theorem o69_0 : OkE cX4_weightOfAll RX4 "weightOfAll" 5 3 false (0, .sipush 0, 1, []) := (r_lconst dX4_weightOfAll_0 rfl).row
theorem o69_1 : OkE cX4_weightOfAll RX4 "weightOfAll" 5 3 false (1, .lstore 2, 2, []) := (r_lstore_n dX4_weightOfAll_1 rfl).row
theorem o69_2 : OkE cX4_weightOfAll RX4 "weightOfAll" 5 3 false (2, .iconst 0, 3, []) := (r_iconst dX4_weightOfAll_2 rfl).row
theorem o69_3 : OkE cX4_weightOfAll RX4 "weightOfAll" 5 3 false (3, .istore 4, 5, []) := (r_istore dX4_weightOfAll_3).row
theorem o69_5 : OkE cX4_weightOfAll RX4 "weightOfAll" 5 3 false (5, .iload 4, 7, []) := (r_iload dX4_weightOfAll_5).row
theorem o69_7 : OkE cX4_weightOfAll RX4 "weightOfAll" 5 3 false (7, .iconst 3, 8, []) := (r_iconst dX4_weightOfAll_7 rfl).row
theorem o69_8 : OkE cX4_weightOfAll RX4 "weightOfAll" 5 3 false (8, .if_icmp .ge 27, 11, []) := (r_icmp_ge dX4_weightOfAll_8 rfl).row
theorem o69_11 : OkE cX4_weightOfAll RX4 "weightOfAll" 5 3 false (11, .lload 2, 12, []) := (r_lload_n dX4_weightOfAll_11 rfl).row
theorem o69_12 : OkE cX4_weightOfAll RX4 "weightOfAll" 5 3 false (12, .aload 0, 13, []) := (r_aload_n dX4_weightOfAll_12 rfl).row
theorem o69_13 : OkE cX4_weightOfAll RX4 "weightOfAll" 5 3 false (13, .aload 1, 14, []) := (r_aload_n dX4_weightOfAll_13 rfl).row
theorem o69_14 : OkE cX4_weightOfAll RX4 "weightOfAll" 5 3 false (14, .iload 4, 16, []) := (r_iload dX4_weightOfAll_14).row
theorem o69_16 : OkE cX4_weightOfAll RX4 "weightOfAll" 5 3 false (16, .invokevirtual 68, 19, []) := ⟨rfl, c_V dX4_weightOfAll_16 wd_665 wd_666 wd_667 wd_68 wd_668 nmh_4⟩
theorem o69_19 : OkE cX4_weightOfAll RX4 "weightOfAll" 5 3 false (19, .ladd, 20, []) := (r_ladd dX4_weightOfAll_19).row
theorem o69_20 : OkE cX4_weightOfAll RX4 "weightOfAll" 5 3 false (20, .lstore 2, 21, []) := (r_lstore_n dX4_weightOfAll_20 rfl).row
theorem o69_21 : OkE cX4_weightOfAll RX4 "weightOfAll" 5 3 false (21, .iinc 4 1, 24, []) := (r_iinc dX4_weightOfAll_21 rfl).row
theorem o69_24 : OkE cX4_weightOfAll RX4 "weightOfAll" 5 3 false (24, .goto 5, 27, []) := (r_goto dX4_weightOfAll_24 rfl).row
theorem o69_27 : OkE cX4_weightOfAll RX4 "weightOfAll" 5 3 false (27, .lload 2, 28, []) := (r_lload_n dX4_weightOfAll_27 rfl).row
theorem o69_28 : OkE cX4_weightOfAll RX4 "weightOfAll" 5 3 false (28, .lreturn, 29, []) := dX4_weightOfAll_28
theorem ok69 : ∀ x ∈ k69, OkE cX4_weightOfAll RX4 "weightOfAll" 5 3 false x := List.forall_mem_cons.mpr ⟨o69_0, List.forall_mem_cons.mpr ⟨o69_1, List.forall_mem_cons.mpr ⟨o69_2, List.forall_mem_cons.mpr ⟨o69_3, List.forall_mem_cons.mpr ⟨o69_5, List.forall_mem_cons.mpr ⟨o69_7, List.forall_mem_cons.mpr ⟨o69_8, List.forall_mem_cons.mpr ⟨o69_11, List.forall_mem_cons.mpr ⟨o69_12, List.forall_mem_cons.mpr ⟨o69_13, List.forall_mem_cons.mpr ⟨o69_14, List.forall_mem_cons.mpr ⟨o69_16, List.forall_mem_cons.mpr ⟨o69_19, List.forall_mem_cons.mpr ⟨o69_20, List.forall_mem_cons.mpr ⟨o69_21, List.forall_mem_cons.mpr ⟨o69_24, List.forall_mem_cons.mpr ⟨o69_27, List.forall_mem_cons.mpr ⟨o69_28, fun _ h => absurd h List.not_mem_nil⟩⟩⟩⟩⟩⟩⟩⟩⟩⟩⟩⟩⟩⟩⟩⟩⟩⟩
theorem o70_0 : OkE cX4_heaviest RX4 "heaviest" 4 3 false (0, .iconst 0, 1, []) := (r_iconst dX4_heaviest_0 rfl).row
theorem o70_1 : OkE cX4_heaviest RX4 "heaviest" 4 3 false (1, .istore 2, 2, []) := (r_istore_n dX4_heaviest_1 rfl).row
theorem o70_2 : OkE cX4_heaviest RX4 "heaviest" 4 3 false (2, .iconst 1, 3, []) := (r_iconst dX4_heaviest_2 rfl).row
theorem o70_3 : OkE cX4_heaviest RX4 "heaviest" 4 3 false (3, .istore 3, 4, []) := (r_istore_n dX4_heaviest_3 rfl).row
theorem o70_4 : OkE cX4_heaviest RX4 "heaviest" 4 3 false (4, .iload 3, 5, []) := (r_iload_n dX4_heaviest_4 rfl).row
theorem o70_5 : OkE cX4_heaviest RX4 "heaviest" 4 3 false (5, .iconst 3, 6, []) := (r_iconst dX4_heaviest_5 rfl).row
theorem o70_6 : OkE cX4_heaviest RX4 "heaviest" 4 3 false (6, .if_icmp .ge 33, 9, []) := (r_icmp_ge dX4_heaviest_6 rfl).row
theorem o70_9 : OkE cX4_heaviest RX4 "heaviest" 4 3 false (9, .aload 0, 10, []) := (r_aload_n dX4_heaviest_9 rfl).row
theorem o70_10 : OkE cX4_heaviest RX4 "heaviest" 4 3 false (10, .aload 1, 11, []) := (r_aload_n dX4_heaviest_10 rfl).row
theorem o70_11 : OkE cX4_heaviest RX4 "heaviest" 4 3 false (11, .iload 3, 12, []) := (r_iload_n dX4_heaviest_11 rfl).row
theorem o70_12 : OkE cX4_heaviest RX4 "heaviest" 4 3 false (12, .invokevirtual 68, 15, []) := ⟨rfl, c_V dX4_heaviest_12 wd_665 wd_666 wd_667 wd_68 wd_668 nmh_4⟩
theorem o70_15 : OkE cX4_heaviest RX4 "heaviest" 4 3 false (15, .aload 0, 16, []) := (r_aload_n dX4_heaviest_15 rfl).row
theorem o70_16 : OkE cX4_heaviest RX4 "heaviest" 4 3 false (16, .aload 1, 17, []) := (r_aload_n dX4_heaviest_16 rfl).row
theorem o70_17 : OkE cX4_heaviest RX4 "heaviest" 4 3 false (17, .iload 2, 18, []) := (r_iload_n dX4_heaviest_17 rfl).row
theorem o70_18 : OkE cX4_heaviest RX4 "heaviest" 4 3 false (18, .invokevirtual 68, 21, []) := ⟨rfl, c_V dX4_heaviest_18 wd_665 wd_666 wd_667 wd_68 wd_668 nmh_4⟩
theorem o70_21 : OkE cX4_heaviest RX4 "heaviest" 4 3 false (21, .lcmp, 22, []) := (r_lcmp dX4_heaviest_21).row
theorem o70_22 : OkE cX4_heaviest RX4 "heaviest" 4 3 false (22, .ifCond .le 27, 25, []) := (r_if_le dX4_heaviest_22 rfl).row
theorem o70_25 : OkE cX4_heaviest RX4 "heaviest" 4 3 false (25, .iload 3, 26, []) := (r_iload_n dX4_heaviest_25 rfl).row
theorem o70_26 : OkE cX4_heaviest RX4 "heaviest" 4 3 false (26, .istore 2, 27, []) := (r_istore_n dX4_heaviest_26 rfl).row
theorem o70_27 : OkE cX4_heaviest RX4 "heaviest" 4 3 false (27, .iinc 3 1, 30, []) := (r_iinc dX4_heaviest_27 rfl).row
theorem o70_30 : OkE cX4_heaviest RX4 "heaviest" 4 3 false (30, .goto 4, 33, []) := (r_goto dX4_heaviest_30 rfl).row
theorem o70_33 : OkE cX4_heaviest RX4 "heaviest" 4 3 false (33, .iload 2, 34, []) := (r_iload_n dX4_heaviest_33 rfl).row
theorem o70_34 : OkE cX4_heaviest RX4 "heaviest" 4 3 false (34, .ireturn, 35, []) := dX4_heaviest_34
theorem ok70 : ∀ x ∈ k70, OkE cX4_heaviest RX4 "heaviest" 4 3 false x := List.forall_mem_cons.mpr ⟨o70_0, List.forall_mem_cons.mpr ⟨o70_1, List.forall_mem_cons.mpr ⟨o70_2, List.forall_mem_cons.mpr ⟨o70_3, List.forall_mem_cons.mpr ⟨o70_4, List.forall_mem_cons.mpr ⟨o70_5, List.forall_mem_cons.mpr ⟨o70_6, List.forall_mem_cons.mpr ⟨o70_9, List.forall_mem_cons.mpr ⟨o70_10, List.forall_mem_cons.mpr ⟨o70_11, List.forall_mem_cons.mpr ⟨o70_12, List.forall_mem_cons.mpr ⟨o70_15, List.forall_mem_cons.mpr ⟨o70_16, List.forall_mem_cons.mpr ⟨o70_17, List.forall_mem_cons.mpr ⟨o70_18, List.forall_mem_cons.mpr ⟨o70_21, List.forall_mem_cons.mpr ⟨o70_22, List.forall_mem_cons.mpr ⟨o70_25, List.forall_mem_cons.mpr ⟨o70_26, List.forall_mem_cons.mpr ⟨o70_27, List.forall_mem_cons.mpr ⟨o70_30, List.forall_mem_cons.mpr ⟨o70_33, List.forall_mem_cons.mpr ⟨o70_34, fun _ h => absurd h List.not_mem_nil⟩⟩⟩⟩⟩⟩⟩⟩⟩⟩⟩⟩⟩⟩⟩⟩⟩⟩⟩⟩⟩⟩⟩
theorem o71_0 : OkE cX4_mostUnlike RX4 "mostUnlike" 4 5 false (0, .iconst 0, 1, []) := (r_iconst dX4_mostUnlike_0 rfl).row
theorem o71_1 : OkE cX4_mostUnlike RX4 "mostUnlike" 4 5 false (1, .istore 2, 2, []) := (r_istore_n dX4_mostUnlike_1 rfl).row
theorem o71_2 : OkE cX4_mostUnlike RX4 "mostUnlike" 4 5 false (2, .iconst 1, 3, []) := (r_iconst dX4_mostUnlike_2 rfl).row
theorem o71_3 : OkE cX4_mostUnlike RX4 "mostUnlike" 4 5 false (3, .istore 3, 4, []) := (r_istore_n dX4_mostUnlike_3 rfl).row
theorem o71_4 : OkE cX4_mostUnlike RX4 "mostUnlike" 4 5 false (4, .iload 3, 5, []) := (r_iload_n dX4_mostUnlike_4 rfl).row
theorem o71_5 : OkE cX4_mostUnlike RX4 "mostUnlike" 4 5 false (5, .aload 1, 6, []) := (r_aload_n dX4_mostUnlike_5 rfl).row
theorem o71_6 : OkE cX4_mostUnlike RX4 "mostUnlike" 4 5 false (6, .invokeinterface 6 4, 9, []) := (r_getN (C := RX6) (T := TX6) (N := 8) (ci := 6) (j := 4) (ref := RX6) dX4_mostUnlike_6 rfl inX6 (by decide) wd_310 rfl).row
theorem o71_9 : OkE cX4_mostUnlike RX4 "mostUnlike" 4 5 false (9, .if_icmp .ge 35, 12, []) := (r_icmp_ge dX4_mostUnlike_9 rfl).row
theorem o71_12 : OkE cX4_mostUnlike RX4 "mostUnlike" 4 5 false (12, .aload 0, 13, []) := (r_aload_n dX4_mostUnlike_12 rfl).row
theorem o71_13 : OkE cX4_mostUnlike RX4 "mostUnlike" 4 5 false (13, .aload 1, 14, []) := (r_aload_n dX4_mostUnlike_13 rfl).row
theorem o71_14 : OkE cX4_mostUnlike RX4 "mostUnlike" 4 5 false (14, .iload 3, 15, []) := (r_iload_n dX4_mostUnlike_14 rfl).row
theorem o71_15 : OkE cX4_mostUnlike RX4 "mostUnlike" 4 5 false (15, .invokevirtual 72, 18, []) := ⟨rfl, c_V dX4_mostUnlike_15 wd_690 wd_692 wd_20 wd_68 wd_693 nmh_4⟩
theorem o71_18 : OkE cX4_mostUnlike RX4 "mostUnlike" 4 5 false (18, .aload 0, 19, []) := (r_aload_n dX4_mostUnlike_18 rfl).row
theorem o71_19 : OkE cX4_mostUnlike RX4 "mostUnlike" 4 5 false (19, .aload 1, 20, []) := (r_aload_n dX4_mostUnlike_19 rfl).row
theorem o71_20 : OkE cX4_mostUnlike RX4 "mostUnlike" 4 5 false (20, .iload 2, 21, []) := (r_iload_n dX4_mostUnlike_20 rfl).row
theorem o71_21 : OkE cX4_mostUnlike RX4 "mostUnlike" 4 5 false (21, .invokevirtual 72, 24, []) := ⟨rfl, c_V dX4_mostUnlike_21 wd_690 wd_692 wd_20 wd_68 wd_693 nmh_4⟩
theorem o71_24 : OkE cX4_mostUnlike RX4 "mostUnlike" 4 5 false (24, .if_icmp .le 29, 27, []) := (r_icmp_le dX4_mostUnlike_24 rfl).row
theorem o71_27 : OkE cX4_mostUnlike RX4 "mostUnlike" 4 5 false (27, .iload 3, 28, []) := (r_iload_n dX4_mostUnlike_27 rfl).row
theorem o71_28 : OkE cX4_mostUnlike RX4 "mostUnlike" 4 5 false (28, .istore 2, 29, []) := (r_istore_n dX4_mostUnlike_28 rfl).row
theorem o71_29 : OkE cX4_mostUnlike RX4 "mostUnlike" 4 5 false (29, .iinc 3 1, 32, []) := (r_iinc dX4_mostUnlike_29 rfl).row
theorem o71_32 : OkE cX4_mostUnlike RX4 "mostUnlike" 4 5 false (32, .goto 4, 35, []) := (r_goto dX4_mostUnlike_32 rfl).row
theorem o71_35 : OkE cX4_mostUnlike RX4 "mostUnlike" 4 5 false (35, .iload 2, 36, []) := (r_iload_n dX4_mostUnlike_35 rfl).row
theorem o71_36 : OkE cX4_mostUnlike RX4 "mostUnlike" 4 5 false (36, .ireturn, 37, []) := dX4_mostUnlike_36
theorem ok71 : ∀ x ∈ k71, OkE cX4_mostUnlike RX4 "mostUnlike" 4 5 false x := List.forall_mem_cons.mpr ⟨o71_0, List.forall_mem_cons.mpr ⟨o71_1, List.forall_mem_cons.mpr ⟨o71_2, List.forall_mem_cons.mpr ⟨o71_3, List.forall_mem_cons.mpr ⟨o71_4, List.forall_mem_cons.mpr ⟨o71_5, List.forall_mem_cons.mpr ⟨o71_6, List.forall_mem_cons.mpr ⟨o71_9, List.forall_mem_cons.mpr ⟨o71_12, List.forall_mem_cons.mpr ⟨o71_13, List.forall_mem_cons.mpr ⟨o71_14, List.forall_mem_cons.mpr ⟨o71_15, List.forall_mem_cons.mpr ⟨o71_18, List.forall_mem_cons.mpr ⟨o71_19, List.forall_mem_cons.mpr ⟨o71_20, List.forall_mem_cons.mpr ⟨o71_21, List.forall_mem_cons.mpr ⟨o71_24, List.forall_mem_cons.mpr ⟨o71_27, List.forall_mem_cons.mpr ⟨o71_28, List.forall_mem_cons.mpr ⟨o71_29, List.forall_mem_cons.mpr ⟨o71_32, List.forall_mem_cons.mpr ⟨o71_35, List.forall_mem_cons.mpr ⟨o71_36, fun _ h => absurd h List.not_mem_nil⟩⟩⟩⟩⟩⟩⟩⟩⟩⟩⟩⟩⟩⟩⟩⟩⟩⟩⟩⟩⟩⟩⟩
theorem o72_0 : OkE cX4_unlikeAt RX4 "unlikeAt" 5 4 false (0, .iconst 0, 1, []) := (r_iconst dX4_unlikeAt_0 rfl).row
theorem o72_1 : OkE cX4_unlikeAt RX4 "unlikeAt" 5 4 false (1, .istore 3, 2, []) := (r_istore_n dX4_unlikeAt_1 rfl).row
theorem o72_2 : OkE cX4_unlikeAt RX4 "unlikeAt" 5 4 false (2, .iconst 0, 3, []) := (r_iconst dX4_unlikeAt_2 rfl).row
theorem o72_3 : OkE cX4_unlikeAt RX4 "unlikeAt" 5 4 false (3, .istore 4, 5, []) := (r_istore dX4_unlikeAt_3).row
theorem o72_5 : OkE cX4_unlikeAt RX4 "unlikeAt" 5 4 false (5, .iload 4, 7, []) := (r_iload dX4_unlikeAt_5).row
theorem o72_7 : OkE cX4_unlikeAt RX4 "unlikeAt" 5 4 false (7, .iconst 3, 8, []) := (r_iconst dX4_unlikeAt_7 rfl).row
theorem o72_8 : OkE cX4_unlikeAt RX4 "unlikeAt" 5 4 false (8, .if_icmp .ge 43, 11, []) := (r_icmp_ge dX4_unlikeAt_8 rfl).row
theorem o72_11 : OkE cX4_unlikeAt RX4 "unlikeAt" 5 4 false (11, .aload 0, 12, []) := (r_aload_n dX4_unlikeAt_11 rfl).row
theorem o72_12 : OkE cX4_unlikeAt RX4 "unlikeAt" 5 4 false (12, .aload 1, 13, []) := (r_aload_n dX4_unlikeAt_12 rfl).row
theorem o72_13 : OkE cX4_unlikeAt RX4 "unlikeAt" 5 4 false (13, .iload 4, 15, []) := (r_iload dX4_unlikeAt_13).row
theorem o72_15 : OkE cX4_unlikeAt RX4 "unlikeAt" 5 4 false (15, .invokevirtual 68, 18, []) := ⟨rfl, c_V dX4_unlikeAt_15 wd_665 wd_666 wd_667 wd_68 wd_668 nmh_4⟩
theorem o72_18 : OkE cX4_unlikeAt RX4 "unlikeAt" 5 4 false (18, .sipush 0, 19, []) := (r_lconst dX4_unlikeAt_18 rfl).row
theorem o72_19 : OkE cX4_unlikeAt RX4 "unlikeAt" 5 4 false (19, .lcmp, 20, []) := (r_lcmp dX4_unlikeAt_19).row
theorem o72_20 : OkE cX4_unlikeAt RX4 "unlikeAt" 5 4 false (20, .ifCond .le 37, 23, []) := (r_if_le dX4_unlikeAt_20 rfl).row
theorem o72_23 : OkE cX4_unlikeAt RX4 "unlikeAt" 5 4 false (23, .aload 0, 24, []) := (r_aload_n dX4_unlikeAt_23 rfl).row
theorem o72_24 : OkE cX4_unlikeAt RX4 "unlikeAt" 5 4 false (24, .aload 1, 25, []) := (r_aload_n dX4_unlikeAt_24 rfl).row
theorem o72_25 : OkE cX4_unlikeAt RX4 "unlikeAt" 5 4 false (25, .iload 2, 26, []) := (r_iload_n dX4_unlikeAt_25 rfl).row
theorem o72_26 : OkE cX4_unlikeAt RX4 "unlikeAt" 5 4 false (26, .iload 4, 28, []) := (r_iload dX4_unlikeAt_26).row
theorem o72_28 : OkE cX4_unlikeAt RX4 "unlikeAt" 5 4 false (28, .invokevirtual 73, 31, []) := ⟨rfl, c_V dX4_unlikeAt_28 wd_694 wd_696 wd_21 wd_68 wd_697 nmh_4⟩
theorem o72_31 : OkE cX4_unlikeAt RX4 "unlikeAt" 5 4 false (31, .ifCond .ne 37, 34, []) := (r_if_ne dX4_unlikeAt_31 rfl).row
theorem o72_34 : OkE cX4_unlikeAt RX4 "unlikeAt" 5 4 false (34, .iinc 3 1, 37, []) := (r_iinc dX4_unlikeAt_34 rfl).row
theorem o72_37 : OkE cX4_unlikeAt RX4 "unlikeAt" 5 4 false (37, .iinc 4 1, 40, []) := (r_iinc dX4_unlikeAt_37 rfl).row
theorem o72_40 : OkE cX4_unlikeAt RX4 "unlikeAt" 5 4 false (40, .goto 5, 43, []) := (r_goto dX4_unlikeAt_40 rfl).row
theorem o72_43 : OkE cX4_unlikeAt RX4 "unlikeAt" 5 4 false (43, .iload 3, 44, []) := (r_iload_n dX4_unlikeAt_43 rfl).row
theorem o72_44 : OkE cX4_unlikeAt RX4 "unlikeAt" 5 4 false (44, .ireturn, 45, []) := dX4_unlikeAt_44
theorem ok72 : ∀ x ∈ k72, OkE cX4_unlikeAt RX4 "unlikeAt" 5 4 false x := List.forall_mem_cons.mpr ⟨o72_0, List.forall_mem_cons.mpr ⟨o72_1, List.forall_mem_cons.mpr ⟨o72_2, List.forall_mem_cons.mpr ⟨o72_3, List.forall_mem_cons.mpr ⟨o72_5, List.forall_mem_cons.mpr ⟨o72_7, List.forall_mem_cons.mpr ⟨o72_8, List.forall_mem_cons.mpr ⟨o72_11, List.forall_mem_cons.mpr ⟨o72_12, List.forall_mem_cons.mpr ⟨o72_13, List.forall_mem_cons.mpr ⟨o72_15, List.forall_mem_cons.mpr ⟨o72_18, List.forall_mem_cons.mpr ⟨o72_19, List.forall_mem_cons.mpr ⟨o72_20, List.forall_mem_cons.mpr ⟨o72_23, List.forall_mem_cons.mpr ⟨o72_24, List.forall_mem_cons.mpr ⟨o72_25, List.forall_mem_cons.mpr ⟨o72_26, List.forall_mem_cons.mpr ⟨o72_28, List.forall_mem_cons.mpr ⟨o72_31, List.forall_mem_cons.mpr ⟨o72_34, List.forall_mem_cons.mpr ⟨o72_37, List.forall_mem_cons.mpr ⟨o72_40, List.forall_mem_cons.mpr ⟨o72_43, List.forall_mem_cons.mpr ⟨o72_44, fun _ h => absurd h List.not_mem_nil⟩⟩⟩⟩⟩⟩⟩⟩⟩⟩⟩⟩⟩⟩⟩⟩⟩⟩⟩⟩⟩⟩⟩⟩⟩
theorem o73_0 : OkE cX4_isLikeAnEarlierOne RX4 "isLikeAnEarlierOne" 5 3 false (0, .iconst 0, 1, []) := (r_iconst dX4_isLikeAnEarlierOne_0 rfl).row
theorem o73_1 : OkE cX4_isLikeAnEarlierOne RX4 "isLikeAnEarlierOne" 5 3 false (1, .istore 4, 3, []) := (r_istore dX4_isLikeAnEarlierOne_1).row
theorem o73_3 : OkE cX4_isLikeAnEarlierOne RX4 "isLikeAnEarlierOne" 5 3 false (3, .iload 4, 5, []) := (r_iload dX4_isLikeAnEarlierOne_3).row
theorem o73_5 : OkE cX4_isLikeAnEarlierOne RX4 "isLikeAnEarlierOne" 5 3 false (5, .iload 3, 6, []) := (r_iload_n dX4_isLikeAnEarlierOne_5 rfl).row
theorem o73_6 : OkE cX4_isLikeAnEarlierOne RX4 "isLikeAnEarlierOne" 5 3 false (6, .if_icmp .ge 61, 9, []) := (r_icmp_ge dX4_isLikeAnEarlierOne_6 rfl).row
theorem o73_9 : OkE cX4_isLikeAnEarlierOne RX4 "isLikeAnEarlierOne" 5 3 false (9, .aload 0, 10, []) := (r_aload_n dX4_isLikeAnEarlierOne_9 rfl).row
theorem o73_10 : OkE cX4_isLikeAnEarlierOne RX4 "isLikeAnEarlierOne" 5 3 false (10, .aload 1, 11, []) := (r_aload_n dX4_isLikeAnEarlierOne_10 rfl).row
theorem o73_11 : OkE cX4_isLikeAnEarlierOne RX4 "isLikeAnEarlierOne" 5 3 false (11, .iload 4, 13, []) := (r_iload dX4_isLikeAnEarlierOne_11).row
theorem o73_13 : OkE cX4_isLikeAnEarlierOne RX4 "isLikeAnEarlierOne" 5 3 false (13, .invokevirtual 68, 16, []) := ⟨rfl, c_V dX4_isLikeAnEarlierOne_13 wd_665 wd_666 wd_667 wd_68 wd_668 nmh_4⟩
theorem o73_16 : OkE cX4_isLikeAnEarlierOne RX4 "isLikeAnEarlierOne" 5 3 false (16, .sipush 0, 17, []) := (r_lconst dX4_isLikeAnEarlierOne_16 rfl).row
theorem o73_17 : OkE cX4_isLikeAnEarlierOne RX4 "isLikeAnEarlierOne" 5 3 false (17, .lcmp, 18, []) := (r_lcmp dX4_isLikeAnEarlierOne_17).row
theorem o73_18 : OkE cX4_isLikeAnEarlierOne RX4 "isLikeAnEarlierOne" 5 3 false (18, .ifCond .le 55, 21, []) := (r_if_le dX4_isLikeAnEarlierOne_18 rfl).row
theorem o73_21 : OkE cX4_isLikeAnEarlierOne RX4 "isLikeAnEarlierOne" 5 3 false (21, .aload 1, 22, []) := (r_aload_n dX4_isLikeAnEarlierOne_21 rfl).row
theorem o73_22 : OkE cX4_isLikeAnEarlierOne RX4 "isLikeAnEarlierOne" 5 3 false (22, .iload 2, 23, []) := (r_iload_n dX4_isLikeAnEarlierOne_22 rfl).row
theorem o73_23 : OkE cX4_isLikeAnEarlierOne RX4 "isLikeAnEarlierOne" 5 3 false (23, .iload 4, 25, []) := (r_iload dX4_isLikeAnEarlierOne_23).row
theorem o73_25 : OkE cX4_isLikeAnEarlierOne RX4 "isLikeAnEarlierOne" 5 3 false (25, .invokevirtual 84, 28, []) := ⟨rfl, c_V dX4_isLikeAnEarlierOne_25 wd_670 wd_359 wd_360 wd_73 wd_361 nmh_6⟩
theorem o73_28 : OkE cX4_isLikeAnEarlierOne RX4 "isLikeAnEarlierOne" 5 3 false (28, .aload 1, 29, []) := (r_aload_n dX4_isLikeAnEarlierOne_28 rfl).row
theorem o73_29 : OkE cX4_isLikeAnEarlierOne RX4 "isLikeAnEarlierOne" 5 3 false (29, .iload 2, 30, []) := (r_iload_n dX4_isLikeAnEarlierOne_29 rfl).row
theorem o73_30 : OkE cX4_isLikeAnEarlierOne RX4 "isLikeAnEarlierOne" 5 3 false (30, .iload 3, 31, []) := (r_iload_n dX4_isLikeAnEarlierOne_30 rfl).row
theorem o73_31 : OkE cX4_isLikeAnEarlierOne RX4 "isLikeAnEarlierOne" 5 3 false (31, .invokevirtual 84, 34, []) := ⟨rfl, c_V dX4_isLikeAnEarlierOne_31 wd_670 wd_359 wd_360 wd_73 wd_361 nmh_6⟩
theorem o73_34 : OkE cX4_isLikeAnEarlierOne RX4 "isLikeAnEarlierOne" 5 3 false (34, .if_icmp .ne 55, 37, []) := (r_icmp_ne dX4_isLikeAnEarlierOne_34 rfl).row
theorem o73_37 : OkE cX4_isLikeAnEarlierOne RX4 "isLikeAnEarlierOne" 5 3 false (37, .aload 1, 38, []) := (r_aload_n dX4_isLikeAnEarlierOne_37 rfl).row
theorem o73_38 : OkE cX4_isLikeAnEarlierOne RX4 "isLikeAnEarlierOne" 5 3 false (38, .iload 2, 39, []) := (r_iload_n dX4_isLikeAnEarlierOne_38 rfl).row
theorem o73_39 : OkE cX4_isLikeAnEarlierOne RX4 "isLikeAnEarlierOne" 5 3 false (39, .iload 4, 41, []) := (r_iload dX4_isLikeAnEarlierOne_39).row
theorem o73_41 : OkE cX4_isLikeAnEarlierOne RX4 "isLikeAnEarlierOne" 5 3 false (41, .invokevirtual 85, 44, []) := ⟨rfl, c_V dX4_isLikeAnEarlierOne_41 wd_671 wd_363 wd_364 wd_73 wd_365 nmh_6⟩
theorem o73_44 : OkE cX4_isLikeAnEarlierOne RX4 "isLikeAnEarlierOne" 5 3 false (44, .aload 1, 45, []) := (r_aload_n dX4_isLikeAnEarlierOne_44 rfl).row
theorem o73_45 : OkE cX4_isLikeAnEarlierOne RX4 "isLikeAnEarlierOne" 5 3 false (45, .iload 2, 46, []) := (r_iload_n dX4_isLikeAnEarlierOne_45 rfl).row
theorem o73_46 : OkE cX4_isLikeAnEarlierOne RX4 "isLikeAnEarlierOne" 5 3 false (46, .iload 3, 47, []) := (r_iload_n dX4_isLikeAnEarlierOne_46 rfl).row
theorem o73_47 : OkE cX4_isLikeAnEarlierOne RX4 "isLikeAnEarlierOne" 5 3 false (47, .invokevirtual 85, 50, []) := ⟨rfl, c_V dX4_isLikeAnEarlierOne_47 wd_671 wd_363 wd_364 wd_73 wd_365 nmh_6⟩
theorem o73_50 : OkE cX4_isLikeAnEarlierOne RX4 "isLikeAnEarlierOne" 5 3 false (50, .if_icmp .ne 55, 53, []) := (r_icmp_ne dX4_isLikeAnEarlierOne_50 rfl).row
theorem o73_53 : OkE cX4_isLikeAnEarlierOne RX4 "isLikeAnEarlierOne" 5 3 false (53, .iconst 1, 54, []) := (r_iconst dX4_isLikeAnEarlierOne_53 rfl).row
theorem o73_54 : OkE cX4_isLikeAnEarlierOne RX4 "isLikeAnEarlierOne" 5 3 false (54, .ireturn, 55, []) := dX4_isLikeAnEarlierOne_54
theorem o73_55 : OkE cX4_isLikeAnEarlierOne RX4 "isLikeAnEarlierOne" 5 3 false (55, .iinc 4 1, 58, []) := (r_iinc dX4_isLikeAnEarlierOne_55 rfl).row
theorem o73_58 : OkE cX4_isLikeAnEarlierOne RX4 "isLikeAnEarlierOne" 5 3 false (58, .goto 3, 61, []) := (r_goto dX4_isLikeAnEarlierOne_58 rfl).row
theorem o73_61 : OkE cX4_isLikeAnEarlierOne RX4 "isLikeAnEarlierOne" 5 3 false (61, .iconst 0, 62, []) := (r_iconst dX4_isLikeAnEarlierOne_61 rfl).row
theorem o73_62 : OkE cX4_isLikeAnEarlierOne RX4 "isLikeAnEarlierOne" 5 3 false (62, .ireturn, 63, []) := dX4_isLikeAnEarlierOne_62
theorem ok73 : ∀ x ∈ k73, OkE cX4_isLikeAnEarlierOne RX4 "isLikeAnEarlierOne" 5 3 false x := List.forall_mem_cons.mpr ⟨o73_0, List.forall_mem_cons.mpr ⟨o73_1, List.forall_mem_cons.mpr ⟨o73_3, List.forall_mem_cons.mpr ⟨o73_5, List.forall_mem_cons.mpr ⟨o73_6, List.forall_mem_cons.mpr ⟨o73_9, List.forall_mem_cons.mpr ⟨o73_10, List.forall_mem_cons.mpr ⟨o73_11, List.forall_mem_cons.mpr ⟨o73_13, List.forall_mem_cons.mpr ⟨o73_16, List.forall_mem_cons.mpr ⟨o73_17, List.forall_mem_cons.mpr ⟨o73_18, List.forall_mem_cons.mpr ⟨o73_21, List.forall_mem_cons.mpr ⟨o73_22, List.forall_mem_cons.mpr ⟨o73_23, List.forall_mem_cons.mpr ⟨o73_25, List.forall_mem_cons.mpr ⟨o73_28, List.forall_mem_cons.mpr ⟨o73_29, List.forall_mem_cons.mpr ⟨o73_30, List.forall_mem_cons.mpr ⟨o73_31, List.forall_mem_cons.mpr ⟨o73_34, List.forall_mem_cons.mpr ⟨o73_37, List.forall_mem_cons.mpr ⟨o73_38, List.forall_mem_cons.mpr ⟨o73_39, List.forall_mem_cons.mpr ⟨o73_41, List.forall_mem_cons.mpr ⟨o73_44, List.forall_mem_cons.mpr ⟨o73_45, List.forall_mem_cons.mpr ⟨o73_46, List.forall_mem_cons.mpr ⟨o73_47, List.forall_mem_cons.mpr ⟨o73_50, List.forall_mem_cons.mpr ⟨o73_53, List.forall_mem_cons.mpr ⟨o73_54, List.forall_mem_cons.mpr ⟨o73_55, List.forall_mem_cons.mpr ⟨o73_58, List.forall_mem_cons.mpr ⟨o73_61, List.forall_mem_cons.mpr ⟨o73_62, fun _ h => absurd h List.not_mem_nil⟩⟩⟩⟩⟩⟩⟩⟩⟩⟩⟩⟩⟩⟩⟩⟩⟩⟩⟩⟩⟩⟩⟩⟩⟩⟩⟩⟩⟩⟩⟩⟩⟩⟩⟩⟩
theorem o74_0 : OkE cX5_init RX5 "<init>" 1 1 false (0, .aload 0, 1, []) := (r_aload_n dX5_init_0 rfl).row
theorem o74_1 : OkE cX5_init RX5 "<init>" 1 1 false (1, .monitorexit, 4, []) := (r_obj dX5_init_1 wd_90 wd_83 wd_84 (by decide)).row
theorem o74_4 : OkE cX5_init RX5 "<init>" 1 1 false (4, .aload 0, 5, []) := (r_aload_n dX5_init_4 rfl).row
theorem o74_5 : OkE cX5_init RX5 "<init>" 1 1 false (5, .iconst 64, 7, []) := (r_bipush dX5_init_5 rfl).row
theorem o74_7 : OkE cX5_init RX5 "<init>" 1 1 false (7, .newarray .int, 9, []) := r_newi dX5_init_7 wd_98
theorem o74_9 : OkE cX5_init RX5 "<init>" 1 1 false (9, .multianewarray 5 0, 12, []) := r_putFR (C := RX5) (T := TX5) (N := 2) (ci := 5) (j := 0) (ref := RX5) dX5_init_9 rfl inX5 tyX5 tyX5_ok nmX5 (by decide) wd_91 rfl rfl rfl rfl (tyX5_ok 0 (by decide)) (fun a => ⟨rfl, rfl⟩) rfl
theorem o74_12 : OkE cX5_init RX5 "<init>" 1 1 false (12, .aload 0, 13, []) := (r_aload_n dX5_init_12 rfl).row
theorem o74_13 : OkE cX5_init RX5 "<init>" 1 1 false (13, .iconst 0, 14, []) := (r_iconst dX5_init_13 rfl).row
theorem o74_14 : OkE cX5_init RX5 "<init>" 1 1 false (14, .multianewarray 5 1, 17, []) := r_putI (C := RX5) (T := TX5) (N := 2) (ci := 5) (j := 1) (ref := RX5) dX5_init_14 rfl inX5 tyX5 tyX5_ok nmX5 (by decide) wd_92 rfl rfl (tyX5_ok 1 (by decide)) rfl
theorem o74_17 : OkE cX5_init RX5 "<init>" 1 1 false (17, .return_, 18, []) := dX5_init_17
theorem ok74 : ∀ x ∈ k74, OkE cX5_init RX5 "<init>" 1 1 false x := List.forall_mem_cons.mpr ⟨o74_0, List.forall_mem_cons.mpr ⟨o74_1, List.forall_mem_cons.mpr ⟨o74_4, List.forall_mem_cons.mpr ⟨o74_5, List.forall_mem_cons.mpr ⟨o74_7, List.forall_mem_cons.mpr ⟨o74_9, List.forall_mem_cons.mpr ⟨o74_12, List.forall_mem_cons.mpr ⟨o74_13, List.forall_mem_cons.mpr ⟨o74_14, List.forall_mem_cons.mpr ⟨o74_17, fun _ h => absurd h List.not_mem_nil⟩⟩⟩⟩⟩⟩⟩⟩⟩⟩
theorem o75_0 : OkE cX5_size RX5 "size" 1 0 false (0, .aload 0, 1, []) := (r_aload_n dX5_size_0 rfl).row
theorem o75_1 : OkE cX5_size RX5 "size" 1 0 false (1, .invokeinterface 5 1, 4, []) := (r_get (C := RX5) (T := TX5) (N := 2) (ci := 5) (j := 1) (ref := RX5) dX5_size_1 rfl inX5 (by decide) wd_92 rfl).row
theorem o75_4 : OkE cX5_size RX5 "size" 1 0 false (4, .ireturn, 5, []) := dX5_size_4
theorem ok75 : ∀ x ∈ k75, OkE cX5_size RX5 "size" 1 0 false x := List.forall_mem_cons.mpr ⟨o75_0, List.forall_mem_cons.mpr ⟨o75_1, List.forall_mem_cons.mpr ⟨o75_4, fun _ h => absurd h List.not_mem_nil⟩⟩⟩
theorem o76_0 : OkE cX5_hasRoom RX5 "hasRoom" 2 0 false (0, .aload 0, 1, []) := (r_aload_n dX5_hasRoom_0 rfl).row
theorem o76_1 : OkE cX5_hasRoom RX5 "hasRoom" 2 0 false (1, .invokeinterface 5 1, 4, []) := (r_get (C := RX5) (T := TX5) (N := 2) (ci := 5) (j := 1) (ref := RX5) dX5_hasRoom_1 rfl inX5 (by decide) wd_92 rfl).row
theorem o76_4 : OkE cX5_hasRoom RX5 "hasRoom" 2 0 false (4, .iload 1, 5, []) := (r_iload_n dX5_hasRoom_4 rfl).row
theorem o76_5 : OkE cX5_hasRoom RX5 "hasRoom" 2 0 false (5, .iadd, 6, []) := (r_iadd dX5_hasRoom_5).row
theorem o76_6 : OkE cX5_hasRoom RX5 "hasRoom" 2 0 false (6, .iconst 64, 8, []) := (r_bipush dX5_hasRoom_6 rfl).row
theorem o76_8 : OkE cX5_hasRoom RX5 "hasRoom" 2 0 false (8, .if_icmp .gt 15, 11, []) := (r_icmp_gt dX5_hasRoom_8 rfl).row
theorem o76_11 : OkE cX5_hasRoom RX5 "hasRoom" 2 0 false (11, .iconst 1, 12, []) := (r_iconst dX5_hasRoom_11 rfl).row
theorem o76_12 : OkE cX5_hasRoom RX5 "hasRoom" 2 0 false (12, .goto 16, 15, []) := (r_goto dX5_hasRoom_12 rfl).row
theorem o76_15 : OkE cX5_hasRoom RX5 "hasRoom" 2 0 false (15, .iconst 0, 16, []) := (r_iconst dX5_hasRoom_15 rfl).row
theorem o76_16 : OkE cX5_hasRoom RX5 "hasRoom" 2 0 false (16, .ireturn, 17, [0, 1]) := dX5_hasRoom_16
theorem ok76 : ∀ x ∈ k76, OkE cX5_hasRoom RX5 "hasRoom" 2 0 false x := List.forall_mem_cons.mpr ⟨o76_0, List.forall_mem_cons.mpr ⟨o76_1, List.forall_mem_cons.mpr ⟨o76_4, List.forall_mem_cons.mpr ⟨o76_5, List.forall_mem_cons.mpr ⟨o76_6, List.forall_mem_cons.mpr ⟨o76_8, List.forall_mem_cons.mpr ⟨o76_11, List.forall_mem_cons.mpr ⟨o76_12, List.forall_mem_cons.mpr ⟨o76_15, List.forall_mem_cons.mpr ⟨o76_16, fun _ h => absurd h List.not_mem_nil⟩⟩⟩⟩⟩⟩⟩⟩⟩⟩
theorem o77_0 : OkE cX5_put RX5 "put" 5 0 false (0, .iload 1, 1, []) := (r_iload_n dX5_put_0 rfl).row
theorem o77_1 : OkE cX5_put RX5 "put" 5 0 false (1, .iconst 1, 2, []) := (r_iconst dX5_put_1 rfl).row
theorem o77_2 : OkE cX5_put RX5 "put" 5 0 false (2, .isub, 3, []) := (r_isub dX5_put_2).row
theorem o77_3 : OkE cX5_put RX5 "put" 5 0 false (3, .istore 4, 5, []) := (r_istore dX5_put_3).row
theorem o77_5 : OkE cX5_put RX5 "put" 5 0 false (5, .iload 4, 7, [1]) := (r_iload dX5_put_5).row
theorem o77_7 : OkE cX5_put RX5 "put" 5 0 false (7, .ifCond .lt 56, 10, []) := (r_if_lt dX5_put_7 rfl).row
theorem o77_10 : OkE cX5_put RX5 "put" 5 0 false (10, .aload 0, 11, []) := (r_aload_n dX5_put_10 rfl).row
theorem o77_11 : OkE cX5_put RX5 "put" 5 0 false (11, .invokeinterface 5 1, 14, []) := (r_get (C := RX5) (T := TX5) (N := 2) (ci := 5) (j := 1) (ref := RX5) dX5_put_11 rfl inX5 (by decide) wd_92 rfl).row
theorem o77_14 : OkE cX5_put RX5 "put" 5 0 false (14, .iconst 64, 16, []) := (r_bipush dX5_put_14 rfl).row
theorem o77_16 : OkE cX5_put RX5 "put" 5 0 false (16, .if_icmp .ge 56, 19, []) := (r_icmp_ge dX5_put_16 rfl).row
theorem o77_19 : OkE cX5_put RX5 "put" 5 0 false (19, .aload 0, 20, []) := (r_aload_n dX5_put_19 rfl).row
theorem o77_20 : OkE cX5_put RX5 "put" 5 0 false (20, .invokeinterface 5 0, 23, []) := (r_get (C := RX5) (T := TX5) (N := 2) (ci := 5) (j := 0) (ref := RX5) dX5_put_20 rfl inX5 (by decide) wd_91 rfl).row
theorem o77_23 : OkE cX5_put RX5 "put" 5 0 false (23, .aload 0, 24, []) := (r_aload_n dX5_put_23 rfl).row
theorem o77_24 : OkE cX5_put RX5 "put" 5 0 false (24, .invokeinterface 5 1, 27, []) := (r_get (C := RX5) (T := TX5) (N := 2) (ci := 5) (j := 1) (ref := RX5) dX5_put_24 rfl inX5 (by decide) wd_92 rfl).row
theorem o77_27 : OkE cX5_put RX5 "put" 5 0 false (27, .lload 2, 28, []) := (r_lload_n dX5_put_27 rfl).row
theorem o77_28 : OkE cX5_put RX5 "put" 5 0 false (28, .iconst 8, 30, []) := (r_bipush dX5_put_28 rfl).row
theorem o77_30 : OkE cX5_put RX5 "put" 5 0 false (30, .iload 4, 32, []) := (r_iload dX5_put_30).row
theorem o77_32 : OkE cX5_put RX5 "put" 5 0 false (32, .imul, 33, []) := (r_imul dX5_put_32).row
theorem o77_33 : OkE cX5_put RX5 "put" 5 0 false (33, .lushr, 34, []) := (r_lushr dX5_put_33).row
theorem o77_34 : OkE cX5_put RX5 "put" 5 0 false (34, .l2i, 35, []) := (r_l2i dX5_put_34).row
theorem o77_35 : OkE cX5_put RX5 "put" 5 0 false (35, .iconst 255, 38, []) := (r_sipush dX5_put_35 rfl).row
theorem o77_38 : OkE cX5_put RX5 "put" 5 0 false (38, .iand, 39, []) := (r_iand dX5_put_38).row
theorem o77_39 : OkE cX5_put RX5 "put" 5 0 false (39, .iastore, 40, []) := r_iast dX5_put_39
theorem o77_40 : OkE cX5_put RX5 "put" 5 0 false (40, .aload 0, 41, []) := (r_aload_n dX5_put_40 rfl).row
theorem o77_41 : OkE cX5_put RX5 "put" 5 0 false (41, .dup, 42, []) := (r_dup dX5_put_41).row
theorem o77_42 : OkE cX5_put RX5 "put" 5 0 false (42, .invokeinterface 5 1, 45, []) := (r_get (C := RX5) (T := TX5) (N := 2) (ci := 5) (j := 1) (ref := RX5) dX5_put_42 rfl inX5 (by decide) wd_92 rfl).row
theorem o77_45 : OkE cX5_put RX5 "put" 5 0 false (45, .iconst 1, 46, []) := (r_iconst dX5_put_45 rfl).row
theorem o77_46 : OkE cX5_put RX5 "put" 5 0 false (46, .iadd, 47, []) := (r_iadd dX5_put_46).row
theorem o77_47 : OkE cX5_put RX5 "put" 5 0 false (47, .multianewarray 5 1, 50, []) := r_putI (C := RX5) (T := TX5) (N := 2) (ci := 5) (j := 1) (ref := RX5) dX5_put_47 rfl inX5 tyX5 tyX5_ok nmX5 (by decide) wd_92 rfl rfl (tyX5_ok 1 (by decide)) rfl
theorem o77_50 : OkE cX5_put RX5 "put" 5 0 false (50, .iinc 4 (-1), 53, []) := (r_iinc dX5_put_50 rfl).row
theorem o77_53 : OkE cX5_put RX5 "put" 5 0 false (53, .goto 5, 56, []) := (r_goto dX5_put_53 rfl).row
theorem o77_56 : OkE cX5_put RX5 "put" 5 0 false (56, .return_, 57, [0, 1, 2, 4]) := dX5_put_56
theorem ok77 : ∀ x ∈ k77, OkE cX5_put RX5 "put" 5 0 false x := List.forall_mem_cons.mpr ⟨o77_0, List.forall_mem_cons.mpr ⟨o77_1, List.forall_mem_cons.mpr ⟨o77_2, List.forall_mem_cons.mpr ⟨o77_3, List.forall_mem_cons.mpr ⟨o77_5, List.forall_mem_cons.mpr ⟨o77_7, List.forall_mem_cons.mpr ⟨o77_10, List.forall_mem_cons.mpr ⟨o77_11, List.forall_mem_cons.mpr ⟨o77_14, List.forall_mem_cons.mpr ⟨o77_16, List.forall_mem_cons.mpr ⟨o77_19, List.forall_mem_cons.mpr ⟨o77_20, List.forall_mem_cons.mpr ⟨o77_23, List.forall_mem_cons.mpr ⟨o77_24, List.forall_mem_cons.mpr ⟨o77_27, List.forall_mem_cons.mpr ⟨o77_28, List.forall_mem_cons.mpr ⟨o77_30, List.forall_mem_cons.mpr ⟨o77_32, List.forall_mem_cons.mpr ⟨o77_33, List.forall_mem_cons.mpr ⟨o77_34, List.forall_mem_cons.mpr ⟨o77_35, List.forall_mem_cons.mpr ⟨o77_38, List.forall_mem_cons.mpr ⟨o77_39, List.forall_mem_cons.mpr ⟨o77_40, List.forall_mem_cons.mpr ⟨o77_41, List.forall_mem_cons.mpr ⟨o77_42, List.forall_mem_cons.mpr ⟨o77_45, List.forall_mem_cons.mpr ⟨o77_46, List.forall_mem_cons.mpr ⟨o77_47, List.forall_mem_cons.mpr ⟨o77_50, List.forall_mem_cons.mpr ⟨o77_53, List.forall_mem_cons.mpr ⟨o77_56, fun _ h => absurd h List.not_mem_nil⟩⟩⟩⟩⟩⟩⟩⟩⟩⟩⟩⟩⟩⟩⟩⟩⟩⟩⟩⟩⟩⟩⟩⟩⟩⟩⟩⟩⟩⟩⟩⟩
theorem o78_0 : OkE cX5_empty RX5 "empty" 2 0 false (0, .aload 0, 1, []) := (r_aload_n dX5_empty_0 rfl).row
theorem o78_1 : OkE cX5_empty RX5 "empty" 2 0 false (1, .invokeinterface 5 1, 4, []) := (r_get (C := RX5) (T := TX5) (N := 2) (ci := 5) (j := 1) (ref := RX5) dX5_empty_1 rfl inX5 (by decide) wd_92 rfl).row
theorem o78_4 : OkE cX5_empty RX5 "empty" 2 0 false (4, .istore 1, 5, []) := (r_istore_n dX5_empty_4 rfl).row
theorem o78_5 : OkE cX5_empty RX5 "empty" 2 0 false (5, .aload 0, 6, []) := (r_aload_n dX5_empty_5 rfl).row
theorem o78_6 : OkE cX5_empty RX5 "empty" 2 0 false (6, .iconst 0, 7, []) := (r_iconst dX5_empty_6 rfl).row
theorem o78_7 : OkE cX5_empty RX5 "empty" 2 0 false (7, .multianewarray 5 1, 10, []) := r_putI (C := RX5) (T := TX5) (N := 2) (ci := 5) (j := 1) (ref := RX5) dX5_empty_7 rfl inX5 tyX5 tyX5_ok nmX5 (by decide) wd_92 rfl rfl (tyX5_ok 1 (by decide)) rfl
theorem o78_10 : OkE cX5_empty RX5 "empty" 2 0 false (10, .iload 1, 11, []) := (r_iload_n dX5_empty_10 rfl).row
theorem o78_11 : OkE cX5_empty RX5 "empty" 2 0 false (11, .ireturn, 12, []) := dX5_empty_11
theorem ok78 : ∀ x ∈ k78, OkE cX5_empty RX5 "empty" 2 0 false x := List.forall_mem_cons.mpr ⟨o78_0, List.forall_mem_cons.mpr ⟨o78_1, List.forall_mem_cons.mpr ⟨o78_4, List.forall_mem_cons.mpr ⟨o78_5, List.forall_mem_cons.mpr ⟨o78_6, List.forall_mem_cons.mpr ⟨o78_7, List.forall_mem_cons.mpr ⟨o78_10, List.forall_mem_cons.mpr ⟨o78_11, fun _ h => absurd h List.not_mem_nil⟩⟩⟩⟩⟩⟩⟩⟩
theorem o79_0 : OkE cX5_byteAt RX5 "byteAt" 2 0 false (0, .iload 1, 1, []) := (r_iload_n dX5_byteAt_0 rfl).row
theorem o79_1 : OkE cX5_byteAt RX5 "byteAt" 2 0 false (1, .ifCond .lt 21, 4, []) := (r_if_lt dX5_byteAt_1 rfl).row
theorem o79_4 : OkE cX5_byteAt RX5 "byteAt" 2 0 false (4, .iload 1, 5, []) := (r_iload_n dX5_byteAt_4 rfl).row
theorem o79_5 : OkE cX5_byteAt RX5 "byteAt" 2 0 false (5, .aload 0, 6, []) := (r_aload_n dX5_byteAt_5 rfl).row
theorem o79_6 : OkE cX5_byteAt RX5 "byteAt" 2 0 false (6, .invokeinterface 5 1, 9, []) := (r_get (C := RX5) (T := TX5) (N := 2) (ci := 5) (j := 1) (ref := RX5) dX5_byteAt_6 rfl inX5 (by decide) wd_92 rfl).row
theorem o79_9 : OkE cX5_byteAt RX5 "byteAt" 2 0 false (9, .if_icmp .ge 21, 12, []) := (r_icmp_ge dX5_byteAt_9 rfl).row
theorem o79_12 : OkE cX5_byteAt RX5 "byteAt" 2 0 false (12, .aload 0, 13, []) := (r_aload_n dX5_byteAt_12 rfl).row
theorem o79_13 : OkE cX5_byteAt RX5 "byteAt" 2 0 false (13, .invokeinterface 5 0, 16, []) := (r_get (C := RX5) (T := TX5) (N := 2) (ci := 5) (j := 0) (ref := RX5) dX5_byteAt_13 rfl inX5 (by decide) wd_91 rfl).row
theorem o79_16 : OkE cX5_byteAt RX5 "byteAt" 2 0 false (16, .iload 1, 17, []) := (r_iload_n dX5_byteAt_16 rfl).row
theorem o79_17 : OkE cX5_byteAt RX5 "byteAt" 2 0 false (17, .iaload, 18, []) := (r_iald dX5_byteAt_17).row
theorem o79_18 : OkE cX5_byteAt RX5 "byteAt" 2 0 false (18, .goto 22, 21, []) := (r_goto dX5_byteAt_18 rfl).row
theorem o79_21 : OkE cX5_byteAt RX5 "byteAt" 2 0 false (21, .iconst (-1), 22, [0, 1]) := (r_iconst dX5_byteAt_21 rfl).row
theorem o79_22 : OkE cX5_byteAt RX5 "byteAt" 2 0 false (22, .ireturn, 23, [0, 1]) := dX5_byteAt_22
theorem ok79 : ∀ x ∈ k79, OkE cX5_byteAt RX5 "byteAt" 2 0 false x := List.forall_mem_cons.mpr ⟨o79_0, List.forall_mem_cons.mpr ⟨o79_1, List.forall_mem_cons.mpr ⟨o79_4, List.forall_mem_cons.mpr ⟨o79_5, List.forall_mem_cons.mpr ⟨o79_6, List.forall_mem_cons.mpr ⟨o79_9, List.forall_mem_cons.mpr ⟨o79_12, List.forall_mem_cons.mpr ⟨o79_13, List.forall_mem_cons.mpr ⟨o79_16, List.forall_mem_cons.mpr ⟨o79_17, List.forall_mem_cons.mpr ⟨o79_18, List.forall_mem_cons.mpr ⟨o79_21, List.forall_mem_cons.mpr ⟨o79_22, fun _ h => absurd h List.not_mem_nil⟩⟩⟩⟩⟩⟩⟩⟩⟩⟩⟩⟩⟩
theorem o80_0 : OkE cX6_init RX6 "<init>" 1 2 false (0, .aload 0, 1, []) := (r_aload_n dX6_init_0 rfl).row
theorem o80_1 : OkE cX6_init RX6 "<init>" 1 2 false (1, .monitorexit, 4, []) := (r_obj dX6_init_1 wd_295 wd_83 wd_84 (by decide)).row
theorem o80_4 : OkE cX6_init RX6 "<init>" 1 2 false (4, .aload 0, 5, []) := (r_aload_n dX6_init_4 rfl).row
theorem o80_5 : OkE cX6_init RX6 "<init>" 1 2 false (5, .iconst 3, 6, []) := (r_iconst dX6_init_5 rfl).row
theorem o80_6 : OkE cX6_init RX6 "<init>" 1 2 false (6, .newarray .int, 8, []) := r_newi dX6_init_6 wd_98
theorem o80_8 : OkE cX6_init RX6 "<init>" 1 2 false (8, .multianewarray 6 0, 11, []) := r_putFR (C := RX6) (T := TX6) (N := 8) (ci := 6) (j := 0) (ref := RX6) dX6_init_8 rfl inX6 tyX6 tyX6_ok nmX6 (by decide) wd_301 rfl rfl rfl rfl (tyX6_ok 0 (by decide)) (fun a => ⟨rfl, rfl⟩) rfl
theorem o80_11 : OkE cX6_init RX6 "<init>" 1 2 false (11, .aload 0, 12, []) := (r_aload_n dX6_init_11 rfl).row
theorem o80_12 : OkE cX6_init RX6 "<init>" 1 2 false (12, .iconst 9, 14, []) := (r_bipush dX6_init_12 rfl).row
theorem o80_14 : OkE cX6_init RX6 "<init>" 1 2 false (14, .newarray .int, 16, []) := r_newi dX6_init_14 wd_98
theorem o80_16 : OkE cX6_init RX6 "<init>" 1 2 false (16, .multianewarray 6 1, 19, []) := r_putFR (C := RX6) (T := TX6) (N := 8) (ci := 6) (j := 1) (ref := RX6) dX6_init_16 rfl inX6 tyX6 tyX6_ok nmX6 (by decide) wd_302 rfl rfl rfl rfl (tyX6_ok 1 (by decide)) (fun a => ⟨rfl, rfl⟩) rfl
theorem o80_19 : OkE cX6_init RX6 "<init>" 1 2 false (19, .aload 0, 20, []) := (r_aload_n dX6_init_19 rfl).row
theorem o80_20 : OkE cX6_init RX6 "<init>" 1 2 false (20, .iconst 9, 22, []) := (r_bipush dX6_init_20 rfl).row
theorem o80_22 : OkE cX6_init RX6 "<init>" 1 2 false (22, .newarray .int, 24, []) := r_newi dX6_init_22 wd_98
theorem o80_24 : OkE cX6_init RX6 "<init>" 1 2 false (24, .multianewarray 6 2, 27, []) := r_putFR (C := RX6) (T := TX6) (N := 8) (ci := 6) (j := 2) (ref := RX6) dX6_init_24 rfl inX6 tyX6 tyX6_ok nmX6 (by decide) wd_303 rfl rfl rfl rfl (tyX6_ok 2 (by decide)) (fun a => ⟨rfl, rfl⟩) rfl
theorem o80_27 : OkE cX6_init RX6 "<init>" 1 2 false (27, .aload 0, 28, []) := (r_aload_n dX6_init_27 rfl).row
theorem o80_28 : OkE cX6_init RX6 "<init>" 1 2 false (28, .iconst 3, 29, []) := (r_iconst dX6_init_28 rfl).row
theorem o80_29 : OkE cX6_init RX6 "<init>" 1 2 false (29, .newarray .int, 31, []) := r_newi dX6_init_29 wd_98
theorem o80_31 : OkE cX6_init RX6 "<init>" 1 2 false (31, .multianewarray 6 3, 34, []) := r_putFR (C := RX6) (T := TX6) (N := 8) (ci := 6) (j := 3) (ref := RX6) dX6_init_31 rfl inX6 tyX6 tyX6_ok nmX6 (by decide) wd_304 rfl rfl rfl rfl (tyX6_ok 3 (by decide)) (fun a => ⟨rfl, rfl⟩) rfl
theorem o80_34 : OkE cX6_init RX6 "<init>" 1 2 false (34, .aload 0, 35, []) := (r_aload_n dX6_init_34 rfl).row
theorem o80_35 : OkE cX6_init RX6 "<init>" 1 2 false (35, .invokevirtual 81, 38, []) := ⟨rfl, c_V dX6_init_35 wd_296 wd_297 wd_298 wd_73 wd_299 nmh_6⟩
theorem o80_38 : OkE cX6_init RX6 "<init>" 1 2 false (38, .return_, 39, []) := dX6_init_38
theorem ok80 : ∀ x ∈ k80, OkE cX6_init RX6 "<init>" 1 2 false x := List.forall_mem_cons.mpr ⟨o80_0, List.forall_mem_cons.mpr ⟨o80_1, List.forall_mem_cons.mpr ⟨o80_4, List.forall_mem_cons.mpr ⟨o80_5, List.forall_mem_cons.mpr ⟨o80_6, List.forall_mem_cons.mpr ⟨o80_8, List.forall_mem_cons.mpr ⟨o80_11, List.forall_mem_cons.mpr ⟨o80_12, List.forall_mem_cons.mpr ⟨o80_14, List.forall_mem_cons.mpr ⟨o80_16, List.forall_mem_cons.mpr ⟨o80_19, List.forall_mem_cons.mpr ⟨o80_20, List.forall_mem_cons.mpr ⟨o80_22, List.forall_mem_cons.mpr ⟨o80_24, List.forall_mem_cons.mpr ⟨o80_27, List.forall_mem_cons.mpr ⟨o80_28, List.forall_mem_cons.mpr ⟨o80_29, List.forall_mem_cons.mpr ⟨o80_31, List.forall_mem_cons.mpr ⟨o80_34, List.forall_mem_cons.mpr ⟨o80_35, List.forall_mem_cons.mpr ⟨o80_38, fun _ h => absurd h List.not_mem_nil⟩⟩⟩⟩⟩⟩⟩⟩⟩⟩⟩⟩⟩⟩⟩⟩⟩⟩⟩⟩⟩
theorem o81_0 : OkE cX6_reset RX6 "reset" 1 1 false (0, .aload 0, 1, []) := (r_aload_n dX6_reset_0 rfl).row
theorem o81_1 : OkE cX6_reset RX6 "reset" 1 1 false (1, .iconst 1, 2, []) := (r_iconst dX6_reset_1 rfl).row
theorem o81_2 : OkE cX6_reset RX6 "reset" 1 1 false (2, .multianewarray 6 4, 5, []) := r_putI (C := RX6) (T := TX6) (N := 8) (ci := 6) (j := 4) (ref := RX6) dX6_reset_2 rfl inX6 tyX6 tyX6_ok nmX6 (by decide) wd_305 rfl rfl (tyX6_ok 4 (by decide)) rfl
theorem o81_5 : OkE cX6_reset RX6 "reset" 1 1 false (5, .aload 0, 6, []) := (r_aload_n dX6_reset_5 rfl).row
theorem o81_6 : OkE cX6_reset RX6 "reset" 1 1 false (6, .iconst 10, 8, []) := (r_bipush dX6_reset_6 rfl).row
theorem o81_8 : OkE cX6_reset RX6 "reset" 1 1 false (8, .multianewarray 6 5, 11, []) := r_putI (C := RX6) (T := TX6) (N := 8) (ci := 6) (j := 5) (ref := RX6) dX6_reset_8 rfl inX6 tyX6 tyX6_ok nmX6 (by decide) wd_311 rfl rfl (tyX6_ok 5 (by decide)) rfl
theorem o81_11 : OkE cX6_reset RX6 "reset" 1 1 false (11, .aload 0, 12, []) := (r_aload_n dX6_reset_11 rfl).row
theorem o81_12 : OkE cX6_reset RX6 "reset" 1 1 false (12, .iconst 20, 14, []) := (r_bipush dX6_reset_12 rfl).row
theorem o81_14 : OkE cX6_reset RX6 "reset" 1 1 false (14, .multianewarray 6 6, 17, []) := r_putI (C := RX6) (T := TX6) (N := 8) (ci := 6) (j := 6) (ref := RX6) dX6_reset_14 rfl inX6 tyX6 tyX6_ok nmX6 (by decide) wd_316 rfl rfl (tyX6_ok 6 (by decide)) rfl
theorem o81_17 : OkE cX6_reset RX6 "reset" 1 1 false (17, .aload 0, 18, []) := (r_aload_n dX6_reset_17 rfl).row
theorem o81_18 : OkE cX6_reset RX6 "reset" 1 1 false (18, .iconst 5, 19, []) := (r_iconst dX6_reset_18 rfl).row
theorem o81_19 : OkE cX6_reset RX6 "reset" 1 1 false (19, .multianewarray 6 7, 22, []) := r_putI (C := RX6) (T := TX6) (N := 8) (ci := 6) (j := 7) (ref := RX6) dX6_reset_19 rfl inX6 tyX6 tyX6_ok nmX6 (by decide) wd_321 rfl rfl (tyX6_ok 7 (by decide)) rfl
theorem o81_22 : OkE cX6_reset RX6 "reset" 1 1 false (22, .aload 0, 23, []) := (r_aload_n dX6_reset_22 rfl).row
theorem o81_23 : OkE cX6_reset RX6 "reset" 1 1 false (23, .invokeinterface 6 0, 26, []) := (r_get (C := RX6) (T := TX6) (N := 8) (ci := 6) (j := 0) (ref := RX6) dX6_reset_23 rfl inX6 (by decide) wd_301 rfl).row
theorem o81_26 : OkE cX6_reset RX6 "reset" 1 1 false (26, .iconst 1, 27, []) := (r_iconst dX6_reset_26 rfl).row
theorem o81_27 : OkE cX6_reset RX6 "reset" 1 1 false (27, .invokestatic 222, 30, []) := ⟨rfl, c_S dX6_reset_27 wd_300 wd_194 wd_71 wd_195 nmh_10⟩
theorem o81_30 : OkE cX6_reset RX6 "reset" 1 1 false (30, .aload 0, 31, []) := (r_aload_n dX6_reset_30 rfl).row
theorem o81_31 : OkE cX6_reset RX6 "reset" 1 1 false (31, .invokeinterface 6 1, 34, []) := (r_get (C := RX6) (T := TX6) (N := 8) (ci := 6) (j := 1) (ref := RX6) dX6_reset_31 rfl inX6 (by decide) wd_302 rfl).row
theorem o81_34 : OkE cX6_reset RX6 "reset" 1 1 false (34, .iconst 1, 35, []) := (r_iconst dX6_reset_34 rfl).row
theorem o81_35 : OkE cX6_reset RX6 "reset" 1 1 false (35, .invokestatic 222, 38, []) := ⟨rfl, c_S dX6_reset_35 wd_300 wd_194 wd_71 wd_195 nmh_10⟩
theorem o81_38 : OkE cX6_reset RX6 "reset" 1 1 false (38, .aload 0, 39, []) := (r_aload_n dX6_reset_38 rfl).row
theorem o81_39 : OkE cX6_reset RX6 "reset" 1 1 false (39, .invokeinterface 6 2, 42, []) := (r_get (C := RX6) (T := TX6) (N := 8) (ci := 6) (j := 2) (ref := RX6) dX6_reset_39 rfl inX6 (by decide) wd_303 rfl).row
theorem o81_42 : OkE cX6_reset RX6 "reset" 1 1 false (42, .iconst 5, 43, []) := (r_iconst dX6_reset_42 rfl).row
theorem o81_43 : OkE cX6_reset RX6 "reset" 1 1 false (43, .invokestatic 222, 46, []) := ⟨rfl, c_S dX6_reset_43 wd_300 wd_194 wd_71 wd_195 nmh_10⟩
theorem o81_46 : OkE cX6_reset RX6 "reset" 1 1 false (46, .aload 0, 47, []) := (r_aload_n dX6_reset_46 rfl).row
theorem o81_47 : OkE cX6_reset RX6 "reset" 1 1 false (47, .invokeinterface 6 3, 50, []) := (r_get (C := RX6) (T := TX6) (N := 8) (ci := 6) (j := 3) (ref := RX6) dX6_reset_47 rfl inX6 (by decide) wd_304 rfl).row
theorem o81_50 : OkE cX6_reset RX6 "reset" 1 1 false (50, .iconst (-9), 52, []) := (r_bipush dX6_reset_50 rfl).row
theorem o81_52 : OkE cX6_reset RX6 "reset" 1 1 false (52, .invokestatic 222, 55, []) := ⟨rfl, c_S dX6_reset_52 wd_300 wd_194 wd_71 wd_195 nmh_10⟩
theorem o81_55 : OkE cX6_reset RX6 "reset" 1 1 false (55, .return_, 56, []) := dX6_reset_55
theorem ok81 : ∀ x ∈ k81, OkE cX6_reset RX6 "reset" 1 1 false x := List.forall_mem_cons.mpr ⟨o81_0, List.forall_mem_cons.mpr ⟨o81_1, List.forall_mem_cons.mpr ⟨o81_2, List.forall_mem_cons.mpr ⟨o81_5, List.forall_mem_cons.mpr ⟨o81_6, List.forall_mem_cons.mpr ⟨o81_8, List.forall_mem_cons.mpr ⟨o81_11, List.forall_mem_cons.mpr ⟨o81_12, List.forall_mem_cons.mpr ⟨o81_14, List.forall_mem_cons.mpr ⟨o81_17, List.forall_mem_cons.mpr ⟨o81_18, List.forall_mem_cons.mpr ⟨o81_19, List.forall_mem_cons.mpr ⟨o81_22, List.forall_mem_cons.mpr ⟨o81_23, List.forall_mem_cons.mpr ⟨o81_26, List.forall_mem_cons.mpr ⟨o81_27, List.forall_mem_cons.mpr ⟨o81_30, List.forall_mem_cons.mpr ⟨o81_31, List.forall_mem_cons.mpr ⟨o81_34, List.forall_mem_cons.mpr ⟨o81_35, List.forall_mem_cons.mpr ⟨o81_38, List.forall_mem_cons.mpr ⟨o81_39, List.forall_mem_cons.mpr ⟨o81_42, List.forall_mem_cons.mpr ⟨o81_43, List.forall_mem_cons.mpr ⟨o81_46, List.forall_mem_cons.mpr ⟨o81_47, List.forall_mem_cons.mpr ⟨o81_50, List.forall_mem_cons.mpr ⟨o81_52, List.forall_mem_cons.mpr ⟨o81_55, fun _ h => absurd h List.not_mem_nil⟩⟩⟩⟩⟩⟩⟩⟩⟩⟩⟩⟩⟩⟩⟩⟩⟩⟩⟩⟩⟩⟩⟩⟩⟩⟩⟩⟩⟩
theorem o82_0 : OkE cX6_hasCorner RX6 "hasCorner" 2 0 false (0, .iload 1, 1, []) := (r_iload_n dX6_hasCorner_0 rfl).row
theorem o82_1 : OkE cX6_hasCorner RX6 "hasCorner" 2 0 false (1, .ifCond .lt 21, 4, []) := (r_if_lt dX6_hasCorner_1 rfl).row
theorem o82_4 : OkE cX6_hasCorner RX6 "hasCorner" 2 0 false (4, .iload 1, 5, []) := (r_iload_n dX6_hasCorner_4 rfl).row
theorem o82_5 : OkE cX6_hasCorner RX6 "hasCorner" 2 0 false (5, .aload 0, 6, []) := (r_aload_n dX6_hasCorner_5 rfl).row
theorem o82_6 : OkE cX6_hasCorner RX6 "hasCorner" 2 0 false (6, .invokeinterface 6 4, 9, []) := (r_get (C := RX6) (T := TX6) (N := 8) (ci := 6) (j := 4) (ref := RX6) dX6_hasCorner_6 rfl inX6 (by decide) wd_305 rfl).row
theorem o82_9 : OkE cX6_hasCorner RX6 "hasCorner" 2 0 false (9, .if_icmp .ge 21, 12, []) := (r_icmp_ge dX6_hasCorner_9 rfl).row
theorem o82_12 : OkE cX6_hasCorner RX6 "hasCorner" 2 0 false (12, .iload 1, 13, []) := (r_iload_n dX6_hasCorner_12 rfl).row
theorem o82_13 : OkE cX6_hasCorner RX6 "hasCorner" 2 0 false (13, .iconst 3, 14, []) := (r_iconst dX6_hasCorner_13 rfl).row
theorem o82_14 : OkE cX6_hasCorner RX6 "hasCorner" 2 0 false (14, .if_icmp .ge 21, 17, []) := (r_icmp_ge dX6_hasCorner_14 rfl).row
theorem o82_17 : OkE cX6_hasCorner RX6 "hasCorner" 2 0 false (17, .iconst 1, 18, []) := (r_iconst dX6_hasCorner_17 rfl).row
theorem o82_18 : OkE cX6_hasCorner RX6 "hasCorner" 2 0 false (18, .goto 22, 21, []) := (r_goto dX6_hasCorner_18 rfl).row
theorem o82_21 : OkE cX6_hasCorner RX6 "hasCorner" 2 0 false (21, .iconst 0, 22, [0, 1]) := (r_iconst dX6_hasCorner_21 rfl).row
theorem o82_22 : OkE cX6_hasCorner RX6 "hasCorner" 2 0 false (22, .ireturn, 23, [0, 1]) := dX6_hasCorner_22
theorem ok82 : ∀ x ∈ k82, OkE cX6_hasCorner RX6 "hasCorner" 2 0 false x := List.forall_mem_cons.mpr ⟨o82_0, List.forall_mem_cons.mpr ⟨o82_1, List.forall_mem_cons.mpr ⟨o82_4, List.forall_mem_cons.mpr ⟨o82_5, List.forall_mem_cons.mpr ⟨o82_6, List.forall_mem_cons.mpr ⟨o82_9, List.forall_mem_cons.mpr ⟨o82_12, List.forall_mem_cons.mpr ⟨o82_13, List.forall_mem_cons.mpr ⟨o82_14, List.forall_mem_cons.mpr ⟨o82_17, List.forall_mem_cons.mpr ⟨o82_18, List.forall_mem_cons.mpr ⟨o82_21, List.forall_mem_cons.mpr ⟨o82_22, fun _ h => absurd h List.not_mem_nil⟩⟩⟩⟩⟩⟩⟩⟩⟩⟩⟩⟩⟩
theorem o83_0 : OkE cX6_shareOf RX6 "shareOf" 2 1 false (0, .iload 1, 1, []) := (r_iload_n dX6_shareOf_0 rfl).row
theorem o83_1 : OkE cX6_shareOf RX6 "shareOf" 2 1 false (1, .invokestatic 140, 4, []) := ⟨rfl, c_SN dX6_shareOf_1 wd_355 wd_356 wd_64 wd_357 nmh_8⟩
theorem o83_4 : OkE cX6_shareOf RX6 "shareOf" 2 1 false (4, .ifCond .eq 16, 7, []) := (r_if_eq dX6_shareOf_4 rfl).row
theorem o83_7 : OkE cX6_shareOf RX6 "shareOf" 2 1 false (7, .aload 0, 8, []) := (r_aload_n dX6_shareOf_7 rfl).row
theorem o83_8 : OkE cX6_shareOf RX6 "shareOf" 2 1 false (8, .invokeinterface 6 0, 11, []) := (r_get (C := RX6) (T := TX6) (N := 8) (ci := 6) (j := 0) (ref := RX6) dX6_shareOf_8 rfl inX6 (by decide) wd_301 rfl).row
theorem o83_11 : OkE cX6_shareOf RX6 "shareOf" 2 1 false (11, .iload 1, 12, []) := (r_iload_n dX6_shareOf_11 rfl).row
theorem o83_12 : OkE cX6_shareOf RX6 "shareOf" 2 1 false (12, .iaload, 13, []) := (r_iald dX6_shareOf_12).row
theorem o83_13 : OkE cX6_shareOf RX6 "shareOf" 2 1 false (13, .goto 17, 16, []) := (r_goto dX6_shareOf_13 rfl).row
theorem o83_16 : OkE cX6_shareOf RX6 "shareOf" 2 1 false (16, .iconst 0, 17, []) := (r_iconst dX6_shareOf_16 rfl).row
theorem o83_17 : OkE cX6_shareOf RX6 "shareOf" 2 1 false (17, .ireturn, 18, [0, 1]) := dX6_shareOf_17
theorem ok83 : ∀ x ∈ k83, OkE cX6_shareOf RX6 "shareOf" 2 1 false x := List.forall_mem_cons.mpr ⟨o83_0, List.forall_mem_cons.mpr ⟨o83_1, List.forall_mem_cons.mpr ⟨o83_4, List.forall_mem_cons.mpr ⟨o83_7, List.forall_mem_cons.mpr ⟨o83_8, List.forall_mem_cons.mpr ⟨o83_11, List.forall_mem_cons.mpr ⟨o83_12, List.forall_mem_cons.mpr ⟨o83_13, List.forall_mem_cons.mpr ⟨o83_16, List.forall_mem_cons.mpr ⟨o83_17, fun _ h => absurd h List.not_mem_nil⟩⟩⟩⟩⟩⟩⟩⟩⟩⟩
theorem o84_0 : OkE cX6_comesTo RX6 "comesTo" 4 0 false (0, .iload 1, 1, []) := (r_iload_n dX6_comesTo_0 rfl).row
theorem o84_1 : OkE cX6_comesTo RX6 "comesTo" 4 0 false (1, .iconst 3, 2, []) := (r_iconst dX6_comesTo_1 rfl).row
theorem o84_2 : OkE cX6_comesTo RX6 "comesTo" 4 0 false (2, .imul, 3, []) := (r_imul dX6_comesTo_2).row
theorem o84_3 : OkE cX6_comesTo RX6 "comesTo" 4 0 false (3, .iload 2, 4, []) := (r_iload_n dX6_comesTo_3 rfl).row
theorem o84_4 : OkE cX6_comesTo RX6 "comesTo" 4 0 false (4, .iadd, 5, []) := (r_iadd dX6_comesTo_4).row
theorem o84_5 : OkE cX6_comesTo RX6 "comesTo" 4 0 false (5, .istore 3, 6, []) := (r_istore_n dX6_comesTo_5 rfl).row
theorem o84_6 : OkE cX6_comesTo RX6 "comesTo" 4 0 false (6, .iload 3, 7, []) := (r_iload_n dX6_comesTo_6 rfl).row
theorem o84_7 : OkE cX6_comesTo RX6 "comesTo" 4 0 false (7, .ifCond .lt 28, 10, []) := (r_if_lt dX6_comesTo_7 rfl).row
theorem o84_10 : OkE cX6_comesTo RX6 "comesTo" 4 0 false (10, .iload 3, 11, []) := (r_iload_n dX6_comesTo_10 rfl).row
theorem o84_11 : OkE cX6_comesTo RX6 "comesTo" 4 0 false (11, .aload 0, 12, []) := (r_aload_n dX6_comesTo_11 rfl).row
theorem o84_12 : OkE cX6_comesTo RX6 "comesTo" 4 0 false (12, .invokeinterface 6 1, 15, []) := (r_get (C := RX6) (T := TX6) (N := 8) (ci := 6) (j := 1) (ref := RX6) dX6_comesTo_12 rfl inX6 (by decide) wd_302 rfl).row
theorem o84_15 : OkE cX6_comesTo RX6 "comesTo" 4 0 false (15, .arraylength, 16, []) := (r_alen dX6_comesTo_15).row
theorem o84_16 : OkE cX6_comesTo RX6 "comesTo" 4 0 false (16, .if_icmp .ge 28, 19, []) := (r_icmp_ge dX6_comesTo_16 rfl).row
theorem o84_19 : OkE cX6_comesTo RX6 "comesTo" 4 0 false (19, .aload 0, 20, []) := (r_aload_n dX6_comesTo_19 rfl).row
theorem o84_20 : OkE cX6_comesTo RX6 "comesTo" 4 0 false (20, .invokeinterface 6 1, 23, []) := (r_get (C := RX6) (T := TX6) (N := 8) (ci := 6) (j := 1) (ref := RX6) dX6_comesTo_20 rfl inX6 (by decide) wd_302 rfl).row
theorem o84_23 : OkE cX6_comesTo RX6 "comesTo" 4 0 false (23, .iload 3, 24, []) := (r_iload_n dX6_comesTo_23 rfl).row
theorem o84_24 : OkE cX6_comesTo RX6 "comesTo" 4 0 false (24, .iaload, 25, []) := (r_iald dX6_comesTo_24).row
theorem o84_25 : OkE cX6_comesTo RX6 "comesTo" 4 0 false (25, .goto 29, 28, []) := (r_goto dX6_comesTo_25 rfl).row
theorem o84_28 : OkE cX6_comesTo RX6 "comesTo" 4 0 false (28, .iconst 0, 29, [0, 1, 2, 3]) := (r_iconst dX6_comesTo_28 rfl).row
theorem o84_29 : OkE cX6_comesTo RX6 "comesTo" 4 0 false (29, .ireturn, 30, [0, 1, 2, 3]) := dX6_comesTo_29
theorem ok84 : ∀ x ∈ k84, OkE cX6_comesTo RX6 "comesTo" 4 0 false x := List.forall_mem_cons.mpr ⟨o84_0, List.forall_mem_cons.mpr ⟨o84_1, List.forall_mem_cons.mpr ⟨o84_2, List.forall_mem_cons.mpr ⟨o84_3, List.forall_mem_cons.mpr ⟨o84_4, List.forall_mem_cons.mpr ⟨o84_5, List.forall_mem_cons.mpr ⟨o84_6, List.forall_mem_cons.mpr ⟨o84_7, List.forall_mem_cons.mpr ⟨o84_10, List.forall_mem_cons.mpr ⟨o84_11, List.forall_mem_cons.mpr ⟨o84_12, List.forall_mem_cons.mpr ⟨o84_15, List.forall_mem_cons.mpr ⟨o84_16, List.forall_mem_cons.mpr ⟨o84_19, List.forall_mem_cons.mpr ⟨o84_20, List.forall_mem_cons.mpr ⟨o84_23, List.forall_mem_cons.mpr ⟨o84_24, List.forall_mem_cons.mpr ⟨o84_25, List.forall_mem_cons.mpr ⟨o84_28, List.forall_mem_cons.mpr ⟨o84_29, fun _ h => absurd h List.not_mem_nil⟩⟩⟩⟩⟩⟩⟩⟩⟩⟩⟩⟩⟩⟩⟩⟩⟩⟩⟩⟩
theorem o85_0 : OkE cX6_tenthsAt RX6 "tenthsAt" 4 0 false (0, .iload 1, 1, []) := (r_iload_n dX6_tenthsAt_0 rfl).row
theorem o85_1 : OkE cX6_tenthsAt RX6 "tenthsAt" 4 0 false (1, .iconst 3, 2, []) := (r_iconst dX6_tenthsAt_1 rfl).row
theorem o85_2 : OkE cX6_tenthsAt RX6 "tenthsAt" 4 0 false (2, .imul, 3, []) := (r_imul dX6_tenthsAt_2).row
theorem o85_3 : OkE cX6_tenthsAt RX6 "tenthsAt" 4 0 false (3, .iload 2, 4, []) := (r_iload_n dX6_tenthsAt_3 rfl).row
theorem o85_4 : OkE cX6_tenthsAt RX6 "tenthsAt" 4 0 false (4, .iadd, 5, []) := (r_iadd dX6_tenthsAt_4).row
theorem o85_5 : OkE cX6_tenthsAt RX6 "tenthsAt" 4 0 false (5, .istore 3, 6, []) := (r_istore_n dX6_tenthsAt_5 rfl).row
theorem o85_6 : OkE cX6_tenthsAt RX6 "tenthsAt" 4 0 false (6, .iload 3, 7, []) := (r_iload_n dX6_tenthsAt_6 rfl).row
theorem o85_7 : OkE cX6_tenthsAt RX6 "tenthsAt" 4 0 false (7, .ifCond .lt 28, 10, []) := (r_if_lt dX6_tenthsAt_7 rfl).row
theorem o85_10 : OkE cX6_tenthsAt RX6 "tenthsAt" 4 0 false (10, .iload 3, 11, []) := (r_iload_n dX6_tenthsAt_10 rfl).row
theorem o85_11 : OkE cX6_tenthsAt RX6 "tenthsAt" 4 0 false (11, .aload 0, 12, []) := (r_aload_n dX6_tenthsAt_11 rfl).row
theorem o85_12 : OkE cX6_tenthsAt RX6 "tenthsAt" 4 0 false (12, .invokeinterface 6 2, 15, []) := (r_get (C := RX6) (T := TX6) (N := 8) (ci := 6) (j := 2) (ref := RX6) dX6_tenthsAt_12 rfl inX6 (by decide) wd_303 rfl).row
theorem o85_15 : OkE cX6_tenthsAt RX6 "tenthsAt" 4 0 false (15, .arraylength, 16, []) := (r_alen dX6_tenthsAt_15).row
theorem o85_16 : OkE cX6_tenthsAt RX6 "tenthsAt" 4 0 false (16, .if_icmp .ge 28, 19, []) := (r_icmp_ge dX6_tenthsAt_16 rfl).row
theorem o85_19 : OkE cX6_tenthsAt RX6 "tenthsAt" 4 0 false (19, .aload 0, 20, []) := (r_aload_n dX6_tenthsAt_19 rfl).row
theorem o85_20 : OkE cX6_tenthsAt RX6 "tenthsAt" 4 0 false (20, .invokeinterface 6 2, 23, []) := (r_get (C := RX6) (T := TX6) (N := 8) (ci := 6) (j := 2) (ref := RX6) dX6_tenthsAt_20 rfl inX6 (by decide) wd_303 rfl).row
theorem o85_23 : OkE cX6_tenthsAt RX6 "tenthsAt" 4 0 false (23, .iload 3, 24, []) := (r_iload_n dX6_tenthsAt_23 rfl).row
theorem o85_24 : OkE cX6_tenthsAt RX6 "tenthsAt" 4 0 false (24, .iaload, 25, []) := (r_iald dX6_tenthsAt_24).row
theorem o85_25 : OkE cX6_tenthsAt RX6 "tenthsAt" 4 0 false (25, .goto 29, 28, []) := (r_goto dX6_tenthsAt_25 rfl).row
theorem o85_28 : OkE cX6_tenthsAt RX6 "tenthsAt" 4 0 false (28, .iconst 0, 29, [0, 1, 2, 3]) := (r_iconst dX6_tenthsAt_28 rfl).row
theorem o85_29 : OkE cX6_tenthsAt RX6 "tenthsAt" 4 0 false (29, .ireturn, 30, [0, 1, 2, 3]) := dX6_tenthsAt_29
theorem ok85 : ∀ x ∈ k85, OkE cX6_tenthsAt RX6 "tenthsAt" 4 0 false x := List.forall_mem_cons.mpr ⟨o85_0, List.forall_mem_cons.mpr ⟨o85_1, List.forall_mem_cons.mpr ⟨o85_2, List.forall_mem_cons.mpr ⟨o85_3, List.forall_mem_cons.mpr ⟨o85_4, List.forall_mem_cons.mpr ⟨o85_5, List.forall_mem_cons.mpr ⟨o85_6, List.forall_mem_cons.mpr ⟨o85_7, List.forall_mem_cons.mpr ⟨o85_10, List.forall_mem_cons.mpr ⟨o85_11, List.forall_mem_cons.mpr ⟨o85_12, List.forall_mem_cons.mpr ⟨o85_15, List.forall_mem_cons.mpr ⟨o85_16, List.forall_mem_cons.mpr ⟨o85_19, List.forall_mem_cons.mpr ⟨o85_20, List.forall_mem_cons.mpr ⟨o85_23, List.forall_mem_cons.mpr ⟨o85_24, List.forall_mem_cons.mpr ⟨o85_25, List.forall_mem_cons.mpr ⟨o85_28, List.forall_mem_cons.mpr ⟨o85_29, fun _ h => absurd h List.not_mem_nil⟩⟩⟩⟩⟩⟩⟩⟩⟩⟩⟩⟩⟩⟩⟩⟩⟩⟩⟩⟩
theorem o86_0 : OkE cX6_nextFrom RX6 "nextFrom" 2 1 false (0, .aload 0, 1, []) := (r_aload_n dX6_nextFrom_0 rfl).row
theorem o86_1 : OkE cX6_nextFrom RX6 "nextFrom" 2 1 false (1, .iload 1, 2, []) := (r_iload_n dX6_nextFrom_1 rfl).row
theorem o86_2 : OkE cX6_nextFrom RX6 "nextFrom" 2 1 false (2, .invokevirtual 82, 5, []) := ⟨rfl, c_V dX6_nextFrom_2 wd_515 wd_516 wd_517 wd_73 wd_518 nmh_6⟩
theorem o86_5 : OkE cX6_nextFrom RX6 "nextFrom" 2 1 false (5, .ifCond .eq 17, 8, []) := (r_if_eq dX6_nextFrom_5 rfl).row
theorem o86_8 : OkE cX6_nextFrom RX6 "nextFrom" 2 1 false (8, .aload 0, 9, []) := (r_aload_n dX6_nextFrom_8 rfl).row
theorem o86_9 : OkE cX6_nextFrom RX6 "nextFrom" 2 1 false (9, .invokeinterface 6 3, 12, []) := (r_get (C := RX6) (T := TX6) (N := 8) (ci := 6) (j := 3) (ref := RX6) dX6_nextFrom_9 rfl inX6 (by decide) wd_304 rfl).row
theorem o86_12 : OkE cX6_nextFrom RX6 "nextFrom" 2 1 false (12, .iload 1, 13, []) := (r_iload_n dX6_nextFrom_12 rfl).row
theorem o86_13 : OkE cX6_nextFrom RX6 "nextFrom" 2 1 false (13, .iaload, 14, []) := (r_iald dX6_nextFrom_13).row
theorem o86_14 : OkE cX6_nextFrom RX6 "nextFrom" 2 1 false (14, .goto 19, 17, []) := (r_goto dX6_nextFrom_14 rfl).row
theorem o86_17 : OkE cX6_nextFrom RX6 "nextFrom" 2 1 false (17, .iconst (-9), 19, []) := (r_bipush dX6_nextFrom_17 rfl).row
theorem o86_19 : OkE cX6_nextFrom RX6 "nextFrom" 2 1 false (19, .ireturn, 20, [0, 1]) := dX6_nextFrom_19
theorem ok86 : ∀ x ∈ k86, OkE cX6_nextFrom RX6 "nextFrom" 2 1 false x := List.forall_mem_cons.mpr ⟨o86_0, List.forall_mem_cons.mpr ⟨o86_1, List.forall_mem_cons.mpr ⟨o86_2, List.forall_mem_cons.mpr ⟨o86_5, List.forall_mem_cons.mpr ⟨o86_8, List.forall_mem_cons.mpr ⟨o86_9, List.forall_mem_cons.mpr ⟨o86_12, List.forall_mem_cons.mpr ⟨o86_13, List.forall_mem_cons.mpr ⟨o86_14, List.forall_mem_cons.mpr ⟨o86_17, List.forall_mem_cons.mpr ⟨o86_19, fun _ h => absurd h List.not_mem_nil⟩⟩⟩⟩⟩⟩⟩⟩⟩⟩⟩
theorem o87_0 : OkE cX6_setShare RX6 "setShare" 3 1 false (0, .iload 1, 1, []) := (r_iload_n dX6_setShare_0 rfl).row
theorem o87_1 : OkE cX6_setShare RX6 "setShare" 3 1 false (1, .invokestatic 140, 4, []) := ⟨rfl, c_SN dX6_setShare_1 wd_355 wd_356 wd_64 wd_357 nmh_8⟩
theorem o87_4 : OkE cX6_setShare RX6 "setShare" 3 1 false (4, .ifCond .eq 14, 7, []) := (r_if_eq dX6_setShare_4 rfl).row
theorem o87_7 : OkE cX6_setShare RX6 "setShare" 3 1 false (7, .aload 0, 8, []) := (r_aload_n dX6_setShare_7 rfl).row
theorem o87_8 : OkE cX6_setShare RX6 "setShare" 3 1 false (8, .invokeinterface 6 0, 11, []) := (r_get (C := RX6) (T := TX6) (N := 8) (ci := 6) (j := 0) (ref := RX6) dX6_setShare_8 rfl inX6 (by decide) wd_301 rfl).row
theorem o87_11 : OkE cX6_setShare RX6 "setShare" 3 1 false (11, .iload 1, 12, []) := (r_iload_n dX6_setShare_11 rfl).row
theorem o87_12 : OkE cX6_setShare RX6 "setShare" 3 1 false (12, .iload 2, 13, []) := (r_iload_n dX6_setShare_12 rfl).row
theorem o87_13 : OkE cX6_setShare RX6 "setShare" 3 1 false (13, .iastore, 14, []) := r_iast dX6_setShare_13
theorem o87_14 : OkE cX6_setShare RX6 "setShare" 3 1 false (14, .return_, 15, [0, 1, 2]) := dX6_setShare_14
theorem ok87 : ∀ x ∈ k87, OkE cX6_setShare RX6 "setShare" 3 1 false x := List.forall_mem_cons.mpr ⟨o87_0, List.forall_mem_cons.mpr ⟨o87_1, List.forall_mem_cons.mpr ⟨o87_4, List.forall_mem_cons.mpr ⟨o87_7, List.forall_mem_cons.mpr ⟨o87_8, List.forall_mem_cons.mpr ⟨o87_11, List.forall_mem_cons.mpr ⟨o87_12, List.forall_mem_cons.mpr ⟨o87_13, List.forall_mem_cons.mpr ⟨o87_14, fun _ h => absurd h List.not_mem_nil⟩⟩⟩⟩⟩⟩⟩⟩⟩
theorem o88_0 : OkE cX6_setWants RX6 "setWants" 6 0 false (0, .iload 1, 1, []) := (r_iload_n dX6_setWants_0 rfl).row
theorem o88_1 : OkE cX6_setWants RX6 "setWants" 6 0 false (1, .iconst 3, 2, []) := (r_iconst dX6_setWants_1 rfl).row
theorem o88_2 : OkE cX6_setWants RX6 "setWants" 6 0 false (2, .imul, 3, []) := (r_imul dX6_setWants_2).row
theorem o88_3 : OkE cX6_setWants RX6 "setWants" 6 0 false (3, .iload 2, 4, []) := (r_iload_n dX6_setWants_3 rfl).row
theorem o88_4 : OkE cX6_setWants RX6 "setWants" 6 0 false (4, .iadd, 5, []) := (r_iadd dX6_setWants_4).row
theorem o88_5 : OkE cX6_setWants RX6 "setWants" 6 0 false (5, .istore 5, 7, []) := (r_istore dX6_setWants_5).row
theorem o88_7 : OkE cX6_setWants RX6 "setWants" 6 0 false (7, .iload 5, 9, []) := (r_iload dX6_setWants_7).row
theorem o88_9 : OkE cX6_setWants RX6 "setWants" 6 0 false (9, .ifCond .lt 49, 12, []) := (r_if_lt dX6_setWants_9 rfl).row
theorem o88_12 : OkE cX6_setWants RX6 "setWants" 6 0 false (12, .iload 5, 14, []) := (r_iload dX6_setWants_12).row
theorem o88_14 : OkE cX6_setWants RX6 "setWants" 6 0 false (14, .aload 0, 15, []) := (r_aload_n dX6_setWants_14 rfl).row
theorem o88_15 : OkE cX6_setWants RX6 "setWants" 6 0 false (15, .invokeinterface 6 1, 18, []) := (r_get (C := RX6) (T := TX6) (N := 8) (ci := 6) (j := 1) (ref := RX6) dX6_setWants_15 rfl inX6 (by decide) wd_302 rfl).row
theorem o88_18 : OkE cX6_setWants RX6 "setWants" 6 0 false (18, .arraylength, 19, []) := (r_alen dX6_setWants_18).row
theorem o88_19 : OkE cX6_setWants RX6 "setWants" 6 0 false (19, .if_icmp .ge 49, 22, []) := (r_icmp_ge dX6_setWants_19 rfl).row
theorem o88_22 : OkE cX6_setWants RX6 "setWants" 6 0 false (22, .iload 5, 24, []) := (r_iload dX6_setWants_22).row
theorem o88_24 : OkE cX6_setWants RX6 "setWants" 6 0 false (24, .aload 0, 25, []) := (r_aload_n dX6_setWants_24 rfl).row
theorem o88_25 : OkE cX6_setWants RX6 "setWants" 6 0 false (25, .invokeinterface 6 2, 28, []) := (r_get (C := RX6) (T := TX6) (N := 8) (ci := 6) (j := 2) (ref := RX6) dX6_setWants_25 rfl inX6 (by decide) wd_303 rfl).row
theorem o88_28 : OkE cX6_setWants RX6 "setWants" 6 0 false (28, .arraylength, 29, []) := (r_alen dX6_setWants_28).row
theorem o88_29 : OkE cX6_setWants RX6 "setWants" 6 0 false (29, .if_icmp .ge 49, 32, []) := (r_icmp_ge dX6_setWants_29 rfl).row
theorem o88_32 : OkE cX6_setWants RX6 "setWants" 6 0 false (32, .aload 0, 33, []) := (r_aload_n dX6_setWants_32 rfl).row
theorem o88_33 : OkE cX6_setWants RX6 "setWants" 6 0 false (33, .invokeinterface 6 1, 36, []) := (r_get (C := RX6) (T := TX6) (N := 8) (ci := 6) (j := 1) (ref := RX6) dX6_setWants_33 rfl inX6 (by decide) wd_302 rfl).row
theorem o88_36 : OkE cX6_setWants RX6 "setWants" 6 0 false (36, .iload 5, 38, []) := (r_iload dX6_setWants_36).row
theorem o88_38 : OkE cX6_setWants RX6 "setWants" 6 0 false (38, .iload 3, 39, []) := (r_iload_n dX6_setWants_38 rfl).row
theorem o88_39 : OkE cX6_setWants RX6 "setWants" 6 0 false (39, .iastore, 40, []) := r_iast dX6_setWants_39
theorem o88_40 : OkE cX6_setWants RX6 "setWants" 6 0 false (40, .aload 0, 41, []) := (r_aload_n dX6_setWants_40 rfl).row
theorem o88_41 : OkE cX6_setWants RX6 "setWants" 6 0 false (41, .invokeinterface 6 2, 44, []) := (r_get (C := RX6) (T := TX6) (N := 8) (ci := 6) (j := 2) (ref := RX6) dX6_setWants_41 rfl inX6 (by decide) wd_303 rfl).row
theorem o88_44 : OkE cX6_setWants RX6 "setWants" 6 0 false (44, .iload 5, 46, []) := (r_iload dX6_setWants_44).row
theorem o88_46 : OkE cX6_setWants RX6 "setWants" 6 0 false (46, .iload 4, 48, []) := (r_iload dX6_setWants_46).row
theorem o88_48 : OkE cX6_setWants RX6 "setWants" 6 0 false (48, .iastore, 49, []) := r_iast dX6_setWants_48
theorem o88_49 : OkE cX6_setWants RX6 "setWants" 6 0 false (49, .return_, 50, [0, 1, 2, 3, 4, 5]) := dX6_setWants_49
theorem ok88 : ∀ x ∈ k88, OkE cX6_setWants RX6 "setWants" 6 0 false x := List.forall_mem_cons.mpr ⟨o88_0, List.forall_mem_cons.mpr ⟨o88_1, List.forall_mem_cons.mpr ⟨o88_2, List.forall_mem_cons.mpr ⟨o88_3, List.forall_mem_cons.mpr ⟨o88_4, List.forall_mem_cons.mpr ⟨o88_5, List.forall_mem_cons.mpr ⟨o88_7, List.forall_mem_cons.mpr ⟨o88_9, List.forall_mem_cons.mpr ⟨o88_12, List.forall_mem_cons.mpr ⟨o88_14, List.forall_mem_cons.mpr ⟨o88_15, List.forall_mem_cons.mpr ⟨o88_18, List.forall_mem_cons.mpr ⟨o88_19, List.forall_mem_cons.mpr ⟨o88_22, List.forall_mem_cons.mpr ⟨o88_24, List.forall_mem_cons.mpr ⟨o88_25, List.forall_mem_cons.mpr ⟨o88_28, List.forall_mem_cons.mpr ⟨o88_29, List.forall_mem_cons.mpr ⟨o88_32, List.forall_mem_cons.mpr ⟨o88_33, List.forall_mem_cons.mpr ⟨o88_36, List.forall_mem_cons.mpr ⟨o88_38, List.forall_mem_cons.mpr ⟨o88_39, List.forall_mem_cons.mpr ⟨o88_40, List.forall_mem_cons.mpr ⟨o88_41, List.forall_mem_cons.mpr ⟨o88_44, List.forall_mem_cons.mpr ⟨o88_46, List.forall_mem_cons.mpr ⟨o88_48, List.forall_mem_cons.mpr ⟨o88_49, fun _ h => absurd h List.not_mem_nil⟩⟩⟩⟩⟩⟩⟩⟩⟩⟩⟩⟩⟩⟩⟩⟩⟩⟩⟩⟩⟩⟩⟩⟩⟩⟩⟩⟩⟩
theorem o89_0 : OkE cX6_setNext RX6 "setNext" 3 1 false (0, .aload 0, 1, []) := (r_aload_n dX6_setNext_0 rfl).row
theorem o89_1 : OkE cX6_setNext RX6 "setNext" 3 1 false (1, .iload 1, 2, []) := (r_iload_n dX6_setNext_1 rfl).row
theorem o89_2 : OkE cX6_setNext RX6 "setNext" 3 1 false (2, .invokevirtual 82, 5, []) := ⟨rfl, c_V dX6_setNext_2 wd_515 wd_516 wd_517 wd_73 wd_518 nmh_6⟩
theorem o89_5 : OkE cX6_setNext RX6 "setNext" 3 1 false (5, .ifCond .eq 15, 8, []) := (r_if_eq dX6_setNext_5 rfl).row
theorem o89_8 : OkE cX6_setNext RX6 "setNext" 3 1 false (8, .aload 0, 9, []) := (r_aload_n dX6_setNext_8 rfl).row
theorem o89_9 : OkE cX6_setNext RX6 "setNext" 3 1 false (9, .invokeinterface 6 3, 12, []) := (r_get (C := RX6) (T := TX6) (N := 8) (ci := 6) (j := 3) (ref := RX6) dX6_setNext_9 rfl inX6 (by decide) wd_304 rfl).row
theorem o89_12 : OkE cX6_setNext RX6 "setNext" 3 1 false (12, .iload 1, 13, []) := (r_iload_n dX6_setNext_12 rfl).row
theorem o89_13 : OkE cX6_setNext RX6 "setNext" 3 1 false (13, .iload 2, 14, []) := (r_iload_n dX6_setNext_13 rfl).row
theorem o89_14 : OkE cX6_setNext RX6 "setNext" 3 1 false (14, .iastore, 15, []) := r_iast dX6_setNext_14
theorem o89_15 : OkE cX6_setNext RX6 "setNext" 3 1 false (15, .return_, 16, [0, 1, 2]) := dX6_setNext_15
theorem ok89 : ∀ x ∈ k89, OkE cX6_setNext RX6 "setNext" 3 1 false x := List.forall_mem_cons.mpr ⟨o89_0, List.forall_mem_cons.mpr ⟨o89_1, List.forall_mem_cons.mpr ⟨o89_2, List.forall_mem_cons.mpr ⟨o89_5, List.forall_mem_cons.mpr ⟨o89_8, List.forall_mem_cons.mpr ⟨o89_9, List.forall_mem_cons.mpr ⟨o89_12, List.forall_mem_cons.mpr ⟨o89_13, List.forall_mem_cons.mpr ⟨o89_14, List.forall_mem_cons.mpr ⟨o89_15, fun _ h => absurd h List.not_mem_nil⟩⟩⟩⟩⟩⟩⟩⟩⟩⟩
theorem o90_0 : OkE cX7_init RX7 "<init>" 1 1 false (0, .aload 0, 1, []) := (r_aload_n dX7_init_0 rfl).row
theorem o90_1 : OkE cX7_init RX7 "<init>" 1 1 false (1, .monitorexit, 4, []) := (r_obj dX7_init_1 wd_160 wd_83 wd_84 (by decide)).row
theorem o90_4 : OkE cX7_init RX7 "<init>" 1 1 false (4, .aload 0, 5, []) := (r_aload_n dX7_init_4 rfl).row
theorem o90_5 : OkE cX7_init RX7 "<init>" 1 1 false (5, .iconst 2197, 8, []) := (r_sipush dX7_init_5 rfl).row
theorem o90_8 : OkE cX7_init RX7 "<init>" 1 1 false (8, .newarray .long, 10, []) := r_newl dX7_init_8 wd_138
theorem o90_10 : OkE cX7_init RX7 "<init>" 1 1 false (10, .multianewarray 7 0, 13, []) := r_putFR (C := RX7) (T := TX7) (N := 7) (ci := 7) (j := 0) (ref := RX7) dX7_init_10 rfl inX7 tyX7 tyX7_ok nmX7 (by decide) wd_161 rfl rfl rfl rfl (tyX7_ok 0 (by decide)) (fun a => ⟨rfl, rfl⟩) rfl
theorem o90_13 : OkE cX7_init RX7 "<init>" 1 1 false (13, .aload 0, 14, []) := (r_aload_n dX7_init_13 rfl).row
theorem o90_14 : OkE cX7_init RX7 "<init>" 1 1 false (14, .iconst 2197, 17, []) := (r_sipush dX7_init_14 rfl).row
theorem o90_17 : OkE cX7_init RX7 "<init>" 1 1 false (17, .newarray .long, 19, []) := r_newl dX7_init_17 wd_138
theorem o90_19 : OkE cX7_init RX7 "<init>" 1 1 false (19, .multianewarray 7 1, 22, []) := r_putFR (C := RX7) (T := TX7) (N := 7) (ci := 7) (j := 1) (ref := RX7) dX7_init_19 rfl inX7 tyX7 tyX7_ok nmX7 (by decide) wd_162 rfl rfl rfl rfl (tyX7_ok 1 (by decide)) (fun a => ⟨rfl, rfl⟩) rfl
theorem o90_22 : OkE cX7_init RX7 "<init>" 1 1 false (22, .aload 0, 23, []) := (r_aload_n dX7_init_22 rfl).row
theorem o90_23 : OkE cX7_init RX7 "<init>" 1 1 false (23, .sipush 1, 24, []) := (r_lconst dX7_init_23 rfl).row
theorem o90_24 : OkE cX7_init RX7 "<init>" 1 1 false (24, .multianewarray 7 2, 27, []) := r_putL (C := RX7) (T := TX7) (N := 7) (ci := 7) (j := 2) (ref := RX7) dX7_init_24 rfl inX7 tyX7 tyX7_ok nmX7 (by decide) wd_163 rfl rfl (tyX7_ok 2 (by decide)) rfl
theorem o90_27 : OkE cX7_init RX7 "<init>" 1 1 false (27, .return_, 28, []) := dX7_init_27
theorem ok90 : ∀ x ∈ k90, OkE cX7_init RX7 "<init>" 1 1 false x := List.forall_mem_cons.mpr ⟨o90_0, List.forall_mem_cons.mpr ⟨o90_1, List.forall_mem_cons.mpr ⟨o90_4, List.forall_mem_cons.mpr ⟨o90_5, List.forall_mem_cons.mpr ⟨o90_8, List.forall_mem_cons.mpr ⟨o90_10, List.forall_mem_cons.mpr ⟨o90_13, List.forall_mem_cons.mpr ⟨o90_14, List.forall_mem_cons.mpr ⟨o90_17, List.forall_mem_cons.mpr ⟨o90_19, List.forall_mem_cons.mpr ⟨o90_22, List.forall_mem_cons.mpr ⟨o90_23, List.forall_mem_cons.mpr ⟨o90_24, List.forall_mem_cons.mpr ⟨o90_27, fun _ h => absurd h List.not_mem_nil⟩⟩⟩⟩⟩⟩⟩⟩⟩⟩⟩⟩⟩⟩
theorem o91_0 : OkE cX7_holds RX7 "holds" 3 1 false (0, .iload 0, 1, []) := (r_iload_n dX7_holds_0 rfl).row
theorem o91_1 : OkE cX7_holds RX7 "holds" 3 1 false (1, .invokestatic 92, 4, []) := ⟨rfl, c_S dX7_holds_1 wd_709 wd_710 wd_69 wd_711 nmh_7⟩
theorem o91_4 : OkE cX7_holds RX7 "holds" 3 1 false (4, .ifCond .eq 35, 7, []) := (r_if_eq dX7_holds_4 rfl).row
theorem o91_7 : OkE cX7_holds RX7 "holds" 3 1 false (7, .iload 1, 8, []) := (r_iload_n dX7_holds_7 rfl).row
theorem o91_8 : OkE cX7_holds RX7 "holds" 3 1 false (8, .invokestatic 92, 11, []) := ⟨rfl, c_S dX7_holds_8 wd_709 wd_710 wd_69 wd_711 nmh_7⟩
theorem o91_11 : OkE cX7_holds RX7 "holds" 3 1 false (11, .ifCond .eq 35, 14, []) := (r_if_eq dX7_holds_11 rfl).row
theorem o91_14 : OkE cX7_holds RX7 "holds" 3 1 false (14, .iload 2, 15, []) := (r_iload_n dX7_holds_14 rfl).row
theorem o91_15 : OkE cX7_holds RX7 "holds" 3 1 false (15, .invokestatic 92, 18, []) := ⟨rfl, c_S dX7_holds_15 wd_709 wd_710 wd_69 wd_711 nmh_7⟩
theorem o91_18 : OkE cX7_holds RX7 "holds" 3 1 false (18, .ifCond .eq 35, 21, []) := (r_if_eq dX7_holds_18 rfl).row
theorem o91_21 : OkE cX7_holds RX7 "holds" 3 1 false (21, .iload 0, 22, []) := (r_iload_n dX7_holds_21 rfl).row
theorem o91_22 : OkE cX7_holds RX7 "holds" 3 1 false (22, .iload 1, 23, []) := (r_iload_n dX7_holds_22 rfl).row
theorem o91_23 : OkE cX7_holds RX7 "holds" 3 1 false (23, .iadd, 24, []) := (r_iadd dX7_holds_23).row
theorem o91_24 : OkE cX7_holds RX7 "holds" 3 1 false (24, .iload 2, 25, []) := (r_iload_n dX7_holds_24 rfl).row
theorem o91_25 : OkE cX7_holds RX7 "holds" 3 1 false (25, .iadd, 26, []) := (r_iadd dX7_holds_25).row
theorem o91_26 : OkE cX7_holds RX7 "holds" 3 1 false (26, .iconst 12, 28, []) := (r_bipush dX7_holds_26 rfl).row
theorem o91_28 : OkE cX7_holds RX7 "holds" 3 1 false (28, .if_icmp .gt 35, 31, []) := (r_icmp_gt dX7_holds_28 rfl).row
theorem o91_31 : OkE cX7_holds RX7 "holds" 3 1 false (31, .iconst 1, 32, []) := (r_iconst dX7_holds_31 rfl).row
theorem o91_32 : OkE cX7_holds RX7 "holds" 3 1 false (32, .goto 36, 35, []) := (r_goto dX7_holds_32 rfl).row
theorem o91_35 : OkE cX7_holds RX7 "holds" 3 1 false (35, .iconst 0, 36, [0, 1, 2]) := (r_iconst dX7_holds_35 rfl).row
theorem o91_36 : OkE cX7_holds RX7 "holds" 3 1 false (36, .ireturn, 37, [0, 1, 2]) := dX7_holds_36
theorem ok91 : ∀ x ∈ k91, OkE cX7_holds RX7 "holds" 3 1 false x := List.forall_mem_cons.mpr ⟨o91_0, List.forall_mem_cons.mpr ⟨o91_1, List.forall_mem_cons.mpr ⟨o91_4, List.forall_mem_cons.mpr ⟨o91_7, List.forall_mem_cons.mpr ⟨o91_8, List.forall_mem_cons.mpr ⟨o91_11, List.forall_mem_cons.mpr ⟨o91_14, List.forall_mem_cons.mpr ⟨o91_15, List.forall_mem_cons.mpr ⟨o91_18, List.forall_mem_cons.mpr ⟨o91_21, List.forall_mem_cons.mpr ⟨o91_22, List.forall_mem_cons.mpr ⟨o91_23, List.forall_mem_cons.mpr ⟨o91_24, List.forall_mem_cons.mpr ⟨o91_25, List.forall_mem_cons.mpr ⟨o91_26, List.forall_mem_cons.mpr ⟨o91_28, List.forall_mem_cons.mpr ⟨o91_31, List.forall_mem_cons.mpr ⟨o91_32, List.forall_mem_cons.mpr ⟨o91_35, List.forall_mem_cons.mpr ⟨o91_36, fun _ h => absurd h List.not_mem_nil⟩⟩⟩⟩⟩⟩⟩⟩⟩⟩⟩⟩⟩⟩⟩⟩⟩⟩⟩⟩
theorem o92_0 : OkE cX7_isSome RX7 "isSome" 1 0 false (0, .iload 0, 1, []) := (r_iload_n dX7_isSome_0 rfl).row
theorem o92_1 : OkE cX7_isSome RX7 "isSome" 1 0 false (1, .ifCond .lt 14, 4, []) := (r_if_lt dX7_isSome_1 rfl).row
theorem o92_4 : OkE cX7_isSome RX7 "isSome" 1 0 false (4, .iload 0, 5, []) := (r_iload_n dX7_isSome_4 rfl).row
theorem o92_5 : OkE cX7_isSome RX7 "isSome" 1 0 false (5, .iconst 12, 7, []) := (r_bipush dX7_isSome_5 rfl).row
theorem o92_7 : OkE cX7_isSome RX7 "isSome" 1 0 false (7, .if_icmp .gt 14, 10, []) := (r_icmp_gt dX7_isSome_7 rfl).row
theorem o92_10 : OkE cX7_isSome RX7 "isSome" 1 0 false (10, .iconst 1, 11, []) := (r_iconst dX7_isSome_10 rfl).row
theorem o92_11 : OkE cX7_isSome RX7 "isSome" 1 0 false (11, .goto 15, 14, []) := (r_goto dX7_isSome_11 rfl).row
theorem o92_14 : OkE cX7_isSome RX7 "isSome" 1 0 false (14, .iconst 0, 15, [0]) := (r_iconst dX7_isSome_14 rfl).row
theorem o92_15 : OkE cX7_isSome RX7 "isSome" 1 0 false (15, .ireturn, 16, [0]) := dX7_isSome_15
theorem ok92 : ∀ x ∈ k92, OkE cX7_isSome RX7 "isSome" 1 0 false x := List.forall_mem_cons.mpr ⟨o92_0, List.forall_mem_cons.mpr ⟨o92_1, List.forall_mem_cons.mpr ⟨o92_4, List.forall_mem_cons.mpr ⟨o92_5, List.forall_mem_cons.mpr ⟨o92_7, List.forall_mem_cons.mpr ⟨o92_10, List.forall_mem_cons.mpr ⟨o92_11, List.forall_mem_cons.mpr ⟨o92_14, List.forall_mem_cons.mpr ⟨o92_15, fun _ h => absurd h List.not_mem_nil⟩⟩⟩⟩⟩⟩⟩⟩⟩
theorem o93_0 : OkE cX7_cell RX7 "cell" 4 0 false (0, .iload 0, 1, []) := (r_iload_n dX7_cell_0 rfl).row
theorem o93_1 : OkE cX7_cell RX7 "cell" 4 0 false (1, .iconst 13, 3, []) := (r_bipush dX7_cell_1 rfl).row
theorem o93_3 : OkE cX7_cell RX7 "cell" 4 0 false (3, .imul, 4, []) := (r_imul dX7_cell_3).row
theorem o93_4 : OkE cX7_cell RX7 "cell" 4 0 false (4, .iload 1, 5, []) := (r_iload_n dX7_cell_4 rfl).row
theorem o93_5 : OkE cX7_cell RX7 "cell" 4 0 false (5, .iadd, 6, []) := (r_iadd dX7_cell_5).row
theorem o93_6 : OkE cX7_cell RX7 "cell" 4 0 false (6, .iconst 13, 8, []) := (r_bipush dX7_cell_6 rfl).row
theorem o93_8 : OkE cX7_cell RX7 "cell" 4 0 false (8, .imul, 9, []) := (r_imul dX7_cell_8).row
theorem o93_9 : OkE cX7_cell RX7 "cell" 4 0 false (9, .iload 2, 10, []) := (r_iload_n dX7_cell_9 rfl).row
theorem o93_10 : OkE cX7_cell RX7 "cell" 4 0 false (10, .iadd, 11, []) := (r_iadd dX7_cell_10).row
theorem o93_11 : OkE cX7_cell RX7 "cell" 4 0 false (11, .istore 3, 12, []) := (r_istore_n dX7_cell_11 rfl).row
theorem o93_12 : OkE cX7_cell RX7 "cell" 4 0 false (12, .iload 3, 13, []) := (r_iload_n dX7_cell_12 rfl).row
theorem o93_13 : OkE cX7_cell RX7 "cell" 4 0 false (13, .ifCond .lt 27, 16, []) := (r_if_lt dX7_cell_13 rfl).row
theorem o93_16 : OkE cX7_cell RX7 "cell" 4 0 false (16, .iload 3, 17, []) := (r_iload_n dX7_cell_16 rfl).row
theorem o93_17 : OkE cX7_cell RX7 "cell" 4 0 false (17, .iconst 2197, 20, []) := (r_sipush dX7_cell_17 rfl).row
theorem o93_20 : OkE cX7_cell RX7 "cell" 4 0 false (20, .if_icmp .ge 27, 23, []) := (r_icmp_ge dX7_cell_20 rfl).row
theorem o93_23 : OkE cX7_cell RX7 "cell" 4 0 false (23, .iload 3, 24, []) := (r_iload_n dX7_cell_23 rfl).row
theorem o93_24 : OkE cX7_cell RX7 "cell" 4 0 false (24, .goto 28, 27, []) := (r_goto dX7_cell_24 rfl).row
theorem o93_27 : OkE cX7_cell RX7 "cell" 4 0 false (27, .iconst 0, 28, [0, 1, 2, 3]) := (r_iconst dX7_cell_27 rfl).row
theorem o93_28 : OkE cX7_cell RX7 "cell" 4 0 false (28, .ireturn, 29, [0, 1, 2, 3]) := dX7_cell_28
theorem ok93 : ∀ x ∈ k93, OkE cX7_cell RX7 "cell" 4 0 false x := List.forall_mem_cons.mpr ⟨o93_0, List.forall_mem_cons.mpr ⟨o93_1, List.forall_mem_cons.mpr ⟨o93_3, List.forall_mem_cons.mpr ⟨o93_4, List.forall_mem_cons.mpr ⟨o93_5, List.forall_mem_cons.mpr ⟨o93_6, List.forall_mem_cons.mpr ⟨o93_8, List.forall_mem_cons.mpr ⟨o93_9, List.forall_mem_cons.mpr ⟨o93_10, List.forall_mem_cons.mpr ⟨o93_11, List.forall_mem_cons.mpr ⟨o93_12, List.forall_mem_cons.mpr ⟨o93_13, List.forall_mem_cons.mpr ⟨o93_16, List.forall_mem_cons.mpr ⟨o93_17, List.forall_mem_cons.mpr ⟨o93_20, List.forall_mem_cons.mpr ⟨o93_23, List.forall_mem_cons.mpr ⟨o93_24, List.forall_mem_cons.mpr ⟨o93_27, List.forall_mem_cons.mpr ⟨o93_28, fun _ h => absurd h List.not_mem_nil⟩⟩⟩⟩⟩⟩⟩⟩⟩⟩⟩⟩⟩⟩⟩⟩⟩⟩⟩
theorem o94_0 : OkE cX7_choose RX7 "choose" 5 1 false (0, .aload 0, 1, []) := (r_aload_n dX7_choose_0 rfl).row
theorem o94_1 : OkE cX7_choose RX7 "choose" 5 1 false (1, .aload 1, 2, []) := (r_aload_n dX7_choose_1 rfl).row
theorem o94_2 : OkE cX7_choose RX7 "choose" 5 1 false (2, .iload 2, 3, []) := (r_iload_n dX7_choose_2 rfl).row
theorem o94_3 : OkE cX7_choose RX7 "choose" 5 1 false (3, .iload 4, 5, []) := (r_iload dX7_choose_3).row
theorem o94_5 : OkE cX7_choose RX7 "choose" 5 1 false (5, .invokevirtual 84, 8, []) := ⟨rfl, c_V dX7_choose_5 wd_716 wd_359 wd_360 wd_73 wd_361 nmh_6⟩
theorem o94_8 : OkE cX7_choose RX7 "choose" 5 1 false (8, .multianewarray 7 3, 11, []) := r_putI (C := RX7) (T := TX7) (N := 7) (ci := 7) (j := 3) (ref := RX7) dX7_choose_8 rfl inX7 tyX7 tyX7_ok nmX7 (by decide) wd_164 rfl rfl (tyX7_ok 3 (by decide)) rfl
theorem o94_11 : OkE cX7_choose RX7 "choose" 5 1 false (11, .aload 0, 12, []) := (r_aload_n dX7_choose_11 rfl).row
theorem o94_12 : OkE cX7_choose RX7 "choose" 5 1 false (12, .aload 1, 13, []) := (r_aload_n dX7_choose_12 rfl).row
theorem o94_13 : OkE cX7_choose RX7 "choose" 5 1 false (13, .iload 3, 14, []) := (r_iload_n dX7_choose_13 rfl).row
theorem o94_14 : OkE cX7_choose RX7 "choose" 5 1 false (14, .iload 4, 16, []) := (r_iload dX7_choose_14).row
theorem o94_16 : OkE cX7_choose RX7 "choose" 5 1 false (16, .invokevirtual 84, 19, []) := ⟨rfl, c_V dX7_choose_16 wd_716 wd_359 wd_360 wd_73 wd_361 nmh_6⟩
theorem o94_19 : OkE cX7_choose RX7 "choose" 5 1 false (19, .multianewarray 7 4, 22, []) := r_putI (C := RX7) (T := TX7) (N := 7) (ci := 7) (j := 4) (ref := RX7) dX7_choose_19 rfl inX7 tyX7 tyX7_ok nmX7 (by decide) wd_165 rfl rfl (tyX7_ok 4 (by decide)) rfl
theorem o94_22 : OkE cX7_choose RX7 "choose" 5 1 false (22, .aload 0, 23, []) := (r_aload_n dX7_choose_22 rfl).row
theorem o94_23 : OkE cX7_choose RX7 "choose" 5 1 false (23, .aload 1, 24, []) := (r_aload_n dX7_choose_23 rfl).row
theorem o94_24 : OkE cX7_choose RX7 "choose" 5 1 false (24, .iload 2, 25, []) := (r_iload_n dX7_choose_24 rfl).row
theorem o94_25 : OkE cX7_choose RX7 "choose" 5 1 false (25, .iload 4, 27, []) := (r_iload dX7_choose_25).row
theorem o94_27 : OkE cX7_choose RX7 "choose" 5 1 false (27, .invokevirtual 85, 30, []) := ⟨rfl, c_V dX7_choose_27 wd_717 wd_363 wd_364 wd_73 wd_365 nmh_6⟩
theorem o94_30 : OkE cX7_choose RX7 "choose" 5 1 false (30, .multianewarray 7 5, 33, []) := r_putI (C := RX7) (T := TX7) (N := 7) (ci := 7) (j := 5) (ref := RX7) dX7_choose_30 rfl inX7 tyX7 tyX7_ok nmX7 (by decide) wd_166 rfl rfl (tyX7_ok 5 (by decide)) rfl
theorem o94_33 : OkE cX7_choose RX7 "choose" 5 1 false (33, .aload 0, 34, []) := (r_aload_n dX7_choose_33 rfl).row
theorem o94_34 : OkE cX7_choose RX7 "choose" 5 1 false (34, .aload 1, 35, []) := (r_aload_n dX7_choose_34 rfl).row
theorem o94_35 : OkE cX7_choose RX7 "choose" 5 1 false (35, .iload 3, 36, []) := (r_iload_n dX7_choose_35 rfl).row
theorem o94_36 : OkE cX7_choose RX7 "choose" 5 1 false (36, .iload 4, 38, []) := (r_iload dX7_choose_36).row
theorem o94_38 : OkE cX7_choose RX7 "choose" 5 1 false (38, .invokevirtual 85, 41, []) := ⟨rfl, c_V dX7_choose_38 wd_717 wd_363 wd_364 wd_73 wd_365 nmh_6⟩
theorem o94_41 : OkE cX7_choose RX7 "choose" 5 1 false (41, .multianewarray 7 6, 44, []) := r_putI (C := RX7) (T := TX7) (N := 7) (ci := 7) (j := 6) (ref := RX7) dX7_choose_41 rfl inX7 tyX7 tyX7_ok nmX7 (by decide) wd_167 rfl rfl (tyX7_ok 6 (by decide)) rfl
theorem o94_44 : OkE cX7_choose RX7 "choose" 5 1 false (44, .return_, 45, []) := dX7_choose_44
theorem ok94 : ∀ x ∈ k94, OkE cX7_choose RX7 "choose" 5 1 false x := List.forall_mem_cons.mpr ⟨o94_0, List.forall_mem_cons.mpr ⟨o94_1, List.forall_mem_cons.mpr ⟨o94_2, List.forall_mem_cons.mpr ⟨o94_3, List.forall_mem_cons.mpr ⟨o94_5, List.forall_mem_cons.mpr ⟨o94_8, List.forall_mem_cons.mpr ⟨o94_11, List.forall_mem_cons.mpr ⟨o94_12, List.forall_mem_cons.mpr ⟨o94_13, List.forall_mem_cons.mpr ⟨o94_14, List.forall_mem_cons.mpr ⟨o94_16, List.forall_mem_cons.mpr ⟨o94_19, List.forall_mem_cons.mpr ⟨o94_22, List.forall_mem_cons.mpr ⟨o94_23, List.forall_mem_cons.mpr ⟨o94_24, List.forall_mem_cons.mpr ⟨o94_25, List.forall_mem_cons.mpr ⟨o94_27, List.forall_mem_cons.mpr ⟨o94_30, List.forall_mem_cons.mpr ⟨o94_33, List.forall_mem_cons.mpr ⟨o94_34, List.forall_mem_cons.mpr ⟨o94_35, List.forall_mem_cons.mpr ⟨o94_36, List.forall_mem_cons.mpr ⟨o94_38, List.forall_mem_cons.mpr ⟨o94_41, List.forall_mem_cons.mpr ⟨o94_44, fun _ h => absurd h List.not_mem_nil⟩⟩⟩⟩⟩⟩⟩⟩⟩⟩⟩⟩⟩⟩⟩⟩⟩⟩⟩⟩⟩⟩⟩⟩⟩
theorem o95_0 : OkE cX7_whole RX7 "whole" 1 0 false (0, .aload 0, 1, []) := (r_aload_n dX7_whole_0 rfl).row
theorem o95_1 : OkE cX7_whole RX7 "whole" 1 0 false (1, .invokeinterface 7 2, 4, []) := (r_get (C := RX7) (T := TX7) (N := 7) (ci := 7) (j := 2) (ref := RX7) dX7_whole_1 rfl inX7 (by decide) wd_163 rfl).row
theorem o95_4 : OkE cX7_whole RX7 "whole" 1 0 false (4, .lreturn, 5, []) := dX7_whole_4
theorem ok95 : ∀ x ∈ k95, OkE cX7_whole RX7 "whole" 1 0 false x := List.forall_mem_cons.mpr ⟨o95_0, List.forall_mem_cons.mpr ⟨o95_1, List.forall_mem_cons.mpr ⟨o95_4, fun _ h => absurd h List.not_mem_nil⟩⟩⟩
theorem o96_0 : OkE cX7_reckon RX7 "reckon" 5 3 false (0, .aload 0, 1, []) := (r_aload_n dX7_reckon_0 rfl).row
theorem o96_1 : OkE cX7_reckon RX7 "reckon" 5 3 false (1, .invokeinterface 7 0, 4, []) := (r_get (C := RX7) (T := TX7) (N := 7) (ci := 7) (j := 0) (ref := RX7) dX7_reckon_1 rfl inX7 (by decide) wd_161 rfl).row
theorem o96_4 : OkE cX7_reckon RX7 "reckon" 5 3 false (4, .sipush 0, 5, []) := (r_lconst dX7_reckon_4 rfl).row
theorem o96_5 : OkE cX7_reckon RX7 "reckon" 5 3 false (5, .invokestatic 223, 8, []) := ⟨rfl, c_S dX7_reckon_5 wd_722 wd_348 wd_71 wd_349 nmh_10⟩
theorem o96_8 : OkE cX7_reckon RX7 "reckon" 5 3 false (8, .aload 0, 9, []) := (r_aload_n dX7_reckon_8 rfl).row
theorem o96_9 : OkE cX7_reckon RX7 "reckon" 5 3 false (9, .invokeinterface 7 1, 12, []) := (r_get (C := RX7) (T := TX7) (N := 7) (ci := 7) (j := 1) (ref := RX7) dX7_reckon_9 rfl inX7 (by decide) wd_162 rfl).row
theorem o96_12 : OkE cX7_reckon RX7 "reckon" 5 3 false (12, .sipush 0, 13, []) := (r_lconst dX7_reckon_12 rfl).row
theorem o96_13 : OkE cX7_reckon RX7 "reckon" 5 3 false (13, .invokestatic 223, 16, []) := ⟨rfl, c_S dX7_reckon_13 wd_722 wd_348 wd_71 wd_349 nmh_10⟩
theorem o96_16 : OkE cX7_reckon RX7 "reckon" 5 3 false (16, .aload 0, 17, []) := (r_aload_n dX7_reckon_16 rfl).row
theorem o96_17 : OkE cX7_reckon RX7 "reckon" 5 3 false (17, .sipush 1, 18, []) := (r_lconst dX7_reckon_17 rfl).row
theorem o96_18 : OkE cX7_reckon RX7 "reckon" 5 3 false (18, .multianewarray 7 2, 21, []) := r_putL (C := RX7) (T := TX7) (N := 7) (ci := 7) (j := 2) (ref := RX7) dX7_reckon_18 rfl inX7 tyX7 tyX7_ok nmX7 (by decide) wd_163 rfl rfl (tyX7_ok 2 (by decide)) rfl
theorem o96_21 : OkE cX7_reckon RX7 "reckon" 5 3 false (21, .iconst 1, 22, []) := (r_iconst dX7_reckon_21 rfl).row
theorem o96_22 : OkE cX7_reckon RX7 "reckon" 5 3 false (22, .istore 4, 24, []) := (r_istore dX7_reckon_22).row
theorem o96_24 : OkE cX7_reckon RX7 "reckon" 5 3 false (24, .iload 4, 26, []) := (r_iload dX7_reckon_24).row
theorem o96_26 : OkE cX7_reckon RX7 "reckon" 5 3 false (26, .iload 3, 27, []) := (r_iload_n dX7_reckon_26 rfl).row
theorem o96_27 : OkE cX7_reckon RX7 "reckon" 5 3 false (27, .if_icmp .gt 70, 30, []) := (r_icmp_gt dX7_reckon_27 rfl).row
theorem o96_30 : OkE cX7_reckon RX7 "reckon" 5 3 false (30, .iload 4, 32, []) := (r_iload dX7_reckon_30).row
theorem o96_32 : OkE cX7_reckon RX7 "reckon" 5 3 false (32, .iconst 1, 33, []) := (r_iconst dX7_reckon_32 rfl).row
theorem o96_33 : OkE cX7_reckon RX7 "reckon" 5 3 false (33, .if_icmp .le 44, 36, []) := (r_icmp_le dX7_reckon_33 rfl).row
theorem o96_36 : OkE cX7_reckon RX7 "reckon" 5 3 false (36, .aload 0, 37, []) := (r_aload_n dX7_reckon_36 rfl).row
theorem o96_37 : OkE cX7_reckon RX7 "reckon" 5 3 false (37, .iload 1, 38, []) := (r_iload_n dX7_reckon_37 rfl).row
theorem o96_38 : OkE cX7_reckon RX7 "reckon" 5 3 false (38, .iload 2, 39, []) := (r_iload_n dX7_reckon_38 rfl).row
theorem o96_39 : OkE cX7_reckon RX7 "reckon" 5 3 false (39, .iadd, 40, []) := (r_iadd dX7_reckon_39).row
theorem o96_40 : OkE cX7_reckon RX7 "reckon" 5 3 false (40, .iload 2, 41, []) := (r_iload_n dX7_reckon_40 rfl).row
theorem o96_41 : OkE cX7_reckon RX7 "reckon" 5 3 false (41, .invokevirtual 97, 44, []) := ⟨rfl, c_V dX7_reckon_41 wd_723 wd_725 wd_23 wd_69 wd_726 nmh_7⟩
theorem o96_44 : OkE cX7_reckon RX7 "reckon" 5 3 false (44, .aload 0, 45, []) := (r_aload_n dX7_reckon_44 rfl).row
theorem o96_45 : OkE cX7_reckon RX7 "reckon" 5 3 false (45, .iload 1, 46, []) := (r_iload_n dX7_reckon_45 rfl).row
theorem o96_46 : OkE cX7_reckon RX7 "reckon" 5 3 false (46, .iload 2, 47, []) := (r_iload_n dX7_reckon_46 rfl).row
theorem o96_47 : OkE cX7_reckon RX7 "reckon" 5 3 false (47, .iadd, 48, []) := (r_iadd dX7_reckon_47).row
theorem o96_48 : OkE cX7_reckon RX7 "reckon" 5 3 false (48, .iload 2, 49, []) := (r_iload_n dX7_reckon_48 rfl).row
theorem o96_49 : OkE cX7_reckon RX7 "reckon" 5 3 false (49, .invokevirtual 98, 52, []) := ⟨rfl, c_V dX7_reckon_49 wd_737 wd_739 wd_24 wd_69 wd_740 nmh_7⟩
theorem o96_52 : OkE cX7_reckon RX7 "reckon" 5 3 false (52, .aload 0, 53, []) := (r_aload_n dX7_reckon_52 rfl).row
theorem o96_53 : OkE cX7_reckon RX7 "reckon" 5 3 false (53, .dup, 54, []) := (r_dup dX7_reckon_53).row
theorem o96_54 : OkE cX7_reckon RX7 "reckon" 5 3 false (54, .invokeinterface 7 2, 57, []) := (r_get (C := RX7) (T := TX7) (N := 7) (ci := 7) (j := 2) (ref := RX7) dX7_reckon_54 rfl inX7 (by decide) wd_163 rfl).row
theorem o96_57 : OkE cX7_reckon RX7 "reckon" 5 3 false (57, .sipush 100, 60, []) := (r_ldc2 wd_748 dX7_reckon_57 rfl).row
theorem o96_60 : OkE cX7_reckon RX7 "reckon" 5 3 false (60, .lmul, 61, []) := (r_lmul dX7_reckon_60).row
theorem o96_61 : OkE cX7_reckon RX7 "reckon" 5 3 false (61, .multianewarray 7 2, 64, []) := r_putL (C := RX7) (T := TX7) (N := 7) (ci := 7) (j := 2) (ref := RX7) dX7_reckon_61 rfl inX7 tyX7 tyX7_ok nmX7 (by decide) wd_163 rfl rfl (tyX7_ok 2 (by decide)) rfl
theorem o96_64 : OkE cX7_reckon RX7 "reckon" 5 3 false (64, .iinc 4 1, 67, []) := (r_iinc dX7_reckon_64 rfl).row
theorem o96_67 : OkE cX7_reckon RX7 "reckon" 5 3 false (67, .goto 24, 70, []) := (r_goto dX7_reckon_67 rfl).row
theorem o96_70 : OkE cX7_reckon RX7 "reckon" 5 3 false (70, .return_, 71, []) := dX7_reckon_70
theorem ok96 : ∀ x ∈ k96, OkE cX7_reckon RX7 "reckon" 5 3 false x := List.forall_mem_cons.mpr ⟨o96_0, List.forall_mem_cons.mpr ⟨o96_1, List.forall_mem_cons.mpr ⟨o96_4, List.forall_mem_cons.mpr ⟨o96_5, List.forall_mem_cons.mpr ⟨o96_8, List.forall_mem_cons.mpr ⟨o96_9, List.forall_mem_cons.mpr ⟨o96_12, List.forall_mem_cons.mpr ⟨o96_13, List.forall_mem_cons.mpr ⟨o96_16, List.forall_mem_cons.mpr ⟨o96_17, List.forall_mem_cons.mpr ⟨o96_18, List.forall_mem_cons.mpr ⟨o96_21, List.forall_mem_cons.mpr ⟨o96_22, List.forall_mem_cons.mpr ⟨o96_24, List.forall_mem_cons.mpr ⟨o96_26, List.forall_mem_cons.mpr ⟨o96_27, List.forall_mem_cons.mpr ⟨o96_30, List.forall_mem_cons.mpr ⟨o96_32, List.forall_mem_cons.mpr ⟨o96_33, List.forall_mem_cons.mpr ⟨o96_36, List.forall_mem_cons.mpr ⟨o96_37, List.forall_mem_cons.mpr ⟨o96_38, List.forall_mem_cons.mpr ⟨o96_39, List.forall_mem_cons.mpr ⟨o96_40, List.forall_mem_cons.mpr ⟨o96_41, List.forall_mem_cons.mpr ⟨o96_44, List.forall_mem_cons.mpr ⟨o96_45, List.forall_mem_cons.mpr ⟨o96_46, List.forall_mem_cons.mpr ⟨o96_47, List.forall_mem_cons.mpr ⟨o96_48, List.forall_mem_cons.mpr ⟨o96_49, List.forall_mem_cons.mpr ⟨o96_52, List.forall_mem_cons.mpr ⟨o96_53, List.forall_mem_cons.mpr ⟨o96_54, List.forall_mem_cons.mpr ⟨o96_57, List.forall_mem_cons.mpr ⟨o96_60, List.forall_mem_cons.mpr ⟨o96_61, List.forall_mem_cons.mpr ⟨o96_64, List.forall_mem_cons.mpr ⟨o96_67, List.forall_mem_cons.mpr ⟨o96_70, fun _ h => absurd h List.not_mem_nil⟩⟩⟩⟩⟩⟩⟩⟩⟩⟩⟩⟩⟩⟩⟩⟩⟩⟩⟩⟩⟩⟩⟩⟩⟩⟩⟩⟩⟩⟩⟩⟩⟩⟩⟩⟩⟩⟩⟩⟩
theorem o97_0 : OkE cX7_fillAhead RX7 "fillAhead" 6 2 false (0, .iconst 0, 1, []) := (r_iconst dX7_fillAhead_0 rfl).row
theorem o97_1 : OkE cX7_fillAhead RX7 "fillAhead" 6 2 false (1, .istore 3, 2, []) := (r_istore_n dX7_fillAhead_1 rfl).row
theorem o97_2 : OkE cX7_fillAhead RX7 "fillAhead" 6 2 false (2, .iload 3, 3, [4, 5]) := (r_iload_n dX7_fillAhead_2 rfl).row
theorem o97_3 : OkE cX7_fillAhead RX7 "fillAhead" 6 2 false (3, .iload 1, 4, []) := (r_iload_n dX7_fillAhead_3 rfl).row
theorem o97_4 : OkE cX7_fillAhead RX7 "fillAhead" 6 2 false (4, .if_icmp .gt 78, 7, []) := (r_icmp_gt dX7_fillAhead_4 rfl).row
theorem o97_7 : OkE cX7_fillAhead RX7 "fillAhead" 6 2 false (7, .iconst 0, 8, []) := (r_iconst dX7_fillAhead_7 rfl).row
theorem o97_8 : OkE cX7_fillAhead RX7 "fillAhead" 6 2 false (8, .istore 4, 10, []) := (r_istore dX7_fillAhead_8).row
theorem o97_10 : OkE cX7_fillAhead RX7 "fillAhead" 6 2 false (10, .iload 3, 11, [5]) := (r_iload_n dX7_fillAhead_10 rfl).row
theorem o97_11 : OkE cX7_fillAhead RX7 "fillAhead" 6 2 false (11, .iload 4, 13, []) := (r_iload dX7_fillAhead_11).row
theorem o97_13 : OkE cX7_fillAhead RX7 "fillAhead" 6 2 false (13, .iadd, 14, []) := (r_iadd dX7_fillAhead_13).row
theorem o97_14 : OkE cX7_fillAhead RX7 "fillAhead" 6 2 false (14, .iload 1, 15, []) := (r_iload_n dX7_fillAhead_14 rfl).row
theorem o97_15 : OkE cX7_fillAhead RX7 "fillAhead" 6 2 false (15, .if_icmp .gt 72, 18, []) := (r_icmp_gt dX7_fillAhead_15 rfl).row
theorem o97_18 : OkE cX7_fillAhead RX7 "fillAhead" 6 2 false (18, .iconst 0, 19, []) := (r_iconst dX7_fillAhead_18 rfl).row
theorem o97_19 : OkE cX7_fillAhead RX7 "fillAhead" 6 2 false (19, .istore 5, 21, []) := (r_istore dX7_fillAhead_19).row
theorem o97_21 : OkE cX7_fillAhead RX7 "fillAhead" 6 2 false (21, .iload 5, 23, []) := (r_iload dX7_fillAhead_21).row
theorem o97_23 : OkE cX7_fillAhead RX7 "fillAhead" 6 2 false (23, .iload 2, 24, []) := (r_iload_n dX7_fillAhead_23 rfl).row
theorem o97_24 : OkE cX7_fillAhead RX7 "fillAhead" 6 2 false (24, .if_icmp .gt 66, 27, []) := (r_icmp_gt dX7_fillAhead_24 rfl).row
theorem o97_27 : OkE cX7_fillAhead RX7 "fillAhead" 6 2 false (27, .iload 3, 28, []) := (r_iload_n dX7_fillAhead_27 rfl).row
theorem o97_28 : OkE cX7_fillAhead RX7 "fillAhead" 6 2 false (28, .iload 4, 30, []) := (r_iload dX7_fillAhead_28).row
theorem o97_30 : OkE cX7_fillAhead RX7 "fillAhead" 6 2 false (30, .iadd, 31, []) := (r_iadd dX7_fillAhead_30).row
theorem o97_31 : OkE cX7_fillAhead RX7 "fillAhead" 6 2 false (31, .iload 5, 33, []) := (r_iload dX7_fillAhead_31).row
theorem o97_33 : OkE cX7_fillAhead RX7 "fillAhead" 6 2 false (33, .iadd, 34, []) := (r_iadd dX7_fillAhead_33).row
theorem o97_34 : OkE cX7_fillAhead RX7 "fillAhead" 6 2 false (34, .iload 1, 35, []) := (r_iload_n dX7_fillAhead_34 rfl).row
theorem o97_35 : OkE cX7_fillAhead RX7 "fillAhead" 6 2 false (35, .if_icmp .gt 66, 38, []) := (r_icmp_gt dX7_fillAhead_35 rfl).row
theorem o97_38 : OkE cX7_fillAhead RX7 "fillAhead" 6 2 false (38, .aload 0, 39, []) := (r_aload_n dX7_fillAhead_38 rfl).row
theorem o97_39 : OkE cX7_fillAhead RX7 "fillAhead" 6 2 false (39, .invokeinterface 7 0, 42, []) := (r_get (C := RX7) (T := TX7) (N := 7) (ci := 7) (j := 0) (ref := RX7) dX7_fillAhead_39 rfl inX7 (by decide) wd_161 rfl).row
theorem o97_42 : OkE cX7_fillAhead RX7 "fillAhead" 6 2 false (42, .iload 3, 43, []) := (r_iload_n dX7_fillAhead_42 rfl).row
theorem o97_43 : OkE cX7_fillAhead RX7 "fillAhead" 6 2 false (43, .iload 4, 45, []) := (r_iload dX7_fillAhead_43).row
theorem o97_45 : OkE cX7_fillAhead RX7 "fillAhead" 6 2 false (45, .iload 5, 47, []) := (r_iload dX7_fillAhead_45).row
theorem o97_47 : OkE cX7_fillAhead RX7 "fillAhead" 6 2 false (47, .invokestatic 93, 50, []) := ⟨rfl, c_S dX7_fillAhead_47 wd_727 wd_728 wd_69 wd_729 nmh_7⟩
theorem o97_50 : OkE cX7_fillAhead RX7 "fillAhead" 6 2 false (50, .aload 0, 51, []) := (r_aload_n dX7_fillAhead_50 rfl).row
theorem o97_51 : OkE cX7_fillAhead RX7 "fillAhead" 6 2 false (51, .iload 3, 52, []) := (r_iload_n dX7_fillAhead_51 rfl).row
theorem o97_52 : OkE cX7_fillAhead RX7 "fillAhead" 6 2 false (52, .iload 4, 54, []) := (r_iload dX7_fillAhead_52).row
theorem o97_54 : OkE cX7_fillAhead RX7 "fillAhead" 6 2 false (54, .iload 5, 56, []) := (r_iload dX7_fillAhead_54).row
theorem o97_56 : OkE cX7_fillAhead RX7 "fillAhead" 6 2 false (56, .invokevirtual 100, 59, []) := ⟨rfl, c_V dX7_fillAhead_56 wd_730 wd_731 wd_732 wd_69 wd_733 nmh_7⟩
theorem o97_59 : OkE cX7_fillAhead RX7 "fillAhead" 6 2 false (59, .lastore, 60, []) := r_last dX7_fillAhead_59
theorem o97_60 : OkE cX7_fillAhead RX7 "fillAhead" 6 2 false (60, .iinc 5 1, 63, []) := (r_iinc dX7_fillAhead_60 rfl).row
theorem o97_63 : OkE cX7_fillAhead RX7 "fillAhead" 6 2 false (63, .goto 21, 66, []) := (r_goto dX7_fillAhead_63 rfl).row
theorem o97_66 : OkE cX7_fillAhead RX7 "fillAhead" 6 2 false (66, .iinc 4 1, 69, [5]) := (r_iinc dX7_fillAhead_66 rfl).row
theorem o97_69 : OkE cX7_fillAhead RX7 "fillAhead" 6 2 false (69, .goto 10, 72, []) := (r_goto dX7_fillAhead_69 rfl).row
theorem o97_72 : OkE cX7_fillAhead RX7 "fillAhead" 6 2 false (72, .iinc 3 1, 75, []) := (r_iinc dX7_fillAhead_72 rfl).row
theorem o97_75 : OkE cX7_fillAhead RX7 "fillAhead" 6 2 false (75, .goto 2, 78, []) := (r_goto dX7_fillAhead_75 rfl).row
theorem o97_78 : OkE cX7_fillAhead RX7 "fillAhead" 6 2 false (78, .return_, 79, []) := dX7_fillAhead_78
theorem ok97 : ∀ x ∈ k97, OkE cX7_fillAhead RX7 "fillAhead" 6 2 false x := List.forall_mem_cons.mpr ⟨o97_0, List.forall_mem_cons.mpr ⟨o97_1, List.forall_mem_cons.mpr ⟨o97_2, List.forall_mem_cons.mpr ⟨o97_3, List.forall_mem_cons.mpr ⟨o97_4, List.forall_mem_cons.mpr ⟨o97_7, List.forall_mem_cons.mpr ⟨o97_8, List.forall_mem_cons.mpr ⟨o97_10, List.forall_mem_cons.mpr ⟨o97_11, List.forall_mem_cons.mpr ⟨o97_13, List.forall_mem_cons.mpr ⟨o97_14, List.forall_mem_cons.mpr ⟨o97_15, List.forall_mem_cons.mpr ⟨o97_18, List.forall_mem_cons.mpr ⟨o97_19, List.forall_mem_cons.mpr ⟨o97_21, List.forall_mem_cons.mpr ⟨o97_23, List.forall_mem_cons.mpr ⟨o97_24, List.forall_mem_cons.mpr ⟨o97_27, List.forall_mem_cons.mpr ⟨o97_28, List.forall_mem_cons.mpr ⟨o97_30, List.forall_mem_cons.mpr ⟨o97_31, List.forall_mem_cons.mpr ⟨o97_33, List.forall_mem_cons.mpr ⟨o97_34, List.forall_mem_cons.mpr ⟨o97_35, List.forall_mem_cons.mpr ⟨o97_38, List.forall_mem_cons.mpr ⟨o97_39, List.forall_mem_cons.mpr ⟨o97_42, List.forall_mem_cons.mpr ⟨o97_43, List.forall_mem_cons.mpr ⟨o97_45, List.forall_mem_cons.mpr ⟨o97_47, List.forall_mem_cons.mpr ⟨o97_50, List.forall_mem_cons.mpr ⟨o97_51, List.forall_mem_cons.mpr ⟨o97_52, List.forall_mem_cons.mpr ⟨o97_54, List.forall_mem_cons.mpr ⟨o97_56, List.forall_mem_cons.mpr ⟨o97_59, List.forall_mem_cons.mpr ⟨o97_60, List.forall_mem_cons.mpr ⟨o97_63, List.forall_mem_cons.mpr ⟨o97_66, List.forall_mem_cons.mpr ⟨o97_69, List.forall_mem_cons.mpr ⟨o97_72, List.forall_mem_cons.mpr ⟨o97_75, List.forall_mem_cons.mpr ⟨o97_78, fun _ h => absurd h List.not_mem_nil⟩⟩⟩⟩⟩⟩⟩⟩⟩⟩⟩⟩⟩⟩⟩⟩⟩⟩⟩⟩⟩⟩⟩⟩⟩⟩⟩⟩⟩⟩⟩⟩⟩⟩⟩⟩⟩⟩⟩⟩⟩⟩⟩
theorem o98_0 : OkE cX7_fillBehind RX7 "fillBehind" 6 2 false (0, .iconst 0, 1, []) := (r_iconst dX7_fillBehind_0 rfl).row
theorem o98_1 : OkE cX7_fillBehind RX7 "fillBehind" 6 2 false (1, .istore 3, 2, []) := (r_istore_n dX7_fillBehind_1 rfl).row
theorem o98_2 : OkE cX7_fillBehind RX7 "fillBehind" 6 2 false (2, .iload 3, 3, [4, 5]) := (r_iload_n dX7_fillBehind_2 rfl).row
theorem o98_3 : OkE cX7_fillBehind RX7 "fillBehind" 6 2 false (3, .iload 1, 4, []) := (r_iload_n dX7_fillBehind_3 rfl).row
theorem o98_4 : OkE cX7_fillBehind RX7 "fillBehind" 6 2 false (4, .if_icmp .gt 78, 7, []) := (r_icmp_gt dX7_fillBehind_4 rfl).row
theorem o98_7 : OkE cX7_fillBehind RX7 "fillBehind" 6 2 false (7, .iconst 0, 8, []) := (r_iconst dX7_fillBehind_7 rfl).row
theorem o98_8 : OkE cX7_fillBehind RX7 "fillBehind" 6 2 false (8, .istore 4, 10, []) := (r_istore dX7_fillBehind_8).row
theorem o98_10 : OkE cX7_fillBehind RX7 "fillBehind" 6 2 false (10, .iload 3, 11, [5]) := (r_iload_n dX7_fillBehind_10 rfl).row
theorem o98_11 : OkE cX7_fillBehind RX7 "fillBehind" 6 2 false (11, .iload 4, 13, []) := (r_iload dX7_fillBehind_11).row
theorem o98_13 : OkE cX7_fillBehind RX7 "fillBehind" 6 2 false (13, .iadd, 14, []) := (r_iadd dX7_fillBehind_13).row
theorem o98_14 : OkE cX7_fillBehind RX7 "fillBehind" 6 2 false (14, .iload 1, 15, []) := (r_iload_n dX7_fillBehind_14 rfl).row
theorem o98_15 : OkE cX7_fillBehind RX7 "fillBehind" 6 2 false (15, .if_icmp .gt 72, 18, []) := (r_icmp_gt dX7_fillBehind_15 rfl).row
theorem o98_18 : OkE cX7_fillBehind RX7 "fillBehind" 6 2 false (18, .iconst 0, 19, []) := (r_iconst dX7_fillBehind_18 rfl).row
theorem o98_19 : OkE cX7_fillBehind RX7 "fillBehind" 6 2 false (19, .istore 5, 21, []) := (r_istore dX7_fillBehind_19).row
theorem o98_21 : OkE cX7_fillBehind RX7 "fillBehind" 6 2 false (21, .iload 5, 23, []) := (r_iload dX7_fillBehind_21).row
theorem o98_23 : OkE cX7_fillBehind RX7 "fillBehind" 6 2 false (23, .iload 2, 24, []) := (r_iload_n dX7_fillBehind_23 rfl).row
theorem o98_24 : OkE cX7_fillBehind RX7 "fillBehind" 6 2 false (24, .if_icmp .gt 66, 27, []) := (r_icmp_gt dX7_fillBehind_24 rfl).row
theorem o98_27 : OkE cX7_fillBehind RX7 "fillBehind" 6 2 false (27, .iload 3, 28, []) := (r_iload_n dX7_fillBehind_27 rfl).row
theorem o98_28 : OkE cX7_fillBehind RX7 "fillBehind" 6 2 false (28, .iload 4, 30, []) := (r_iload dX7_fillBehind_28).row
theorem o98_30 : OkE cX7_fillBehind RX7 "fillBehind" 6 2 false (30, .iadd, 31, []) := (r_iadd dX7_fillBehind_30).row
theorem o98_31 : OkE cX7_fillBehind RX7 "fillBehind" 6 2 false (31, .iload 5, 33, []) := (r_iload dX7_fillBehind_31).row
theorem o98_33 : OkE cX7_fillBehind RX7 "fillBehind" 6 2 false (33, .iadd, 34, []) := (r_iadd dX7_fillBehind_33).row
theorem o98_34 : OkE cX7_fillBehind RX7 "fillBehind" 6 2 false (34, .iload 1, 35, []) := (r_iload_n dX7_fillBehind_34 rfl).row
theorem o98_35 : OkE cX7_fillBehind RX7 "fillBehind" 6 2 false (35, .if_icmp .gt 66, 38, []) := (r_icmp_gt dX7_fillBehind_35 rfl).row
theorem o98_38 : OkE cX7_fillBehind RX7 "fillBehind" 6 2 false (38, .aload 0, 39, []) := (r_aload_n dX7_fillBehind_38 rfl).row
theorem o98_39 : OkE cX7_fillBehind RX7 "fillBehind" 6 2 false (39, .invokeinterface 7 1, 42, []) := (r_get (C := RX7) (T := TX7) (N := 7) (ci := 7) (j := 1) (ref := RX7) dX7_fillBehind_39 rfl inX7 (by decide) wd_162 rfl).row
theorem o98_42 : OkE cX7_fillBehind RX7 "fillBehind" 6 2 false (42, .iload 3, 43, []) := (r_iload_n dX7_fillBehind_42 rfl).row
theorem o98_43 : OkE cX7_fillBehind RX7 "fillBehind" 6 2 false (43, .iload 4, 45, []) := (r_iload dX7_fillBehind_43).row
theorem o98_45 : OkE cX7_fillBehind RX7 "fillBehind" 6 2 false (45, .iload 5, 47, []) := (r_iload dX7_fillBehind_45).row
theorem o98_47 : OkE cX7_fillBehind RX7 "fillBehind" 6 2 false (47, .invokestatic 93, 50, []) := ⟨rfl, c_S dX7_fillBehind_47 wd_727 wd_728 wd_69 wd_729 nmh_7⟩
theorem o98_50 : OkE cX7_fillBehind RX7 "fillBehind" 6 2 false (50, .aload 0, 51, []) := (r_aload_n dX7_fillBehind_50 rfl).row
theorem o98_51 : OkE cX7_fillBehind RX7 "fillBehind" 6 2 false (51, .iload 3, 52, []) := (r_iload_n dX7_fillBehind_51 rfl).row
theorem o98_52 : OkE cX7_fillBehind RX7 "fillBehind" 6 2 false (52, .iload 4, 54, []) := (r_iload dX7_fillBehind_52).row
theorem o98_54 : OkE cX7_fillBehind RX7 "fillBehind" 6 2 false (54, .iload 5, 56, []) := (r_iload dX7_fillBehind_54).row
theorem o98_56 : OkE cX7_fillBehind RX7 "fillBehind" 6 2 false (56, .invokevirtual 99, 59, []) := ⟨rfl, c_V dX7_fillBehind_56 wd_741 wd_743 wd_25 wd_69 wd_744 nmh_7⟩
theorem o98_59 : OkE cX7_fillBehind RX7 "fillBehind" 6 2 false (59, .lastore, 60, []) := r_last dX7_fillBehind_59
theorem o98_60 : OkE cX7_fillBehind RX7 "fillBehind" 6 2 false (60, .iinc 5 1, 63, []) := (r_iinc dX7_fillBehind_60 rfl).row
theorem o98_63 : OkE cX7_fillBehind RX7 "fillBehind" 6 2 false (63, .goto 21, 66, []) := (r_goto dX7_fillBehind_63 rfl).row
theorem o98_66 : OkE cX7_fillBehind RX7 "fillBehind" 6 2 false (66, .iinc 4 1, 69, [5]) := (r_iinc dX7_fillBehind_66 rfl).row
theorem o98_69 : OkE cX7_fillBehind RX7 "fillBehind" 6 2 false (69, .goto 10, 72, []) := (r_goto dX7_fillBehind_69 rfl).row
theorem o98_72 : OkE cX7_fillBehind RX7 "fillBehind" 6 2 false (72, .iinc 3 1, 75, []) := (r_iinc dX7_fillBehind_72 rfl).row
theorem o98_75 : OkE cX7_fillBehind RX7 "fillBehind" 6 2 false (75, .goto 2, 78, []) := (r_goto dX7_fillBehind_75 rfl).row
theorem o98_78 : OkE cX7_fillBehind RX7 "fillBehind" 6 2 false (78, .return_, 79, []) := dX7_fillBehind_78
theorem ok98 : ∀ x ∈ k98, OkE cX7_fillBehind RX7 "fillBehind" 6 2 false x := List.forall_mem_cons.mpr ⟨o98_0, List.forall_mem_cons.mpr ⟨o98_1, List.forall_mem_cons.mpr ⟨o98_2, List.forall_mem_cons.mpr ⟨o98_3, List.forall_mem_cons.mpr ⟨o98_4, List.forall_mem_cons.mpr ⟨o98_7, List.forall_mem_cons.mpr ⟨o98_8, List.forall_mem_cons.mpr ⟨o98_10, List.forall_mem_cons.mpr ⟨o98_11, List.forall_mem_cons.mpr ⟨o98_13, List.forall_mem_cons.mpr ⟨o98_14, List.forall_mem_cons.mpr ⟨o98_15, List.forall_mem_cons.mpr ⟨o98_18, List.forall_mem_cons.mpr ⟨o98_19, List.forall_mem_cons.mpr ⟨o98_21, List.forall_mem_cons.mpr ⟨o98_23, List.forall_mem_cons.mpr ⟨o98_24, List.forall_mem_cons.mpr ⟨o98_27, List.forall_mem_cons.mpr ⟨o98_28, List.forall_mem_cons.mpr ⟨o98_30, List.forall_mem_cons.mpr ⟨o98_31, List.forall_mem_cons.mpr ⟨o98_33, List.forall_mem_cons.mpr ⟨o98_34, List.forall_mem_cons.mpr ⟨o98_35, List.forall_mem_cons.mpr ⟨o98_38, List.forall_mem_cons.mpr ⟨o98_39, List.forall_mem_cons.mpr ⟨o98_42, List.forall_mem_cons.mpr ⟨o98_43, List.forall_mem_cons.mpr ⟨o98_45, List.forall_mem_cons.mpr ⟨o98_47, List.forall_mem_cons.mpr ⟨o98_50, List.forall_mem_cons.mpr ⟨o98_51, List.forall_mem_cons.mpr ⟨o98_52, List.forall_mem_cons.mpr ⟨o98_54, List.forall_mem_cons.mpr ⟨o98_56, List.forall_mem_cons.mpr ⟨o98_59, List.forall_mem_cons.mpr ⟨o98_60, List.forall_mem_cons.mpr ⟨o98_63, List.forall_mem_cons.mpr ⟨o98_66, List.forall_mem_cons.mpr ⟨o98_69, List.forall_mem_cons.mpr ⟨o98_72, List.forall_mem_cons.mpr ⟨o98_75, List.forall_mem_cons.mpr ⟨o98_78, fun _ h => absurd h List.not_mem_nil⟩⟩⟩⟩⟩⟩⟩⟩⟩⟩⟩⟩⟩⟩⟩⟩⟩⟩⟩⟩⟩⟩⟩⟩⟩⟩⟩⟩⟩⟩⟩⟩⟩⟩⟩⟩⟩⟩⟩⟩⟩⟩⟩
theorem o99_0 : OkE cX7_mean RX7 "mean" 13 1 false (0, .sipush 0, 1, []) := (r_lconst dX7_mean_0 rfl).row
theorem o99_1 : OkE cX7_mean RX7 "mean" 13 1 false (1, .lstore 4, 3, []) := (r_lstore dX7_mean_1).row
theorem o99_3 : OkE cX7_mean RX7 "mean" 13 1 false (3, .iconst 0, 4, []) := (r_iconst dX7_mean_3 rfl).row
theorem o99_4 : OkE cX7_mean RX7 "mean" 13 1 false (4, .istore 6, 6, []) := (r_istore dX7_mean_4).row
theorem o99_6 : OkE cX7_mean RX7 "mean" 13 1 false (6, .iload 6, 8, [7, 8, 9, 10, 11]) := (r_iload dX7_mean_6).row
theorem o99_8 : OkE cX7_mean RX7 "mean" 13 1 false (8, .iconst 1, 9, []) := (r_iconst dX7_mean_8 rfl).row
theorem o99_9 : OkE cX7_mean RX7 "mean" 13 1 false (9, .if_icmp .gt 144, 12, []) := (r_icmp_gt dX7_mean_9 rfl).row
theorem o99_12 : OkE cX7_mean RX7 "mean" 13 1 false (12, .iconst 0, 13, []) := (r_iconst dX7_mean_12 rfl).row
theorem o99_13 : OkE cX7_mean RX7 "mean" 13 1 false (13, .istore 7, 15, []) := (r_istore dX7_mean_13).row
theorem o99_15 : OkE cX7_mean RX7 "mean" 13 1 false (15, .iload 7, 17, [8, 9, 10, 11]) := (r_iload dX7_mean_15).row
theorem o99_17 : OkE cX7_mean RX7 "mean" 13 1 false (17, .iconst 1, 18, []) := (r_iconst dX7_mean_17 rfl).row
theorem o99_18 : OkE cX7_mean RX7 "mean" 13 1 false (18, .if_icmp .gt 138, 21, []) := (r_icmp_gt dX7_mean_18 rfl).row
theorem o99_21 : OkE cX7_mean RX7 "mean" 13 1 false (21, .iload 6, 23, []) := (r_iload dX7_mean_21).row
theorem o99_23 : OkE cX7_mean RX7 "mean" 13 1 false (23, .iconst 1, 24, []) := (r_iconst dX7_mean_23 rfl).row
theorem o99_24 : OkE cX7_mean RX7 "mean" 13 1 false (24, .if_icmp .ne 34, 27, []) := (r_icmp_ne dX7_mean_24 rfl).row
theorem o99_27 : OkE cX7_mean RX7 "mean" 13 1 false (27, .aload 0, 28, []) := (r_aload_n dX7_mean_27 rfl).row
theorem o99_28 : OkE cX7_mean RX7 "mean" 13 1 false (28, .invokeinterface 7 5, 31, []) := (r_get (C := RX7) (T := TX7) (N := 7) (ci := 7) (j := 5) (ref := RX7) dX7_mean_28 rfl inX7 (by decide) wd_166 rfl).row
theorem o99_31 : OkE cX7_mean RX7 "mean" 13 1 false (31, .goto 41, 34, []) := (r_goto dX7_mean_31 rfl).row
theorem o99_34 : OkE cX7_mean RX7 "mean" 13 1 false (34, .iconst 10, 36, []) := (r_bipush dX7_mean_34 rfl).row
theorem o99_36 : OkE cX7_mean RX7 "mean" 13 1 false (36, .aload 0, 37, []) := (r_aload_n dX7_mean_36 rfl).row
theorem o99_37 : OkE cX7_mean RX7 "mean" 13 1 false (37, .invokeinterface 7 5, 40, []) := (r_get (C := RX7) (T := TX7) (N := 7) (ci := 7) (j := 5) (ref := RX7) dX7_mean_37 rfl inX7 (by decide) wd_166 rfl).row
theorem o99_40 : OkE cX7_mean RX7 "mean" 13 1 false (40, .isub, 41, []) := (r_isub dX7_mean_40).row
theorem o99_41 : OkE cX7_mean RX7 "mean" 13 1 false (41, .iload 7, 43, [8, 9, 10, 11]) := (r_iload dX7_mean_41).row
theorem o99_43 : OkE cX7_mean RX7 "mean" 13 1 false (43, .iconst 1, 44, []) := (r_iconst dX7_mean_43 rfl).row
theorem o99_44 : OkE cX7_mean RX7 "mean" 13 1 false (44, .if_icmp .ne 54, 47, []) := (r_icmp_ne dX7_mean_44 rfl).row
theorem o99_47 : OkE cX7_mean RX7 "mean" 13 1 false (47, .aload 0, 48, []) := (r_aload_n dX7_mean_47 rfl).row
theorem o99_48 : OkE cX7_mean RX7 "mean" 13 1 false (48, .invokeinterface 7 6, 51, []) := (r_get (C := RX7) (T := TX7) (N := 7) (ci := 7) (j := 6) (ref := RX7) dX7_mean_48 rfl inX7 (by decide) wd_167 rfl).row
theorem o99_51 : OkE cX7_mean RX7 "mean" 13 1 false (51, .goto 61, 54, []) := (r_goto dX7_mean_51 rfl).row
theorem o99_54 : OkE cX7_mean RX7 "mean" 13 1 false (54, .iconst 10, 56, []) := (r_bipush dX7_mean_54 rfl).row
theorem o99_56 : OkE cX7_mean RX7 "mean" 13 1 false (56, .aload 0, 57, []) := (r_aload_n dX7_mean_56 rfl).row
theorem o99_57 : OkE cX7_mean RX7 "mean" 13 1 false (57, .invokeinterface 7 6, 60, []) := (r_get (C := RX7) (T := TX7) (N := 7) (ci := 7) (j := 6) (ref := RX7) dX7_mean_57 rfl inX7 (by decide) wd_167 rfl).row
theorem o99_60 : OkE cX7_mean RX7 "mean" 13 1 false (60, .isub, 61, []) := (r_isub dX7_mean_60).row
theorem o99_61 : OkE cX7_mean RX7 "mean" 13 1 false (61, .imul, 62, [8, 9, 10, 11]) := (r_imul dX7_mean_61).row
theorem o99_62 : OkE cX7_mean RX7 "mean" 13 1 false (62, .istore 8, 64, []) := (r_istore dX7_mean_62).row
theorem o99_64 : OkE cX7_mean RX7 "mean" 13 1 false (64, .iload 1, 65, []) := (r_iload_n dX7_mean_64 rfl).row
theorem o99_65 : OkE cX7_mean RX7 "mean" 13 1 false (65, .aload 0, 66, []) := (r_aload_n dX7_mean_65 rfl).row
theorem o99_66 : OkE cX7_mean RX7 "mean" 13 1 false (66, .invokeinterface 7 3, 69, []) := (r_get (C := RX7) (T := TX7) (N := 7) (ci := 7) (j := 3) (ref := RX7) dX7_mean_66 rfl inX7 (by decide) wd_164 rfl).row
theorem o99_69 : OkE cX7_mean RX7 "mean" 13 1 false (69, .iload 6, 71, []) := (r_iload dX7_mean_69).row
theorem o99_71 : OkE cX7_mean RX7 "mean" 13 1 false (71, .iadd, 72, []) := (r_iadd dX7_mean_71).row
theorem o99_72 : OkE cX7_mean RX7 "mean" 13 1 false (72, .fsub, 75, []) := (r_mini dX7_mean_72 wd_745 wd_746 wd_75 wd_747 (by decide)).row
theorem o99_75 : OkE cX7_mean RX7 "mean" 13 1 false (75, .istore 9, 77, []) := (r_istore dX7_mean_75).row
theorem o99_77 : OkE cX7_mean RX7 "mean" 13 1 false (77, .iload 2, 78, []) := (r_iload_n dX7_mean_77 rfl).row
theorem o99_78 : OkE cX7_mean RX7 "mean" 13 1 false (78, .aload 0, 79, []) := (r_aload_n dX7_mean_78 rfl).row
theorem o99_79 : OkE cX7_mean RX7 "mean" 13 1 false (79, .invokeinterface 7 4, 82, []) := (r_get (C := RX7) (T := TX7) (N := 7) (ci := 7) (j := 4) (ref := RX7) dX7_mean_79 rfl inX7 (by decide) wd_165 rfl).row
theorem o99_82 : OkE cX7_mean RX7 "mean" 13 1 false (82, .iload 7, 84, []) := (r_iload dX7_mean_82).row
theorem o99_84 : OkE cX7_mean RX7 "mean" 13 1 false (84, .iadd, 85, []) := (r_iadd dX7_mean_84).row
theorem o99_85 : OkE cX7_mean RX7 "mean" 13 1 false (85, .fsub, 88, []) := (r_mini dX7_mean_85 wd_745 wd_746 wd_75 wd_747 (by decide)).row
theorem o99_88 : OkE cX7_mean RX7 "mean" 13 1 false (88, .istore 10, 90, []) := (r_istore dX7_mean_88).row
theorem o99_90 : OkE cX7_mean RX7 "mean" 13 1 false (90, .aload 0, 91, []) := (r_aload_n dX7_mean_90 rfl).row
theorem o99_91 : OkE cX7_mean RX7 "mean" 13 1 false (91, .invokeinterface 7 0, 94, []) := (r_get (C := RX7) (T := TX7) (N := 7) (ci := 7) (j := 0) (ref := RX7) dX7_mean_91 rfl inX7 (by decide) wd_161 rfl).row
theorem o99_94 : OkE cX7_mean RX7 "mean" 13 1 false (94, .iload 1, 95, []) := (r_iload_n dX7_mean_94 rfl).row
theorem o99_95 : OkE cX7_mean RX7 "mean" 13 1 false (95, .iload 9, 97, []) := (r_iload dX7_mean_95).row
theorem o99_97 : OkE cX7_mean RX7 "mean" 13 1 false (97, .isub, 98, []) := (r_isub dX7_mean_97).row
theorem o99_98 : OkE cX7_mean RX7 "mean" 13 1 false (98, .iload 2, 99, []) := (r_iload_n dX7_mean_98 rfl).row
theorem o99_99 : OkE cX7_mean RX7 "mean" 13 1 false (99, .iload 10, 101, []) := (r_iload dX7_mean_99).row
theorem o99_101 : OkE cX7_mean RX7 "mean" 13 1 false (101, .isub, 102, []) := (r_isub dX7_mean_101).row
theorem o99_102 : OkE cX7_mean RX7 "mean" 13 1 false (102, .iload 3, 103, []) := (r_iload_n dX7_mean_102 rfl).row
theorem o99_103 : OkE cX7_mean RX7 "mean" 13 1 false (103, .invokestatic 93, 106, []) := ⟨rfl, c_S dX7_mean_103 wd_727 wd_728 wd_69 wd_729 nmh_7⟩
theorem o99_106 : OkE cX7_mean RX7 "mean" 13 1 false (106, .laload, 107, []) := (r_lald dX7_mean_106).row
theorem o99_107 : OkE cX7_mean RX7 "mean" 13 1 false (107, .lstore 11, 109, []) := (r_lstore dX7_mean_107).row
theorem o99_109 : OkE cX7_mean RX7 "mean" 13 1 false (109, .lload 4, 111, []) := (r_lload dX7_mean_109).row
theorem o99_111 : OkE cX7_mean RX7 "mean" 13 1 false (111, .iload 8, 113, []) := (r_iload dX7_mean_111).row
theorem o99_113 : OkE cX7_mean RX7 "mean" 13 1 false (113, .i2l, 114, []) := (r_i2l dX7_mean_113).row
theorem o99_114 : OkE cX7_mean RX7 "mean" 13 1 false (114, .iload 9, 116, []) := (r_iload dX7_mean_114).row
theorem o99_116 : OkE cX7_mean RX7 "mean" 13 1 false (116, .iload 10, 118, []) := (r_iload dX7_mean_116).row
theorem o99_118 : OkE cX7_mean RX7 "mean" 13 1 false (118, .iadd, 119, []) := (r_iadd dX7_mean_118).row
theorem o99_119 : OkE cX7_mean RX7 "mean" 13 1 false (119, .i2l, 120, []) := (r_i2l dX7_mean_119).row
theorem o99_120 : OkE cX7_mean RX7 "mean" 13 1 false (120, .aload 0, 121, []) := (r_aload_n dX7_mean_120 rfl).row
theorem o99_121 : OkE cX7_mean RX7 "mean" 13 1 false (121, .invokeinterface 7 2, 124, []) := (r_get (C := RX7) (T := TX7) (N := 7) (ci := 7) (j := 2) (ref := RX7) dX7_mean_121 rfl inX7 (by decide) wd_163 rfl).row
theorem o99_124 : OkE cX7_mean RX7 "mean" 13 1 false (124, .lmul, 125, []) := (r_lmul dX7_mean_124).row
theorem o99_125 : OkE cX7_mean RX7 "mean" 13 1 false (125, .lload 11, 127, []) := (r_lload dX7_mean_125).row
theorem o99_127 : OkE cX7_mean RX7 "mean" 13 1 false (127, .ladd, 128, []) := (r_ladd dX7_mean_127).row
theorem o99_128 : OkE cX7_mean RX7 "mean" 13 1 false (128, .lmul, 129, []) := (r_lmul dX7_mean_128).row
theorem o99_129 : OkE cX7_mean RX7 "mean" 13 1 false (129, .ladd, 130, []) := (r_ladd dX7_mean_129).row
theorem o99_130 : OkE cX7_mean RX7 "mean" 13 1 false (130, .lstore 4, 132, []) := (r_lstore dX7_mean_130).row
theorem o99_132 : OkE cX7_mean RX7 "mean" 13 1 false (132, .iinc 7 1, 135, []) := (r_iinc dX7_mean_132 rfl).row
theorem o99_135 : OkE cX7_mean RX7 "mean" 13 1 false (135, .goto 15, 138, []) := (r_goto dX7_mean_135 rfl).row
theorem o99_138 : OkE cX7_mean RX7 "mean" 13 1 false (138, .iinc 6 1, 141, []) := (r_iinc dX7_mean_138 rfl).row
theorem o99_141 : OkE cX7_mean RX7 "mean" 13 1 false (141, .goto 6, 144, []) := (r_goto dX7_mean_141 rfl).row
theorem o99_144 : OkE cX7_mean RX7 "mean" 13 1 false (144, .lload 4, 146, []) := (r_lload dX7_mean_144).row
theorem o99_146 : OkE cX7_mean RX7 "mean" 13 1 false (146, .lreturn, 147, []) := dX7_mean_146
theorem ok99 : ∀ x ∈ k99, OkE cX7_mean RX7 "mean" 13 1 false x := List.forall_mem_cons.mpr ⟨o99_0, List.forall_mem_cons.mpr ⟨o99_1, List.forall_mem_cons.mpr ⟨o99_3, List.forall_mem_cons.mpr ⟨o99_4, List.forall_mem_cons.mpr ⟨o99_6, List.forall_mem_cons.mpr ⟨o99_8, List.forall_mem_cons.mpr ⟨o99_9, List.forall_mem_cons.mpr ⟨o99_12, List.forall_mem_cons.mpr ⟨o99_13, List.forall_mem_cons.mpr ⟨o99_15, List.forall_mem_cons.mpr ⟨o99_17, List.forall_mem_cons.mpr ⟨o99_18, List.forall_mem_cons.mpr ⟨o99_21, List.forall_mem_cons.mpr ⟨o99_23, List.forall_mem_cons.mpr ⟨o99_24, List.forall_mem_cons.mpr ⟨o99_27, List.forall_mem_cons.mpr ⟨o99_28, List.forall_mem_cons.mpr ⟨o99_31, List.forall_mem_cons.mpr ⟨o99_34, List.forall_mem_cons.mpr ⟨o99_36, List.forall_mem_cons.mpr ⟨o99_37, List.forall_mem_cons.mpr ⟨o99_40, List.forall_mem_cons.mpr ⟨o99_41, List.forall_mem_cons.mpr ⟨o99_43, List.forall_mem_cons.mpr ⟨o99_44, List.forall_mem_cons.mpr ⟨o99_47, List.forall_mem_cons.mpr ⟨o99_48, List.forall_mem_cons.mpr ⟨o99_51, List.forall_mem_cons.mpr ⟨o99_54, List.forall_mem_cons.mpr ⟨o99_56, List.forall_mem_cons.mpr ⟨o99_57, List.forall_mem_cons.mpr ⟨o99_60, List.forall_mem_cons.mpr ⟨o99_61, List.forall_mem_cons.mpr ⟨o99_62, List.forall_mem_cons.mpr ⟨o99_64, List.forall_mem_cons.mpr ⟨o99_65, List.forall_mem_cons.mpr ⟨o99_66, List.forall_mem_cons.mpr ⟨o99_69, List.forall_mem_cons.mpr ⟨o99_71, List.forall_mem_cons.mpr ⟨o99_72, List.forall_mem_cons.mpr ⟨o99_75, List.forall_mem_cons.mpr ⟨o99_77, List.forall_mem_cons.mpr ⟨o99_78, List.forall_mem_cons.mpr ⟨o99_79, List.forall_mem_cons.mpr ⟨o99_82, List.forall_mem_cons.mpr ⟨o99_84, List.forall_mem_cons.mpr ⟨o99_85, List.forall_mem_cons.mpr ⟨o99_88, List.forall_mem_cons.mpr ⟨o99_90, List.forall_mem_cons.mpr ⟨o99_91, List.forall_mem_cons.mpr ⟨o99_94, List.forall_mem_cons.mpr ⟨o99_95, List.forall_mem_cons.mpr ⟨o99_97, List.forall_mem_cons.mpr ⟨o99_98, List.forall_mem_cons.mpr ⟨o99_99, List.forall_mem_cons.mpr ⟨o99_101, List.forall_mem_cons.mpr ⟨o99_102, List.forall_mem_cons.mpr ⟨o99_103, List.forall_mem_cons.mpr ⟨o99_106, List.forall_mem_cons.mpr ⟨o99_107, List.forall_mem_cons.mpr ⟨o99_109, List.forall_mem_cons.mpr ⟨o99_111, List.forall_mem_cons.mpr ⟨o99_113, List.forall_mem_cons.mpr ⟨o99_114, List.forall_mem_cons.mpr ⟨o99_116, List.forall_mem_cons.mpr ⟨o99_118, List.forall_mem_cons.mpr ⟨o99_119, List.forall_mem_cons.mpr ⟨o99_120, List.forall_mem_cons.mpr ⟨o99_121, List.forall_mem_cons.mpr ⟨o99_124, List.forall_mem_cons.mpr ⟨o99_125, List.forall_mem_cons.mpr ⟨o99_127, List.forall_mem_cons.mpr ⟨o99_128, List.forall_mem_cons.mpr ⟨o99_129, List.forall_mem_cons.mpr ⟨o99_130, List.forall_mem_cons.mpr ⟨o99_132, List.forall_mem_cons.mpr ⟨o99_135, List.forall_mem_cons.mpr ⟨o99_138, List.forall_mem_cons.mpr ⟨o99_141, List.forall_mem_cons.mpr ⟨o99_144, List.forall_mem_cons.mpr ⟨o99_146, fun _ h => absurd h List.not_mem_nil⟩⟩⟩⟩⟩⟩⟩⟩⟩⟩⟩⟩⟩⟩⟩⟩⟩⟩⟩⟩⟩⟩⟩⟩⟩⟩⟩⟩⟩⟩⟩⟩⟩⟩⟩⟩⟩⟩⟩⟩⟩⟩⟩⟩⟩⟩⟩⟩⟩⟩⟩⟩⟩⟩⟩⟩⟩⟩⟩⟩⟩⟩⟩⟩⟩⟩⟩⟩⟩⟩⟩⟩⟩⟩⟩⟩⟩⟩⟩⟩⟩
theorem o100_0 : OkE cX7_bestOf RX7 "bestOf" 7 1 false (0, .aload 0, 1, []) := (r_aload_n dX7_bestOf_0 rfl).row
theorem o100_1 : OkE cX7_bestOf RX7 "bestOf" 7 1 false (1, .invokeinterface 7 1, 4, []) := (r_get (C := RX7) (T := TX7) (N := 7) (ci := 7) (j := 1) (ref := RX7) dX7_bestOf_1 rfl inX7 (by decide) wd_162 rfl).row
theorem o100_4 : OkE cX7_bestOf RX7 "bestOf" 7 1 false (4, .iload 1, 5, []) := (r_iload_n dX7_bestOf_4 rfl).row
theorem o100_5 : OkE cX7_bestOf RX7 "bestOf" 7 1 false (5, .iload 2, 6, []) := (r_iload_n dX7_bestOf_5 rfl).row
theorem o100_6 : OkE cX7_bestOf RX7 "bestOf" 7 1 false (6, .iload 3, 7, []) := (r_iload_n dX7_bestOf_6 rfl).row
theorem o100_7 : OkE cX7_bestOf RX7 "bestOf" 7 1 false (7, .invokestatic 93, 10, []) := ⟨rfl, c_S dX7_bestOf_7 wd_727 wd_728 wd_69 wd_729 nmh_7⟩
theorem o100_10 : OkE cX7_bestOf RX7 "bestOf" 7 1 false (10, .laload, 11, []) := (r_lald dX7_bestOf_10).row
theorem o100_11 : OkE cX7_bestOf RX7 "bestOf" 7 1 false (11, .lstore 4, 13, []) := (r_lstore dX7_bestOf_11).row
theorem o100_13 : OkE cX7_bestOf RX7 "bestOf" 7 1 false (13, .iconst 1, 14, []) := (r_iconst dX7_bestOf_13 rfl).row
theorem o100_14 : OkE cX7_bestOf RX7 "bestOf" 7 1 false (14, .istore 6, 16, []) := (r_istore dX7_bestOf_14).row
theorem o100_16 : OkE cX7_bestOf RX7 "bestOf" 7 1 false (16, .iload 6, 18, []) := (r_iload dX7_bestOf_16).row
theorem o100_18 : OkE cX7_bestOf RX7 "bestOf" 7 1 false (18, .iload 3, 19, []) := (r_iload_n dX7_bestOf_18 rfl).row
theorem o100_19 : OkE cX7_bestOf RX7 "bestOf" 7 1 false (19, .if_icmp .gt 76, 22, []) := (r_icmp_gt dX7_bestOf_19 rfl).row
theorem o100_22 : OkE cX7_bestOf RX7 "bestOf" 7 1 false (22, .lload 4, 24, []) := (r_lload dX7_bestOf_22).row
theorem o100_24 : OkE cX7_bestOf RX7 "bestOf" 7 1 false (24, .aload 0, 25, []) := (r_aload_n dX7_bestOf_24 rfl).row
theorem o100_25 : OkE cX7_bestOf RX7 "bestOf" 7 1 false (25, .invokeinterface 7 1, 28, []) := (r_get (C := RX7) (T := TX7) (N := 7) (ci := 7) (j := 1) (ref := RX7) dX7_bestOf_25 rfl inX7 (by decide) wd_162 rfl).row
theorem o100_28 : OkE cX7_bestOf RX7 "bestOf" 7 1 false (28, .iload 1, 29, []) := (r_iload_n dX7_bestOf_28 rfl).row
theorem o100_29 : OkE cX7_bestOf RX7 "bestOf" 7 1 false (29, .iload 6, 31, []) := (r_iload dX7_bestOf_29).row
theorem o100_31 : OkE cX7_bestOf RX7 "bestOf" 7 1 false (31, .iadd, 32, []) := (r_iadd dX7_bestOf_31).row
theorem o100_32 : OkE cX7_bestOf RX7 "bestOf" 7 1 false (32, .iload 2, 33, []) := (r_iload_n dX7_bestOf_32 rfl).row
theorem o100_33 : OkE cX7_bestOf RX7 "bestOf" 7 1 false (33, .iload 3, 34, []) := (r_iload_n dX7_bestOf_33 rfl).row
theorem o100_34 : OkE cX7_bestOf RX7 "bestOf" 7 1 false (34, .iload 6, 36, []) := (r_iload dX7_bestOf_34).row
theorem o100_36 : OkE cX7_bestOf RX7 "bestOf" 7 1 false (36, .isub, 37, []) := (r_isub dX7_bestOf_36).row
theorem o100_37 : OkE cX7_bestOf RX7 "bestOf" 7 1 false (37, .invokestatic 93, 40, []) := ⟨rfl, c_S dX7_bestOf_37 wd_727 wd_728 wd_69 wd_729 nmh_7⟩
theorem o100_40 : OkE cX7_bestOf RX7 "bestOf" 7 1 false (40, .laload, 41, []) := (r_lald dX7_bestOf_40).row
theorem o100_41 : OkE cX7_bestOf RX7 "bestOf" 7 1 false (41, .dadd, 44, []) := (r_maxl dX7_bestOf_41 wd_734 wd_735 wd_75 wd_736 (by decide)).row
theorem o100_44 : OkE cX7_bestOf RX7 "bestOf" 7 1 false (44, .lstore 4, 46, []) := (r_lstore dX7_bestOf_44).row
theorem o100_46 : OkE cX7_bestOf RX7 "bestOf" 7 1 false (46, .lload 4, 48, []) := (r_lload dX7_bestOf_46).row
theorem o100_48 : OkE cX7_bestOf RX7 "bestOf" 7 1 false (48, .aload 0, 49, []) := (r_aload_n dX7_bestOf_48 rfl).row
theorem o100_49 : OkE cX7_bestOf RX7 "bestOf" 7 1 false (49, .invokeinterface 7 1, 52, []) := (r_get (C := RX7) (T := TX7) (N := 7) (ci := 7) (j := 1) (ref := RX7) dX7_bestOf_49 rfl inX7 (by decide) wd_162 rfl).row
theorem o100_52 : OkE cX7_bestOf RX7 "bestOf" 7 1 false (52, .iload 1, 53, []) := (r_iload_n dX7_bestOf_52 rfl).row
theorem o100_53 : OkE cX7_bestOf RX7 "bestOf" 7 1 false (53, .iload 2, 54, []) := (r_iload_n dX7_bestOf_53 rfl).row
theorem o100_54 : OkE cX7_bestOf RX7 "bestOf" 7 1 false (54, .iload 6, 56, []) := (r_iload dX7_bestOf_54).row
theorem o100_56 : OkE cX7_bestOf RX7 "bestOf" 7 1 false (56, .iadd, 57, []) := (r_iadd dX7_bestOf_56).row
theorem o100_57 : OkE cX7_bestOf RX7 "bestOf" 7 1 false (57, .iload 3, 58, []) := (r_iload_n dX7_bestOf_57 rfl).row
theorem o100_58 : OkE cX7_bestOf RX7 "bestOf" 7 1 false (58, .iload 6, 60, []) := (r_iload dX7_bestOf_58).row
theorem o100_60 : OkE cX7_bestOf RX7 "bestOf" 7 1 false (60, .isub, 61, []) := (r_isub dX7_bestOf_60).row
theorem o100_61 : OkE cX7_bestOf RX7 "bestOf" 7 1 false (61, .invokestatic 93, 64, []) := ⟨rfl, c_S dX7_bestOf_61 wd_727 wd_728 wd_69 wd_729 nmh_7⟩
theorem o100_64 : OkE cX7_bestOf RX7 "bestOf" 7 1 false (64, .laload, 65, []) := (r_lald dX7_bestOf_64).row
theorem o100_65 : OkE cX7_bestOf RX7 "bestOf" 7 1 false (65, .dadd, 68, []) := (r_maxl dX7_bestOf_65 wd_734 wd_735 wd_75 wd_736 (by decide)).row
theorem o100_68 : OkE cX7_bestOf RX7 "bestOf" 7 1 false (68, .lstore 4, 70, []) := (r_lstore dX7_bestOf_68).row
theorem o100_70 : OkE cX7_bestOf RX7 "bestOf" 7 1 false (70, .iinc 6 1, 73, []) := (r_iinc dX7_bestOf_70 rfl).row
theorem o100_73 : OkE cX7_bestOf RX7 "bestOf" 7 1 false (73, .goto 16, 76, []) := (r_goto dX7_bestOf_73 rfl).row
theorem o100_76 : OkE cX7_bestOf RX7 "bestOf" 7 1 false (76, .lload 4, 78, []) := (r_lload dX7_bestOf_76).row
theorem o100_78 : OkE cX7_bestOf RX7 "bestOf" 7 1 false (78, .lreturn, 79, []) := dX7_bestOf_78
theorem ok100 : ∀ x ∈ k100, OkE cX7_bestOf RX7 "bestOf" 7 1 false x := List.forall_mem_cons.mpr ⟨o100_0, List.forall_mem_cons.mpr ⟨o100_1, List.forall_mem_cons.mpr ⟨o100_4, List.forall_mem_cons.mpr ⟨o100_5, List.forall_mem_cons.mpr ⟨o100_6, List.forall_mem_cons.mpr ⟨o100_7, List.forall_mem_cons.mpr ⟨o100_10, List.forall_mem_cons.mpr ⟨o100_11, List.forall_mem_cons.mpr ⟨o100_13, List.forall_mem_cons.mpr ⟨o100_14, List.forall_mem_cons.mpr ⟨o100_16, List.forall_mem_cons.mpr ⟨o100_18, List.forall_mem_cons.mpr ⟨o100_19, List.forall_mem_cons.mpr ⟨o100_22, List.forall_mem_cons.mpr ⟨o100_24, List.forall_mem_cons.mpr ⟨o100_25, List.forall_mem_cons.mpr ⟨o100_28, List.forall_mem_cons.mpr ⟨o100_29, List.forall_mem_cons.mpr ⟨o100_31, List.forall_mem_cons.mpr ⟨o100_32, List.forall_mem_cons.mpr ⟨o100_33, List.forall_mem_cons.mpr ⟨o100_34, List.forall_mem_cons.mpr ⟨o100_36, List.forall_mem_cons.mpr ⟨o100_37, List.forall_mem_cons.mpr ⟨o100_40, List.forall_mem_cons.mpr ⟨o100_41, List.forall_mem_cons.mpr ⟨o100_44, List.forall_mem_cons.mpr ⟨o100_46, List.forall_mem_cons.mpr ⟨o100_48, List.forall_mem_cons.mpr ⟨o100_49, List.forall_mem_cons.mpr ⟨o100_52, List.forall_mem_cons.mpr ⟨o100_53, List.forall_mem_cons.mpr ⟨o100_54, List.forall_mem_cons.mpr ⟨o100_56, List.forall_mem_cons.mpr ⟨o100_57, List.forall_mem_cons.mpr ⟨o100_58, List.forall_mem_cons.mpr ⟨o100_60, List.forall_mem_cons.mpr ⟨o100_61, List.forall_mem_cons.mpr ⟨o100_64, List.forall_mem_cons.mpr ⟨o100_65, List.forall_mem_cons.mpr ⟨o100_68, List.forall_mem_cons.mpr ⟨o100_70, List.forall_mem_cons.mpr ⟨o100_73, List.forall_mem_cons.mpr ⟨o100_76, List.forall_mem_cons.mpr ⟨o100_78, fun _ h => absurd h List.not_mem_nil⟩⟩⟩⟩⟩⟩⟩⟩⟩⟩⟩⟩⟩⟩⟩⟩⟩⟩⟩⟩⟩⟩⟩⟩⟩⟩⟩⟩⟩⟩⟩⟩⟩⟩⟩⟩⟩⟩⟩⟩⟩⟩⟩⟩⟩
theorem o101_0 : OkE cX7_firstMove RX7 "firstMove" 7 2 false (0, .aload 0, 1, []) := (r_aload_n dX7_firstMove_0 rfl).row
theorem o101_1 : OkE cX7_firstMove RX7 "firstMove" 7 2 false (1, .iload 1, 2, []) := (r_iload_n dX7_firstMove_1 rfl).row
theorem o101_2 : OkE cX7_firstMove RX7 "firstMove" 7 2 false (2, .iload 2, 3, []) := (r_iload_n dX7_firstMove_2 rfl).row
theorem o101_3 : OkE cX7_firstMove RX7 "firstMove" 7 2 false (3, .iload 3, 4, []) := (r_iload_n dX7_firstMove_3 rfl).row
theorem o101_4 : OkE cX7_firstMove RX7 "firstMove" 7 2 false (4, .invokevirtual 100, 7, []) := ⟨rfl, c_V dX7_firstMove_4 wd_730 wd_731 wd_732 wd_69 wd_733 nmh_7⟩
theorem o101_7 : OkE cX7_firstMove RX7 "firstMove" 7 2 false (7, .lstore 4, 9, []) := (r_lstore dX7_firstMove_7).row
theorem o101_9 : OkE cX7_firstMove RX7 "firstMove" 7 2 false (9, .aload 0, 10, []) := (r_aload_n dX7_firstMove_9 rfl).row
theorem o101_10 : OkE cX7_firstMove RX7 "firstMove" 7 2 false (10, .invokeinterface 7 1, 13, []) := (r_get (C := RX7) (T := TX7) (N := 7) (ci := 7) (j := 1) (ref := RX7) dX7_firstMove_10 rfl inX7 (by decide) wd_162 rfl).row
theorem o101_13 : OkE cX7_firstMove RX7 "firstMove" 7 2 false (13, .iload 1, 14, []) := (r_iload_n dX7_firstMove_13 rfl).row
theorem o101_14 : OkE cX7_firstMove RX7 "firstMove" 7 2 false (14, .iload 2, 15, []) := (r_iload_n dX7_firstMove_14 rfl).row
theorem o101_15 : OkE cX7_firstMove RX7 "firstMove" 7 2 false (15, .iload 3, 16, []) := (r_iload_n dX7_firstMove_15 rfl).row
theorem o101_16 : OkE cX7_firstMove RX7 "firstMove" 7 2 false (16, .invokestatic 93, 19, []) := ⟨rfl, c_S dX7_firstMove_16 wd_727 wd_728 wd_69 wd_729 nmh_7⟩
theorem o101_19 : OkE cX7_firstMove RX7 "firstMove" 7 2 false (19, .laload, 20, []) := (r_lald dX7_firstMove_19).row
theorem o101_20 : OkE cX7_firstMove RX7 "firstMove" 7 2 false (20, .lload 4, 22, []) := (r_lload dX7_firstMove_20).row
theorem o101_22 : OkE cX7_firstMove RX7 "firstMove" 7 2 false (22, .lcmp, 23, []) := (r_lcmp dX7_firstMove_22).row
theorem o101_23 : OkE cX7_firstMove RX7 "firstMove" 7 2 false (23, .ifCond .ne 28, 26, []) := (r_if_ne dX7_firstMove_23 rfl).row
theorem o101_26 : OkE cX7_firstMove RX7 "firstMove" 7 2 false (26, .iconst 0, 27, []) := (r_iconst dX7_firstMove_26 rfl).row
theorem o101_27 : OkE cX7_firstMove RX7 "firstMove" 7 2 false (27, .ireturn, 28, []) := dX7_firstMove_27
theorem o101_28 : OkE cX7_firstMove RX7 "firstMove" 7 2 false (28, .iconst 1, 29, []) := (r_iconst dX7_firstMove_28 rfl).row
theorem o101_29 : OkE cX7_firstMove RX7 "firstMove" 7 2 false (29, .istore 6, 31, []) := (r_istore dX7_firstMove_29).row
theorem o101_31 : OkE cX7_firstMove RX7 "firstMove" 7 2 false (31, .iload 6, 33, []) := (r_iload dX7_firstMove_31).row
theorem o101_33 : OkE cX7_firstMove RX7 "firstMove" 7 2 false (33, .iload 3, 34, []) := (r_iload_n dX7_firstMove_33 rfl).row
theorem o101_34 : OkE cX7_firstMove RX7 "firstMove" 7 2 false (34, .if_icmp .gt 98, 37, []) := (r_icmp_gt dX7_firstMove_34 rfl).row
theorem o101_37 : OkE cX7_firstMove RX7 "firstMove" 7 2 false (37, .aload 0, 38, []) := (r_aload_n dX7_firstMove_37 rfl).row
theorem o101_38 : OkE cX7_firstMove RX7 "firstMove" 7 2 false (38, .invokeinterface 7 1, 41, []) := (r_get (C := RX7) (T := TX7) (N := 7) (ci := 7) (j := 1) (ref := RX7) dX7_firstMove_38 rfl inX7 (by decide) wd_162 rfl).row
theorem o101_41 : OkE cX7_firstMove RX7 "firstMove" 7 2 false (41, .iload 1, 42, []) := (r_iload_n dX7_firstMove_41 rfl).row
theorem o101_42 : OkE cX7_firstMove RX7 "firstMove" 7 2 false (42, .iload 6, 44, []) := (r_iload dX7_firstMove_42).row
theorem o101_44 : OkE cX7_firstMove RX7 "firstMove" 7 2 false (44, .iadd, 45, []) := (r_iadd dX7_firstMove_44).row
theorem o101_45 : OkE cX7_firstMove RX7 "firstMove" 7 2 false (45, .iload 2, 46, []) := (r_iload_n dX7_firstMove_45 rfl).row
theorem o101_46 : OkE cX7_firstMove RX7 "firstMove" 7 2 false (46, .iload 3, 47, []) := (r_iload_n dX7_firstMove_46 rfl).row
theorem o101_47 : OkE cX7_firstMove RX7 "firstMove" 7 2 false (47, .iload 6, 49, []) := (r_iload dX7_firstMove_47).row
theorem o101_49 : OkE cX7_firstMove RX7 "firstMove" 7 2 false (49, .isub, 50, []) := (r_isub dX7_firstMove_49).row
theorem o101_50 : OkE cX7_firstMove RX7 "firstMove" 7 2 false (50, .invokestatic 93, 53, []) := ⟨rfl, c_S dX7_firstMove_50 wd_727 wd_728 wd_69 wd_729 nmh_7⟩
theorem o101_53 : OkE cX7_firstMove RX7 "firstMove" 7 2 false (53, .laload, 54, []) := (r_lald dX7_firstMove_53).row
theorem o101_54 : OkE cX7_firstMove RX7 "firstMove" 7 2 false (54, .lload 4, 56, []) := (r_lload dX7_firstMove_54).row
theorem o101_56 : OkE cX7_firstMove RX7 "firstMove" 7 2 false (56, .lcmp, 57, []) := (r_lcmp dX7_firstMove_56).row
theorem o101_57 : OkE cX7_firstMove RX7 "firstMove" 7 2 false (57, .ifCond .ne 63, 60, []) := (r_if_ne dX7_firstMove_57 rfl).row
theorem o101_60 : OkE cX7_firstMove RX7 "firstMove" 7 2 false (60, .iload 6, 62, []) := (r_iload dX7_firstMove_60).row
theorem o101_62 : OkE cX7_firstMove RX7 "firstMove" 7 2 false (62, .ireturn, 63, []) := dX7_firstMove_62
theorem o101_63 : OkE cX7_firstMove RX7 "firstMove" 7 2 false (63, .aload 0, 64, []) := (r_aload_n dX7_firstMove_63 rfl).row
theorem o101_64 : OkE cX7_firstMove RX7 "firstMove" 7 2 false (64, .invokeinterface 7 1, 67, []) := (r_get (C := RX7) (T := TX7) (N := 7) (ci := 7) (j := 1) (ref := RX7) dX7_firstMove_64 rfl inX7 (by decide) wd_162 rfl).row
theorem o101_67 : OkE cX7_firstMove RX7 "firstMove" 7 2 false (67, .iload 1, 68, []) := (r_iload_n dX7_firstMove_67 rfl).row
theorem o101_68 : OkE cX7_firstMove RX7 "firstMove" 7 2 false (68, .iload 2, 69, []) := (r_iload_n dX7_firstMove_68 rfl).row
theorem o101_69 : OkE cX7_firstMove RX7 "firstMove" 7 2 false (69, .iload 6, 71, []) := (r_iload dX7_firstMove_69).row
theorem o101_71 : OkE cX7_firstMove RX7 "firstMove" 7 2 false (71, .iadd, 72, []) := (r_iadd dX7_firstMove_71).row
theorem o101_72 : OkE cX7_firstMove RX7 "firstMove" 7 2 false (72, .iload 3, 73, []) := (r_iload_n dX7_firstMove_72 rfl).row
theorem o101_73 : OkE cX7_firstMove RX7 "firstMove" 7 2 false (73, .iload 6, 75, []) := (r_iload dX7_firstMove_73).row
theorem o101_75 : OkE cX7_firstMove RX7 "firstMove" 7 2 false (75, .isub, 76, []) := (r_isub dX7_firstMove_75).row
theorem o101_76 : OkE cX7_firstMove RX7 "firstMove" 7 2 false (76, .invokestatic 93, 79, []) := ⟨rfl, c_S dX7_firstMove_76 wd_727 wd_728 wd_69 wd_729 nmh_7⟩
theorem o101_79 : OkE cX7_firstMove RX7 "firstMove" 7 2 false (79, .laload, 80, []) := (r_lald dX7_firstMove_79).row
theorem o101_80 : OkE cX7_firstMove RX7 "firstMove" 7 2 false (80, .lload 4, 82, []) := (r_lload dX7_firstMove_80).row
theorem o101_82 : OkE cX7_firstMove RX7 "firstMove" 7 2 false (82, .lcmp, 83, []) := (r_lcmp dX7_firstMove_82).row
theorem o101_83 : OkE cX7_firstMove RX7 "firstMove" 7 2 false (83, .ifCond .ne 92, 86, []) := (r_if_ne dX7_firstMove_83 rfl).row
theorem o101_86 : OkE cX7_firstMove RX7 "firstMove" 7 2 false (86, .iconst 100, 88, []) := (r_bipush dX7_firstMove_86 rfl).row
theorem o101_88 : OkE cX7_firstMove RX7 "firstMove" 7 2 false (88, .iload 6, 90, []) := (r_iload dX7_firstMove_88).row
theorem o101_90 : OkE cX7_firstMove RX7 "firstMove" 7 2 false (90, .iadd, 91, []) := (r_iadd dX7_firstMove_90).row
theorem o101_91 : OkE cX7_firstMove RX7 "firstMove" 7 2 false (91, .ireturn, 92, []) := dX7_firstMove_91
theorem o101_92 : OkE cX7_firstMove RX7 "firstMove" 7 2 false (92, .iinc 6 1, 95, []) := (r_iinc dX7_firstMove_92 rfl).row
theorem o101_95 : OkE cX7_firstMove RX7 "firstMove" 7 2 false (95, .goto 31, 98, []) := (r_goto dX7_firstMove_95 rfl).row
theorem o101_98 : OkE cX7_firstMove RX7 "firstMove" 7 2 false (98, .iconst 0, 99, []) := (r_iconst dX7_firstMove_98 rfl).row
theorem o101_99 : OkE cX7_firstMove RX7 "firstMove" 7 2 false (99, .ireturn, 100, []) := dX7_firstMove_99
theorem ok101 : ∀ x ∈ k101, OkE cX7_firstMove RX7 "firstMove" 7 2 false x := List.forall_mem_cons.mpr ⟨o101_0, List.forall_mem_cons.mpr ⟨o101_1, List.forall_mem_cons.mpr ⟨o101_2, List.forall_mem_cons.mpr ⟨o101_3, List.forall_mem_cons.mpr ⟨o101_4, List.forall_mem_cons.mpr ⟨o101_7, List.forall_mem_cons.mpr ⟨o101_9, List.forall_mem_cons.mpr ⟨o101_10, List.forall_mem_cons.mpr ⟨o101_13, List.forall_mem_cons.mpr ⟨o101_14, List.forall_mem_cons.mpr ⟨o101_15, List.forall_mem_cons.mpr ⟨o101_16, List.forall_mem_cons.mpr ⟨o101_19, List.forall_mem_cons.mpr ⟨o101_20, List.forall_mem_cons.mpr ⟨o101_22, List.forall_mem_cons.mpr ⟨o101_23, List.forall_mem_cons.mpr ⟨o101_26, List.forall_mem_cons.mpr ⟨o101_27, List.forall_mem_cons.mpr ⟨o101_28, List.forall_mem_cons.mpr ⟨o101_29, List.forall_mem_cons.mpr ⟨o101_31, List.forall_mem_cons.mpr ⟨o101_33, List.forall_mem_cons.mpr ⟨o101_34, List.forall_mem_cons.mpr ⟨o101_37, List.forall_mem_cons.mpr ⟨o101_38, List.forall_mem_cons.mpr ⟨o101_41, List.forall_mem_cons.mpr ⟨o101_42, List.forall_mem_cons.mpr ⟨o101_44, List.forall_mem_cons.mpr ⟨o101_45, List.forall_mem_cons.mpr ⟨o101_46, List.forall_mem_cons.mpr ⟨o101_47, List.forall_mem_cons.mpr ⟨o101_49, List.forall_mem_cons.mpr ⟨o101_50, List.forall_mem_cons.mpr ⟨o101_53, List.forall_mem_cons.mpr ⟨o101_54, List.forall_mem_cons.mpr ⟨o101_56, List.forall_mem_cons.mpr ⟨o101_57, List.forall_mem_cons.mpr ⟨o101_60, List.forall_mem_cons.mpr ⟨o101_62, List.forall_mem_cons.mpr ⟨o101_63, List.forall_mem_cons.mpr ⟨o101_64, List.forall_mem_cons.mpr ⟨o101_67, List.forall_mem_cons.mpr ⟨o101_68, List.forall_mem_cons.mpr ⟨o101_69, List.forall_mem_cons.mpr ⟨o101_71, List.forall_mem_cons.mpr ⟨o101_72, List.forall_mem_cons.mpr ⟨o101_73, List.forall_mem_cons.mpr ⟨o101_75, List.forall_mem_cons.mpr ⟨o101_76, List.forall_mem_cons.mpr ⟨o101_79, List.forall_mem_cons.mpr ⟨o101_80, List.forall_mem_cons.mpr ⟨o101_82, List.forall_mem_cons.mpr ⟨o101_83, List.forall_mem_cons.mpr ⟨o101_86, List.forall_mem_cons.mpr ⟨o101_88, List.forall_mem_cons.mpr ⟨o101_90, List.forall_mem_cons.mpr ⟨o101_91, List.forall_mem_cons.mpr ⟨o101_92, List.forall_mem_cons.mpr ⟨o101_95, List.forall_mem_cons.mpr ⟨o101_98, List.forall_mem_cons.mpr ⟨o101_99, fun _ h => absurd h List.not_mem_nil⟩⟩⟩⟩⟩⟩⟩⟩⟩⟩⟩⟩⟩⟩⟩⟩⟩⟩⟩⟩⟩⟩⟩⟩⟩⟩⟩⟩⟩⟩⟩⟩⟩⟩⟩⟩⟩⟩⟩⟩⟩⟩⟩⟩⟩⟩⟩⟩⟩⟩⟩⟩⟩⟩⟩⟩⟩⟩⟩⟩⟩
theorem o102_0 : OkE cX8_init RX8 "<init>" 2 4 false (0, .aload 0, 1, []) := (r_aload_n dX8_init_0 rfl).row
theorem o102_1 : OkE cX8_init RX8 "<init>" 2 4 false (1, .monitorexit, 4, []) := (r_obj dX8_init_1 wd_82 wd_83 wd_84 (by decide)).row
theorem o102_4 : OkE cX8_init RX8 "<init>" 2 4 false (4, .aload 0, 5, []) := (r_aload_n dX8_init_4 rfl).row
theorem o102_5 : OkE cX8_init RX8 "<init>" 2 4 false (5, .new 5, 8, []) := r_new (C := RX5) (T := TX5) (N := 2) dX8_init_5 rfl inX5 tyX5 tyX5_ok wd_85 wd_86 wd_65 (by decide +kernel) (by decide +kernel)
theorem o102_8 : OkE cX8_init RX8 "<init>" 2 4 false (8, .dup, 9, []) := (r_dup dX8_init_8).row
theorem o102_9 : OkE cX8_init RX8 "<init>" 2 4 false (9, .invokespecial 74, 12, []) := ⟨rfl, c_IN dX8_init_9 wd_87 wd_88 wd_65 wd_89 nmh_5 rfl⟩
theorem o102_12 : OkE cX8_init RX8 "<init>" 2 4 false (12, .multianewarray 8 0, 15, []) := r_putFR (C := RX8) (T := TX8) (N := 11) (ci := 8) (j := 0) (ref := RX8) dX8_init_12 rfl inX8 tyX8 tyX8_ok nmX8 (by decide) wd_388 rfl rfl rfl rfl (tyX8_ok 0 (by decide)) (fun a => ⟨rfl, rfl⟩) rfl
theorem o102_15 : OkE cX8_init RX8 "<init>" 2 4 false (15, .aload 0, 16, []) := (r_aload_n dX8_init_15 rfl).row
theorem o102_16 : OkE cX8_init RX8 "<init>" 2 4 false (16, .new 2, 19, []) := r_new (C := RX2) (T := TX2) (N := 3) dX8_init_16 rfl inX2 tyX2 tyX2_ok wd_99 wd_100 wd_66 (by decide +kernel) (by decide +kernel)
theorem o102_19 : OkE cX8_init RX8 "<init>" 2 4 false (19, .dup, 20, []) := (r_dup dX8_init_19).row
theorem o102_20 : OkE cX8_init RX8 "<init>" 2 4 false (20, .invokespecial 30, 23, []) := ⟨rfl, c_IN dX8_init_20 wd_101 wd_102 wd_66 wd_103 nmh_2 rfl⟩
theorem o102_23 : OkE cX8_init RX8 "<init>" 2 4 false (23, .multianewarray 8 1, 26, []) := r_putFR (C := RX8) (T := TX8) (N := 11) (ci := 8) (j := 1) (ref := RX8) dX8_init_23 rfl inX8 tyX8 tyX8_ok nmX8 (by decide) wd_389 rfl rfl rfl rfl (tyX8_ok 1 (by decide)) (fun a => ⟨rfl, rfl⟩) rfl
theorem o102_26 : OkE cX8_init RX8 "<init>" 2 4 false (26, .aload 0, 27, []) := (r_aload_n dX8_init_26 rfl).row
theorem o102_27 : OkE cX8_init RX8 "<init>" 2 4 false (27, .new 0, 30, []) := r_new (C := RX0) (T := TX0) (N := 5) dX8_init_27 rfl inX0 tyX0 tyX0_ok wd_116 wd_117 wd_67 (by decide +kernel) (by decide +kernel)
theorem o102_30 : OkE cX8_init RX8 "<init>" 2 4 false (30, .dup, 31, []) := (r_dup dX8_init_30).row
theorem o102_31 : OkE cX8_init RX8 "<init>" 2 4 false (31, .invokespecial 0, 34, []) := ⟨rfl, c_IN dX8_init_31 wd_118 wd_119 wd_67 wd_120 nmh_0 rfl⟩
theorem o102_34 : OkE cX8_init RX8 "<init>" 2 4 false (34, .multianewarray 8 2, 37, []) := r_putFR (C := RX8) (T := TX8) (N := 11) (ci := 8) (j := 2) (ref := RX8) dX8_init_34 rfl inX8 tyX8 tyX8_ok nmX8 (by decide) wd_390 rfl rfl rfl rfl (tyX8_ok 2 (by decide)) (fun a => ⟨rfl, rfl⟩) rfl
theorem o102_37 : OkE cX8_init RX8 "<init>" 2 4 false (37, .aload 0, 38, []) := (r_aload_n dX8_init_37 rfl).row
theorem o102_38 : OkE cX8_init RX8 "<init>" 2 4 false (38, .new 4, 41, []) := r_new (C := RX4) (T := TX4) (N := 3) dX8_init_38 rfl inX4 tyX4 tyX4_ok wd_139 wd_140 wd_68 (by decide +kernel) (by decide +kernel)
theorem o102_41 : OkE cX8_init RX8 "<init>" 2 4 false (41, .dup, 42, []) := (r_dup dX8_init_41).row
theorem o102_42 : OkE cX8_init RX8 "<init>" 2 4 false (42, .invokespecial 64, 45, []) := ⟨rfl, c_IN dX8_init_42 wd_141 wd_142 wd_68 wd_143 nmh_4 rfl⟩
theorem o102_45 : OkE cX8_init RX8 "<init>" 2 4 false (45, .multianewarray 8 3, 48, []) := r_putFR (C := RX8) (T := TX8) (N := 11) (ci := 8) (j := 3) (ref := RX8) dX8_init_45 rfl inX8 tyX8 tyX8_ok nmX8 (by decide) wd_391 rfl rfl rfl rfl (tyX8_ok 3 (by decide)) (fun a => ⟨rfl, rfl⟩) rfl
theorem o102_48 : OkE cX8_init RX8 "<init>" 2 4 false (48, .aload 0, 49, []) := (r_aload_n dX8_init_48 rfl).row
theorem o102_49 : OkE cX8_init RX8 "<init>" 2 4 false (49, .new 7, 52, []) := r_new (C := RX7) (T := TX7) (N := 7) dX8_init_49 rfl inX7 tyX7 tyX7_ok wd_155 wd_156 wd_69 (by decide +kernel) (by decide +kernel)
theorem o102_52 : OkE cX8_init RX8 "<init>" 2 4 false (52, .dup, 53, []) := (r_dup dX8_init_52).row
theorem o102_53 : OkE cX8_init RX8 "<init>" 2 4 false (53, .invokespecial 90, 56, []) := ⟨rfl, c_IN dX8_init_53 wd_157 wd_158 wd_69 wd_159 nmh_7 rfl⟩
theorem o102_56 : OkE cX8_init RX8 "<init>" 2 4 false (56, .multianewarray 8 4, 59, []) := r_putFR (C := RX8) (T := TX8) (N := 11) (ci := 8) (j := 4) (ref := RX8) dX8_init_56 rfl inX8 tyX8 tyX8_ok nmX8 (by decide) wd_392 rfl rfl rfl rfl (tyX8_ok 4 (by decide)) (fun a => ⟨rfl, rfl⟩) rfl
theorem o102_59 : OkE cX8_init RX8 "<init>" 2 4 false (59, .aload 0, 60, []) := (r_aload_n dX8_init_59 rfl).row
theorem o102_60 : OkE cX8_init RX8 "<init>" 2 4 false (60, .new 1, 63, []) := r_new (C := RX1) (T := TX1) (N := 11) dX8_init_60 rfl inX1 tyX1 tyX1_ok wd_183 wd_184 wd_70 (by decide +kernel) (by decide +kernel)
theorem o102_63 : OkE cX8_init RX8 "<init>" 2 4 false (63, .dup, 64, []) := (r_dup dX8_init_63).row
theorem o102_64 : OkE cX8_init RX8 "<init>" 2 4 false (64, .invokespecial 17, 67, []) := ⟨rfl, c_I dX8_init_64 wd_185 wd_186 wd_70 wd_187 nmh_1 rfl⟩
theorem o102_67 : OkE cX8_init RX8 "<init>" 2 4 false (67, .multianewarray 8 5, 70, []) := r_putFR (C := RX8) (T := TX8) (N := 11) (ci := 8) (j := 5) (ref := RX8) dX8_init_67 rfl inX8 tyX8 tyX8_ok nmX8 (by decide) wd_393 rfl rfl rfl rfl (tyX8_ok 5 (by decide)) (fun a => ⟨rfl, rfl⟩) rfl
theorem o102_70 : OkE cX8_init RX8 "<init>" 2 4 false (70, .aload 0, 71, []) := (r_aload_n dX8_init_70 rfl).row
theorem o102_71 : OkE cX8_init RX8 "<init>" 2 4 false (71, .new 3, 74, []) := r_new (C := RX3) (T := TX3) (N := 13) dX8_init_71 rfl inX3 tyX3 tyX3_ok wd_243 wd_244 wd_72 (by decide +kernel) (by decide +kernel)
theorem o102_74 : OkE cX8_init RX8 "<init>" 2 4 false (74, .dup, 75, []) := (r_dup dX8_init_74).row
theorem o102_75 : OkE cX8_init RX8 "<init>" 2 4 false (75, .invokespecial 44, 78, []) := ⟨rfl, c_IN dX8_init_75 wd_245 wd_246 wd_72 wd_247 nmh_3 rfl⟩
theorem o102_78 : OkE cX8_init RX8 "<init>" 2 4 false (78, .multianewarray 8 6, 81, []) := r_putFR (C := RX8) (T := TX8) (N := 11) (ci := 8) (j := 6) (ref := RX8) dX8_init_78 rfl inX8 tyX8 tyX8_ok nmX8 (by decide) wd_394 rfl rfl rfl rfl (tyX8_ok 6 (by decide)) (fun a => ⟨rfl, rfl⟩) rfl
theorem o102_81 : OkE cX8_init RX8 "<init>" 2 4 false (81, .aload 0, 82, []) := (r_aload_n dX8_init_81 rfl).row
theorem o102_82 : OkE cX8_init RX8 "<init>" 2 4 false (82, .iconst 2, 83, []) := (r_iconst dX8_init_82 rfl).row
theorem o102_83 : OkE cX8_init RX8 "<init>" 2 4 false (83, .anewarray 0, 86, []) := r_newq dX8_init_83 wd_183
theorem o102_86 : OkE cX8_init RX8 "<init>" 2 4 false (86, .multianewarray 8 7, 89, []) := r_putFR (C := RX8) (T := TX8) (N := 11) (ci := 8) (j := 7) (ref := RX8) dX8_init_86 rfl inX8 tyX8 tyX8_ok nmX8 (by decide) wd_395 rfl rfl rfl rfl (tyX8_ok 7 (by decide)) (fun a => ⟨rfl, rfl⟩) rfl
theorem o102_89 : OkE cX8_init RX8 "<init>" 2 4 false (89, .aload 0, 90, []) := (r_aload_n dX8_init_89 rfl).row
theorem o102_90 : OkE cX8_init RX8 "<init>" 2 4 false (90, .iconst 2, 91, []) := (r_iconst dX8_init_90 rfl).row
theorem o102_91 : OkE cX8_init RX8 "<init>" 2 4 false (91, .newarray .boolean, 93, []) := r_newz dX8_init_91 wd_115
theorem o102_93 : OkE cX8_init RX8 "<init>" 2 4 false (93, .multianewarray 8 8, 96, []) := r_putFR (C := RX8) (T := TX8) (N := 11) (ci := 8) (j := 8) (ref := RX8) dX8_init_93 rfl inX8 tyX8 tyX8_ok nmX8 (by decide) wd_396 rfl rfl rfl rfl (tyX8_ok 8 (by decide)) (fun a => ⟨rfl, rfl⟩) rfl
theorem o102_96 : OkE cX8_init RX8 "<init>" 2 4 false (96, .aload 0, 97, []) := (r_aload_n dX8_init_96 rfl).row
theorem o102_97 : OkE cX8_init RX8 "<init>" 2 4 false (97, .new 6, 100, []) := r_new (C := RX6) (T := TX6) (N := 8) dX8_init_97 rfl inX6 tyX6 tyX6_ok wd_290 wd_291 wd_73 (by decide +kernel) (by decide +kernel)
theorem o102_100 : OkE cX8_init RX8 "<init>" 2 4 false (100, .dup, 101, []) := (r_dup dX8_init_100).row
theorem o102_101 : OkE cX8_init RX8 "<init>" 2 4 false (101, .invokespecial 80, 104, []) := ⟨rfl, c_I dX8_init_101 wd_292 wd_293 wd_73 wd_294 nmh_6 rfl⟩
theorem o102_104 : OkE cX8_init RX8 "<init>" 2 4 false (104, .multianewarray 8 9, 107, []) := r_putR (C := RX8) (T := TX8) (N := 11) (ci := 8) (j := 9) (ref := RX8) dX8_init_104 rfl inX8 tyX8 tyX8_ok nmX8 (by decide) wd_397 rfl rfl (tyX8_ok 9 (by decide)) (fun a => ⟨rfl, rfl⟩) rfl
theorem o102_107 : OkE cX8_init RX8 "<init>" 2 4 false (107, .aload 0, 108, []) := (r_aload_n dX8_init_107 rfl).row
theorem o102_108 : OkE cX8_init RX8 "<init>" 2 4 false (108, .new 6, 111, []) := r_new (C := RX6) (T := TX6) (N := 8) dX8_init_108 rfl inX6 tyX6 tyX6_ok wd_290 wd_291 wd_73 (by decide +kernel) (by decide +kernel)
theorem o102_111 : OkE cX8_init RX8 "<init>" 2 4 false (111, .dup, 112, []) := (r_dup dX8_init_111).row
theorem o102_112 : OkE cX8_init RX8 "<init>" 2 4 false (112, .invokespecial 80, 115, []) := ⟨rfl, c_I dX8_init_112 wd_292 wd_293 wd_73 wd_294 nmh_6 rfl⟩
theorem o102_115 : OkE cX8_init RX8 "<init>" 2 4 false (115, .multianewarray 8 10, 118, []) := r_putR (C := RX8) (T := TX8) (N := 11) (ci := 8) (j := 10) (ref := RX8) dX8_init_115 rfl inX8 tyX8 tyX8_ok nmX8 (by decide) wd_398 rfl rfl (tyX8_ok 10 (by decide)) (fun a => ⟨rfl, rfl⟩) rfl
theorem o102_118 : OkE cX8_init RX8 "<init>" 2 4 false (118, .iconst 0, 119, []) := (r_iconst dX8_init_118 rfl).row
theorem o102_119 : OkE cX8_init RX8 "<init>" 2 4 false (119, .istore 1, 120, []) := (r_istore_n dX8_init_119 rfl).row
theorem o102_120 : OkE cX8_init RX8 "<init>" 2 4 false (120, .iload 1, 121, []) := (r_iload_n dX8_init_120 rfl).row
theorem o102_121 : OkE cX8_init RX8 "<init>" 2 4 false (121, .iconst 2, 122, []) := (r_iconst dX8_init_121 rfl).row
theorem o102_122 : OkE cX8_init RX8 "<init>" 2 4 false (122, .if_icmp .ge 144, 125, []) := (r_icmp_ge dX8_init_122 rfl).row
theorem o102_125 : OkE cX8_init RX8 "<init>" 2 4 false (125, .aload 0, 126, []) := (r_aload_n dX8_init_125 rfl).row
theorem o102_126 : OkE cX8_init RX8 "<init>" 2 4 false (126, .invokeinterface 8 7, 129, []) := (r_get (C := RX8) (T := TX8) (N := 11) (ci := 8) (j := 7) (ref := RX8) dX8_init_126 rfl inX8 (by decide) wd_395 rfl).row
theorem o102_129 : OkE cX8_init RX8 "<init>" 2 4 false (129, .iload 1, 130, []) := (r_iload_n dX8_init_129 rfl).row
theorem o102_130 : OkE cX8_init RX8 "<init>" 2 4 false (130, .new 1, 133, []) := r_new (C := RX1) (T := TX1) (N := 11) dX8_init_130 rfl inX1 tyX1 tyX1_ok wd_183 wd_184 wd_70 (by decide +kernel) (by decide +kernel)
theorem o102_133 : OkE cX8_init RX8 "<init>" 2 4 false (133, .dup, 134, []) := (r_dup dX8_init_133).row
theorem o102_134 : OkE cX8_init RX8 "<init>" 2 4 false (134, .invokespecial 17, 137, []) := ⟨rfl, c_I dX8_init_134 wd_185 wd_186 wd_70 wd_187 nmh_1 rfl⟩
theorem o102_137 : OkE cX8_init RX8 "<init>" 2 4 false (137, .aastore, 138, []) := r_aast dX8_init_137
theorem o102_138 : OkE cX8_init RX8 "<init>" 2 4 false (138, .iinc 1 1, 141, []) := (r_iinc dX8_init_138 rfl).row
theorem o102_141 : OkE cX8_init RX8 "<init>" 2 4 false (141, .goto 120, 144, []) := (r_goto dX8_init_141 rfl).row
theorem o102_144 : OkE cX8_init RX8 "<init>" 2 4 false (144, .aload 0, 145, []) := (r_aload_n dX8_init_144 rfl).row
theorem o102_145 : OkE cX8_init RX8 "<init>" 2 4 false (145, .invokeinterface 8 2, 148, []) := (r_get (C := RX8) (T := TX8) (N := 11) (ci := 8) (j := 2) (ref := RX8) dX8_init_145 rfl inX8 (by decide) wd_390 rfl).row
theorem o102_148 : OkE cX8_init RX8 "<init>" 2 4 false (148, .aload 0, 149, []) := (r_aload_n dX8_init_148 rfl).row
theorem o102_149 : OkE cX8_init RX8 "<init>" 2 4 false (149, .invokeinterface 8 9, 152, []) := (r_get (C := RX8) (T := TX8) (N := 11) (ci := 8) (j := 9) (ref := RX8) dX8_init_149 rfl inX8 (by decide) wd_397 rfl).row
theorem o102_152 : OkE cX8_init RX8 "<init>" 2 4 false (152, .invokevirtual 1, 155, []) := ⟨rfl, c_V dX8_init_152 wd_343 wd_344 wd_345 wd_67 wd_346 nmh_0⟩
theorem o102_155 : OkE cX8_init RX8 "<init>" 2 4 false (155, .return_, 156, []) := dX8_init_155
theorem ok102 : ∀ x ∈ k102, OkE cX8_init RX8 "<init>" 2 4 false x := List.forall_mem_cons.mpr ⟨o102_0, List.forall_mem_cons.mpr ⟨o102_1, List.forall_mem_cons.mpr ⟨o102_4, List.forall_mem_cons.mpr ⟨o102_5, List.forall_mem_cons.mpr ⟨o102_8, List.forall_mem_cons.mpr ⟨o102_9, List.forall_mem_cons.mpr ⟨o102_12, List.forall_mem_cons.mpr ⟨o102_15, List.forall_mem_cons.mpr ⟨o102_16, List.forall_mem_cons.mpr ⟨o102_19, List.forall_mem_cons.mpr ⟨o102_20, List.forall_mem_cons.mpr ⟨o102_23, List.forall_mem_cons.mpr ⟨o102_26, List.forall_mem_cons.mpr ⟨o102_27, List.forall_mem_cons.mpr ⟨o102_30, List.forall_mem_cons.mpr ⟨o102_31, List.forall_mem_cons.mpr ⟨o102_34, List.forall_mem_cons.mpr ⟨o102_37, List.forall_mem_cons.mpr ⟨o102_38, List.forall_mem_cons.mpr ⟨o102_41, List.forall_mem_cons.mpr ⟨o102_42, List.forall_mem_cons.mpr ⟨o102_45, List.forall_mem_cons.mpr ⟨o102_48, List.forall_mem_cons.mpr ⟨o102_49, List.forall_mem_cons.mpr ⟨o102_52, List.forall_mem_cons.mpr ⟨o102_53, List.forall_mem_cons.mpr ⟨o102_56, List.forall_mem_cons.mpr ⟨o102_59, List.forall_mem_cons.mpr ⟨o102_60, List.forall_mem_cons.mpr ⟨o102_63, List.forall_mem_cons.mpr ⟨o102_64, List.forall_mem_cons.mpr ⟨o102_67, List.forall_mem_cons.mpr ⟨o102_70, List.forall_mem_cons.mpr ⟨o102_71, List.forall_mem_cons.mpr ⟨o102_74, List.forall_mem_cons.mpr ⟨o102_75, List.forall_mem_cons.mpr ⟨o102_78, List.forall_mem_cons.mpr ⟨o102_81, List.forall_mem_cons.mpr ⟨o102_82, List.forall_mem_cons.mpr ⟨o102_83, List.forall_mem_cons.mpr ⟨o102_86, List.forall_mem_cons.mpr ⟨o102_89, List.forall_mem_cons.mpr ⟨o102_90, List.forall_mem_cons.mpr ⟨o102_91, List.forall_mem_cons.mpr ⟨o102_93, List.forall_mem_cons.mpr ⟨o102_96, List.forall_mem_cons.mpr ⟨o102_97, List.forall_mem_cons.mpr ⟨o102_100, List.forall_mem_cons.mpr ⟨o102_101, List.forall_mem_cons.mpr ⟨o102_104, List.forall_mem_cons.mpr ⟨o102_107, List.forall_mem_cons.mpr ⟨o102_108, List.forall_mem_cons.mpr ⟨o102_111, List.forall_mem_cons.mpr ⟨o102_112, List.forall_mem_cons.mpr ⟨o102_115, List.forall_mem_cons.mpr ⟨o102_118, List.forall_mem_cons.mpr ⟨o102_119, List.forall_mem_cons.mpr ⟨o102_120, List.forall_mem_cons.mpr ⟨o102_121, List.forall_mem_cons.mpr ⟨o102_122, List.forall_mem_cons.mpr ⟨o102_125, List.forall_mem_cons.mpr ⟨o102_126, List.forall_mem_cons.mpr ⟨o102_129, List.forall_mem_cons.mpr ⟨o102_130, List.forall_mem_cons.mpr ⟨o102_133, List.forall_mem_cons.mpr ⟨o102_134, List.forall_mem_cons.mpr ⟨o102_137, List.forall_mem_cons.mpr ⟨o102_138, List.forall_mem_cons.mpr ⟨o102_141, List.forall_mem_cons.mpr ⟨o102_144, List.forall_mem_cons.mpr ⟨o102_145, List.forall_mem_cons.mpr ⟨o102_148, List.forall_mem_cons.mpr ⟨o102_149, List.forall_mem_cons.mpr ⟨o102_152, List.forall_mem_cons.mpr ⟨o102_155, fun _ h => absurd h List.not_mem_nil⟩⟩⟩⟩⟩⟩⟩⟩⟩⟩⟩⟩⟩⟩⟩⟩⟩⟩⟩⟩⟩⟩⟩⟩⟩⟩⟩⟩⟩⟩⟩⟩⟩⟩⟩⟩⟩⟩⟩⟩⟩⟩⟩⟩⟩⟩⟩⟩⟩⟩⟩⟩⟩⟩⟩⟩⟩⟩⟩⟩⟩⟩⟩⟩⟩⟩⟩⟩⟩⟩⟩⟩⟩⟩⟩
