theorem o0_0 : OkE cX0_init RX0 "<init>" 1 1 false (0, .aload 0, 1, []) := (r_aload_n dX0_init_0 rfl).row
theorem o0_1 : OkE cX0_init RX0 "<init>" 1 1 false (1, .monitorexit, 4, []) := (r_obj dX0_init_1 wd_121 wd_83 wd_84 (by decide)).row
theorem o0_4 : OkE cX0_init RX0 "<init>" 1 1 false (4, .aload 0, 5, []) := (r_aload_n dX0_init_4 rfl).row
theorem o0_5 : OkE cX0_init RX0 "<init>" 1 1 false (5, .iconst 183, 8, []) := (r_sipush dX0_init_5 rfl).row
theorem o0_8 : OkE cX0_init RX0 "<init>" 1 1 false (8, .newarray .long, 10, []) := r_newl dX0_init_8 wd_138
theorem o0_10 : OkE cX0_init RX0 "<init>" 1 1 false (10, .multianewarray 0 0, 13, []) := r_putFR (C := RX0) (T := TX0) (N := 5) (ci := 0) (j := 0) (ref := RX0) dX0_init_10 rfl inX0 tyX0 tyX0_ok nmX0 (by decide) wd_122 rfl rfl rfl rfl (tyX0_ok 0 (by decide)) (fun a => ⟨rfl, rfl⟩) rfl
theorem o0_13 : OkE cX0_init RX0 "<init>" 1 1 false (13, .aload 0, 14, []) := (r_aload_n dX0_init_13 rfl).row
theorem o0_14 : OkE cX0_init RX0 "<init>" 1 1 false (14, .iconst 183, 17, []) := (r_sipush dX0_init_14 rfl).row
theorem o0_17 : OkE cX0_init RX0 "<init>" 1 1 false (17, .newarray .long, 19, []) := r_newl dX0_init_17 wd_138
theorem o0_19 : OkE cX0_init RX0 "<init>" 1 1 false (19, .multianewarray 0 1, 22, []) := r_putFR (C := RX0) (T := TX0) (N := 5) (ci := 0) (j := 1) (ref := RX0) dX0_init_19 rfl inX0 tyX0 tyX0_ok nmX0 (by decide) wd_123 rfl rfl rfl rfl (tyX0_ok 1 (by decide)) (fun a => ⟨rfl, rfl⟩) rfl
theorem o0_22 : OkE cX0_init RX0 "<init>" 1 1 false (22, .aload 0, 23, []) := (r_aload_n dX0_init_22 rfl).row
theorem o0_23 : OkE cX0_init RX0 "<init>" 1 1 false (23, .iconst 7, 25, []) := (r_bipush dX0_init_23 rfl).row
theorem o0_25 : OkE cX0_init RX0 "<init>" 1 1 false (25, .newarray .long, 27, []) := r_newl dX0_init_25 wd_138
theorem o0_27 : OkE cX0_init RX0 "<init>" 1 1 false (27, .multianewarray 0 2, 30, []) := r_putFR (C := RX0) (T := TX0) (N := 5) (ci := 0) (j := 2) (ref := RX0) dX0_init_27 rfl inX0 tyX0 tyX0_ok nmX0 (by decide) wd_124 rfl rfl rfl rfl (tyX0_ok 2 (by decide)) (fun a => ⟨rfl, rfl⟩) rfl
theorem o0_30 : OkE cX0_init RX0 "<init>" 1 1 false (30, .aload 0, 31, []) := (r_aload_n dX0_init_30 rfl).row
theorem o0_31 : OkE cX0_init RX0 "<init>" 1 1 false (31, .iconst 3, 32, []) := (r_iconst dX0_init_31 rfl).row
theorem o0_32 : OkE cX0_init RX0 "<init>" 1 1 false (32, .newarray .int, 34, []) := r_newi dX0_init_32 wd_98
theorem o0_34 : OkE cX0_init RX0 "<init>" 1 1 false (34, .multianewarray 0 3, 37, []) := r_putFR (C := RX0) (T := TX0) (N := 5) (ci := 0) (j := 3) (ref := RX0) dX0_init_34 rfl inX0 tyX0 tyX0_ok nmX0 (by decide) wd_125 rfl rfl rfl rfl (tyX0_ok 3 (by decide)) (fun a => ⟨rfl, rfl⟩) rfl
theorem o0_37 : OkE cX0_init RX0 "<init>" 1 1 false (37, .aload 0, 38, []) := (r_aload_n dX0_init_37 rfl).row
theorem o0_38 : OkE cX0_init RX0 "<init>" 1 1 false (38, .sipush 1, 39, []) := (r_lconst dX0_init_38 rfl).row
theorem o0_39 : OkE cX0_init RX0 "<init>" 1 1 false (39, .multianewarray 0 4, 42, []) := r_putL (C := RX0) (T := TX0) (N := 5) (ci := 0) (j := 4) (ref := RX0) dX0_init_39 rfl inX0 tyX0 tyX0_ok nmX0 (by decide) wd_126 rfl rfl (tyX0_ok 4 (by decide)) rfl
theorem o0_42 : OkE cX0_init RX0 "<init>" 1 1 false (42, .return_, 43, []) := dX0_init_42
theorem ok0 : ∀ x ∈ k0, OkE cX0_init RX0 "<init>" 1 1 false x := List.forall_mem_cons.mpr ⟨o0_0, List.forall_mem_cons.mpr ⟨o0_1, List.forall_mem_cons.mpr ⟨o0_4, List.forall_mem_cons.mpr ⟨o0_5, List.forall_mem_cons.mpr ⟨o0_8, List.forall_mem_cons.mpr ⟨o0_10, List.forall_mem_cons.mpr ⟨o0_13, List.forall_mem_cons.mpr ⟨o0_14, List.forall_mem_cons.mpr ⟨o0_17, List.forall_mem_cons.mpr ⟨o0_19, List.forall_mem_cons.mpr ⟨o0_22, List.forall_mem_cons.mpr ⟨o0_23, List.forall_mem_cons.mpr ⟨o0_25, List.forall_mem_cons.mpr ⟨o0_27, List.forall_mem_cons.mpr ⟨o0_30, List.forall_mem_cons.mpr ⟨o0_31, List.forall_mem_cons.mpr ⟨o0_32, List.forall_mem_cons.mpr ⟨o0_34, List.forall_mem_cons.mpr ⟨o0_37, List.forall_mem_cons.mpr ⟨o0_38, List.forall_mem_cons.mpr ⟨o0_39, List.forall_mem_cons.mpr ⟨o0_42, fun _ h => absurd h List.not_mem_nil⟩⟩⟩⟩⟩⟩⟩⟩⟩⟩⟩⟩⟩⟩⟩⟩⟩⟩⟩⟩⟩⟩
theorem o1_0 : OkE cX0_reckon RX0 "reckon" 4 3 false (0, .aload 0, 1, []) := (r_aload_n dX0_reckon_0 rfl).row
theorem o1_1 : OkE cX0_reckon RX0 "reckon" 4 3 false (1, .invokeinterface 0 1, 4, []) := (r_get (C := RX0) (T := TX0) (N := 5) (ci := 0) (j := 1) (ref := RX0) dX0_reckon_1 rfl inX0 (by decide) wd_123 rfl).row
theorem o1_4 : OkE cX0_reckon RX0 "reckon" 4 3 false (4, .sipush 0, 5, []) := (r_lconst dX0_reckon_4 rfl).row
theorem o1_5 : OkE cX0_reckon RX0 "reckon" 4 3 false (5, .invokestatic 223, 8, []) := ⟨rfl, c_S dX0_reckon_5 wd_347 wd_348 wd_71 wd_349 nmh_10⟩
theorem o1_8 : OkE cX0_reckon RX0 "reckon" 4 3 false (8, .aload 0, 9, []) := (r_aload_n dX0_reckon_8 rfl).row
theorem o1_9 : OkE cX0_reckon RX0 "reckon" 4 3 false (9, .sipush 0, 10, []) := (r_lconst dX0_reckon_9 rfl).row
theorem o1_10 : OkE cX0_reckon RX0 "reckon" 4 3 false (10, .multianewarray 0 4, 13, []) := r_putL (C := RX0) (T := TX0) (N := 5) (ci := 0) (j := 4) (ref := RX0) dX0_reckon_10 rfl inX0 tyX0 tyX0_ok nmX0 (by decide) wd_126 rfl rfl (tyX0_ok 4 (by decide)) rfl
theorem o1_13 : OkE cX0_reckon RX0 "reckon" 4 3 false (13, .iconst 0, 14, []) := (r_iconst dX0_reckon_13 rfl).row
theorem o1_14 : OkE cX0_reckon RX0 "reckon" 4 3 false (14, .istore 2, 15, []) := (r_istore_n dX0_reckon_14 rfl).row
theorem o1_15 : OkE cX0_reckon RX0 "reckon" 4 3 false (15, .iload 2, 16, []) := (r_iload_n dX0_reckon_15 rfl).row
theorem o1_16 : OkE cX0_reckon RX0 "reckon" 4 3 false (16, .iconst 3, 17, []) := (r_iconst dX0_reckon_16 rfl).row
theorem o1_17 : OkE cX0_reckon RX0 "reckon" 4 3 false (17, .if_icmp .ge 45, 20, []) := (r_icmp_ge dX0_reckon_17 rfl).row
theorem o1_20 : OkE cX0_reckon RX0 "reckon" 4 3 false (20, .aload 0, 21, []) := (r_aload_n dX0_reckon_20 rfl).row
theorem o1_21 : OkE cX0_reckon RX0 "reckon" 4 3 false (21, .dup, 22, []) := (r_dup dX0_reckon_21).row
theorem o1_22 : OkE cX0_reckon RX0 "reckon" 4 3 false (22, .invokeinterface 0 4, 25, []) := (r_get (C := RX0) (T := TX0) (N := 5) (ci := 0) (j := 4) (ref := RX0) dX0_reckon_22 rfl inX0 (by decide) wd_126 rfl).row
theorem o1_25 : OkE cX0_reckon RX0 "reckon" 4 3 false (25, .sipush 1000000, 28, []) := (r_ldc2 wd_350 dX0_reckon_25 rfl).row
theorem o1_28 : OkE cX0_reckon RX0 "reckon" 4 3 false (28, .aload 1, 29, []) := (r_aload_n dX0_reckon_28 rfl).row
theorem o1_29 : OkE cX0_reckon RX0 "reckon" 4 3 false (29, .iload 2, 30, []) := (r_iload_n dX0_reckon_29 rfl).row
theorem o1_30 : OkE cX0_reckon RX0 "reckon" 4 3 false (30, .invokevirtual 83, 33, []) := ⟨rfl, c_V dX0_reckon_30 wd_351 wd_352 wd_353 wd_73 wd_354 nmh_6⟩
theorem o1_33 : OkE cX0_reckon RX0 "reckon" 4 3 false (33, .i2l, 34, []) := (r_i2l dX0_reckon_33).row
theorem o1_34 : OkE cX0_reckon RX0 "reckon" 4 3 false (34, .lmul, 35, []) := (r_lmul dX0_reckon_34).row
theorem o1_35 : OkE cX0_reckon RX0 "reckon" 4 3 false (35, .ladd, 36, []) := (r_ladd dX0_reckon_35).row
theorem o1_36 : OkE cX0_reckon RX0 "reckon" 4 3 false (36, .multianewarray 0 4, 39, []) := r_putL (C := RX0) (T := TX0) (N := 5) (ci := 0) (j := 4) (ref := RX0) dX0_reckon_36 rfl inX0 tyX0 tyX0_ok nmX0 (by decide) wd_126 rfl rfl (tyX0_ok 4 (by decide)) rfl
theorem o1_39 : OkE cX0_reckon RX0 "reckon" 4 3 false (39, .iinc 2 1, 42, []) := (r_iinc dX0_reckon_39 rfl).row
theorem o1_42 : OkE cX0_reckon RX0 "reckon" 4 3 false (42, .goto 15, 45, []) := (r_goto dX0_reckon_42 rfl).row
theorem o1_45 : OkE cX0_reckon RX0 "reckon" 4 3 false (45, .iconst 0, 46, []) := (r_iconst dX0_reckon_45 rfl).row
theorem o1_46 : OkE cX0_reckon RX0 "reckon" 4 3 false (46, .istore 2, 47, []) := (r_istore_n dX0_reckon_46 rfl).row
theorem o1_47 : OkE cX0_reckon RX0 "reckon" 4 3 false (47, .iload 2, 48, [3]) := (r_iload_n dX0_reckon_47 rfl).row
theorem o1_48 : OkE cX0_reckon RX0 "reckon" 4 3 false (48, .aload 1, 49, []) := (r_aload_n dX0_reckon_48 rfl).row
theorem o1_49 : OkE cX0_reckon RX0 "reckon" 4 3 false (49, .invokeinterface 6 4, 52, []) := (r_getN (C := RX6) (T := TX6) (N := 8) (ci := 6) (j := 4) (ref := RX6) dX0_reckon_49 rfl inX6 (by decide) wd_306 rfl).row
theorem o1_52 : OkE cX0_reckon RX0 "reckon" 4 3 false (52, .if_icmp .ge 106, 55, []) := (r_icmp_ge dX0_reckon_52 rfl).row
theorem o1_55 : OkE cX0_reckon RX0 "reckon" 4 3 false (55, .iload 2, 56, []) := (r_iload_n dX0_reckon_55 rfl).row
theorem o1_56 : OkE cX0_reckon RX0 "reckon" 4 3 false (56, .iconst 3, 57, []) := (r_iconst dX0_reckon_56 rfl).row
theorem o1_57 : OkE cX0_reckon RX0 "reckon" 4 3 false (57, .if_icmp .ge 106, 60, []) := (r_icmp_ge dX0_reckon_57 rfl).row
theorem o1_60 : OkE cX0_reckon RX0 "reckon" 4 3 false (60, .iconst 0, 61, []) := (r_iconst dX0_reckon_60 rfl).row
theorem o1_61 : OkE cX0_reckon RX0 "reckon" 4 3 false (61, .istore 3, 62, []) := (r_istore_n dX0_reckon_61 rfl).row
theorem o1_62 : OkE cX0_reckon RX0 "reckon" 4 3 false (62, .iload 3, 63, []) := (r_iload_n dX0_reckon_62 rfl).row
theorem o1_63 : OkE cX0_reckon RX0 "reckon" 4 3 false (63, .iconst 3, 64, []) := (r_iconst dX0_reckon_63 rfl).row
theorem o1_64 : OkE cX0_reckon RX0 "reckon" 4 3 false (64, .if_icmp .ge 95, 67, []) := (r_icmp_ge dX0_reckon_64 rfl).row
theorem o1_67 : OkE cX0_reckon RX0 "reckon" 4 3 false (67, .aload 0, 68, []) := (r_aload_n dX0_reckon_67 rfl).row
theorem o1_68 : OkE cX0_reckon RX0 "reckon" 4 3 false (68, .iload 2, 69, []) := (r_iload_n dX0_reckon_68 rfl).row
theorem o1_69 : OkE cX0_reckon RX0 "reckon" 4 3 false (69, .aload 1, 70, []) := (r_aload_n dX0_reckon_69 rfl).row
theorem o1_70 : OkE cX0_reckon RX0 "reckon" 4 3 false (70, .iload 2, 71, []) := (r_iload_n dX0_reckon_70 rfl).row
theorem o1_71 : OkE cX0_reckon RX0 "reckon" 4 3 false (71, .iload 3, 72, []) := (r_iload_n dX0_reckon_71 rfl).row
theorem o1_72 : OkE cX0_reckon RX0 "reckon" 4 3 false (72, .invokevirtual 84, 75, []) := ⟨rfl, c_V dX0_reckon_72 wd_358 wd_359 wd_360 wd_73 wd_361 nmh_6⟩
theorem o1_75 : OkE cX0_reckon RX0 "reckon" 4 3 false (75, .aload 1, 76, []) := (r_aload_n dX0_reckon_75 rfl).row
theorem o1_76 : OkE cX0_reckon RX0 "reckon" 4 3 false (76, .iload 2, 77, []) := (r_iload_n dX0_reckon_76 rfl).row
theorem o1_77 : OkE cX0_reckon RX0 "reckon" 4 3 false (77, .iload 3, 78, []) := (r_iload_n dX0_reckon_77 rfl).row
theorem o1_78 : OkE cX0_reckon RX0 "reckon" 4 3 false (78, .invokevirtual 85, 81, []) := ⟨rfl, c_V dX0_reckon_78 wd_362 wd_363 wd_364 wd_73 wd_365 nmh_6⟩
theorem o1_81 : OkE cX0_reckon RX0 "reckon" 4 3 false (81, .aload 1, 82, []) := (r_aload_n dX0_reckon_81 rfl).row
theorem o1_82 : OkE cX0_reckon RX0 "reckon" 4 3 false (82, .iload 3, 83, []) := (r_iload_n dX0_reckon_82 rfl).row
theorem o1_83 : OkE cX0_reckon RX0 "reckon" 4 3 false (83, .invokevirtual 83, 86, []) := ⟨rfl, c_V dX0_reckon_83 wd_351 wd_352 wd_353 wd_73 wd_354 nmh_6⟩
theorem o1_86 : OkE cX0_reckon RX0 "reckon" 4 3 false (86, .invokevirtual 2, 89, []) := ⟨rfl, c_V dX0_reckon_86 wd_366 wd_368 wd_0 wd_67 wd_369 nmh_0⟩
theorem o1_89 : OkE cX0_reckon RX0 "reckon" 4 3 false (89, .iinc 3 1, 92, []) := (r_iinc dX0_reckon_89 rfl).row
theorem o1_92 : OkE cX0_reckon RX0 "reckon" 4 3 false (92, .goto 62, 95, []) := (r_goto dX0_reckon_92 rfl).row
theorem o1_95 : OkE cX0_reckon RX0 "reckon" 4 3 false (95, .aload 0, 96, []) := (r_aload_n dX0_reckon_95 rfl).row
theorem o1_96 : OkE cX0_reckon RX0 "reckon" 4 3 false (96, .iload 2, 97, []) := (r_iload_n dX0_reckon_96 rfl).row
theorem o1_97 : OkE cX0_reckon RX0 "reckon" 4 3 false (97, .invokevirtual 4, 100, []) := ⟨rfl, c_V dX0_reckon_97 wd_384 wd_386 wd_3 wd_67 wd_387 nmh_0⟩
theorem o1_100 : OkE cX0_reckon RX0 "reckon" 4 3 false (100, .iinc 2 1, 103, []) := (r_iinc dX0_reckon_100 rfl).row
theorem o1_103 : OkE cX0_reckon RX0 "reckon" 4 3 false (103, .goto 47, 106, []) := (r_goto dX0_reckon_103 rfl).row
theorem o1_106 : OkE cX0_reckon RX0 "reckon" 4 3 false (106, .return_, 107, [0, 1, 2, 3]) := dX0_reckon_106
theorem ok1 : ∀ x ∈ k1, OkE cX0_reckon RX0 "reckon" 4 3 false x := List.forall_mem_cons.mpr ⟨o1_0, List.forall_mem_cons.mpr ⟨o1_1, List.forall_mem_cons.mpr ⟨o1_4, List.forall_mem_cons.mpr ⟨o1_5, List.forall_mem_cons.mpr ⟨o1_8, List.forall_mem_cons.mpr ⟨o1_9, List.forall_mem_cons.mpr ⟨o1_10, List.forall_mem_cons.mpr ⟨o1_13, List.forall_mem_cons.mpr ⟨o1_14, List.forall_mem_cons.mpr ⟨o1_15, List.forall_mem_cons.mpr ⟨o1_16, List.forall_mem_cons.mpr ⟨o1_17, List.forall_mem_cons.mpr ⟨o1_20, List.forall_mem_cons.mpr ⟨o1_21, List.forall_mem_cons.mpr ⟨o1_22, List.forall_mem_cons.mpr ⟨o1_25, List.forall_mem_cons.mpr ⟨o1_28, List.forall_mem_cons.mpr ⟨o1_29, List.forall_mem_cons.mpr ⟨o1_30, List.forall_mem_cons.mpr ⟨o1_33, List.forall_mem_cons.mpr ⟨o1_34, List.forall_mem_cons.mpr ⟨o1_35, List.forall_mem_cons.mpr ⟨o1_36, List.forall_mem_cons.mpr ⟨o1_39, List.forall_mem_cons.mpr ⟨o1_42, List.forall_mem_cons.mpr ⟨o1_45, List.forall_mem_cons.mpr ⟨o1_46, List.forall_mem_cons.mpr ⟨o1_47, List.forall_mem_cons.mpr ⟨o1_48, List.forall_mem_cons.mpr ⟨o1_49, List.forall_mem_cons.mpr ⟨o1_52, List.forall_mem_cons.mpr ⟨o1_55, List.forall_mem_cons.mpr ⟨o1_56, List.forall_mem_cons.mpr ⟨o1_57, List.forall_mem_cons.mpr ⟨o1_60, List.forall_mem_cons.mpr ⟨o1_61, List.forall_mem_cons.mpr ⟨o1_62, List.forall_mem_cons.mpr ⟨o1_63, List.forall_mem_cons.mpr ⟨o1_64, List.forall_mem_cons.mpr ⟨o1_67, List.forall_mem_cons.mpr ⟨o1_68, List.forall_mem_cons.mpr ⟨o1_69, List.forall_mem_cons.mpr ⟨o1_70, List.forall_mem_cons.mpr ⟨o1_71, List.forall_mem_cons.mpr ⟨o1_72, List.forall_mem_cons.mpr ⟨o1_75, List.forall_mem_cons.mpr ⟨o1_76, List.forall_mem_cons.mpr ⟨o1_77, List.forall_mem_cons.mpr ⟨o1_78, List.forall_mem_cons.mpr ⟨o1_81, List.forall_mem_cons.mpr ⟨o1_82, List.forall_mem_cons.mpr ⟨o1_83, List.forall_mem_cons.mpr ⟨o1_86, List.forall_mem_cons.mpr ⟨o1_89, List.forall_mem_cons.mpr ⟨o1_92, List.forall_mem_cons.mpr ⟨o1_95, List.forall_mem_cons.mpr ⟨o1_96, List.forall_mem_cons.mpr ⟨o1_97, List.forall_mem_cons.mpr ⟨o1_100, List.forall_mem_cons.mpr ⟨o1_103, List.forall_mem_cons.mpr ⟨o1_106, fun _ h => absurd h List.not_mem_nil⟩⟩⟩⟩⟩⟩⟩⟩⟩⟩⟩⟩⟩⟩⟩⟩⟩⟩⟩⟩⟩⟩⟩⟩⟩⟩⟩⟩⟩⟩⟩⟩⟩⟩⟩⟩⟩⟩⟩⟩⟩⟩⟩⟩⟩⟩⟩⟩⟩⟩⟩⟩⟩⟩⟩⟩⟩⟩⟩⟩⟩
theorem o2_0 : OkE cX0_addKind RX0 "addKind" 7 2 false (0, .aload 0, 1, []) := (r_aload_n dX0_addKind_0 rfl).row
theorem o2_1 : OkE cX0_addKind RX0 "addKind" 7 2 false (1, .iload 3, 2, []) := (r_iload_n dX0_addKind_1 rfl).row
theorem o2_2 : OkE cX0_addKind RX0 "addKind" 7 2 false (2, .invokevirtual 3, 5, []) := ⟨rfl, c_V dX0_addKind_2 wd_370 wd_372 wd_1 wd_67 wd_373 nmh_0⟩
theorem o2_5 : OkE cX0_addKind RX0 "addKind" 7 2 false (5, .iconst 0, 6, []) := (r_iconst dX0_addKind_5 rfl).row
theorem o2_6 : OkE cX0_addKind RX0 "addKind" 7 2 false (6, .istore 5, 8, []) := (r_istore dX0_addKind_6).row
theorem o2_8 : OkE cX0_addKind RX0 "addKind" 7 2 false (8, .iload 5, 10, [3, 6]) := (r_iload dX0_addKind_8).row
theorem o2_10 : OkE cX0_addKind RX0 "addKind" 7 2 false (10, .iconst 6, 12, []) := (r_bipush dX0_addKind_10 rfl).row
theorem o2_12 : OkE cX0_addKind RX0 "addKind" 7 2 false (12, .if_icmp .gt 68, 15, []) := (r_icmp_gt dX0_addKind_12 rfl).row
theorem o2_15 : OkE cX0_addKind RX0 "addKind" 7 2 false (15, .iconst 6, 17, []) := (r_bipush dX0_addKind_15 rfl).row
theorem o2_17 : OkE cX0_addKind RX0 "addKind" 7 2 false (17, .iload 2, 18, []) := (r_iload_n dX0_addKind_17 rfl).row
theorem o2_18 : OkE cX0_addKind RX0 "addKind" 7 2 false (18, .imul, 19, []) := (r_imul dX0_addKind_18).row
theorem o2_19 : OkE cX0_addKind RX0 "addKind" 7 2 false (19, .iload 5, 21, []) := (r_iload dX0_addKind_19).row
theorem o2_21 : OkE cX0_addKind RX0 "addKind" 7 2 false (21, .iadd, 22, []) := (r_iadd dX0_addKind_21).row
theorem o2_22 : OkE cX0_addKind RX0 "addKind" 7 2 false (22, .iconst 1, 23, []) := (r_iconst dX0_addKind_22 rfl).row
theorem o2_23 : OkE cX0_addKind RX0 "addKind" 7 2 false (23, .isub, 24, []) := (r_isub dX0_addKind_23).row
theorem o2_24 : OkE cX0_addKind RX0 "addKind" 7 2 false (24, .istore 6, 26, []) := (r_istore dX0_addKind_24).row
theorem o2_26 : OkE cX0_addKind RX0 "addKind" 7 2 false (26, .aload 0, 27, []) := (r_aload_n dX0_addKind_26 rfl).row
theorem o2_27 : OkE cX0_addKind RX0 "addKind" 7 2 false (27, .iload 1, 28, []) := (r_iload_n dX0_addKind_27 rfl).row
theorem o2_28 : OkE cX0_addKind RX0 "addKind" 7 2 false (28, .iload 6, 30, []) := (r_iload dX0_addKind_28).row
theorem o2_30 : OkE cX0_addKind RX0 "addKind" 7 2 false (30, .invokevirtual 6, 33, []) := ⟨rfl, c_V dX0_addKind_30 wd_374 wd_376 wd_2 wd_67 wd_377 nmh_0⟩
theorem o2_33 : OkE cX0_addKind RX0 "addKind" 7 2 false (33, .ifCond .eq 62, 36, []) := (r_if_eq dX0_addKind_33 rfl).row
theorem o2_36 : OkE cX0_addKind RX0 "addKind" 7 2 false (36, .aload 0, 37, []) := (r_aload_n dX0_addKind_36 rfl).row
theorem o2_37 : OkE cX0_addKind RX0 "addKind" 7 2 false (37, .invokeinterface 0 1, 40, []) := (r_get (C := RX0) (T := TX0) (N := 5) (ci := 0) (j := 1) (ref := RX0) dX0_addKind_37 rfl inX0 (by decide) wd_123 rfl).row
theorem o2_40 : OkE cX0_addKind RX0 "addKind" 7 2 false (40, .iload 1, 41, []) := (r_iload_n dX0_addKind_40 rfl).row
theorem o2_41 : OkE cX0_addKind RX0 "addKind" 7 2 false (41, .iconst 61, 43, []) := (r_bipush dX0_addKind_41 rfl).row
theorem o2_43 : OkE cX0_addKind RX0 "addKind" 7 2 false (43, .imul, 44, []) := (r_imul dX0_addKind_43).row
theorem o2_44 : OkE cX0_addKind RX0 "addKind" 7 2 false (44, .iload 6, 46, []) := (r_iload dX0_addKind_44).row
theorem o2_46 : OkE cX0_addKind RX0 "addKind" 7 2 false (46, .iadd, 47, []) := (r_iadd dX0_addKind_46).row
theorem o2_47 : OkE cX0_addKind RX0 "addKind" 7 2 false (47, .dup2, 48, []) := (r_dup2 dX0_addKind_47).row
theorem o2_48 : OkE cX0_addKind RX0 "addKind" 7 2 false (48, .laload, 49, []) := (r_lald dX0_addKind_48).row
theorem o2_49 : OkE cX0_addKind RX0 "addKind" 7 2 false (49, .aload 0, 50, []) := (r_aload_n dX0_addKind_49 rfl).row
theorem o2_50 : OkE cX0_addKind RX0 "addKind" 7 2 false (50, .invokeinterface 0 2, 53, []) := (r_get (C := RX0) (T := TX0) (N := 5) (ci := 0) (j := 2) (ref := RX0) dX0_addKind_50 rfl inX0 (by decide) wd_124 rfl).row
theorem o2_53 : OkE cX0_addKind RX0 "addKind" 7 2 false (53, .iload 5, 55, []) := (r_iload dX0_addKind_53).row
theorem o2_55 : OkE cX0_addKind RX0 "addKind" 7 2 false (55, .laload, 56, []) := (r_lald dX0_addKind_55).row
theorem o2_56 : OkE cX0_addKind RX0 "addKind" 7 2 false (56, .iload 4, 58, []) := (r_iload dX0_addKind_56).row
theorem o2_58 : OkE cX0_addKind RX0 "addKind" 7 2 false (58, .i2l, 59, []) := (r_i2l dX0_addKind_58).row
theorem o2_59 : OkE cX0_addKind RX0 "addKind" 7 2 false (59, .lmul, 60, []) := (r_lmul dX0_addKind_59).row
theorem o2_60 : OkE cX0_addKind RX0 "addKind" 7 2 false (60, .ladd, 61, []) := (r_ladd dX0_addKind_60).row
theorem o2_61 : OkE cX0_addKind RX0 "addKind" 7 2 false (61, .lastore, 62, []) := r_last dX0_addKind_61
theorem o2_62 : OkE cX0_addKind RX0 "addKind" 7 2 false (62, .iinc 5 1, 65, [3, 6]) := (r_iinc dX0_addKind_62 rfl).row
theorem o2_65 : OkE cX0_addKind RX0 "addKind" 7 2 false (65, .goto 8, 68, []) := (r_goto dX0_addKind_65 rfl).row
theorem o2_68 : OkE cX0_addKind RX0 "addKind" 7 2 false (68, .return_, 69, []) := dX0_addKind_68
theorem ok2 : ∀ x ∈ k2, OkE cX0_addKind RX0 "addKind" 7 2 false x := List.forall_mem_cons.mpr ⟨o2_0, List.forall_mem_cons.mpr ⟨o2_1, List.forall_mem_cons.mpr ⟨o2_2, List.forall_mem_cons.mpr ⟨o2_5, List.forall_mem_cons.mpr ⟨o2_6, List.forall_mem_cons.mpr ⟨o2_8, List.forall_mem_cons.mpr ⟨o2_10, List.forall_mem_cons.mpr ⟨o2_12, List.forall_mem_cons.mpr ⟨o2_15, List.forall_mem_cons.mpr ⟨o2_17, List.forall_mem_cons.mpr ⟨o2_18, List.forall_mem_cons.mpr ⟨o2_19, List.forall_mem_cons.mpr ⟨o2_21, List.forall_mem_cons.mpr ⟨o2_22, List.forall_mem_cons.mpr ⟨o2_23, List.forall_mem_cons.mpr ⟨o2_24, List.forall_mem_cons.mpr ⟨o2_26, List.forall_mem_cons.mpr ⟨o2_27, List.forall_mem_cons.mpr ⟨o2_28, List.forall_mem_cons.mpr ⟨o2_30, List.forall_mem_cons.mpr ⟨o2_33, List.forall_mem_cons.mpr ⟨o2_36, List.forall_mem_cons.mpr ⟨o2_37, List.forall_mem_cons.mpr ⟨o2_40, List.forall_mem_cons.mpr ⟨o2_41, List.forall_mem_cons.mpr ⟨o2_43, List.forall_mem_cons.mpr ⟨o2_44, List.forall_mem_cons.mpr ⟨o2_46, List.forall_mem_cons.mpr ⟨o2_47, List.forall_mem_cons.mpr ⟨o2_48, List.forall_mem_cons.mpr ⟨o2_49, List.forall_mem_cons.mpr ⟨o2_50, List.forall_mem_cons.mpr ⟨o2_53, List.forall_mem_cons.mpr ⟨o2_55, List.forall_mem_cons.mpr ⟨o2_56, List.forall_mem_cons.mpr ⟨o2_58, List.forall_mem_cons.mpr ⟨o2_59, List.forall_mem_cons.mpr ⟨o2_60, List.forall_mem_cons.mpr ⟨o2_61, List.forall_mem_cons.mpr ⟨o2_62, List.forall_mem_cons.mpr ⟨o2_65, List.forall_mem_cons.mpr ⟨o2_68, fun _ h => absurd h List.not_mem_nil⟩⟩⟩⟩⟩⟩⟩⟩⟩⟩⟩⟩⟩⟩⟩⟩⟩⟩⟩⟩⟩⟩⟩⟩⟩⟩⟩⟩⟩⟩⟩⟩⟩⟩⟩⟩⟩⟩⟩⟩⟩⟩
theorem o3_0 : OkE cX0_reckonChances RX0 "reckonChances" 4 1 false (0, .aload 0, 1, []) := (r_aload_n dX0_reckonChances_0 rfl).row
theorem o3_1 : OkE cX0_reckonChances RX0 "reckonChances" 4 1 false (1, .invokeinterface 0 2, 4, []) := (r_get (C := RX0) (T := TX0) (N := 5) (ci := 0) (j := 2) (ref := RX0) dX0_reckonChances_1 rfl inX0 (by decide) wd_124 rfl).row
theorem o3_4 : OkE cX0_reckonChances RX0 "reckonChances" 4 1 false (4, .sipush 0, 5, []) := (r_lconst dX0_reckonChances_4 rfl).row
theorem o3_5 : OkE cX0_reckonChances RX0 "reckonChances" 4 1 false (5, .invokestatic 223, 8, []) := ⟨rfl, c_S dX0_reckonChances_5 wd_347 wd_348 wd_71 wd_349 nmh_10⟩
theorem o3_8 : OkE cX0_reckonChances RX0 "reckonChances" 4 1 false (8, .aload 0, 9, []) := (r_aload_n dX0_reckonChances_8 rfl).row
theorem o3_9 : OkE cX0_reckonChances RX0 "reckonChances" 4 1 false (9, .invokeinterface 0 2, 12, []) := (r_get (C := RX0) (T := TX0) (N := 5) (ci := 0) (j := 2) (ref := RX0) dX0_reckonChances_9 rfl inX0 (by decide) wd_124 rfl).row
theorem o3_12 : OkE cX0_reckonChances RX0 "reckonChances" 4 1 false (12, .iconst 0, 13, []) := (r_iconst dX0_reckonChances_12 rfl).row
theorem o3_13 : OkE cX0_reckonChances RX0 "reckonChances" 4 1 false (13, .sipush 1, 14, []) := (r_lconst dX0_reckonChances_13 rfl).row
theorem o3_14 : OkE cX0_reckonChances RX0 "reckonChances" 4 1 false (14, .lastore, 15, []) := r_last dX0_reckonChances_14
theorem o3_15 : OkE cX0_reckonChances RX0 "reckonChances" 4 1 false (15, .iconst 1, 16, []) := (r_iconst dX0_reckonChances_15 rfl).row
theorem o3_16 : OkE cX0_reckonChances RX0 "reckonChances" 4 1 false (16, .istore 2, 17, []) := (r_istore_n dX0_reckonChances_16 rfl).row
theorem o3_17 : OkE cX0_reckonChances RX0 "reckonChances" 4 1 false (17, .iload 2, 18, [3]) := (r_iload_n dX0_reckonChances_17 rfl).row
theorem o3_18 : OkE cX0_reckonChances RX0 "reckonChances" 4 1 false (18, .iconst 6, 20, []) := (r_bipush dX0_reckonChances_18 rfl).row
theorem o3_20 : OkE cX0_reckonChances RX0 "reckonChances" 4 1 false (20, .if_icmp .gt 86, 23, []) := (r_icmp_gt dX0_reckonChances_20 rfl).row
theorem o3_23 : OkE cX0_reckonChances RX0 "reckonChances" 4 1 false (23, .iload 2, 24, []) := (r_iload_n dX0_reckonChances_23 rfl).row
theorem o3_24 : OkE cX0_reckonChances RX0 "reckonChances" 4 1 false (24, .istore 3, 25, []) := (r_istore_n dX0_reckonChances_24 rfl).row
theorem o3_25 : OkE cX0_reckonChances RX0 "reckonChances" 4 1 false (25, .iload 3, 26, []) := (r_iload_n dX0_reckonChances_25 rfl).row
theorem o3_26 : OkE cX0_reckonChances RX0 "reckonChances" 4 1 false (26, .iconst 1, 27, []) := (r_iconst dX0_reckonChances_26 rfl).row
theorem o3_27 : OkE cX0_reckonChances RX0 "reckonChances" 4 1 false (27, .if_icmp .lt 66, 30, []) := (r_icmp_lt dX0_reckonChances_27 rfl).row
theorem o3_30 : OkE cX0_reckonChances RX0 "reckonChances" 4 1 false (30, .aload 0, 31, []) := (r_aload_n dX0_reckonChances_30 rfl).row
theorem o3_31 : OkE cX0_reckonChances RX0 "reckonChances" 4 1 false (31, .invokeinterface 0 2, 34, []) := (r_get (C := RX0) (T := TX0) (N := 5) (ci := 0) (j := 2) (ref := RX0) dX0_reckonChances_31 rfl inX0 (by decide) wd_124 rfl).row
theorem o3_34 : OkE cX0_reckonChances RX0 "reckonChances" 4 1 false (34, .iload 3, 35, []) := (r_iload_n dX0_reckonChances_34 rfl).row
theorem o3_35 : OkE cX0_reckonChances RX0 "reckonChances" 4 1 false (35, .aload 0, 36, []) := (r_aload_n dX0_reckonChances_35 rfl).row
theorem o3_36 : OkE cX0_reckonChances RX0 "reckonChances" 4 1 false (36, .invokeinterface 0 2, 39, []) := (r_get (C := RX0) (T := TX0) (N := 5) (ci := 0) (j := 2) (ref := RX0) dX0_reckonChances_36 rfl inX0 (by decide) wd_124 rfl).row
theorem o3_39 : OkE cX0_reckonChances RX0 "reckonChances" 4 1 false (39, .iload 3, 40, []) := (r_iload_n dX0_reckonChances_39 rfl).row
theorem o3_40 : OkE cX0_reckonChances RX0 "reckonChances" 4 1 false (40, .laload, 41, []) := (r_lald dX0_reckonChances_40).row
theorem o3_41 : OkE cX0_reckonChances RX0 "reckonChances" 4 1 false (41, .iconst 10, 43, []) := (r_bipush dX0_reckonChances_41 rfl).row
theorem o3_43 : OkE cX0_reckonChances RX0 "reckonChances" 4 1 false (43, .iload 1, 44, []) := (r_iload_n dX0_reckonChances_43 rfl).row
theorem o3_44 : OkE cX0_reckonChances RX0 "reckonChances" 4 1 false (44, .isub, 45, []) := (r_isub dX0_reckonChances_44).row
theorem o3_45 : OkE cX0_reckonChances RX0 "reckonChances" 4 1 false (45, .i2l, 46, []) := (r_i2l dX0_reckonChances_45).row
theorem o3_46 : OkE cX0_reckonChances RX0 "reckonChances" 4 1 false (46, .lmul, 47, []) := (r_lmul dX0_reckonChances_46).row
theorem o3_47 : OkE cX0_reckonChances RX0 "reckonChances" 4 1 false (47, .aload 0, 48, []) := (r_aload_n dX0_reckonChances_47 rfl).row
theorem o3_48 : OkE cX0_reckonChances RX0 "reckonChances" 4 1 false (48, .invokeinterface 0 2, 51, []) := (r_get (C := RX0) (T := TX0) (N := 5) (ci := 0) (j := 2) (ref := RX0) dX0_reckonChances_48 rfl inX0 (by decide) wd_124 rfl).row
theorem o3_51 : OkE cX0_reckonChances RX0 "reckonChances" 4 1 false (51, .iload 3, 52, []) := (r_iload_n dX0_reckonChances_51 rfl).row
theorem o3_52 : OkE cX0_reckonChances RX0 "reckonChances" 4 1 false (52, .iconst 1, 53, []) := (r_iconst dX0_reckonChances_52 rfl).row
theorem o3_53 : OkE cX0_reckonChances RX0 "reckonChances" 4 1 false (53, .isub, 54, []) := (r_isub dX0_reckonChances_53).row
theorem o3_54 : OkE cX0_reckonChances RX0 "reckonChances" 4 1 false (54, .laload, 55, []) := (r_lald dX0_reckonChances_54).row
theorem o3_55 : OkE cX0_reckonChances RX0 "reckonChances" 4 1 false (55, .iload 1, 56, []) := (r_iload_n dX0_reckonChances_55 rfl).row
theorem o3_56 : OkE cX0_reckonChances RX0 "reckonChances" 4 1 false (56, .i2l, 57, []) := (r_i2l dX0_reckonChances_56).row
theorem o3_57 : OkE cX0_reckonChances RX0 "reckonChances" 4 1 false (57, .lmul, 58, []) := (r_lmul dX0_reckonChances_57).row
theorem o3_58 : OkE cX0_reckonChances RX0 "reckonChances" 4 1 false (58, .ladd, 59, []) := (r_ladd dX0_reckonChances_58).row
theorem o3_59 : OkE cX0_reckonChances RX0 "reckonChances" 4 1 false (59, .lastore, 60, []) := r_last dX0_reckonChances_59
theorem o3_60 : OkE cX0_reckonChances RX0 "reckonChances" 4 1 false (60, .iinc 3 (-1), 63, []) := (r_iinc dX0_reckonChances_60 rfl).row
theorem o3_63 : OkE cX0_reckonChances RX0 "reckonChances" 4 1 false (63, .goto 25, 66, []) := (r_goto dX0_reckonChances_63 rfl).row
theorem o3_66 : OkE cX0_reckonChances RX0 "reckonChances" 4 1 false (66, .aload 0, 67, []) := (r_aload_n dX0_reckonChances_66 rfl).row
theorem o3_67 : OkE cX0_reckonChances RX0 "reckonChances" 4 1 false (67, .invokeinterface 0 2, 70, []) := (r_get (C := RX0) (T := TX0) (N := 5) (ci := 0) (j := 2) (ref := RX0) dX0_reckonChances_67 rfl inX0 (by decide) wd_124 rfl).row
theorem o3_70 : OkE cX0_reckonChances RX0 "reckonChances" 4 1 false (70, .iconst 0, 71, []) := (r_iconst dX0_reckonChances_70 rfl).row
theorem o3_71 : OkE cX0_reckonChances RX0 "reckonChances" 4 1 false (71, .dup2, 72, []) := (r_dup2 dX0_reckonChances_71).row
theorem o3_72 : OkE cX0_reckonChances RX0 "reckonChances" 4 1 false (72, .laload, 73, []) := (r_lald dX0_reckonChances_72).row
theorem o3_73 : OkE cX0_reckonChances RX0 "reckonChances" 4 1 false (73, .iconst 10, 75, []) := (r_bipush dX0_reckonChances_73 rfl).row
theorem o3_75 : OkE cX0_reckonChances RX0 "reckonChances" 4 1 false (75, .iload 1, 76, []) := (r_iload_n dX0_reckonChances_75 rfl).row
theorem o3_76 : OkE cX0_reckonChances RX0 "reckonChances" 4 1 false (76, .isub, 77, []) := (r_isub dX0_reckonChances_76).row
theorem o3_77 : OkE cX0_reckonChances RX0 "reckonChances" 4 1 false (77, .i2l, 78, []) := (r_i2l dX0_reckonChances_77).row
theorem o3_78 : OkE cX0_reckonChances RX0 "reckonChances" 4 1 false (78, .lmul, 79, []) := (r_lmul dX0_reckonChances_78).row
theorem o3_79 : OkE cX0_reckonChances RX0 "reckonChances" 4 1 false (79, .lastore, 80, []) := r_last dX0_reckonChances_79
theorem o3_80 : OkE cX0_reckonChances RX0 "reckonChances" 4 1 false (80, .iinc 2 1, 83, []) := (r_iinc dX0_reckonChances_80 rfl).row
theorem o3_83 : OkE cX0_reckonChances RX0 "reckonChances" 4 1 false (83, .goto 17, 86, []) := (r_goto dX0_reckonChances_83 rfl).row
theorem o3_86 : OkE cX0_reckonChances RX0 "reckonChances" 4 1 false (86, .return_, 87, []) := dX0_reckonChances_86
theorem ok3 : ∀ x ∈ k3, OkE cX0_reckonChances RX0 "reckonChances" 4 1 false x := List.forall_mem_cons.mpr ⟨o3_0, List.forall_mem_cons.mpr ⟨o3_1, List.forall_mem_cons.mpr ⟨o3_4, List.forall_mem_cons.mpr ⟨o3_5, List.forall_mem_cons.mpr ⟨o3_8, List.forall_mem_cons.mpr ⟨o3_9, List.forall_mem_cons.mpr ⟨o3_12, List.forall_mem_cons.mpr ⟨o3_13, List.forall_mem_cons.mpr ⟨o3_14, List.forall_mem_cons.mpr ⟨o3_15, List.forall_mem_cons.mpr ⟨o3_16, List.forall_mem_cons.mpr ⟨o3_17, List.forall_mem_cons.mpr ⟨o3_18, List.forall_mem_cons.mpr ⟨o3_20, List.forall_mem_cons.mpr ⟨o3_23, List.forall_mem_cons.mpr ⟨o3_24, List.forall_mem_cons.mpr ⟨o3_25, List.forall_mem_cons.mpr ⟨o3_26, List.forall_mem_cons.mpr ⟨o3_27, List.forall_mem_cons.mpr ⟨o3_30, List.forall_mem_cons.mpr ⟨o3_31, List.forall_mem_cons.mpr ⟨o3_34, List.forall_mem_cons.mpr ⟨o3_35, List.forall_mem_cons.mpr ⟨o3_36, List.forall_mem_cons.mpr ⟨o3_39, List.forall_mem_cons.mpr ⟨o3_40, List.forall_mem_cons.mpr ⟨o3_41, List.forall_mem_cons.mpr ⟨o3_43, List.forall_mem_cons.mpr ⟨o3_44, List.forall_mem_cons.mpr ⟨o3_45, List.forall_mem_cons.mpr ⟨o3_46, List.forall_mem_cons.mpr ⟨o3_47, List.forall_mem_cons.mpr ⟨o3_48, List.forall_mem_cons.mpr ⟨o3_51, List.forall_mem_cons.mpr ⟨o3_52, List.forall_mem_cons.mpr ⟨o3_53, List.forall_mem_cons.mpr ⟨o3_54, List.forall_mem_cons.mpr ⟨o3_55, List.forall_mem_cons.mpr ⟨o3_56, List.forall_mem_cons.mpr ⟨o3_57, List.forall_mem_cons.mpr ⟨o3_58, List.forall_mem_cons.mpr ⟨o3_59, List.forall_mem_cons.mpr ⟨o3_60, List.forall_mem_cons.mpr ⟨o3_63, List.forall_mem_cons.mpr ⟨o3_66, List.forall_mem_cons.mpr ⟨o3_67, List.forall_mem_cons.mpr ⟨o3_70, List.forall_mem_cons.mpr ⟨o3_71, List.forall_mem_cons.mpr ⟨o3_72, List.forall_mem_cons.mpr ⟨o3_73, List.forall_mem_cons.mpr ⟨o3_75, List.forall_mem_cons.mpr ⟨o3_76, List.forall_mem_cons.mpr ⟨o3_77, List.forall_mem_cons.mpr ⟨o3_78, List.forall_mem_cons.mpr ⟨o3_79, List.forall_mem_cons.mpr ⟨o3_80, List.forall_mem_cons.mpr ⟨o3_83, List.forall_mem_cons.mpr ⟨o3_86, fun _ h => absurd h List.not_mem_nil⟩⟩⟩⟩⟩⟩⟩⟩⟩⟩⟩⟩⟩⟩⟩⟩⟩⟩⟩⟩⟩⟩⟩⟩⟩⟩⟩⟩⟩⟩⟩⟩⟩⟩⟩⟩⟩⟩⟩⟩⟩⟩⟩⟩⟩⟩⟩⟩⟩⟩⟩⟩⟩⟩⟩⟩⟩⟩
theorem o4_0 : OkE cX0_sumUp RX0 "sumUp" 4 1 false (0, .iload 1, 1, []) := (r_iload_n dX0_sumUp_0 rfl).row
theorem o4_1 : OkE cX0_sumUp RX0 "sumUp" 4 1 false (1, .invokestatic 139, 4, []) := ⟨rfl, c_SN dX0_sumUp_1 wd_378 wd_379 wd_64 wd_380 nmh_8⟩
theorem o4_4 : OkE cX0_sumUp RX0 "sumUp" 4 1 false (4, .ifCond .ne 8, 7, []) := (r_if_ne dX0_sumUp_4 rfl).row
theorem o4_7 : OkE cX0_sumUp RX0 "sumUp" 4 1 false (7, .return_, 8, []) := dX0_sumUp_7
theorem o4_8 : OkE cX0_sumUp RX0 "sumUp" 4 1 false (8, .iload 1, 9, []) := (r_iload_n dX0_sumUp_8 rfl).row
theorem o4_9 : OkE cX0_sumUp RX0 "sumUp" 4 1 false (9, .iconst 61, 11, []) := (r_bipush dX0_sumUp_9 rfl).row
theorem o4_11 : OkE cX0_sumUp RX0 "sumUp" 4 1 false (11, .imul, 12, []) := (r_imul dX0_sumUp_11).row
theorem o4_12 : OkE cX0_sumUp RX0 "sumUp" 4 1 false (12, .istore 2, 13, []) := (r_istore_n dX0_sumUp_12 rfl).row
theorem o4_13 : OkE cX0_sumUp RX0 "sumUp" 4 1 false (13, .iconst 59, 15, []) := (r_bipush dX0_sumUp_13 rfl).row
theorem o4_15 : OkE cX0_sumUp RX0 "sumUp" 4 1 false (15, .istore 3, 16, []) := (r_istore_n dX0_sumUp_15 rfl).row
theorem o4_16 : OkE cX0_sumUp RX0 "sumUp" 4 1 false (16, .iload 3, 17, [1]) := (r_iload_n dX0_sumUp_16 rfl).row
theorem o4_17 : OkE cX0_sumUp RX0 "sumUp" 4 1 false (17, .ifCond .lt 47, 20, []) := (r_if_lt dX0_sumUp_17 rfl).row
theorem o4_20 : OkE cX0_sumUp RX0 "sumUp" 4 1 false (20, .aload 0, 21, []) := (r_aload_n dX0_sumUp_20 rfl).row
theorem o4_21 : OkE cX0_sumUp RX0 "sumUp" 4 1 false (21, .invokeinterface 0 1, 24, []) := (r_get (C := RX0) (T := TX0) (N := 5) (ci := 0) (j := 1) (ref := RX0) dX0_sumUp_21 rfl inX0 (by decide) wd_123 rfl).row
theorem o4_24 : OkE cX0_sumUp RX0 "sumUp" 4 1 false (24, .iload 2, 25, []) := (r_iload_n dX0_sumUp_24 rfl).row
theorem o4_25 : OkE cX0_sumUp RX0 "sumUp" 4 1 false (25, .iload 3, 26, []) := (r_iload_n dX0_sumUp_25 rfl).row
theorem o4_26 : OkE cX0_sumUp RX0 "sumUp" 4 1 false (26, .iadd, 27, []) := (r_iadd dX0_sumUp_26).row
theorem o4_27 : OkE cX0_sumUp RX0 "sumUp" 4 1 false (27, .dup2, 28, []) := (r_dup2 dX0_sumUp_27).row
theorem o4_28 : OkE cX0_sumUp RX0 "sumUp" 4 1 false (28, .laload, 29, []) := (r_lald dX0_sumUp_28).row
theorem o4_29 : OkE cX0_sumUp RX0 "sumUp" 4 1 false (29, .aload 0, 30, []) := (r_aload_n dX0_sumUp_29 rfl).row
theorem o4_30 : OkE cX0_sumUp RX0 "sumUp" 4 1 false (30, .invokeinterface 0 1, 33, []) := (r_get (C := RX0) (T := TX0) (N := 5) (ci := 0) (j := 1) (ref := RX0) dX0_sumUp_30 rfl inX0 (by decide) wd_123 rfl).row
theorem o4_33 : OkE cX0_sumUp RX0 "sumUp" 4 1 false (33, .iload 2, 34, []) := (r_iload_n dX0_sumUp_33 rfl).row
theorem o4_34 : OkE cX0_sumUp RX0 "sumUp" 4 1 false (34, .iload 3, 35, []) := (r_iload_n dX0_sumUp_34 rfl).row
theorem o4_35 : OkE cX0_sumUp RX0 "sumUp" 4 1 false (35, .iadd, 36, []) := (r_iadd dX0_sumUp_35).row
theorem o4_36 : OkE cX0_sumUp RX0 "sumUp" 4 1 false (36, .iconst 1, 37, []) := (r_iconst dX0_sumUp_36 rfl).row
theorem o4_37 : OkE cX0_sumUp RX0 "sumUp" 4 1 false (37, .iadd, 38, []) := (r_iadd dX0_sumUp_37).row
theorem o4_38 : OkE cX0_sumUp RX0 "sumUp" 4 1 false (38, .laload, 39, []) := (r_lald dX0_sumUp_38).row
theorem o4_39 : OkE cX0_sumUp RX0 "sumUp" 4 1 false (39, .ladd, 40, []) := (r_ladd dX0_sumUp_39).row
theorem o4_40 : OkE cX0_sumUp RX0 "sumUp" 4 1 false (40, .lastore, 41, []) := r_last dX0_sumUp_40
theorem o4_41 : OkE cX0_sumUp RX0 "sumUp" 4 1 false (41, .iinc 3 (-1), 44, []) := (r_iinc dX0_sumUp_41 rfl).row
theorem o4_44 : OkE cX0_sumUp RX0 "sumUp" 4 1 false (44, .goto 16, 47, []) := (r_goto dX0_sumUp_44 rfl).row
theorem o4_47 : OkE cX0_sumUp RX0 "sumUp" 4 1 false (47, .aload 0, 48, []) := (r_aload_n dX0_sumUp_47 rfl).row
theorem o4_48 : OkE cX0_sumUp RX0 "sumUp" 4 1 false (48, .invokeinterface 0 0, 51, []) := (r_get (C := RX0) (T := TX0) (N := 5) (ci := 0) (j := 0) (ref := RX0) dX0_sumUp_48 rfl inX0 (by decide) wd_122 rfl).row
theorem o4_51 : OkE cX0_sumUp RX0 "sumUp" 4 1 false (51, .iload 2, 52, []) := (r_iload_n dX0_sumUp_51 rfl).row
theorem o4_52 : OkE cX0_sumUp RX0 "sumUp" 4 1 false (52, .sipush 0, 53, []) := (r_lconst dX0_sumUp_52 rfl).row
theorem o4_53 : OkE cX0_sumUp RX0 "sumUp" 4 1 false (53, .lastore, 54, []) := r_last dX0_sumUp_53
theorem o4_54 : OkE cX0_sumUp RX0 "sumUp" 4 1 false (54, .iconst 1, 55, []) := (r_iconst dX0_sumUp_54 rfl).row
theorem o4_55 : OkE cX0_sumUp RX0 "sumUp" 4 1 false (55, .istore 3, 56, []) := (r_istore_n dX0_sumUp_55 rfl).row
theorem o4_56 : OkE cX0_sumUp RX0 "sumUp" 4 1 false (56, .iload 3, 57, [1]) := (r_iload_n dX0_sumUp_56 rfl).row
theorem o4_57 : OkE cX0_sumUp RX0 "sumUp" 4 1 false (57, .iconst 60, 59, []) := (r_bipush dX0_sumUp_57 rfl).row
theorem o4_59 : OkE cX0_sumUp RX0 "sumUp" 4 1 false (59, .if_icmp .gt 97, 62, []) := (r_icmp_gt dX0_sumUp_59 rfl).row
theorem o4_62 : OkE cX0_sumUp RX0 "sumUp" 4 1 false (62, .aload 0, 63, []) := (r_aload_n dX0_sumUp_62 rfl).row
theorem o4_63 : OkE cX0_sumUp RX0 "sumUp" 4 1 false (63, .invokeinterface 0 0, 66, []) := (r_get (C := RX0) (T := TX0) (N := 5) (ci := 0) (j := 0) (ref := RX0) dX0_sumUp_63 rfl inX0 (by decide) wd_122 rfl).row
theorem o4_66 : OkE cX0_sumUp RX0 "sumUp" 4 1 false (66, .iload 2, 67, []) := (r_iload_n dX0_sumUp_66 rfl).row
theorem o4_67 : OkE cX0_sumUp RX0 "sumUp" 4 1 false (67, .iload 3, 68, []) := (r_iload_n dX0_sumUp_67 rfl).row
theorem o4_68 : OkE cX0_sumUp RX0 "sumUp" 4 1 false (68, .iadd, 69, []) := (r_iadd dX0_sumUp_68).row
theorem o4_69 : OkE cX0_sumUp RX0 "sumUp" 4 1 false (69, .aload 0, 70, []) := (r_aload_n dX0_sumUp_69 rfl).row
theorem o4_70 : OkE cX0_sumUp RX0 "sumUp" 4 1 false (70, .invokeinterface 0 0, 73, []) := (r_get (C := RX0) (T := TX0) (N := 5) (ci := 0) (j := 0) (ref := RX0) dX0_sumUp_70 rfl inX0 (by decide) wd_122 rfl).row
theorem o4_73 : OkE cX0_sumUp RX0 "sumUp" 4 1 false (73, .iload 2, 74, []) := (r_iload_n dX0_sumUp_73 rfl).row
theorem o4_74 : OkE cX0_sumUp RX0 "sumUp" 4 1 false (74, .iload 3, 75, []) := (r_iload_n dX0_sumUp_74 rfl).row
theorem o4_75 : OkE cX0_sumUp RX0 "sumUp" 4 1 false (75, .iadd, 76, []) := (r_iadd dX0_sumUp_75).row
theorem o4_76 : OkE cX0_sumUp RX0 "sumUp" 4 1 false (76, .iconst 1, 77, []) := (r_iconst dX0_sumUp_76 rfl).row
theorem o4_77 : OkE cX0_sumUp RX0 "sumUp" 4 1 false (77, .isub, 78, []) := (r_isub dX0_sumUp_77).row
theorem o4_78 : OkE cX0_sumUp RX0 "sumUp" 4 1 false (78, .laload, 79, []) := (r_lald dX0_sumUp_78).row
theorem o4_79 : OkE cX0_sumUp RX0 "sumUp" 4 1 false (79, .aload 0, 80, []) := (r_aload_n dX0_sumUp_79 rfl).row
theorem o4_80 : OkE cX0_sumUp RX0 "sumUp" 4 1 false (80, .invokeinterface 0 1, 83, []) := (r_get (C := RX0) (T := TX0) (N := 5) (ci := 0) (j := 1) (ref := RX0) dX0_sumUp_80 rfl inX0 (by decide) wd_123 rfl).row
theorem o4_83 : OkE cX0_sumUp RX0 "sumUp" 4 1 false (83, .iload 2, 84, []) := (r_iload_n dX0_sumUp_83 rfl).row
theorem o4_84 : OkE cX0_sumUp RX0 "sumUp" 4 1 false (84, .iload 3, 85, []) := (r_iload_n dX0_sumUp_84 rfl).row
theorem o4_85 : OkE cX0_sumUp RX0 "sumUp" 4 1 false (85, .iadd, 86, []) := (r_iadd dX0_sumUp_85).row
theorem o4_86 : OkE cX0_sumUp RX0 "sumUp" 4 1 false (86, .iconst 1, 87, []) := (r_iconst dX0_sumUp_86 rfl).row
theorem o4_87 : OkE cX0_sumUp RX0 "sumUp" 4 1 false (87, .isub, 88, []) := (r_isub dX0_sumUp_87).row
theorem o4_88 : OkE cX0_sumUp RX0 "sumUp" 4 1 false (88, .laload, 89, []) := (r_lald dX0_sumUp_88).row
theorem o4_89 : OkE cX0_sumUp RX0 "sumUp" 4 1 false (89, .ladd, 90, []) := (r_ladd dX0_sumUp_89).row
theorem o4_90 : OkE cX0_sumUp RX0 "sumUp" 4 1 false (90, .lastore, 91, []) := r_last dX0_sumUp_90
theorem o4_91 : OkE cX0_sumUp RX0 "sumUp" 4 1 false (91, .iinc 3 1, 94, []) := (r_iinc dX0_sumUp_91 rfl).row
theorem o4_94 : OkE cX0_sumUp RX0 "sumUp" 4 1 false (94, .goto 56, 97, []) := (r_goto dX0_sumUp_94 rfl).row
theorem o4_97 : OkE cX0_sumUp RX0 "sumUp" 4 1 false (97, .return_, 98, []) := dX0_sumUp_97
theorem ok4 : ∀ x ∈ k4, OkE cX0_sumUp RX0 "sumUp" 4 1 false x := List.forall_mem_cons.mpr ⟨o4_0, List.forall_mem_cons.mpr ⟨o4_1, List.forall_mem_cons.mpr ⟨o4_4, List.forall_mem_cons.mpr ⟨o4_7, List.forall_mem_cons.mpr ⟨o4_8, List.forall_mem_cons.mpr ⟨o4_9, List.forall_mem_cons.mpr ⟨o4_11, List.forall_mem_cons.mpr ⟨o4_12, List.forall_mem_cons.mpr ⟨o4_13, List.forall_mem_cons.mpr ⟨o4_15, List.forall_mem_cons.mpr ⟨o4_16, List.forall_mem_cons.mpr ⟨o4_17, List.forall_mem_cons.mpr ⟨o4_20, List.forall_mem_cons.mpr ⟨o4_21, List.forall_mem_cons.mpr ⟨o4_24, List.forall_mem_cons.mpr ⟨o4_25, List.forall_mem_cons.mpr ⟨o4_26, List.forall_mem_cons.mpr ⟨o4_27, List.forall_mem_cons.mpr ⟨o4_28, List.forall_mem_cons.mpr ⟨o4_29, List.forall_mem_cons.mpr ⟨o4_30, List.forall_mem_cons.mpr ⟨o4_33, List.forall_mem_cons.mpr ⟨o4_34, List.forall_mem_cons.mpr ⟨o4_35, List.forall_mem_cons.mpr ⟨o4_36, List.forall_mem_cons.mpr ⟨o4_37, List.forall_mem_cons.mpr ⟨o4_38, List.forall_mem_cons.mpr ⟨o4_39, List.forall_mem_cons.mpr ⟨o4_40, List.forall_mem_cons.mpr ⟨o4_41, List.forall_mem_cons.mpr ⟨o4_44, List.forall_mem_cons.mpr ⟨o4_47, List.forall_mem_cons.mpr ⟨o4_48, List.forall_mem_cons.mpr ⟨o4_51, List.forall_mem_cons.mpr ⟨o4_52, List.forall_mem_cons.mpr ⟨o4_53, List.forall_mem_cons.mpr ⟨o4_54, List.forall_mem_cons.mpr ⟨o4_55, List.forall_mem_cons.mpr ⟨o4_56, List.forall_mem_cons.mpr ⟨o4_57, List.forall_mem_cons.mpr ⟨o4_59, List.forall_mem_cons.mpr ⟨o4_62, List.forall_mem_cons.mpr ⟨o4_63, List.forall_mem_cons.mpr ⟨o4_66, List.forall_mem_cons.mpr ⟨o4_67, List.forall_mem_cons.mpr ⟨o4_68, List.forall_mem_cons.mpr ⟨o4_69, List.forall_mem_cons.mpr ⟨o4_70, List.forall_mem_cons.mpr ⟨o4_73, List.forall_mem_cons.mpr ⟨o4_74, List.forall_mem_cons.mpr ⟨o4_75, List.forall_mem_cons.mpr ⟨o4_76, List.forall_mem_cons.mpr ⟨o4_77, List.forall_mem_cons.mpr ⟨o4_78, List.forall_mem_cons.mpr ⟨o4_79, List.forall_mem_cons.mpr ⟨o4_80, List.forall_mem_cons.mpr ⟨o4_83, List.forall_mem_cons.mpr ⟨o4_84, List.forall_mem_cons.mpr ⟨o4_85, List.forall_mem_cons.mpr ⟨o4_86, List.forall_mem_cons.mpr ⟨o4_87, List.forall_mem_cons.mpr ⟨o4_88, List.forall_mem_cons.mpr ⟨o4_89, List.forall_mem_cons.mpr ⟨o4_90, List.forall_mem_cons.mpr ⟨o4_91, List.forall_mem_cons.mpr ⟨o4_94, List.forall_mem_cons.mpr ⟨o4_97, fun _ h => absurd h List.not_mem_nil⟩⟩⟩⟩⟩⟩⟩⟩⟩⟩⟩⟩⟩⟩⟩⟩⟩⟩⟩⟩⟩⟩⟩⟩⟩⟩⟩⟩⟩⟩⟩⟩⟩⟩⟩⟩⟩⟩⟩⟩⟩⟩⟩⟩⟩⟩⟩⟩⟩⟩⟩⟩⟩⟩⟩⟩⟩⟩⟩⟩⟩⟩⟩⟩⟩⟩⟩
theorem o5_0 : OkE cX0_whole RX0 "whole" 1 0 false (0, .aload 0, 1, []) := (r_aload_n dX0_whole_0 rfl).row
theorem o5_1 : OkE cX0_whole RX0 "whole" 1 0 false (1, .invokeinterface 0 4, 4, []) := (r_get (C := RX0) (T := TX0) (N := 5) (ci := 0) (j := 4) (ref := RX0) dX0_whole_1 rfl inX0 (by decide) wd_126 rfl).row
theorem o5_4 : OkE cX0_whole RX0 "whole" 1 0 false (4, .lreturn, 5, []) := dX0_whole_4
theorem ok5 : ∀ x ∈ k5, OkE cX0_whole RX0 "whole" 1 0 false x := List.forall_mem_cons.mpr ⟨o5_0, List.forall_mem_cons.mpr ⟨o5_1, List.forall_mem_cons.mpr ⟨o5_4, fun _ h => absurd h List.not_mem_nil⟩⟩⟩
theorem o6_0 : OkE cX0_holds RX0 "holds" 3 1 false (0, .iload 1, 1, []) := (r_iload_n dX0_holds_0 rfl).row
theorem o6_1 : OkE cX0_holds RX0 "holds" 3 1 false (1, .invokestatic 139, 4, []) := ⟨rfl, c_SN dX0_holds_1 wd_378 wd_379 wd_64 wd_380 nmh_8⟩
theorem o6_4 : OkE cX0_holds RX0 "holds" 3 1 false (4, .ifCond .eq 18, 7, []) := (r_if_eq dX0_holds_4 rfl).row
theorem o6_7 : OkE cX0_holds RX0 "holds" 3 1 false (7, .iload 2, 8, []) := (r_iload_n dX0_holds_7 rfl).row
theorem o6_8 : OkE cX0_holds RX0 "holds" 3 1 false (8, .invokestatic 143, 11, []) := ⟨rfl, c_SN dX0_holds_8 wd_381 wd_382 wd_64 wd_383 nmh_8⟩
theorem o6_11 : OkE cX0_holds RX0 "holds" 3 1 false (11, .ifCond .eq 18, 14, []) := (r_if_eq dX0_holds_11 rfl).row
theorem o6_14 : OkE cX0_holds RX0 "holds" 3 1 false (14, .iconst 1, 15, []) := (r_iconst dX0_holds_14 rfl).row
theorem o6_15 : OkE cX0_holds RX0 "holds" 3 1 false (15, .goto 19, 18, []) := (r_goto dX0_holds_15 rfl).row
theorem o6_18 : OkE cX0_holds RX0 "holds" 3 1 false (18, .iconst 0, 19, [0, 1, 2]) := (r_iconst dX0_holds_18 rfl).row
theorem o6_19 : OkE cX0_holds RX0 "holds" 3 1 false (19, .ireturn, 20, [0, 1, 2]) := dX0_holds_19
theorem ok6 : ∀ x ∈ k6, OkE cX0_holds RX0 "holds" 3 1 false x := List.forall_mem_cons.mpr ⟨o6_0, List.forall_mem_cons.mpr ⟨o6_1, List.forall_mem_cons.mpr ⟨o6_4, List.forall_mem_cons.mpr ⟨o6_7, List.forall_mem_cons.mpr ⟨o6_8, List.forall_mem_cons.mpr ⟨o6_11, List.forall_mem_cons.mpr ⟨o6_14, List.forall_mem_cons.mpr ⟨o6_15, List.forall_mem_cons.mpr ⟨o6_18, List.forall_mem_cons.mpr ⟨o6_19, fun _ h => absurd h List.not_mem_nil⟩⟩⟩⟩⟩⟩⟩⟩⟩⟩
theorem o7_0 : OkE cX0_soldOf RX0 "soldOf" 3 2 false (0, .aload 0, 1, []) := (r_aload_n dX0_soldOf_0 rfl).row
theorem o7_1 : OkE cX0_soldOf RX0 "soldOf" 3 2 false (1, .iload 1, 2, []) := (r_iload_n dX0_soldOf_1 rfl).row
theorem o7_2 : OkE cX0_soldOf RX0 "soldOf" 3 2 false (2, .iload 2, 3, []) := (r_iload_n dX0_soldOf_2 rfl).row
theorem o7_3 : OkE cX0_soldOf RX0 "soldOf" 3 2 false (3, .invokevirtual 6, 6, []) := ⟨rfl, c_V dX0_soldOf_3 wd_374 wd_376 wd_2 wd_67 wd_377 nmh_0⟩
theorem o7_6 : OkE cX0_soldOf RX0 "soldOf" 3 2 false (6, .ifCond .eq 23, 9, []) := (r_if_eq dX0_soldOf_6 rfl).row
theorem o7_9 : OkE cX0_soldOf RX0 "soldOf" 3 2 false (9, .aload 0, 10, []) := (r_aload_n dX0_soldOf_9 rfl).row
theorem o7_10 : OkE cX0_soldOf RX0 "soldOf" 3 2 false (10, .invokeinterface 0 0, 13, []) := (r_get (C := RX0) (T := TX0) (N := 5) (ci := 0) (j := 0) (ref := RX0) dX0_soldOf_10 rfl inX0 (by decide) wd_122 rfl).row
theorem o7_13 : OkE cX0_soldOf RX0 "soldOf" 3 2 false (13, .iload 1, 14, []) := (r_iload_n dX0_soldOf_13 rfl).row
theorem o7_14 : OkE cX0_soldOf RX0 "soldOf" 3 2 false (14, .iconst 61, 16, []) := (r_bipush dX0_soldOf_14 rfl).row
theorem o7_16 : OkE cX0_soldOf RX0 "soldOf" 3 2 false (16, .imul, 17, []) := (r_imul dX0_soldOf_16).row
theorem o7_17 : OkE cX0_soldOf RX0 "soldOf" 3 2 false (17, .iload 2, 18, []) := (r_iload_n dX0_soldOf_17 rfl).row
theorem o7_18 : OkE cX0_soldOf RX0 "soldOf" 3 2 false (18, .iadd, 19, []) := (r_iadd dX0_soldOf_18).row
theorem o7_19 : OkE cX0_soldOf RX0 "soldOf" 3 2 false (19, .laload, 20, []) := (r_lald dX0_soldOf_19).row
theorem o7_20 : OkE cX0_soldOf RX0 "soldOf" 3 2 false (20, .goto 24, 23, []) := (r_goto dX0_soldOf_20 rfl).row
theorem o7_23 : OkE cX0_soldOf RX0 "soldOf" 3 2 false (23, .sipush 0, 24, []) := (r_lconst dX0_soldOf_23 rfl).row
theorem o7_24 : OkE cX0_soldOf RX0 "soldOf" 3 2 false (24, .lreturn, 25, [0, 1, 2]) := dX0_soldOf_24
theorem ok7 : ∀ x ∈ k7, OkE cX0_soldOf RX0 "soldOf" 3 2 false x := List.forall_mem_cons.mpr ⟨o7_0, List.forall_mem_cons.mpr ⟨o7_1, List.forall_mem_cons.mpr ⟨o7_2, List.forall_mem_cons.mpr ⟨o7_3, List.forall_mem_cons.mpr ⟨o7_6, List.forall_mem_cons.mpr ⟨o7_9, List.forall_mem_cons.mpr ⟨o7_10, List.forall_mem_cons.mpr ⟨o7_13, List.forall_mem_cons.mpr ⟨o7_14, List.forall_mem_cons.mpr ⟨o7_16, List.forall_mem_cons.mpr ⟨o7_17, List.forall_mem_cons.mpr ⟨o7_18, List.forall_mem_cons.mpr ⟨o7_19, List.forall_mem_cons.mpr ⟨o7_20, List.forall_mem_cons.mpr ⟨o7_23, List.forall_mem_cons.mpr ⟨o7_24, fun _ h => absurd h List.not_mem_nil⟩⟩⟩⟩⟩⟩⟩⟩⟩⟩⟩⟩⟩⟩⟩⟩
theorem o8_0 : OkE cX0_outOf RX0 "outOf" 3 2 false (0, .aload 0, 1, []) := (r_aload_n dX0_outOf_0 rfl).row
theorem o8_1 : OkE cX0_outOf RX0 "outOf" 3 2 false (1, .iload 1, 2, []) := (r_iload_n dX0_outOf_1 rfl).row
theorem o8_2 : OkE cX0_outOf RX0 "outOf" 3 2 false (2, .iload 2, 3, []) := (r_iload_n dX0_outOf_2 rfl).row
theorem o8_3 : OkE cX0_outOf RX0 "outOf" 3 2 false (3, .invokevirtual 6, 6, []) := ⟨rfl, c_V dX0_outOf_3 wd_374 wd_376 wd_2 wd_67 wd_377 nmh_0⟩
theorem o8_6 : OkE cX0_outOf RX0 "outOf" 3 2 false (6, .ifCond .eq 23, 9, []) := (r_if_eq dX0_outOf_6 rfl).row
theorem o8_9 : OkE cX0_outOf RX0 "outOf" 3 2 false (9, .aload 0, 10, []) := (r_aload_n dX0_outOf_9 rfl).row
theorem o8_10 : OkE cX0_outOf RX0 "outOf" 3 2 false (10, .invokeinterface 0 1, 13, []) := (r_get (C := RX0) (T := TX0) (N := 5) (ci := 0) (j := 1) (ref := RX0) dX0_outOf_10 rfl inX0 (by decide) wd_123 rfl).row
theorem o8_13 : OkE cX0_outOf RX0 "outOf" 3 2 false (13, .iload 1, 14, []) := (r_iload_n dX0_outOf_13 rfl).row
theorem o8_14 : OkE cX0_outOf RX0 "outOf" 3 2 false (14, .iconst 61, 16, []) := (r_bipush dX0_outOf_14 rfl).row
theorem o8_16 : OkE cX0_outOf RX0 "outOf" 3 2 false (16, .imul, 17, []) := (r_imul dX0_outOf_16).row
theorem o8_17 : OkE cX0_outOf RX0 "outOf" 3 2 false (17, .iload 2, 18, []) := (r_iload_n dX0_outOf_17 rfl).row
theorem o8_18 : OkE cX0_outOf RX0 "outOf" 3 2 false (18, .iadd, 19, []) := (r_iadd dX0_outOf_18).row
theorem o8_19 : OkE cX0_outOf RX0 "outOf" 3 2 false (19, .laload, 20, []) := (r_lald dX0_outOf_19).row
theorem o8_20 : OkE cX0_outOf RX0 "outOf" 3 2 false (20, .goto 24, 23, []) := (r_goto dX0_outOf_20 rfl).row
theorem o8_23 : OkE cX0_outOf RX0 "outOf" 3 2 false (23, .sipush 0, 24, []) := (r_lconst dX0_outOf_23 rfl).row
theorem o8_24 : OkE cX0_outOf RX0 "outOf" 3 2 false (24, .lreturn, 25, [0, 1, 2]) := dX0_outOf_24
theorem ok8 : ∀ x ∈ k8, OkE cX0_outOf RX0 "outOf" 3 2 false x := List.forall_mem_cons.mpr ⟨o8_0, List.forall_mem_cons.mpr ⟨o8_1, List.forall_mem_cons.mpr ⟨o8_2, List.forall_mem_cons.mpr ⟨o8_3, List.forall_mem_cons.mpr ⟨o8_6, List.forall_mem_cons.mpr ⟨o8_9, List.forall_mem_cons.mpr ⟨o8_10, List.forall_mem_cons.mpr ⟨o8_13, List.forall_mem_cons.mpr ⟨o8_14, List.forall_mem_cons.mpr ⟨o8_16, List.forall_mem_cons.mpr ⟨o8_17, List.forall_mem_cons.mpr ⟨o8_18, List.forall_mem_cons.mpr ⟨o8_19, List.forall_mem_cons.mpr ⟨o8_20, List.forall_mem_cons.mpr ⟨o8_23, List.forall_mem_cons.mpr ⟨o8_24, fun _ h => absurd h List.not_mem_nil⟩⟩⟩⟩⟩⟩⟩⟩⟩⟩⟩⟩⟩⟩⟩⟩
theorem o9_0 : OkE cX0_givenTo RX0 "givenTo" 4 5 false (0, .aload 0, 1, []) := (r_aload_n dX0_givenTo_0 rfl).row
theorem o9_1 : OkE cX0_givenTo RX0 "givenTo" 4 5 false (1, .invokevirtual 13, 4, []) := ⟨rfl, c_V dX0_givenTo_1 wd_595 wd_597 wd_16 wd_67 wd_598 nmh_0⟩
theorem o9_4 : OkE cX0_givenTo RX0 "givenTo" 4 5 false (4, .aload 0, 5, []) := (r_aload_n dX0_givenTo_4 rfl).row
theorem o9_5 : OkE cX0_givenTo RX0 "givenTo" 4 5 false (5, .aload 1, 6, []) := (r_aload_n dX0_givenTo_5 rfl).row
theorem o9_6 : OkE cX0_givenTo RX0 "givenTo" 4 5 false (6, .iload 2, 7, []) := (r_iload_n dX0_givenTo_6 rfl).row
theorem o9_7 : OkE cX0_givenTo RX0 "givenTo" 4 5 false (7, .iconst (-9), 9, []) := (r_bipush dX0_givenTo_7 rfl).row
theorem o9_9 : OkE cX0_givenTo RX0 "givenTo" 4 5 false (9, .invokevirtual 14, 12, []) := ⟨rfl, c_V dX0_givenTo_9 wd_600 wd_602 wd_17 wd_67 wd_603 nmh_0⟩
theorem o9_12 : OkE cX0_givenTo RX0 "givenTo" 4 5 false (12, .iload 3, 13, []) := (r_iload_n dX0_givenTo_12 rfl).row
theorem o9_13 : OkE cX0_givenTo RX0 "givenTo" 4 5 false (13, .invokestatic 139, 16, []) := ⟨rfl, c_SN dX0_givenTo_13 wd_378 wd_379 wd_64 wd_380 nmh_8⟩
theorem o9_16 : OkE cX0_givenTo RX0 "givenTo" 4 5 false (16, .ifCond .eq 28, 19, []) := (r_if_eq dX0_givenTo_16 rfl).row
theorem o9_19 : OkE cX0_givenTo RX0 "givenTo" 4 5 false (19, .aload 0, 20, []) := (r_aload_n dX0_givenTo_19 rfl).row
theorem o9_20 : OkE cX0_givenTo RX0 "givenTo" 4 5 false (20, .invokeinterface 0 3, 23, []) := (r_get (C := RX0) (T := TX0) (N := 5) (ci := 0) (j := 3) (ref := RX0) dX0_givenTo_20 rfl inX0 (by decide) wd_125 rfl).row
theorem o9_23 : OkE cX0_givenTo RX0 "givenTo" 4 5 false (23, .iload 3, 24, []) := (r_iload_n dX0_givenTo_23 rfl).row
theorem o9_24 : OkE cX0_givenTo RX0 "givenTo" 4 5 false (24, .iaload, 25, []) := (r_iald dX0_givenTo_24).row
theorem o9_25 : OkE cX0_givenTo RX0 "givenTo" 4 5 false (25, .goto 29, 28, []) := (r_goto dX0_givenTo_25 rfl).row
theorem o9_28 : OkE cX0_givenTo RX0 "givenTo" 4 5 false (28, .iconst 0, 29, []) := (r_iconst dX0_givenTo_28 rfl).row
theorem o9_29 : OkE cX0_givenTo RX0 "givenTo" 4 5 false (29, .ireturn, 30, [0, 1, 2, 3]) := dX0_givenTo_29
theorem ok9 : ∀ x ∈ k9, OkE cX0_givenTo RX0 "givenTo" 4 5 false x := List.forall_mem_cons.mpr ⟨o9_0, List.forall_mem_cons.mpr ⟨o9_1, List.forall_mem_cons.mpr ⟨o9_4, List.forall_mem_cons.mpr ⟨o9_5, List.forall_mem_cons.mpr ⟨o9_6, List.forall_mem_cons.mpr ⟨o9_7, List.forall_mem_cons.mpr ⟨o9_9, List.forall_mem_cons.mpr ⟨o9_12, List.forall_mem_cons.mpr ⟨o9_13, List.forall_mem_cons.mpr ⟨o9_16, List.forall_mem_cons.mpr ⟨o9_19, List.forall_mem_cons.mpr ⟨o9_20, List.forall_mem_cons.mpr ⟨o9_23, List.forall_mem_cons.mpr ⟨o9_24, List.forall_mem_cons.mpr ⟨o9_25, List.forall_mem_cons.mpr ⟨o9_28, List.forall_mem_cons.mpr ⟨o9_29, fun _ h => absurd h List.not_mem_nil⟩⟩⟩⟩⟩⟩⟩⟩⟩⟩⟩⟩⟩⟩⟩⟩⟩
theorem o10_0 : OkE cX0_earnedBy RX0 "earnedBy" 3 5 false (0, .aload 0, 1, []) := (r_aload_n dX0_earnedBy_0 rfl).row
theorem o10_1 : OkE cX0_earnedBy RX0 "earnedBy" 3 5 false (1, .invokevirtual 13, 4, []) := ⟨rfl, c_V dX0_earnedBy_1 wd_595 wd_597 wd_16 wd_67 wd_598 nmh_0⟩
theorem o10_4 : OkE cX0_earnedBy RX0 "earnedBy" 3 5 false (4, .aload 0, 5, []) := (r_aload_n dX0_earnedBy_4 rfl).row
theorem o10_5 : OkE cX0_earnedBy RX0 "earnedBy" 3 5 false (5, .aload 1, 6, []) := (r_aload_n dX0_earnedBy_5 rfl).row
theorem o10_6 : OkE cX0_earnedBy RX0 "earnedBy" 3 5 false (6, .iload 2, 7, []) := (r_iload_n dX0_earnedBy_6 rfl).row
theorem o10_7 : OkE cX0_earnedBy RX0 "earnedBy" 3 5 false (7, .iconst (-9), 9, []) := (r_bipush dX0_earnedBy_7 rfl).row
theorem o10_9 : OkE cX0_earnedBy RX0 "earnedBy" 3 5 false (9, .invokevirtual 14, 12, []) := ⟨rfl, c_V dX0_earnedBy_9 wd_600 wd_602 wd_17 wd_67 wd_603 nmh_0⟩
theorem o10_12 : OkE cX0_earnedBy RX0 "earnedBy" 3 5 false (12, .aload 0, 13, []) := (r_aload_n dX0_earnedBy_12 rfl).row
theorem o10_13 : OkE cX0_earnedBy RX0 "earnedBy" 3 5 false (13, .aload 1, 14, []) := (r_aload_n dX0_earnedBy_13 rfl).row
theorem o10_14 : OkE cX0_earnedBy RX0 "earnedBy" 3 5 false (14, .iload 2, 15, []) := (r_iload_n dX0_earnedBy_14 rfl).row
theorem o10_15 : OkE cX0_earnedBy RX0 "earnedBy" 3 5 false (15, .invokevirtual 16, 18, []) := ⟨rfl, c_V dX0_earnedBy_15 wd_618 wd_620 wd_19 wd_67 wd_621 nmh_0⟩
theorem o10_18 : OkE cX0_earnedBy RX0 "earnedBy" 3 5 false (18, .lreturn, 19, []) := dX0_earnedBy_18
theorem ok10 : ∀ x ∈ k10, OkE cX0_earnedBy RX0 "earnedBy" 3 5 false x := List.forall_mem_cons.mpr ⟨o10_0, List.forall_mem_cons.mpr ⟨o10_1, List.forall_mem_cons.mpr ⟨o10_4, List.forall_mem_cons.mpr ⟨o10_5, List.forall_mem_cons.mpr ⟨o10_6, List.forall_mem_cons.mpr ⟨o10_7, List.forall_mem_cons.mpr ⟨o10_9, List.forall_mem_cons.mpr ⟨o10_12, List.forall_mem_cons.mpr ⟨o10_13, List.forall_mem_cons.mpr ⟨o10_14, List.forall_mem_cons.mpr ⟨o10_15, List.forall_mem_cons.mpr ⟨o10_18, fun _ h => absurd h List.not_mem_nil⟩⟩⟩⟩⟩⟩⟩⟩⟩⟩⟩⟩
theorem o11_0 : OkE cX0_earnedWithNephew RX0 "earnedWithNephew" 5 5 false (0, .aload 0, 1, []) := (r_aload_n dX0_earnedWithNephew_0 rfl).row
theorem o11_1 : OkE cX0_earnedWithNephew RX0 "earnedWithNephew" 5 5 false (1, .invokevirtual 13, 4, []) := ⟨rfl, c_V dX0_earnedWithNephew_1 wd_595 wd_597 wd_16 wd_67 wd_598 nmh_0⟩
theorem o11_4 : OkE cX0_earnedWithNephew RX0 "earnedWithNephew" 5 5 false (4, .iload 3, 5, []) := (r_iload_n dX0_earnedWithNephew_4 rfl).row
theorem o11_5 : OkE cX0_earnedWithNephew RX0 "earnedWithNephew" 5 5 false (5, .invokestatic 139, 8, []) := ⟨rfl, c_SN dX0_earnedWithNephew_5 wd_378 wd_379 wd_64 wd_380 nmh_8⟩
theorem o11_8 : OkE cX0_earnedWithNephew RX0 "earnedWithNephew" 5 5 false (8, .ifCond .eq 19, 11, []) := (r_if_eq dX0_earnedWithNephew_8 rfl).row
theorem o11_11 : OkE cX0_earnedWithNephew RX0 "earnedWithNephew" 5 5 false (11, .aload 0, 12, []) := (r_aload_n dX0_earnedWithNephew_11 rfl).row
theorem o11_12 : OkE cX0_earnedWithNephew RX0 "earnedWithNephew" 5 5 false (12, .invokeinterface 0 3, 15, []) := (r_get (C := RX0) (T := TX0) (N := 5) (ci := 0) (j := 3) (ref := RX0) dX0_earnedWithNephew_12 rfl inX0 (by decide) wd_125 rfl).row
theorem o11_15 : OkE cX0_earnedWithNephew RX0 "earnedWithNephew" 5 5 false (15, .iload 3, 16, []) := (r_iload_n dX0_earnedWithNephew_15 rfl).row
theorem o11_16 : OkE cX0_earnedWithNephew RX0 "earnedWithNephew" 5 5 false (16, .iload 4, 18, []) := (r_iload dX0_earnedWithNephew_16).row
theorem o11_18 : OkE cX0_earnedWithNephew RX0 "earnedWithNephew" 5 5 false (18, .iastore, 19, []) := r_iast dX0_earnedWithNephew_18
theorem o11_19 : OkE cX0_earnedWithNephew RX0 "earnedWithNephew" 5 5 false (19, .aload 0, 20, []) := (r_aload_n dX0_earnedWithNephew_19 rfl).row
theorem o11_20 : OkE cX0_earnedWithNephew RX0 "earnedWithNephew" 5 5 false (20, .aload 1, 21, []) := (r_aload_n dX0_earnedWithNephew_20 rfl).row
theorem o11_21 : OkE cX0_earnedWithNephew RX0 "earnedWithNephew" 5 5 false (21, .iload 2, 22, []) := (r_iload_n dX0_earnedWithNephew_21 rfl).row
theorem o11_22 : OkE cX0_earnedWithNephew RX0 "earnedWithNephew" 5 5 false (22, .iload 4, 24, []) := (r_iload dX0_earnedWithNephew_22).row
theorem o11_24 : OkE cX0_earnedWithNephew RX0 "earnedWithNephew" 5 5 false (24, .isub, 25, []) := (r_isub dX0_earnedWithNephew_24).row
theorem o11_25 : OkE cX0_earnedWithNephew RX0 "earnedWithNephew" 5 5 false (25, .iload 3, 26, []) := (r_iload_n dX0_earnedWithNephew_25 rfl).row
theorem o11_26 : OkE cX0_earnedWithNephew RX0 "earnedWithNephew" 5 5 false (26, .invokevirtual 14, 29, []) := ⟨rfl, c_V dX0_earnedWithNephew_26 wd_600 wd_602 wd_17 wd_67 wd_603 nmh_0⟩
theorem o11_29 : OkE cX0_earnedWithNephew RX0 "earnedWithNephew" 5 5 false (29, .aload 0, 30, []) := (r_aload_n dX0_earnedWithNephew_29 rfl).row
theorem o11_30 : OkE cX0_earnedWithNephew RX0 "earnedWithNephew" 5 5 false (30, .aload 1, 31, []) := (r_aload_n dX0_earnedWithNephew_30 rfl).row
theorem o11_31 : OkE cX0_earnedWithNephew RX0 "earnedWithNephew" 5 5 false (31, .iload 2, 32, []) := (r_iload_n dX0_earnedWithNephew_31 rfl).row
theorem o11_32 : OkE cX0_earnedWithNephew RX0 "earnedWithNephew" 5 5 false (32, .invokevirtual 16, 35, []) := ⟨rfl, c_V dX0_earnedWithNephew_32 wd_618 wd_620 wd_19 wd_67 wd_621 nmh_0⟩
theorem o11_35 : OkE cX0_earnedWithNephew RX0 "earnedWithNephew" 5 5 false (35, .lreturn, 36, []) := dX0_earnedWithNephew_35
theorem ok11 : ∀ x ∈ k11, OkE cX0_earnedWithNephew RX0 "earnedWithNephew" 5 5 false x := List.forall_mem_cons.mpr ⟨o11_0, List.forall_mem_cons.mpr ⟨o11_1, List.forall_mem_cons.mpr ⟨o11_4, List.forall_mem_cons.mpr ⟨o11_5, List.forall_mem_cons.mpr ⟨o11_8, List.forall_mem_cons.mpr ⟨o11_11, List.forall_mem_cons.mpr ⟨o11_12, List.forall_mem_cons.mpr ⟨o11_15, List.forall_mem_cons.mpr ⟨o11_16, List.forall_mem_cons.mpr ⟨o11_18, List.forall_mem_cons.mpr ⟨o11_19, List.forall_mem_cons.mpr ⟨o11_20, List.forall_mem_cons.mpr ⟨o11_21, List.forall_mem_cons.mpr ⟨o11_22, List.forall_mem_cons.mpr ⟨o11_24, List.forall_mem_cons.mpr ⟨o11_25, List.forall_mem_cons.mpr ⟨o11_26, List.forall_mem_cons.mpr ⟨o11_29, List.forall_mem_cons.mpr ⟨o11_30, List.forall_mem_cons.mpr ⟨o11_31, List.forall_mem_cons.mpr ⟨o11_32, List.forall_mem_cons.mpr ⟨o11_35, fun _ h => absurd h List.not_mem_nil⟩⟩⟩⟩⟩⟩⟩⟩⟩⟩⟩⟩⟩⟩⟩⟩⟩⟩⟩⟩⟩⟩
theorem o12_0 : OkE cX0_bestPrint RX0 "bestPrint" 8 4 false (0, .aload 0, 1, []) := (r_aload_n dX0_bestPrint_0 rfl).row
theorem o12_1 : OkE cX0_bestPrint RX0 "bestPrint" 8 4 false (1, .invokevirtual 13, 4, []) := ⟨rfl, c_V dX0_bestPrint_1 wd_595 wd_597 wd_16 wd_67 wd_598 nmh_0⟩
theorem o12_4 : OkE cX0_bestPrint RX0 "bestPrint" 8 4 false (4, .iconst 0, 5, []) := (r_iconst dX0_bestPrint_4 rfl).row
theorem o12_5 : OkE cX0_bestPrint RX0 "bestPrint" 8 4 false (5, .istore 2, 6, []) := (r_istore_n dX0_bestPrint_5 rfl).row
theorem o12_6 : OkE cX0_bestPrint RX0 "bestPrint" 8 4 false (6, .aload 0, 7, []) := (r_aload_n dX0_bestPrint_6 rfl).row
theorem o12_7 : OkE cX0_bestPrint RX0 "bestPrint" 8 4 false (7, .aload 1, 8, []) := (r_aload_n dX0_bestPrint_7 rfl).row
theorem o12_8 : OkE cX0_bestPrint RX0 "bestPrint" 8 4 false (8, .iconst 0, 9, []) := (r_iconst dX0_bestPrint_8 rfl).row
theorem o12_9 : OkE cX0_bestPrint RX0 "bestPrint" 8 4 false (9, .invokevirtual 16, 12, []) := ⟨rfl, c_V dX0_bestPrint_9 wd_618 wd_620 wd_19 wd_67 wd_621 nmh_0⟩
theorem o12_12 : OkE cX0_bestPrint RX0 "bestPrint" 8 4 false (12, .lstore 3, 13, []) := (r_lstore_n dX0_bestPrint_12 rfl).row
theorem o12_13 : OkE cX0_bestPrint RX0 "bestPrint" 8 4 false (13, .iconst 1, 14, []) := (r_iconst dX0_bestPrint_13 rfl).row
theorem o12_14 : OkE cX0_bestPrint RX0 "bestPrint" 8 4 false (14, .istore 5, 16, []) := (r_istore dX0_bestPrint_14).row
theorem o12_16 : OkE cX0_bestPrint RX0 "bestPrint" 8 4 false (16, .iload 5, 18, [6]) := (r_iload dX0_bestPrint_16).row
theorem o12_18 : OkE cX0_bestPrint RX0 "bestPrint" 8 4 false (18, .iconst 60, 20, []) := (r_bipush dX0_bestPrint_18 rfl).row
theorem o12_20 : OkE cX0_bestPrint RX0 "bestPrint" 8 4 false (20, .if_icmp .gt 58, 23, []) := (r_icmp_gt dX0_bestPrint_20 rfl).row
theorem o12_23 : OkE cX0_bestPrint RX0 "bestPrint" 8 4 false (23, .aload 0, 24, []) := (r_aload_n dX0_bestPrint_23 rfl).row
theorem o12_24 : OkE cX0_bestPrint RX0 "bestPrint" 8 4 false (24, .aload 1, 25, []) := (r_aload_n dX0_bestPrint_24 rfl).row
theorem o12_25 : OkE cX0_bestPrint RX0 "bestPrint" 8 4 false (25, .iconst (-9), 27, []) := (r_bipush dX0_bestPrint_25 rfl).row
theorem o12_27 : OkE cX0_bestPrint RX0 "bestPrint" 8 4 false (27, .invokevirtual 15, 30, []) := ⟨rfl, c_V dX0_bestPrint_27 wd_604 wd_606 wd_18 wd_67 wd_607 nmh_0⟩
theorem o12_30 : OkE cX0_bestPrint RX0 "bestPrint" 8 4 false (30, .aload 0, 31, []) := (r_aload_n dX0_bestPrint_30 rfl).row
theorem o12_31 : OkE cX0_bestPrint RX0 "bestPrint" 8 4 false (31, .aload 1, 32, []) := (r_aload_n dX0_bestPrint_31 rfl).row
theorem o12_32 : OkE cX0_bestPrint RX0 "bestPrint" 8 4 false (32, .iload 5, 34, []) := (r_iload dX0_bestPrint_32).row
theorem o12_34 : OkE cX0_bestPrint RX0 "bestPrint" 8 4 false (34, .invokevirtual 16, 37, []) := ⟨rfl, c_V dX0_bestPrint_34 wd_618 wd_620 wd_19 wd_67 wd_621 nmh_0⟩
theorem o12_37 : OkE cX0_bestPrint RX0 "bestPrint" 8 4 false (37, .lstore 6, 39, []) := (r_lstore dX0_bestPrint_37).row
theorem o12_39 : OkE cX0_bestPrint RX0 "bestPrint" 8 4 false (39, .lload 6, 41, []) := (r_lload dX0_bestPrint_39).row
theorem o12_41 : OkE cX0_bestPrint RX0 "bestPrint" 8 4 false (41, .lload 3, 42, []) := (r_lload_n dX0_bestPrint_41 rfl).row
theorem o12_42 : OkE cX0_bestPrint RX0 "bestPrint" 8 4 false (42, .lcmp, 43, []) := (r_lcmp dX0_bestPrint_42).row
theorem o12_43 : OkE cX0_bestPrint RX0 "bestPrint" 8 4 false (43, .ifCond .le 52, 46, []) := (r_if_le dX0_bestPrint_43 rfl).row
theorem o12_46 : OkE cX0_bestPrint RX0 "bestPrint" 8 4 false (46, .lload 6, 48, []) := (r_lload dX0_bestPrint_46).row
theorem o12_48 : OkE cX0_bestPrint RX0 "bestPrint" 8 4 false (48, .lstore 3, 49, []) := (r_lstore_n dX0_bestPrint_48 rfl).row
theorem o12_49 : OkE cX0_bestPrint RX0 "bestPrint" 8 4 false (49, .iload 5, 51, []) := (r_iload dX0_bestPrint_49).row
theorem o12_51 : OkE cX0_bestPrint RX0 "bestPrint" 8 4 false (51, .istore 2, 52, []) := (r_istore_n dX0_bestPrint_51 rfl).row
theorem o12_52 : OkE cX0_bestPrint RX0 "bestPrint" 8 4 false (52, .iinc 5 1, 55, [6]) := (r_iinc dX0_bestPrint_52 rfl).row
theorem o12_55 : OkE cX0_bestPrint RX0 "bestPrint" 8 4 false (55, .goto 16, 58, []) := (r_goto dX0_bestPrint_55 rfl).row
theorem o12_58 : OkE cX0_bestPrint RX0 "bestPrint" 8 4 false (58, .iload 2, 59, []) := (r_iload_n dX0_bestPrint_58 rfl).row
theorem o12_59 : OkE cX0_bestPrint RX0 "bestPrint" 8 4 false (59, .ireturn, 60, []) := dX0_bestPrint_59
theorem ok12 : ∀ x ∈ k12, OkE cX0_bestPrint RX0 "bestPrint" 8 4 false x := List.forall_mem_cons.mpr ⟨o12_0, List.forall_mem_cons.mpr ⟨o12_1, List.forall_mem_cons.mpr ⟨o12_4, List.forall_mem_cons.mpr ⟨o12_5, List.forall_mem_cons.mpr ⟨o12_6, List.forall_mem_cons.mpr ⟨o12_7, List.forall_mem_cons.mpr ⟨o12_8, List.forall_mem_cons.mpr ⟨o12_9, List.forall_mem_cons.mpr ⟨o12_12, List.forall_mem_cons.mpr ⟨o12_13, List.forall_mem_cons.mpr ⟨o12_14, List.forall_mem_cons.mpr ⟨o12_16, List.forall_mem_cons.mpr ⟨o12_18, List.forall_mem_cons.mpr ⟨o12_20, List.forall_mem_cons.mpr ⟨o12_23, List.forall_mem_cons.mpr ⟨o12_24, List.forall_mem_cons.mpr ⟨o12_25, List.forall_mem_cons.mpr ⟨o12_27, List.forall_mem_cons.mpr ⟨o12_30, List.forall_mem_cons.mpr ⟨o12_31, List.forall_mem_cons.mpr ⟨o12_32, List.forall_mem_cons.mpr ⟨o12_34, List.forall_mem_cons.mpr ⟨o12_37, List.forall_mem_cons.mpr ⟨o12_39, List.forall_mem_cons.mpr ⟨o12_41, List.forall_mem_cons.mpr ⟨o12_42, List.forall_mem_cons.mpr ⟨o12_43, List.forall_mem_cons.mpr ⟨o12_46, List.forall_mem_cons.mpr ⟨o12_48, List.forall_mem_cons.mpr ⟨o12_49, List.forall_mem_cons.mpr ⟨o12_51, List.forall_mem_cons.mpr ⟨o12_52, List.forall_mem_cons.mpr ⟨o12_55, List.forall_mem_cons.mpr ⟨o12_58, List.forall_mem_cons.mpr ⟨o12_59, fun _ h => absurd h List.not_mem_nil⟩⟩⟩⟩⟩⟩⟩⟩⟩⟩⟩⟩⟩⟩⟩⟩⟩⟩⟩⟩⟩⟩⟩⟩⟩⟩⟩⟩⟩⟩⟩⟩⟩⟩⟩
theorem o13_0 : OkE cX0_giveNone RX0 "giveNone" 1 1 false (0, .aload 0, 1, []) := (r_aload_n dX0_giveNone_0 rfl).row
theorem o13_1 : OkE cX0_giveNone RX0 "giveNone" 1 1 false (1, .invokeinterface 0 3, 4, []) := (r_get (C := RX0) (T := TX0) (N := 5) (ci := 0) (j := 3) (ref := RX0) dX0_giveNone_1 rfl inX0 (by decide) wd_125 rfl).row
theorem o13_4 : OkE cX0_giveNone RX0 "giveNone" 1 1 false (4, .iconst 0, 5, []) := (r_iconst dX0_giveNone_4 rfl).row
theorem o13_5 : OkE cX0_giveNone RX0 "giveNone" 1 1 false (5, .invokestatic 222, 8, []) := ⟨rfl, c_S dX0_giveNone_5 wd_599 wd_194 wd_71 wd_195 nmh_10⟩
theorem o13_8 : OkE cX0_giveNone RX0 "giveNone" 1 1 false (8, .return_, 9, []) := dX0_giveNone_8
theorem ok13 : ∀ x ∈ k13, OkE cX0_giveNone RX0 "giveNone" 1 1 false x := List.forall_mem_cons.mpr ⟨o13_0, List.forall_mem_cons.mpr ⟨o13_1, List.forall_mem_cons.mpr ⟨o13_4, List.forall_mem_cons.mpr ⟨o13_5, List.forall_mem_cons.mpr ⟨o13_8, fun _ h => absurd h List.not_mem_nil⟩⟩⟩⟩⟩
theorem o14_0 : OkE cX0_giveAll RX0 "giveAll" 5 4 false (0, .iconst 0, 1, []) := (r_iconst dX0_giveAll_0 rfl).row
theorem o14_1 : OkE cX0_giveAll RX0 "giveAll" 5 4 false (1, .istore 4, 3, []) := (r_istore dX0_giveAll_1).row
theorem o14_3 : OkE cX0_giveAll RX0 "giveAll" 5 4 false (3, .iload 4, 5, []) := (r_iload dX0_giveAll_3).row
theorem o14_5 : OkE cX0_giveAll RX0 "giveAll" 5 4 false (5, .iload 2, 6, []) := (r_iload_n dX0_giveAll_5 rfl).row
theorem o14_6 : OkE cX0_giveAll RX0 "giveAll" 5 4 false (6, .if_icmp .ge 21, 9, []) := (r_icmp_ge dX0_giveAll_6 rfl).row
theorem o14_9 : OkE cX0_giveAll RX0 "giveAll" 5 4 false (9, .aload 0, 10, []) := (r_aload_n dX0_giveAll_9 rfl).row
theorem o14_10 : OkE cX0_giveAll RX0 "giveAll" 5 4 false (10, .aload 1, 11, []) := (r_aload_n dX0_giveAll_10 rfl).row
theorem o14_11 : OkE cX0_giveAll RX0 "giveAll" 5 4 false (11, .iload 3, 12, []) := (r_iload_n dX0_giveAll_11 rfl).row
theorem o14_12 : OkE cX0_giveAll RX0 "giveAll" 5 4 false (12, .invokevirtual 15, 15, []) := ⟨rfl, c_V dX0_giveAll_12 wd_604 wd_606 wd_18 wd_67 wd_607 nmh_0⟩
theorem o14_15 : OkE cX0_giveAll RX0 "giveAll" 5 4 false (15, .iinc 4 1, 18, []) := (r_iinc dX0_giveAll_15 rfl).row
theorem o14_18 : OkE cX0_giveAll RX0 "giveAll" 5 4 false (18, .goto 3, 21, []) := (r_goto dX0_giveAll_18 rfl).row
theorem o14_21 : OkE cX0_giveAll RX0 "giveAll" 5 4 false (21, .return_, 22, []) := dX0_giveAll_21
theorem ok14 : ∀ x ∈ k14, OkE cX0_giveAll RX0 "giveAll" 5 4 false x := List.forall_mem_cons.mpr ⟨o14_0, List.forall_mem_cons.mpr ⟨o14_1, List.forall_mem_cons.mpr ⟨o14_3, List.forall_mem_cons.mpr ⟨o14_5, List.forall_mem_cons.mpr ⟨o14_6, List.forall_mem_cons.mpr ⟨o14_9, List.forall_mem_cons.mpr ⟨o14_10, List.forall_mem_cons.mpr ⟨o14_11, List.forall_mem_cons.mpr ⟨o14_12, List.forall_mem_cons.mpr ⟨o14_15, List.forall_mem_cons.mpr ⟨o14_18, List.forall_mem_cons.mpr ⟨o14_21, fun _ h => absurd h List.not_mem_nil⟩⟩⟩⟩⟩⟩⟩⟩⟩⟩⟩⟩
theorem o15_0 : OkE cX0_giveOne RX0 "giveOne" 5 3 false (0, .iconst (-9), 2, []) := (r_bipush dX0_giveOne_0 rfl).row
theorem o15_2 : OkE cX0_giveOne RX0 "giveOne" 5 3 false (2, .istore 3, 3, []) := (r_istore_n dX0_giveOne_2 rfl).row
theorem o15_3 : OkE cX0_giveOne RX0 "giveOne" 5 3 false (3, .iconst 0, 4, []) := (r_iconst dX0_giveOne_3 rfl).row
theorem o15_4 : OkE cX0_giveOne RX0 "giveOne" 5 3 false (4, .istore 4, 6, []) := (r_istore dX0_giveOne_4).row
theorem o15_6 : OkE cX0_giveOne RX0 "giveOne" 5 3 false (6, .iload 4, 8, []) := (r_iload dX0_giveOne_6).row
theorem o15_8 : OkE cX0_giveOne RX0 "giveOne" 5 3 false (8, .aload 1, 9, []) := (r_aload_n dX0_giveOne_8 rfl).row
theorem o15_9 : OkE cX0_giveOne RX0 "giveOne" 5 3 false (9, .invokeinterface 6 4, 12, []) := (r_getN (C := RX6) (T := TX6) (N := 8) (ci := 6) (j := 4) (ref := RX6) dX0_giveOne_9 rfl inX6 (by decide) wd_306 rfl).row
theorem o15_12 : OkE cX0_giveOne RX0 "giveOne" 5 3 false (12, .if_icmp .ge 71, 15, []) := (r_icmp_ge dX0_giveOne_12 rfl).row
theorem o15_15 : OkE cX0_giveOne RX0 "giveOne" 5 3 false (15, .iload 4, 17, []) := (r_iload dX0_giveOne_15).row
theorem o15_17 : OkE cX0_giveOne RX0 "giveOne" 5 3 false (17, .iconst 3, 18, []) := (r_iconst dX0_giveOne_17 rfl).row
theorem o15_18 : OkE cX0_giveOne RX0 "giveOne" 5 3 false (18, .if_icmp .ge 71, 21, []) := (r_icmp_ge dX0_giveOne_18 rfl).row
theorem o15_21 : OkE cX0_giveOne RX0 "giveOne" 5 3 false (21, .iload 4, 23, []) := (r_iload dX0_giveOne_21).row
theorem o15_23 : OkE cX0_giveOne RX0 "giveOne" 5 3 false (23, .iload 2, 24, []) := (r_iload_n dX0_giveOne_23 rfl).row
theorem o15_24 : OkE cX0_giveOne RX0 "giveOne" 5 3 false (24, .if_icmp .eq 65, 27, []) := (r_icmp_eq dX0_giveOne_24 rfl).row
theorem o15_27 : OkE cX0_giveOne RX0 "giveOne" 5 3 false (27, .iload 3, 28, []) := (r_iload_n dX0_giveOne_27 rfl).row
theorem o15_28 : OkE cX0_giveOne RX0 "giveOne" 5 3 false (28, .invokestatic 139, 31, []) := ⟨rfl, c_SN dX0_giveOne_28 wd_378 wd_379 wd_64 wd_380 nmh_8⟩
theorem o15_31 : OkE cX0_giveOne RX0 "giveOne" 5 3 false (31, .ifCond .eq 62, 34, []) := (r_if_eq dX0_giveOne_31 rfl).row
theorem o15_34 : OkE cX0_giveOne RX0 "giveOne" 5 3 false (34, .aload 0, 35, []) := (r_aload_n dX0_giveOne_34 rfl).row
theorem o15_35 : OkE cX0_giveOne RX0 "giveOne" 5 3 false (35, .iload 4, 37, []) := (r_iload dX0_giveOne_35).row
theorem o15_37 : OkE cX0_giveOne RX0 "giveOne" 5 3 false (37, .aload 0, 38, []) := (r_aload_n dX0_giveOne_37 rfl).row
theorem o15_38 : OkE cX0_giveOne RX0 "giveOne" 5 3 false (38, .invokeinterface 0 3, 41, []) := (r_get (C := RX0) (T := TX0) (N := 5) (ci := 0) (j := 3) (ref := RX0) dX0_giveOne_38 rfl inX0 (by decide) wd_125 rfl).row
theorem o15_41 : OkE cX0_giveOne RX0 "giveOne" 5 3 false (41, .iload 4, 43, []) := (r_iload dX0_giveOne_41).row
theorem o15_43 : OkE cX0_giveOne RX0 "giveOne" 5 3 false (43, .iaload, 44, []) := (r_iald dX0_giveOne_43).row
theorem o15_44 : OkE cX0_giveOne RX0 "giveOne" 5 3 false (44, .invokevirtual 8, 47, []) := ⟨rfl, c_V dX0_giveOne_44 wd_608 wd_584 wd_585 wd_67 wd_586 nmh_0⟩
theorem o15_47 : OkE cX0_giveOne RX0 "giveOne" 5 3 false (47, .aload 0, 48, []) := (r_aload_n dX0_giveOne_47 rfl).row
theorem o15_48 : OkE cX0_giveOne RX0 "giveOne" 5 3 false (48, .iload 3, 49, []) := (r_iload_n dX0_giveOne_48 rfl).row
theorem o15_49 : OkE cX0_giveOne RX0 "giveOne" 5 3 false (49, .aload 0, 50, []) := (r_aload_n dX0_giveOne_49 rfl).row
theorem o15_50 : OkE cX0_giveOne RX0 "giveOne" 5 3 false (50, .invokeinterface 0 3, 53, []) := (r_get (C := RX0) (T := TX0) (N := 5) (ci := 0) (j := 3) (ref := RX0) dX0_giveOne_50 rfl inX0 (by decide) wd_125 rfl).row
theorem o15_53 : OkE cX0_giveOne RX0 "giveOne" 5 3 false (53, .iload 3, 54, []) := (r_iload_n dX0_giveOne_53 rfl).row
theorem o15_54 : OkE cX0_giveOne RX0 "giveOne" 5 3 false (54, .iaload, 55, []) := (r_iald dX0_giveOne_54).row
theorem o15_55 : OkE cX0_giveOne RX0 "giveOne" 5 3 false (55, .invokevirtual 8, 58, []) := ⟨rfl, c_V dX0_giveOne_55 wd_608 wd_584 wd_585 wd_67 wd_586 nmh_0⟩
theorem o15_58 : OkE cX0_giveOne RX0 "giveOne" 5 3 false (58, .lcmp, 59, []) := (r_lcmp dX0_giveOne_58).row
theorem o15_59 : OkE cX0_giveOne RX0 "giveOne" 5 3 false (59, .ifCond .le 65, 62, []) := (r_if_le dX0_giveOne_59 rfl).row
theorem o15_62 : OkE cX0_giveOne RX0 "giveOne" 5 3 false (62, .iload 4, 64, [3]) := (r_iload dX0_giveOne_62).row
theorem o15_64 : OkE cX0_giveOne RX0 "giveOne" 5 3 false (64, .istore 3, 65, []) := (r_istore_n dX0_giveOne_64 rfl).row
theorem o15_65 : OkE cX0_giveOne RX0 "giveOne" 5 3 false (65, .iinc 4 1, 68, []) := (r_iinc dX0_giveOne_65 rfl).row
theorem o15_68 : OkE cX0_giveOne RX0 "giveOne" 5 3 false (68, .goto 6, 71, []) := (r_goto dX0_giveOne_68 rfl).row
theorem o15_71 : OkE cX0_giveOne RX0 "giveOne" 5 3 false (71, .iload 3, 72, [1, 2, 4]) := (r_iload_n dX0_giveOne_71 rfl).row
theorem o15_72 : OkE cX0_giveOne RX0 "giveOne" 5 3 false (72, .invokestatic 139, 75, []) := ⟨rfl, c_SN dX0_giveOne_72 wd_378 wd_379 wd_64 wd_380 nmh_8⟩
theorem o15_75 : OkE cX0_giveOne RX0 "giveOne" 5 3 false (75, .ifCond .eq 88, 78, []) := (r_if_eq dX0_giveOne_75 rfl).row
theorem o15_78 : OkE cX0_giveOne RX0 "giveOne" 5 3 false (78, .aload 0, 79, []) := (r_aload_n dX0_giveOne_78 rfl).row
theorem o15_79 : OkE cX0_giveOne RX0 "giveOne" 5 3 false (79, .invokeinterface 0 3, 82, []) := (r_get (C := RX0) (T := TX0) (N := 5) (ci := 0) (j := 3) (ref := RX0) dX0_giveOne_79 rfl inX0 (by decide) wd_125 rfl).row
theorem o15_82 : OkE cX0_giveOne RX0 "giveOne" 5 3 false (82, .iload 3, 83, []) := (r_iload_n dX0_giveOne_82 rfl).row
theorem o15_83 : OkE cX0_giveOne RX0 "giveOne" 5 3 false (83, .dup2, 84, []) := (r_dup2 dX0_giveOne_83).row
theorem o15_84 : OkE cX0_giveOne RX0 "giveOne" 5 3 false (84, .iaload, 85, []) := (r_iald dX0_giveOne_84).row
theorem o15_85 : OkE cX0_giveOne RX0 "giveOne" 5 3 false (85, .iconst 1, 86, []) := (r_iconst dX0_giveOne_85 rfl).row
theorem o15_86 : OkE cX0_giveOne RX0 "giveOne" 5 3 false (86, .iadd, 87, []) := (r_iadd dX0_giveOne_86).row
theorem o15_87 : OkE cX0_giveOne RX0 "giveOne" 5 3 false (87, .iastore, 88, []) := r_iast dX0_giveOne_87
theorem o15_88 : OkE cX0_giveOne RX0 "giveOne" 5 3 false (88, .return_, 89, [0, 1, 2, 3, 4]) := dX0_giveOne_88
theorem ok15 : ∀ x ∈ k15, OkE cX0_giveOne RX0 "giveOne" 5 3 false x := List.forall_mem_cons.mpr ⟨o15_0, List.forall_mem_cons.mpr ⟨o15_2, List.forall_mem_cons.mpr ⟨o15_3, List.forall_mem_cons.mpr ⟨o15_4, List.forall_mem_cons.mpr ⟨o15_6, List.forall_mem_cons.mpr ⟨o15_8, List.forall_mem_cons.mpr ⟨o15_9, List.forall_mem_cons.mpr ⟨o15_12, List.forall_mem_cons.mpr ⟨o15_15, List.forall_mem_cons.mpr ⟨o15_17, List.forall_mem_cons.mpr ⟨o15_18, List.forall_mem_cons.mpr ⟨o15_21, List.forall_mem_cons.mpr ⟨o15_23, List.forall_mem_cons.mpr ⟨o15_24, List.forall_mem_cons.mpr ⟨o15_27, List.forall_mem_cons.mpr ⟨o15_28, List.forall_mem_cons.mpr ⟨o15_31, List.forall_mem_cons.mpr ⟨o15_34, List.forall_mem_cons.mpr ⟨o15_35, List.forall_mem_cons.mpr ⟨o15_37, List.forall_mem_cons.mpr ⟨o15_38, List.forall_mem_cons.mpr ⟨o15_41, List.forall_mem_cons.mpr ⟨o15_43, List.forall_mem_cons.mpr ⟨o15_44, List.forall_mem_cons.mpr ⟨o15_47, List.forall_mem_cons.mpr ⟨o15_48, List.forall_mem_cons.mpr ⟨o15_49, List.forall_mem_cons.mpr ⟨o15_50, List.forall_mem_cons.mpr ⟨o15_53, List.forall_mem_cons.mpr ⟨o15_54, List.forall_mem_cons.mpr ⟨o15_55, List.forall_mem_cons.mpr ⟨o15_58, List.forall_mem_cons.mpr ⟨o15_59, List.forall_mem_cons.mpr ⟨o15_62, List.forall_mem_cons.mpr ⟨o15_64, List.forall_mem_cons.mpr ⟨o15_65, List.forall_mem_cons.mpr ⟨o15_68, List.forall_mem_cons.mpr ⟨o15_71, List.forall_mem_cons.mpr ⟨o15_72, List.forall_mem_cons.mpr ⟨o15_75, List.forall_mem_cons.mpr ⟨o15_78, List.forall_mem_cons.mpr ⟨o15_79, List.forall_mem_cons.mpr ⟨o15_82, List.forall_mem_cons.mpr ⟨o15_83, List.forall_mem_cons.mpr ⟨o15_84, List.forall_mem_cons.mpr ⟨o15_85, List.forall_mem_cons.mpr ⟨o15_86, List.forall_mem_cons.mpr ⟨o15_87, List.forall_mem_cons.mpr ⟨o15_88, fun _ h => absurd h List.not_mem_nil⟩⟩⟩⟩⟩⟩⟩⟩⟩⟩⟩⟩⟩⟩⟩⟩⟩⟩⟩⟩⟩⟩⟩⟩⟩⟩⟩⟩⟩⟩⟩⟩⟩⟩⟩⟩⟩⟩⟩⟩⟩⟩⟩⟩⟩⟩⟩⟩⟩
theorem o16_0 : OkE cX0_earnedAsGiven RX0 "earnedAsGiven" 7 3 false (0, .sipush 0, 1, []) := (r_lconst dX0_earnedAsGiven_0 rfl).row
theorem o16_1 : OkE cX0_earnedAsGiven RX0 "earnedAsGiven" 7 3 false (1, .lstore 3, 2, []) := (r_lstore_n dX0_earnedAsGiven_1 rfl).row
theorem o16_2 : OkE cX0_earnedAsGiven RX0 "earnedAsGiven" 7 3 false (2, .iconst 0, 3, []) := (r_iconst dX0_earnedAsGiven_2 rfl).row
theorem o16_3 : OkE cX0_earnedAsGiven RX0 "earnedAsGiven" 7 3 false (3, .istore 5, 5, []) := (r_istore dX0_earnedAsGiven_3).row
theorem o16_5 : OkE cX0_earnedAsGiven RX0 "earnedAsGiven" 7 3 false (5, .iload 5, 7, []) := (r_iload dX0_earnedAsGiven_5).row
theorem o16_7 : OkE cX0_earnedAsGiven RX0 "earnedAsGiven" 7 3 false (7, .aload 1, 8, []) := (r_aload_n dX0_earnedAsGiven_7 rfl).row
theorem o16_8 : OkE cX0_earnedAsGiven RX0 "earnedAsGiven" 7 3 false (8, .invokeinterface 6 4, 11, []) := (r_getN (C := RX6) (T := TX6) (N := 8) (ci := 6) (j := 4) (ref := RX6) dX0_earnedAsGiven_8 rfl inX6 (by decide) wd_306 rfl).row
theorem o16_11 : OkE cX0_earnedAsGiven RX0 "earnedAsGiven" 7 3 false (11, .if_icmp .ge 42, 14, []) := (r_icmp_ge dX0_earnedAsGiven_11 rfl).row
theorem o16_14 : OkE cX0_earnedAsGiven RX0 "earnedAsGiven" 7 3 false (14, .iload 5, 16, []) := (r_iload dX0_earnedAsGiven_14).row
theorem o16_16 : OkE cX0_earnedAsGiven RX0 "earnedAsGiven" 7 3 false (16, .iconst 3, 17, []) := (r_iconst dX0_earnedAsGiven_16 rfl).row
theorem o16_17 : OkE cX0_earnedAsGiven RX0 "earnedAsGiven" 7 3 false (17, .if_icmp .ge 42, 20, []) := (r_icmp_ge dX0_earnedAsGiven_17 rfl).row
theorem o16_20 : OkE cX0_earnedAsGiven RX0 "earnedAsGiven" 7 3 false (20, .lload 3, 21, []) := (r_lload_n dX0_earnedAsGiven_20 rfl).row
theorem o16_21 : OkE cX0_earnedAsGiven RX0 "earnedAsGiven" 7 3 false (21, .aload 0, 22, []) := (r_aload_n dX0_earnedAsGiven_21 rfl).row
theorem o16_22 : OkE cX0_earnedAsGiven RX0 "earnedAsGiven" 7 3 false (22, .iload 5, 24, []) := (r_iload dX0_earnedAsGiven_22).row
theorem o16_24 : OkE cX0_earnedAsGiven RX0 "earnedAsGiven" 7 3 false (24, .aload 0, 25, []) := (r_aload_n dX0_earnedAsGiven_24 rfl).row
theorem o16_25 : OkE cX0_earnedAsGiven RX0 "earnedAsGiven" 7 3 false (25, .invokeinterface 0 3, 28, []) := (r_get (C := RX0) (T := TX0) (N := 5) (ci := 0) (j := 3) (ref := RX0) dX0_earnedAsGiven_25 rfl inX0 (by decide) wd_125 rfl).row
theorem o16_28 : OkE cX0_earnedAsGiven RX0 "earnedAsGiven" 7 3 false (28, .iload 5, 30, []) := (r_iload dX0_earnedAsGiven_28).row
theorem o16_30 : OkE cX0_earnedAsGiven RX0 "earnedAsGiven" 7 3 false (30, .iaload, 31, []) := (r_iald dX0_earnedAsGiven_30).row
theorem o16_31 : OkE cX0_earnedAsGiven RX0 "earnedAsGiven" 7 3 false (31, .invokevirtual 7, 34, []) := ⟨rfl, c_V dX0_earnedAsGiven_31 wd_622 wd_563 wd_564 wd_67 wd_565 nmh_0⟩
theorem o16_34 : OkE cX0_earnedAsGiven RX0 "earnedAsGiven" 7 3 false (34, .ladd, 35, []) := (r_ladd dX0_earnedAsGiven_34).row
theorem o16_35 : OkE cX0_earnedAsGiven RX0 "earnedAsGiven" 7 3 false (35, .lstore 3, 36, []) := (r_lstore_n dX0_earnedAsGiven_35 rfl).row
theorem o16_36 : OkE cX0_earnedAsGiven RX0 "earnedAsGiven" 7 3 false (36, .iinc 5 1, 39, []) := (r_iinc dX0_earnedAsGiven_36 rfl).row
theorem o16_39 : OkE cX0_earnedAsGiven RX0 "earnedAsGiven" 7 3 false (39, .goto 5, 42, []) := (r_goto dX0_earnedAsGiven_39 rfl).row
theorem o16_42 : OkE cX0_earnedAsGiven RX0 "earnedAsGiven" 7 3 false (42, .iload 2, 43, [5]) := (r_iload_n dX0_earnedAsGiven_42 rfl).row
theorem o16_43 : OkE cX0_earnedAsGiven RX0 "earnedAsGiven" 7 3 false (43, .i2l, 44, []) := (r_i2l dX0_earnedAsGiven_43).row
theorem o16_44 : OkE cX0_earnedAsGiven RX0 "earnedAsGiven" 7 3 false (44, .aload 0, 45, []) := (r_aload_n dX0_earnedAsGiven_44 rfl).row
theorem o16_45 : OkE cX0_earnedAsGiven RX0 "earnedAsGiven" 7 3 false (45, .invokeinterface 0 4, 48, []) := (r_get (C := RX0) (T := TX0) (N := 5) (ci := 0) (j := 4) (ref := RX0) dX0_earnedAsGiven_45 rfl inX0 (by decide) wd_126 rfl).row
theorem o16_48 : OkE cX0_earnedAsGiven RX0 "earnedAsGiven" 7 3 false (48, .lmul, 49, []) := (r_lmul dX0_earnedAsGiven_48).row
theorem o16_49 : OkE cX0_earnedAsGiven RX0 "earnedAsGiven" 7 3 false (49, .lload 3, 50, []) := (r_lload_n dX0_earnedAsGiven_49 rfl).row
theorem o16_50 : OkE cX0_earnedAsGiven RX0 "earnedAsGiven" 7 3 false (50, .lsub, 51, []) := (r_lsub dX0_earnedAsGiven_50).row
theorem o16_51 : OkE cX0_earnedAsGiven RX0 "earnedAsGiven" 7 3 false (51, .lstore 5, 53, []) := (r_lstore dX0_earnedAsGiven_51).row
theorem o16_53 : OkE cX0_earnedAsGiven RX0 "earnedAsGiven" 7 3 false (53, .lload 3, 54, []) := (r_lload_n dX0_earnedAsGiven_53 rfl).row
theorem o16_54 : OkE cX0_earnedAsGiven RX0 "earnedAsGiven" 7 3 false (54, .aload 1, 55, []) := (r_aload_n dX0_earnedAsGiven_54 rfl).row
theorem o16_55 : OkE cX0_earnedAsGiven RX0 "earnedAsGiven" 7 3 false (55, .invokeinterface 6 6, 58, []) := (r_getN (C := RX6) (T := TX6) (N := 8) (ci := 6) (j := 6) (ref := RX6) dX0_earnedAsGiven_55 rfl inX6 (by decide) wd_319 rfl).row
theorem o16_58 : OkE cX0_earnedAsGiven RX0 "earnedAsGiven" 7 3 false (58, .i2l, 59, []) := (r_i2l dX0_earnedAsGiven_58).row
theorem o16_59 : OkE cX0_earnedAsGiven RX0 "earnedAsGiven" 7 3 false (59, .lmul, 60, []) := (r_lmul dX0_earnedAsGiven_59).row
theorem o16_60 : OkE cX0_earnedAsGiven RX0 "earnedAsGiven" 7 3 false (60, .lload 5, 62, []) := (r_lload dX0_earnedAsGiven_60).row
theorem o16_62 : OkE cX0_earnedAsGiven RX0 "earnedAsGiven" 7 3 false (62, .aload 1, 63, []) := (r_aload_n dX0_earnedAsGiven_62 rfl).row
theorem o16_63 : OkE cX0_earnedAsGiven RX0 "earnedAsGiven" 7 3 false (63, .invokeinterface 6 7, 66, []) := (r_getN (C := RX6) (T := TX6) (N := 8) (ci := 6) (j := 7) (ref := RX6) dX0_earnedAsGiven_63 rfl inX6 (by decide) wd_324 rfl).row
theorem o16_66 : OkE cX0_earnedAsGiven RX0 "earnedAsGiven" 7 3 false (66, .i2l, 67, []) := (r_i2l dX0_earnedAsGiven_66).row
theorem o16_67 : OkE cX0_earnedAsGiven RX0 "earnedAsGiven" 7 3 false (67, .lmul, 68, []) := (r_lmul dX0_earnedAsGiven_67).row
theorem o16_68 : OkE cX0_earnedAsGiven RX0 "earnedAsGiven" 7 3 false (68, .ladd, 69, []) := (r_ladd dX0_earnedAsGiven_68).row
theorem o16_69 : OkE cX0_earnedAsGiven RX0 "earnedAsGiven" 7 3 false (69, .iload 2, 70, []) := (r_iload_n dX0_earnedAsGiven_69 rfl).row
theorem o16_70 : OkE cX0_earnedAsGiven RX0 "earnedAsGiven" 7 3 false (70, .i2l, 71, []) := (r_i2l dX0_earnedAsGiven_70).row
theorem o16_71 : OkE cX0_earnedAsGiven RX0 "earnedAsGiven" 7 3 false (71, .aload 0, 72, []) := (r_aload_n dX0_earnedAsGiven_71 rfl).row
theorem o16_72 : OkE cX0_earnedAsGiven RX0 "earnedAsGiven" 7 3 false (72, .invokeinterface 0 4, 75, []) := (r_get (C := RX0) (T := TX0) (N := 5) (ci := 0) (j := 4) (ref := RX0) dX0_earnedAsGiven_72 rfl inX0 (by decide) wd_126 rfl).row
theorem o16_75 : OkE cX0_earnedAsGiven RX0 "earnedAsGiven" 7 3 false (75, .lmul, 76, []) := (r_lmul dX0_earnedAsGiven_75).row
theorem o16_76 : OkE cX0_earnedAsGiven RX0 "earnedAsGiven" 7 3 false (76, .aload 1, 77, []) := (r_aload_n dX0_earnedAsGiven_76 rfl).row
theorem o16_77 : OkE cX0_earnedAsGiven RX0 "earnedAsGiven" 7 3 false (77, .invokeinterface 6 5, 80, []) := (r_getN (C := RX6) (T := TX6) (N := 8) (ci := 6) (j := 5) (ref := RX6) dX0_earnedAsGiven_77 rfl inX6 (by decide) wd_314 rfl).row
theorem o16_80 : OkE cX0_earnedAsGiven RX0 "earnedAsGiven" 7 3 false (80, .i2l, 81, []) := (r_i2l dX0_earnedAsGiven_80).row
theorem o16_81 : OkE cX0_earnedAsGiven RX0 "earnedAsGiven" 7 3 false (81, .lmul, 82, []) := (r_lmul dX0_earnedAsGiven_81).row
theorem o16_82 : OkE cX0_earnedAsGiven RX0 "earnedAsGiven" 7 3 false (82, .lsub, 83, []) := (r_lsub dX0_earnedAsGiven_82).row
theorem o16_83 : OkE cX0_earnedAsGiven RX0 "earnedAsGiven" 7 3 false (83, .lreturn, 84, []) := dX0_earnedAsGiven_83
theorem ok16 : ∀ x ∈ k16, OkE cX0_earnedAsGiven RX0 "earnedAsGiven" 7 3 false x := List.forall_mem_cons.mpr ⟨o16_0, List.forall_mem_cons.mpr ⟨o16_1, List.forall_mem_cons.mpr ⟨o16_2, List.forall_mem_cons.mpr ⟨o16_3, List.forall_mem_cons.mpr ⟨o16_5, List.forall_mem_cons.mpr ⟨o16_7, List.forall_mem_cons.mpr ⟨o16_8, List.forall_mem_cons.mpr ⟨o16_11, List.forall_mem_cons.mpr ⟨o16_14, List.forall_mem_cons.mpr ⟨o16_16, List.forall_mem_cons.mpr ⟨o16_17, List.forall_mem_cons.mpr ⟨o16_20, List.forall_mem_cons.mpr ⟨o16_21, List.forall_mem_cons.mpr ⟨o16_22, List.forall_mem_cons.mpr ⟨o16_24, List.forall_mem_cons.mpr ⟨o16_25, List.forall_mem_cons.mpr ⟨o16_28, List.forall_mem_cons.mpr ⟨o16_30, List.forall_mem_cons.mpr ⟨o16_31, List.forall_mem_cons.mpr ⟨o16_34, List.forall_mem_cons.mpr ⟨o16_35, List.forall_mem_cons.mpr ⟨o16_36, List.forall_mem_cons.mpr ⟨o16_39, List.forall_mem_cons.mpr ⟨o16_42, List.forall_mem_cons.mpr ⟨o16_43, List.forall_mem_cons.mpr ⟨o16_44, List.forall_mem_cons.mpr ⟨o16_45, List.forall_mem_cons.mpr ⟨o16_48, List.forall_mem_cons.mpr ⟨o16_49, List.forall_mem_cons.mpr ⟨o16_50, List.forall_mem_cons.mpr ⟨o16_51, List.forall_mem_cons.mpr ⟨o16_53, List.forall_mem_cons.mpr ⟨o16_54, List.forall_mem_cons.mpr ⟨o16_55, List.forall_mem_cons.mpr ⟨o16_58, List.forall_mem_cons.mpr ⟨o16_59, List.forall_mem_cons.mpr ⟨o16_60, List.forall_mem_cons.mpr ⟨o16_62, List.forall_mem_cons.mpr ⟨o16_63, List.forall_mem_cons.mpr ⟨o16_66, List.forall_mem_cons.mpr ⟨o16_67, List.forall_mem_cons.mpr ⟨o16_68, List.forall_mem_cons.mpr ⟨o16_69, List.forall_mem_cons.mpr ⟨o16_70, List.forall_mem_cons.mpr ⟨o16_71, List.forall_mem_cons.mpr ⟨o16_72, List.forall_mem_cons.mpr ⟨o16_75, List.forall_mem_cons.mpr ⟨o16_76, List.forall_mem_cons.mpr ⟨o16_77, List.forall_mem_cons.mpr ⟨o16_80, List.forall_mem_cons.mpr ⟨o16_81, List.forall_mem_cons.mpr ⟨o16_82, List.forall_mem_cons.mpr ⟨o16_83, fun _ h => absurd h List.not_mem_nil⟩⟩⟩⟩⟩⟩⟩⟩⟩⟩⟩⟩⟩⟩⟩⟩⟩⟩⟩⟩⟩⟩⟩⟩⟩⟩⟩⟩⟩⟩⟩⟩⟩⟩⟩⟩⟩⟩⟩⟩⟩⟩⟩⟩⟩⟩⟩⟩⟩⟩⟩⟩⟩
theorem o17_0 : OkE cX1_init RX1 "<init>" 1 2 false (0, .aload 0, 1, []) := (r_aload_n dX1_init_0 rfl).row
theorem o17_1 : OkE cX1_init RX1 "<init>" 1 2 false (1, .monitorexit, 4, []) := (r_obj dX1_init_1 wd_188 wd_83 wd_84 (by decide)).row
theorem o17_4 : OkE cX1_init RX1 "<init>" 1 2 false (4, .aload 0, 5, []) := (r_aload_n dX1_init_4 rfl).row
theorem o17_5 : OkE cX1_init RX1 "<init>" 1 2 false (5, .iconst 3, 6, []) := (r_iconst dX1_init_5 rfl).row
theorem o17_6 : OkE cX1_init RX1 "<init>" 1 2 false (6, .newarray .int, 8, []) := r_newi dX1_init_6 wd_98
theorem o17_8 : OkE cX1_init RX1 "<init>" 1 2 false (8, .multianewarray 1 0, 11, []) := r_putFR (C := RX1) (T := TX1) (N := 11) (ci := 1) (j := 0) (ref := RX1) dX1_init_8 rfl inX1 tyX1 tyX1_ok nmX1 (by decide) wd_196 rfl rfl rfl rfl (tyX1_ok 0 (by decide)) (fun a => ⟨rfl, rfl⟩) rfl
theorem o17_11 : OkE cX1_init RX1 "<init>" 1 2 false (11, .aload 0, 12, []) := (r_aload_n dX1_init_11 rfl).row
theorem o17_12 : OkE cX1_init RX1 "<init>" 1 2 false (12, .iconst 3, 13, []) := (r_iconst dX1_init_12 rfl).row
theorem o17_13 : OkE cX1_init RX1 "<init>" 1 2 false (13, .newarray .int, 15, []) := r_newi dX1_init_13 wd_98
theorem o17_15 : OkE cX1_init RX1 "<init>" 1 2 false (15, .multianewarray 1 1, 18, []) := r_putFR (C := RX1) (T := TX1) (N := 11) (ci := 1) (j := 1) (ref := RX1) dX1_init_15 rfl inX1 tyX1 tyX1_ok nmX1 (by decide) wd_197 rfl rfl rfl rfl (tyX1_ok 1 (by decide)) (fun a => ⟨rfl, rfl⟩) rfl
theorem o17_18 : OkE cX1_init RX1 "<init>" 1 2 false (18, .aload 0, 19, []) := (r_aload_n dX1_init_18 rfl).row
theorem o17_19 : OkE cX1_init RX1 "<init>" 1 2 false (19, .iconst 3, 20, []) := (r_iconst dX1_init_19 rfl).row
theorem o17_20 : OkE cX1_init RX1 "<init>" 1 2 false (20, .newarray .int, 22, []) := r_newi dX1_init_20 wd_98
theorem o17_22 : OkE cX1_init RX1 "<init>" 1 2 false (22, .multianewarray 1 2, 25, []) := r_putFR (C := RX1) (T := TX1) (N := 11) (ci := 1) (j := 2) (ref := RX1) dX1_init_22 rfl inX1 tyX1 tyX1_ok nmX1 (by decide) wd_198 rfl rfl rfl rfl (tyX1_ok 2 (by decide)) (fun a => ⟨rfl, rfl⟩) rfl
theorem o17_25 : OkE cX1_init RX1 "<init>" 1 2 false (25, .aload 0, 26, []) := (r_aload_n dX1_init_25 rfl).row
theorem o17_26 : OkE cX1_init RX1 "<init>" 1 2 false (26, .iconst 6, 28, []) := (r_bipush dX1_init_26 rfl).row
theorem o17_28 : OkE cX1_init RX1 "<init>" 1 2 false (28, .newarray .int, 30, []) := r_newi dX1_init_28 wd_98
theorem o17_30 : OkE cX1_init RX1 "<init>" 1 2 false (30, .multianewarray 1 3, 33, []) := r_putFR (C := RX1) (T := TX1) (N := 11) (ci := 1) (j := 3) (ref := RX1) dX1_init_30 rfl inX1 tyX1 tyX1_ok nmX1 (by decide) wd_199 rfl rfl rfl rfl (tyX1_ok 3 (by decide)) (fun a => ⟨rfl, rfl⟩) rfl
theorem o17_33 : OkE cX1_init RX1 "<init>" 1 2 false (33, .aload 0, 34, []) := (r_aload_n dX1_init_33 rfl).row
theorem o17_34 : OkE cX1_init RX1 "<init>" 1 2 false (34, .iconst 6, 36, []) := (r_bipush dX1_init_34 rfl).row
theorem o17_36 : OkE cX1_init RX1 "<init>" 1 2 false (36, .newarray .int, 38, []) := r_newi dX1_init_36 wd_98
theorem o17_38 : OkE cX1_init RX1 "<init>" 1 2 false (38, .multianewarray 1 4, 41, []) := r_putFR (C := RX1) (T := TX1) (N := 11) (ci := 1) (j := 4) (ref := RX1) dX1_init_38 rfl inX1 tyX1 tyX1_ok nmX1 (by decide) wd_201 rfl rfl rfl rfl (tyX1_ok 4 (by decide)) (fun a => ⟨rfl, rfl⟩) rfl
theorem o17_41 : OkE cX1_init RX1 "<init>" 1 2 false (41, .aload 0, 42, []) := (r_aload_n dX1_init_41 rfl).row
theorem o17_42 : OkE cX1_init RX1 "<init>" 1 2 false (42, .iconst 6, 44, []) := (r_bipush dX1_init_42 rfl).row
theorem o17_44 : OkE cX1_init RX1 "<init>" 1 2 false (44, .newarray .int, 46, []) := r_newi dX1_init_44 wd_98
theorem o17_46 : OkE cX1_init RX1 "<init>" 1 2 false (46, .multianewarray 1 5, 49, []) := r_putFR (C := RX1) (T := TX1) (N := 11) (ci := 1) (j := 5) (ref := RX1) dX1_init_46 rfl inX1 tyX1 tyX1_ok nmX1 (by decide) wd_203 rfl rfl rfl rfl (tyX1_ok 5 (by decide)) (fun a => ⟨rfl, rfl⟩) rfl
theorem o17_49 : OkE cX1_init RX1 "<init>" 1 2 false (49, .aload 0, 50, []) := (r_aload_n dX1_init_49 rfl).row
theorem o17_50 : OkE cX1_init RX1 "<init>" 1 2 false (50, .invokevirtual 18, 53, []) := ⟨rfl, c_V dX1_init_50 wd_189 wd_190 wd_191 wd_70 wd_192 nmh_1⟩
theorem o17_53 : OkE cX1_init RX1 "<init>" 1 2 false (53, .return_, 54, []) := dX1_init_53
theorem ok17 : ∀ x ∈ k17, OkE cX1_init RX1 "<init>" 1 2 false x := List.forall_mem_cons.mpr ⟨o17_0, List.forall_mem_cons.mpr ⟨o17_1, List.forall_mem_cons.mpr ⟨o17_4, List.forall_mem_cons.mpr ⟨o17_5, List.forall_mem_cons.mpr ⟨o17_6, List.forall_mem_cons.mpr ⟨o17_8, List.forall_mem_cons.mpr ⟨o17_11, List.forall_mem_cons.mpr ⟨o17_12, List.forall_mem_cons.mpr ⟨o17_13, List.forall_mem_cons.mpr ⟨o17_15, List.forall_mem_cons.mpr ⟨o17_18, List.forall_mem_cons.mpr ⟨o17_19, List.forall_mem_cons.mpr ⟨o17_20, List.forall_mem_cons.mpr ⟨o17_22, List.forall_mem_cons.mpr ⟨o17_25, List.forall_mem_cons.mpr ⟨o17_26, List.forall_mem_cons.mpr ⟨o17_28, List.forall_mem_cons.mpr ⟨o17_30, List.forall_mem_cons.mpr ⟨o17_33, List.forall_mem_cons.mpr ⟨o17_34, List.forall_mem_cons.mpr ⟨o17_36, List.forall_mem_cons.mpr ⟨o17_38, List.forall_mem_cons.mpr ⟨o17_41, List.forall_mem_cons.mpr ⟨o17_42, List.forall_mem_cons.mpr ⟨o17_44, List.forall_mem_cons.mpr ⟨o17_46, List.forall_mem_cons.mpr ⟨o17_49, List.forall_mem_cons.mpr ⟨o17_50, List.forall_mem_cons.mpr ⟨o17_53, fun _ h => absurd h List.not_mem_nil⟩⟩⟩⟩⟩⟩⟩⟩⟩⟩⟩⟩⟩⟩⟩⟩⟩⟩⟩⟩⟩⟩⟩⟩⟩⟩⟩⟩⟩
theorem o18_0 : OkE cX1_reset RX1 "reset" 1 1 false (0, .aload 0, 1, []) := (r_aload_n dX1_reset_0 rfl).row
theorem o18_1 : OkE cX1_reset RX1 "reset" 1 1 false (1, .invokeinterface 1 0, 4, []) := (r_get (C := RX1) (T := TX1) (N := 11) (ci := 1) (j := 0) (ref := RX1) dX1_reset_1 rfl inX1 (by decide) wd_196 rfl).row
theorem o18_4 : OkE cX1_reset RX1 "reset" 1 1 false (4, .iconst 0, 5, []) := (r_iconst dX1_reset_4 rfl).row
theorem o18_5 : OkE cX1_reset RX1 "reset" 1 1 false (5, .invokestatic 222, 8, []) := ⟨rfl, c_S dX1_reset_5 wd_193 wd_194 wd_71 wd_195 nmh_10⟩
theorem o18_8 : OkE cX1_reset RX1 "reset" 1 1 false (8, .aload 0, 9, []) := (r_aload_n dX1_reset_8 rfl).row
theorem o18_9 : OkE cX1_reset RX1 "reset" 1 1 false (9, .invokeinterface 1 1, 12, []) := (r_get (C := RX1) (T := TX1) (N := 11) (ci := 1) (j := 1) (ref := RX1) dX1_reset_9 rfl inX1 (by decide) wd_197 rfl).row
theorem o18_12 : OkE cX1_reset RX1 "reset" 1 1 false (12, .iconst 5, 13, []) := (r_iconst dX1_reset_12 rfl).row
theorem o18_13 : OkE cX1_reset RX1 "reset" 1 1 false (13, .invokestatic 222, 16, []) := ⟨rfl, c_S dX1_reset_13 wd_193 wd_194 wd_71 wd_195 nmh_10⟩
theorem o18_16 : OkE cX1_reset RX1 "reset" 1 1 false (16, .aload 0, 17, []) := (r_aload_n dX1_reset_16 rfl).row
theorem o18_17 : OkE cX1_reset RX1 "reset" 1 1 false (17, .invokeinterface 1 2, 20, []) := (r_get (C := RX1) (T := TX1) (N := 11) (ci := 1) (j := 2) (ref := RX1) dX1_reset_17 rfl inX1 (by decide) wd_198 rfl).row
theorem o18_20 : OkE cX1_reset RX1 "reset" 1 1 false (20, .iconst 0, 21, []) := (r_iconst dX1_reset_20 rfl).row
theorem o18_21 : OkE cX1_reset RX1 "reset" 1 1 false (21, .invokestatic 222, 24, []) := ⟨rfl, c_S dX1_reset_21 wd_193 wd_194 wd_71 wd_195 nmh_10⟩
theorem o18_24 : OkE cX1_reset RX1 "reset" 1 1 false (24, .aload 0, 25, []) := (r_aload_n dX1_reset_24 rfl).row
theorem o18_25 : OkE cX1_reset RX1 "reset" 1 1 false (25, .iconst 0, 26, []) := (r_iconst dX1_reset_25 rfl).row
theorem o18_26 : OkE cX1_reset RX1 "reset" 1 1 false (26, .multianewarray 1 6, 29, []) := r_putI (C := RX1) (T := TX1) (N := 11) (ci := 1) (j := 6) (ref := RX1) dX1_reset_26 rfl inX1 tyX1 tyX1_ok nmX1 (by decide) wd_205 rfl rfl (tyX1_ok 6 (by decide)) rfl
theorem o18_29 : OkE cX1_reset RX1 "reset" 1 1 false (29, .aload 0, 30, []) := (r_aload_n dX1_reset_29 rfl).row
theorem o18_30 : OkE cX1_reset RX1 "reset" 1 1 false (30, .iconst 0, 31, []) := (r_iconst dX1_reset_30 rfl).row
theorem o18_31 : OkE cX1_reset RX1 "reset" 1 1 false (31, .multianewarray 1 7, 34, []) := r_putI (C := RX1) (T := TX1) (N := 11) (ci := 1) (j := 7) (ref := RX1) dX1_reset_31 rfl inX1 tyX1 tyX1_ok nmX1 (by decide) wd_208 rfl rfl (tyX1_ok 7 (by decide)) rfl
theorem o18_34 : OkE cX1_reset RX1 "reset" 1 1 false (34, .aload 0, 35, []) := (r_aload_n dX1_reset_34 rfl).row
theorem o18_35 : OkE cX1_reset RX1 "reset" 1 1 false (35, .iconst 0, 36, []) := (r_iconst dX1_reset_35 rfl).row
theorem o18_36 : OkE cX1_reset RX1 "reset" 1 1 false (36, .multianewarray 1 8, 39, []) := r_putI (C := RX1) (T := TX1) (N := 11) (ci := 1) (j := 8) (ref := RX1) dX1_reset_36 rfl inX1 tyX1 tyX1_ok nmX1 (by decide) wd_211 rfl rfl (tyX1_ok 8 (by decide)) rfl
theorem o18_39 : OkE cX1_reset RX1 "reset" 1 1 false (39, .aload 0, 40, []) := (r_aload_n dX1_reset_39 rfl).row
theorem o18_40 : OkE cX1_reset RX1 "reset" 1 1 false (40, .iconst 0, 41, []) := (r_iconst dX1_reset_40 rfl).row
theorem o18_41 : OkE cX1_reset RX1 "reset" 1 1 false (41, .multianewarray 1 9, 44, []) := r_putI (C := RX1) (T := TX1) (N := 11) (ci := 1) (j := 9) (ref := RX1) dX1_reset_41 rfl inX1 tyX1 tyX1_ok nmX1 (by decide) wd_214 rfl rfl (tyX1_ok 9 (by decide)) rfl
theorem o18_44 : OkE cX1_reset RX1 "reset" 1 1 false (44, .aload 0, 45, []) := (r_aload_n dX1_reset_44 rfl).row
theorem o18_45 : OkE cX1_reset RX1 "reset" 1 1 false (45, .iconst 0, 46, []) := (r_iconst dX1_reset_45 rfl).row
theorem o18_46 : OkE cX1_reset RX1 "reset" 1 1 false (46, .multianewarray 1 10, 49, []) := r_putI (C := RX1) (T := TX1) (N := 11) (ci := 1) (j := 10) (ref := RX1) dX1_reset_46 rfl inX1 tyX1 tyX1_ok nmX1 (by decide) wd_217 rfl rfl (tyX1_ok 10 (by decide)) rfl
theorem o18_49 : OkE cX1_reset RX1 "reset" 1 1 false (49, .return_, 50, []) := dX1_reset_49
theorem ok18 : ∀ x ∈ k18, OkE cX1_reset RX1 "reset" 1 1 false x := List.forall_mem_cons.mpr ⟨o18_0, List.forall_mem_cons.mpr ⟨o18_1, List.forall_mem_cons.mpr ⟨o18_4, List.forall_mem_cons.mpr ⟨o18_5, List.forall_mem_cons.mpr ⟨o18_8, List.forall_mem_cons.mpr ⟨o18_9, List.forall_mem_cons.mpr ⟨o18_12, List.forall_mem_cons.mpr ⟨o18_13, List.forall_mem_cons.mpr ⟨o18_16, List.forall_mem_cons.mpr ⟨o18_17, List.forall_mem_cons.mpr ⟨o18_20, List.forall_mem_cons.mpr ⟨o18_21, List.forall_mem_cons.mpr ⟨o18_24, List.forall_mem_cons.mpr ⟨o18_25, List.forall_mem_cons.mpr ⟨o18_26, List.forall_mem_cons.mpr ⟨o18_29, List.forall_mem_cons.mpr ⟨o18_30, List.forall_mem_cons.mpr ⟨o18_31, List.forall_mem_cons.mpr ⟨o18_34, List.forall_mem_cons.mpr ⟨o18_35, List.forall_mem_cons.mpr ⟨o18_36, List.forall_mem_cons.mpr ⟨o18_39, List.forall_mem_cons.mpr ⟨o18_40, List.forall_mem_cons.mpr ⟨o18_41, List.forall_mem_cons.mpr ⟨o18_44, List.forall_mem_cons.mpr ⟨o18_45, List.forall_mem_cons.mpr ⟨o18_46, List.forall_mem_cons.mpr ⟨o18_49, fun _ h => absurd h List.not_mem_nil⟩⟩⟩⟩⟩⟩⟩⟩⟩⟩⟩⟩⟩⟩⟩⟩⟩⟩⟩⟩⟩⟩⟩⟩⟩⟩⟩⟩
theorem o19_0 : OkE cX1_copyFrom RX1 "copyFrom" 2 1 false (0, .aload 1, 1, []) := (r_aload_n dX1_copyFrom_0 rfl).row
theorem o19_1 : OkE cX1_copyFrom RX1 "copyFrom" 2 1 false (1, .invokeinterface 1 0, 4, []) := (r_get (C := RX1) (T := TX1) (N := 11) (ci := 1) (j := 0) (ref := RX1) dX1_copyFrom_1 rfl inX1 (by decide) wd_196 rfl).row
theorem o19_4 : OkE cX1_copyFrom RX1 "copyFrom" 2 1 false (4, .iconst 0, 5, []) := (r_iconst dX1_copyFrom_4 rfl).row
theorem o19_5 : OkE cX1_copyFrom RX1 "copyFrom" 2 1 false (5, .aload 0, 6, []) := (r_aload_n dX1_copyFrom_5 rfl).row
theorem o19_6 : OkE cX1_copyFrom RX1 "copyFrom" 2 1 false (6, .invokeinterface 1 0, 9, []) := (r_get (C := RX1) (T := TX1) (N := 11) (ci := 1) (j := 0) (ref := RX1) dX1_copyFrom_6 rfl inX1 (by decide) wd_196 rfl).row
theorem o19_9 : OkE cX1_copyFrom RX1 "copyFrom" 2 1 false (9, .iconst 0, 10, []) := (r_iconst dX1_copyFrom_9 rfl).row
theorem o19_10 : OkE cX1_copyFrom RX1 "copyFrom" 2 1 false (10, .iconst 3, 11, []) := (r_iconst dX1_copyFrom_10 rfl).row
theorem o19_11 : OkE cX1_copyFrom RX1 "copyFrom" 2 1 false (11, .invokedynamic 0, 14, []) := r_copy dX1_copyFrom_11 wd_970 wd_972 wd_971 wd_76 (by decide)
theorem o19_14 : OkE cX1_copyFrom RX1 "copyFrom" 2 1 false (14, .aload 1, 15, []) := (r_aload_n dX1_copyFrom_14 rfl).row
theorem o19_15 : OkE cX1_copyFrom RX1 "copyFrom" 2 1 false (15, .invokeinterface 1 1, 18, []) := (r_get (C := RX1) (T := TX1) (N := 11) (ci := 1) (j := 1) (ref := RX1) dX1_copyFrom_15 rfl inX1 (by decide) wd_197 rfl).row
theorem o19_18 : OkE cX1_copyFrom RX1 "copyFrom" 2 1 false (18, .iconst 0, 19, []) := (r_iconst dX1_copyFrom_18 rfl).row
theorem o19_19 : OkE cX1_copyFrom RX1 "copyFrom" 2 1 false (19, .aload 0, 20, []) := (r_aload_n dX1_copyFrom_19 rfl).row
theorem o19_20 : OkE cX1_copyFrom RX1 "copyFrom" 2 1 false (20, .invokeinterface 1 1, 23, []) := (r_get (C := RX1) (T := TX1) (N := 11) (ci := 1) (j := 1) (ref := RX1) dX1_copyFrom_20 rfl inX1 (by decide) wd_197 rfl).row
theorem o19_23 : OkE cX1_copyFrom RX1 "copyFrom" 2 1 false (23, .iconst 0, 24, []) := (r_iconst dX1_copyFrom_23 rfl).row
theorem o19_24 : OkE cX1_copyFrom RX1 "copyFrom" 2 1 false (24, .iconst 3, 25, []) := (r_iconst dX1_copyFrom_24 rfl).row
theorem o19_25 : OkE cX1_copyFrom RX1 "copyFrom" 2 1 false (25, .invokedynamic 0, 28, []) := r_copy dX1_copyFrom_25 wd_970 wd_972 wd_971 wd_76 (by decide)
theorem o19_28 : OkE cX1_copyFrom RX1 "copyFrom" 2 1 false (28, .aload 1, 29, []) := (r_aload_n dX1_copyFrom_28 rfl).row
theorem o19_29 : OkE cX1_copyFrom RX1 "copyFrom" 2 1 false (29, .invokeinterface 1 2, 32, []) := (r_get (C := RX1) (T := TX1) (N := 11) (ci := 1) (j := 2) (ref := RX1) dX1_copyFrom_29 rfl inX1 (by decide) wd_198 rfl).row
theorem o19_32 : OkE cX1_copyFrom RX1 "copyFrom" 2 1 false (32, .iconst 0, 33, []) := (r_iconst dX1_copyFrom_32 rfl).row
theorem o19_33 : OkE cX1_copyFrom RX1 "copyFrom" 2 1 false (33, .aload 0, 34, []) := (r_aload_n dX1_copyFrom_33 rfl).row
theorem o19_34 : OkE cX1_copyFrom RX1 "copyFrom" 2 1 false (34, .invokeinterface 1 2, 37, []) := (r_get (C := RX1) (T := TX1) (N := 11) (ci := 1) (j := 2) (ref := RX1) dX1_copyFrom_34 rfl inX1 (by decide) wd_198 rfl).row
theorem o19_37 : OkE cX1_copyFrom RX1 "copyFrom" 2 1 false (37, .iconst 0, 38, []) := (r_iconst dX1_copyFrom_37 rfl).row
theorem o19_38 : OkE cX1_copyFrom RX1 "copyFrom" 2 1 false (38, .iconst 3, 39, []) := (r_iconst dX1_copyFrom_38 rfl).row
theorem o19_39 : OkE cX1_copyFrom RX1 "copyFrom" 2 1 false (39, .invokedynamic 0, 42, []) := r_copy dX1_copyFrom_39 wd_970 wd_972 wd_971 wd_76 (by decide)
theorem o19_42 : OkE cX1_copyFrom RX1 "copyFrom" 2 1 false (42, .aload 1, 43, []) := (r_aload_n dX1_copyFrom_42 rfl).row
theorem o19_43 : OkE cX1_copyFrom RX1 "copyFrom" 2 1 false (43, .invokeinterface 1 3, 46, []) := (r_get (C := RX1) (T := TX1) (N := 11) (ci := 1) (j := 3) (ref := RX1) dX1_copyFrom_43 rfl inX1 (by decide) wd_199 rfl).row
theorem o19_46 : OkE cX1_copyFrom RX1 "copyFrom" 2 1 false (46, .iconst 0, 47, []) := (r_iconst dX1_copyFrom_46 rfl).row
theorem o19_47 : OkE cX1_copyFrom RX1 "copyFrom" 2 1 false (47, .aload 0, 48, []) := (r_aload_n dX1_copyFrom_47 rfl).row
theorem o19_48 : OkE cX1_copyFrom RX1 "copyFrom" 2 1 false (48, .invokeinterface 1 3, 51, []) := (r_get (C := RX1) (T := TX1) (N := 11) (ci := 1) (j := 3) (ref := RX1) dX1_copyFrom_48 rfl inX1 (by decide) wd_199 rfl).row
theorem o19_51 : OkE cX1_copyFrom RX1 "copyFrom" 2 1 false (51, .iconst 0, 52, []) := (r_iconst dX1_copyFrom_51 rfl).row
theorem o19_52 : OkE cX1_copyFrom RX1 "copyFrom" 2 1 false (52, .iconst 6, 54, []) := (r_bipush dX1_copyFrom_52 rfl).row
theorem o19_54 : OkE cX1_copyFrom RX1 "copyFrom" 2 1 false (54, .invokedynamic 0, 57, []) := r_copy dX1_copyFrom_54 wd_970 wd_972 wd_971 wd_76 (by decide)
theorem o19_57 : OkE cX1_copyFrom RX1 "copyFrom" 2 1 false (57, .aload 1, 58, []) := (r_aload_n dX1_copyFrom_57 rfl).row
theorem o19_58 : OkE cX1_copyFrom RX1 "copyFrom" 2 1 false (58, .invokeinterface 1 4, 61, []) := (r_get (C := RX1) (T := TX1) (N := 11) (ci := 1) (j := 4) (ref := RX1) dX1_copyFrom_58 rfl inX1 (by decide) wd_201 rfl).row
theorem o19_61 : OkE cX1_copyFrom RX1 "copyFrom" 2 1 false (61, .iconst 0, 62, []) := (r_iconst dX1_copyFrom_61 rfl).row
theorem o19_62 : OkE cX1_copyFrom RX1 "copyFrom" 2 1 false (62, .aload 0, 63, []) := (r_aload_n dX1_copyFrom_62 rfl).row
theorem o19_63 : OkE cX1_copyFrom RX1 "copyFrom" 2 1 false (63, .invokeinterface 1 4, 66, []) := (r_get (C := RX1) (T := TX1) (N := 11) (ci := 1) (j := 4) (ref := RX1) dX1_copyFrom_63 rfl inX1 (by decide) wd_201 rfl).row
theorem o19_66 : OkE cX1_copyFrom RX1 "copyFrom" 2 1 false (66, .iconst 0, 67, []) := (r_iconst dX1_copyFrom_66 rfl).row
theorem o19_67 : OkE cX1_copyFrom RX1 "copyFrom" 2 1 false (67, .iconst 6, 69, []) := (r_bipush dX1_copyFrom_67 rfl).row
theorem o19_69 : OkE cX1_copyFrom RX1 "copyFrom" 2 1 false (69, .invokedynamic 0, 72, []) := r_copy dX1_copyFrom_69 wd_970 wd_972 wd_971 wd_76 (by decide)
theorem o19_72 : OkE cX1_copyFrom RX1 "copyFrom" 2 1 false (72, .aload 1, 73, []) := (r_aload_n dX1_copyFrom_72 rfl).row
theorem o19_73 : OkE cX1_copyFrom RX1 "copyFrom" 2 1 false (73, .invokeinterface 1 5, 76, []) := (r_get (C := RX1) (T := TX1) (N := 11) (ci := 1) (j := 5) (ref := RX1) dX1_copyFrom_73 rfl inX1 (by decide) wd_203 rfl).row
theorem o19_76 : OkE cX1_copyFrom RX1 "copyFrom" 2 1 false (76, .iconst 0, 77, []) := (r_iconst dX1_copyFrom_76 rfl).row
theorem o19_77 : OkE cX1_copyFrom RX1 "copyFrom" 2 1 false (77, .aload 0, 78, []) := (r_aload_n dX1_copyFrom_77 rfl).row
theorem o19_78 : OkE cX1_copyFrom RX1 "copyFrom" 2 1 false (78, .invokeinterface 1 5, 81, []) := (r_get (C := RX1) (T := TX1) (N := 11) (ci := 1) (j := 5) (ref := RX1) dX1_copyFrom_78 rfl inX1 (by decide) wd_203 rfl).row
theorem o19_81 : OkE cX1_copyFrom RX1 "copyFrom" 2 1 false (81, .iconst 0, 82, []) := (r_iconst dX1_copyFrom_81 rfl).row
theorem o19_82 : OkE cX1_copyFrom RX1 "copyFrom" 2 1 false (82, .iconst 6, 84, []) := (r_bipush dX1_copyFrom_82 rfl).row
theorem o19_84 : OkE cX1_copyFrom RX1 "copyFrom" 2 1 false (84, .invokedynamic 0, 87, []) := r_copy dX1_copyFrom_84 wd_970 wd_972 wd_971 wd_76 (by decide)
theorem o19_87 : OkE cX1_copyFrom RX1 "copyFrom" 2 1 false (87, .aload 0, 88, []) := (r_aload_n dX1_copyFrom_87 rfl).row
theorem o19_88 : OkE cX1_copyFrom RX1 "copyFrom" 2 1 false (88, .aload 1, 89, []) := (r_aload_n dX1_copyFrom_88 rfl).row
theorem o19_89 : OkE cX1_copyFrom RX1 "copyFrom" 2 1 false (89, .invokeinterface 1 6, 92, []) := (r_get (C := RX1) (T := TX1) (N := 11) (ci := 1) (j := 6) (ref := RX1) dX1_copyFrom_89 rfl inX1 (by decide) wd_205 rfl).row
theorem o19_92 : OkE cX1_copyFrom RX1 "copyFrom" 2 1 false (92, .multianewarray 1 6, 95, []) := r_putI (C := RX1) (T := TX1) (N := 11) (ci := 1) (j := 6) (ref := RX1) dX1_copyFrom_92 rfl inX1 tyX1 tyX1_ok nmX1 (by decide) wd_205 rfl rfl (tyX1_ok 6 (by decide)) rfl
theorem o19_95 : OkE cX1_copyFrom RX1 "copyFrom" 2 1 false (95, .aload 0, 96, []) := (r_aload_n dX1_copyFrom_95 rfl).row
theorem o19_96 : OkE cX1_copyFrom RX1 "copyFrom" 2 1 false (96, .aload 1, 97, []) := (r_aload_n dX1_copyFrom_96 rfl).row
theorem o19_97 : OkE cX1_copyFrom RX1 "copyFrom" 2 1 false (97, .invokeinterface 1 7, 100, []) := (r_get (C := RX1) (T := TX1) (N := 11) (ci := 1) (j := 7) (ref := RX1) dX1_copyFrom_97 rfl inX1 (by decide) wd_208 rfl).row
theorem o19_100 : OkE cX1_copyFrom RX1 "copyFrom" 2 1 false (100, .multianewarray 1 7, 103, []) := r_putI (C := RX1) (T := TX1) (N := 11) (ci := 1) (j := 7) (ref := RX1) dX1_copyFrom_100 rfl inX1 tyX1 tyX1_ok nmX1 (by decide) wd_208 rfl rfl (tyX1_ok 7 (by decide)) rfl
theorem o19_103 : OkE cX1_copyFrom RX1 "copyFrom" 2 1 false (103, .aload 0, 104, []) := (r_aload_n dX1_copyFrom_103 rfl).row
theorem o19_104 : OkE cX1_copyFrom RX1 "copyFrom" 2 1 false (104, .aload 1, 105, []) := (r_aload_n dX1_copyFrom_104 rfl).row
theorem o19_105 : OkE cX1_copyFrom RX1 "copyFrom" 2 1 false (105, .invokeinterface 1 8, 108, []) := (r_get (C := RX1) (T := TX1) (N := 11) (ci := 1) (j := 8) (ref := RX1) dX1_copyFrom_105 rfl inX1 (by decide) wd_211 rfl).row
theorem o19_108 : OkE cX1_copyFrom RX1 "copyFrom" 2 1 false (108, .multianewarray 1 8, 111, []) := r_putI (C := RX1) (T := TX1) (N := 11) (ci := 1) (j := 8) (ref := RX1) dX1_copyFrom_108 rfl inX1 tyX1 tyX1_ok nmX1 (by decide) wd_211 rfl rfl (tyX1_ok 8 (by decide)) rfl
theorem o19_111 : OkE cX1_copyFrom RX1 "copyFrom" 2 1 false (111, .aload 0, 112, []) := (r_aload_n dX1_copyFrom_111 rfl).row
theorem o19_112 : OkE cX1_copyFrom RX1 "copyFrom" 2 1 false (112, .aload 1, 113, []) := (r_aload_n dX1_copyFrom_112 rfl).row
theorem o19_113 : OkE cX1_copyFrom RX1 "copyFrom" 2 1 false (113, .invokeinterface 1 9, 116, []) := (r_get (C := RX1) (T := TX1) (N := 11) (ci := 1) (j := 9) (ref := RX1) dX1_copyFrom_113 rfl inX1 (by decide) wd_214 rfl).row
theorem o19_116 : OkE cX1_copyFrom RX1 "copyFrom" 2 1 false (116, .multianewarray 1 9, 119, []) := r_putI (C := RX1) (T := TX1) (N := 11) (ci := 1) (j := 9) (ref := RX1) dX1_copyFrom_116 rfl inX1 tyX1 tyX1_ok nmX1 (by decide) wd_214 rfl rfl (tyX1_ok 9 (by decide)) rfl
theorem o19_119 : OkE cX1_copyFrom RX1 "copyFrom" 2 1 false (119, .aload 0, 120, []) := (r_aload_n dX1_copyFrom_119 rfl).row
theorem o19_120 : OkE cX1_copyFrom RX1 "copyFrom" 2 1 false (120, .aload 1, 121, []) := (r_aload_n dX1_copyFrom_120 rfl).row
theorem o19_121 : OkE cX1_copyFrom RX1 "copyFrom" 2 1 false (121, .invokeinterface 1 10, 124, []) := (r_get (C := RX1) (T := TX1) (N := 11) (ci := 1) (j := 10) (ref := RX1) dX1_copyFrom_121 rfl inX1 (by decide) wd_217 rfl).row
theorem o19_124 : OkE cX1_copyFrom RX1 "copyFrom" 2 1 false (124, .multianewarray 1 10, 127, []) := r_putI (C := RX1) (T := TX1) (N := 11) (ci := 1) (j := 10) (ref := RX1) dX1_copyFrom_124 rfl inX1 tyX1 tyX1_ok nmX1 (by decide) wd_217 rfl rfl (tyX1_ok 10 (by decide)) rfl
theorem o19_127 : OkE cX1_copyFrom RX1 "copyFrom" 2 1 false (127, .return_, 128, []) := dX1_copyFrom_127
theorem ok19 : ∀ x ∈ k19, OkE cX1_copyFrom RX1 "copyFrom" 2 1 false x := List.forall_mem_cons.mpr ⟨o19_0, List.forall_mem_cons.mpr ⟨o19_1, List.forall_mem_cons.mpr ⟨o19_4, List.forall_mem_cons.mpr ⟨o19_5, List.forall_mem_cons.mpr ⟨o19_6, List.forall_mem_cons.mpr ⟨o19_9, List.forall_mem_cons.mpr ⟨o19_10, List.forall_mem_cons.mpr ⟨o19_11, List.forall_mem_cons.mpr ⟨o19_14, List.forall_mem_cons.mpr ⟨o19_15, List.forall_mem_cons.mpr ⟨o19_18, List.forall_mem_cons.mpr ⟨o19_19, List.forall_mem_cons.mpr ⟨o19_20, List.forall_mem_cons.mpr ⟨o19_23, List.forall_mem_cons.mpr ⟨o19_24, List.forall_mem_cons.mpr ⟨o19_25, List.forall_mem_cons.mpr ⟨o19_28, List.forall_mem_cons.mpr ⟨o19_29, List.forall_mem_cons.mpr ⟨o19_32, List.forall_mem_cons.mpr ⟨o19_33, List.forall_mem_cons.mpr ⟨o19_34, List.forall_mem_cons.mpr ⟨o19_37, List.forall_mem_cons.mpr ⟨o19_38, List.forall_mem_cons.mpr ⟨o19_39, List.forall_mem_cons.mpr ⟨o19_42, List.forall_mem_cons.mpr ⟨o19_43, List.forall_mem_cons.mpr ⟨o19_46, List.forall_mem_cons.mpr ⟨o19_47, List.forall_mem_cons.mpr ⟨o19_48, List.forall_mem_cons.mpr ⟨o19_51, List.forall_mem_cons.mpr ⟨o19_52, List.forall_mem_cons.mpr ⟨o19_54, List.forall_mem_cons.mpr ⟨o19_57, List.forall_mem_cons.mpr ⟨o19_58, List.forall_mem_cons.mpr ⟨o19_61, List.forall_mem_cons.mpr ⟨o19_62, List.forall_mem_cons.mpr ⟨o19_63, List.forall_mem_cons.mpr ⟨o19_66, List.forall_mem_cons.mpr ⟨o19_67, List.forall_mem_cons.mpr ⟨o19_69, List.forall_mem_cons.mpr ⟨o19_72, List.forall_mem_cons.mpr ⟨o19_73, List.forall_mem_cons.mpr ⟨o19_76, List.forall_mem_cons.mpr ⟨o19_77, List.forall_mem_cons.mpr ⟨o19_78, List.forall_mem_cons.mpr ⟨o19_81, List.forall_mem_cons.mpr ⟨o19_82, List.forall_mem_cons.mpr ⟨o19_84, List.forall_mem_cons.mpr ⟨o19_87, List.forall_mem_cons.mpr ⟨o19_88, List.forall_mem_cons.mpr ⟨o19_89, List.forall_mem_cons.mpr ⟨o19_92, List.forall_mem_cons.mpr ⟨o19_95, List.forall_mem_cons.mpr ⟨o19_96, List.forall_mem_cons.mpr ⟨o19_97, List.forall_mem_cons.mpr ⟨o19_100, List.forall_mem_cons.mpr ⟨o19_103, List.forall_mem_cons.mpr ⟨o19_104, List.forall_mem_cons.mpr ⟨o19_105, List.forall_mem_cons.mpr ⟨o19_108, List.forall_mem_cons.mpr ⟨o19_111, List.forall_mem_cons.mpr ⟨o19_112, List.forall_mem_cons.mpr ⟨o19_113, List.forall_mem_cons.mpr ⟨o19_116, List.forall_mem_cons.mpr ⟨o19_119, List.forall_mem_cons.mpr ⟨o19_120, List.forall_mem_cons.mpr ⟨o19_121, List.forall_mem_cons.mpr ⟨o19_124, List.forall_mem_cons.mpr ⟨o19_127, fun _ h => absurd h List.not_mem_nil⟩⟩⟩⟩⟩⟩⟩⟩⟩⟩⟩⟩⟩⟩⟩⟩⟩⟩⟩⟩⟩⟩⟩⟩⟩⟩⟩⟩⟩⟩⟩⟩⟩⟩⟩⟩⟩⟩⟩⟩⟩⟩⟩⟩⟩⟩⟩⟩⟩⟩⟩⟩⟩⟩⟩⟩⟩⟩⟩⟩⟩⟩⟩⟩⟩⟩⟩⟩⟩
theorem o20_0 : OkE cX1_isRule RX1 "isRule" 2 1 false (0, .iload 0, 1, []) := (r_iload_n dX1_isRule_0 rfl).row
theorem o20_1 : OkE cX1_isRule RX1 "isRule" 2 1 false (1, .tableswitch 60 0 2 #[28, 38, 55], 28, []) := (r_tsw dX1_isRule_1 rfl rfl rfl (by decide) rfl).row
theorem o20_28 : OkE cX1_isRule RX1 "isRule" 2 1 false (28, .iload 1, 29, []) := (r_iload_n dX1_isRule_28 rfl).row
theorem o20_29 : OkE cX1_isRule RX1 "isRule" 2 1 false (29, .ifCond .ne 36, 32, []) := (r_if_ne dX1_isRule_29 rfl).row
theorem o20_32 : OkE cX1_isRule RX1 "isRule" 2 1 false (32, .iconst 1, 33, []) := (r_iconst dX1_isRule_32 rfl).row
theorem o20_33 : OkE cX1_isRule RX1 "isRule" 2 1 false (33, .goto 37, 36, []) := (r_goto dX1_isRule_33 rfl).row
theorem o20_36 : OkE cX1_isRule RX1 "isRule" 2 1 false (36, .iconst 0, 37, []) := (r_iconst dX1_isRule_36 rfl).row
theorem o20_37 : OkE cX1_isRule RX1 "isRule" 2 1 false (37, .ireturn, 38, [0, 1]) := dX1_isRule_37
theorem o20_38 : OkE cX1_isRule RX1 "isRule" 2 1 false (38, .iload 1, 39, []) := (r_iload_n dX1_isRule_38 rfl).row
theorem o20_39 : OkE cX1_isRule RX1 "isRule" 2 1 false (39, .iconst 1, 40, []) := (r_iconst dX1_isRule_39 rfl).row
theorem o20_40 : OkE cX1_isRule RX1 "isRule" 2 1 false (40, .if_icmp .lt 53, 43, []) := (r_icmp_lt dX1_isRule_40 rfl).row
theorem o20_43 : OkE cX1_isRule RX1 "isRule" 2 1 false (43, .iload 1, 44, []) := (r_iload_n dX1_isRule_43 rfl).row
theorem o20_44 : OkE cX1_isRule RX1 "isRule" 2 1 false (44, .iconst 20, 46, []) := (r_bipush dX1_isRule_44 rfl).row
theorem o20_46 : OkE cX1_isRule RX1 "isRule" 2 1 false (46, .if_icmp .gt 53, 49, []) := (r_icmp_gt dX1_isRule_46 rfl).row
theorem o20_49 : OkE cX1_isRule RX1 "isRule" 2 1 false (49, .iconst 1, 50, []) := (r_iconst dX1_isRule_49 rfl).row
theorem o20_50 : OkE cX1_isRule RX1 "isRule" 2 1 false (50, .goto 54, 53, []) := (r_goto dX1_isRule_50 rfl).row
theorem o20_53 : OkE cX1_isRule RX1 "isRule" 2 1 false (53, .iconst 0, 54, [0, 1]) := (r_iconst dX1_isRule_53 rfl).row
theorem o20_54 : OkE cX1_isRule RX1 "isRule" 2 1 false (54, .ireturn, 55, [0, 1]) := dX1_isRule_54
theorem o20_55 : OkE cX1_isRule RX1 "isRule" 2 1 false (55, .iload 1, 56, []) := (r_iload_n dX1_isRule_55 rfl).row
theorem o20_56 : OkE cX1_isRule RX1 "isRule" 2 1 false (56, .invokestatic 141, 59, []) := ⟨rfl, c_SN dX1_isRule_56 wd_794 wd_795 wd_64 wd_796 nmh_8⟩
theorem o20_59 : OkE cX1_isRule RX1 "isRule" 2 1 false (59, .ireturn, 60, []) := dX1_isRule_59
theorem o20_60 : OkE cX1_isRule RX1 "isRule" 2 1 false (60, .iconst 0, 61, []) := (r_iconst dX1_isRule_60 rfl).row
theorem o20_61 : OkE cX1_isRule RX1 "isRule" 2 1 false (61, .ireturn, 62, []) := dX1_isRule_61
theorem ok20 : ∀ x ∈ k20, OkE cX1_isRule RX1 "isRule" 2 1 false x := List.forall_mem_cons.mpr ⟨o20_0, List.forall_mem_cons.mpr ⟨o20_1, List.forall_mem_cons.mpr ⟨o20_28, List.forall_mem_cons.mpr ⟨o20_29, List.forall_mem_cons.mpr ⟨o20_32, List.forall_mem_cons.mpr ⟨o20_33, List.forall_mem_cons.mpr ⟨o20_36, List.forall_mem_cons.mpr ⟨o20_37, List.forall_mem_cons.mpr ⟨o20_38, List.forall_mem_cons.mpr ⟨o20_39, List.forall_mem_cons.mpr ⟨o20_40, List.forall_mem_cons.mpr ⟨o20_43, List.forall_mem_cons.mpr ⟨o20_44, List.forall_mem_cons.mpr ⟨o20_46, List.forall_mem_cons.mpr ⟨o20_49, List.forall_mem_cons.mpr ⟨o20_50, List.forall_mem_cons.mpr ⟨o20_53, List.forall_mem_cons.mpr ⟨o20_54, List.forall_mem_cons.mpr ⟨o20_55, List.forall_mem_cons.mpr ⟨o20_56, List.forall_mem_cons.mpr ⟨o20_59, List.forall_mem_cons.mpr ⟨o20_60, List.forall_mem_cons.mpr ⟨o20_61, fun _ h => absurd h List.not_mem_nil⟩⟩⟩⟩⟩⟩⟩⟩⟩⟩⟩⟩⟩⟩⟩⟩⟩⟩⟩⟩⟩⟩⟩
theorem o21_0 : OkE cX1_givesAt RX1 "givesAt" 2 1 false (0, .iload 1, 1, []) := (r_iload_n dX1_givesAt_0 rfl).row
theorem o21_1 : OkE cX1_givesAt RX1 "givesAt" 2 1 false (1, .invokestatic 139, 4, []) := ⟨rfl, c_SN dX1_givesAt_1 wd_778 wd_379 wd_64 wd_380 nmh_8⟩
theorem o21_4 : OkE cX1_givesAt RX1 "givesAt" 2 1 false (4, .ifCond .eq 16, 7, []) := (r_if_eq dX1_givesAt_4 rfl).row
theorem o21_7 : OkE cX1_givesAt RX1 "givesAt" 2 1 false (7, .aload 0, 8, []) := (r_aload_n dX1_givesAt_7 rfl).row
theorem o21_8 : OkE cX1_givesAt RX1 "givesAt" 2 1 false (8, .invokeinterface 1 0, 11, []) := (r_get (C := RX1) (T := TX1) (N := 11) (ci := 1) (j := 0) (ref := RX1) dX1_givesAt_8 rfl inX1 (by decide) wd_196 rfl).row
theorem o21_11 : OkE cX1_givesAt RX1 "givesAt" 2 1 false (11, .iload 1, 12, []) := (r_iload_n dX1_givesAt_11 rfl).row
theorem o21_12 : OkE cX1_givesAt RX1 "givesAt" 2 1 false (12, .iaload, 13, []) := (r_iald dX1_givesAt_12).row
theorem o21_13 : OkE cX1_givesAt RX1 "givesAt" 2 1 false (13, .goto 17, 16, []) := (r_goto dX1_givesAt_13 rfl).row
theorem o21_16 : OkE cX1_givesAt RX1 "givesAt" 2 1 false (16, .iconst 0, 17, []) := (r_iconst dX1_givesAt_16 rfl).row
theorem o21_17 : OkE cX1_givesAt RX1 "givesAt" 2 1 false (17, .ireturn, 18, [0, 1]) := dX1_givesAt_17
theorem ok21 : ∀ x ∈ k21, OkE cX1_givesAt RX1 "givesAt" 2 1 false x := List.forall_mem_cons.mpr ⟨o21_0, List.forall_mem_cons.mpr ⟨o21_1, List.forall_mem_cons.mpr ⟨o21_4, List.forall_mem_cons.mpr ⟨o21_7, List.forall_mem_cons.mpr ⟨o21_8, List.forall_mem_cons.mpr ⟨o21_11, List.forall_mem_cons.mpr ⟨o21_12, List.forall_mem_cons.mpr ⟨o21_13, List.forall_mem_cons.mpr ⟨o21_16, List.forall_mem_cons.mpr ⟨o21_17, fun _ h => absurd h List.not_mem_nil⟩⟩⟩⟩⟩⟩⟩⟩⟩⟩
theorem o22_0 : OkE cX1_habitAt RX1 "habitAt" 2 1 false (0, .iload 1, 1, []) := (r_iload_n dX1_habitAt_0 rfl).row
theorem o22_1 : OkE cX1_habitAt RX1 "habitAt" 2 1 false (1, .invokestatic 139, 4, []) := ⟨rfl, c_SN dX1_habitAt_1 wd_778 wd_379 wd_64 wd_380 nmh_8⟩
theorem o22_4 : OkE cX1_habitAt RX1 "habitAt" 2 1 false (4, .ifCond .eq 16, 7, []) := (r_if_eq dX1_habitAt_4 rfl).row
theorem o22_7 : OkE cX1_habitAt RX1 "habitAt" 2 1 false (7, .aload 0, 8, []) := (r_aload_n dX1_habitAt_7 rfl).row
theorem o22_8 : OkE cX1_habitAt RX1 "habitAt" 2 1 false (8, .invokeinterface 1 1, 11, []) := (r_get (C := RX1) (T := TX1) (N := 11) (ci := 1) (j := 1) (ref := RX1) dX1_habitAt_8 rfl inX1 (by decide) wd_197 rfl).row
theorem o22_11 : OkE cX1_habitAt RX1 "habitAt" 2 1 false (11, .iload 1, 12, []) := (r_iload_n dX1_habitAt_11 rfl).row
theorem o22_12 : OkE cX1_habitAt RX1 "habitAt" 2 1 false (12, .iaload, 13, []) := (r_iald dX1_habitAt_12).row
theorem o22_13 : OkE cX1_habitAt RX1 "habitAt" 2 1 false (13, .goto 17, 16, []) := (r_goto dX1_habitAt_13 rfl).row
theorem o22_16 : OkE cX1_habitAt RX1 "habitAt" 2 1 false (16, .iconst 0, 17, []) := (r_iconst dX1_habitAt_16 rfl).row
theorem o22_17 : OkE cX1_habitAt RX1 "habitAt" 2 1 false (17, .ireturn, 18, [0, 1]) := dX1_habitAt_17
theorem ok22 : ∀ x ∈ k22, OkE cX1_habitAt RX1 "habitAt" 2 1 false x := List.forall_mem_cons.mpr ⟨o22_0, List.forall_mem_cons.mpr ⟨o22_1, List.forall_mem_cons.mpr ⟨o22_4, List.forall_mem_cons.mpr ⟨o22_7, List.forall_mem_cons.mpr ⟨o22_8, List.forall_mem_cons.mpr ⟨o22_11, List.forall_mem_cons.mpr ⟨o22_12, List.forall_mem_cons.mpr ⟨o22_13, List.forall_mem_cons.mpr ⟨o22_16, List.forall_mem_cons.mpr ⟨o22_17, fun _ h => absurd h List.not_mem_nil⟩⟩⟩⟩⟩⟩⟩⟩⟩⟩
theorem o23_0 : OkE cX1_isMoreTold RX1 "isMoreTold" 3 1 false (0, .iload 1, 1, []) := (r_iload_n dX1_isMoreTold_0 rfl).row
theorem o23_1 : OkE cX1_isMoreTold RX1 "isMoreTold" 3 1 false (1, .invokestatic 139, 4, []) := ⟨rfl, c_SN dX1_isMoreTold_1 wd_778 wd_379 wd_64 wd_380 nmh_8⟩
theorem o23_4 : OkE cX1_isMoreTold RX1 "isMoreTold" 3 1 false (4, .ifCond .eq 32, 7, []) := (r_if_eq dX1_isMoreTold_4 rfl).row
theorem o23_7 : OkE cX1_isMoreTold RX1 "isMoreTold" 3 1 false (7, .iload 2, 8, []) := (r_iload_n dX1_isMoreTold_7 rfl).row
theorem o23_8 : OkE cX1_isMoreTold RX1 "isMoreTold" 3 1 false (8, .invokestatic 141, 11, []) := ⟨rfl, c_SN dX1_isMoreTold_8 wd_794 wd_795 wd_64 wd_796 nmh_8⟩
theorem o23_11 : OkE cX1_isMoreTold RX1 "isMoreTold" 3 1 false (11, .ifCond .eq 32, 14, []) := (r_if_eq dX1_isMoreTold_11 rfl).row
theorem o23_14 : OkE cX1_isMoreTold RX1 "isMoreTold" 3 1 false (14, .aload 0, 15, []) := (r_aload_n dX1_isMoreTold_14 rfl).row
theorem o23_15 : OkE cX1_isMoreTold RX1 "isMoreTold" 3 1 false (15, .invokeinterface 1 2, 18, []) := (r_get (C := RX1) (T := TX1) (N := 11) (ci := 1) (j := 2) (ref := RX1) dX1_isMoreTold_15 rfl inX1 (by decide) wd_198 rfl).row
theorem o23_18 : OkE cX1_isMoreTold RX1 "isMoreTold" 3 1 false (18, .iload 1, 19, []) := (r_iload_n dX1_isMoreTold_18 rfl).row
theorem o23_19 : OkE cX1_isMoreTold RX1 "isMoreTold" 3 1 false (19, .iaload, 20, []) := (r_iald dX1_isMoreTold_19).row
theorem o23_20 : OkE cX1_isMoreTold RX1 "isMoreTold" 3 1 false (20, .iload 2, 21, []) := (r_iload_n dX1_isMoreTold_20 rfl).row
theorem o23_21 : OkE cX1_isMoreTold RX1 "isMoreTold" 3 1 false (21, .ishr, 22, []) := (r_ishr dX1_isMoreTold_21).row
theorem o23_22 : OkE cX1_isMoreTold RX1 "isMoreTold" 3 1 false (22, .iconst 1, 23, []) := (r_iconst dX1_isMoreTold_22 rfl).row
theorem o23_23 : OkE cX1_isMoreTold RX1 "isMoreTold" 3 1 false (23, .iand, 24, []) := (r_iand dX1_isMoreTold_23).row
theorem o23_24 : OkE cX1_isMoreTold RX1 "isMoreTold" 3 1 false (24, .iconst 1, 25, []) := (r_iconst dX1_isMoreTold_24 rfl).row
theorem o23_25 : OkE cX1_isMoreTold RX1 "isMoreTold" 3 1 false (25, .if_icmp .ne 32, 28, []) := (r_icmp_ne dX1_isMoreTold_25 rfl).row
theorem o23_28 : OkE cX1_isMoreTold RX1 "isMoreTold" 3 1 false (28, .iconst 1, 29, []) := (r_iconst dX1_isMoreTold_28 rfl).row
theorem o23_29 : OkE cX1_isMoreTold RX1 "isMoreTold" 3 1 false (29, .goto 33, 32, []) := (r_goto dX1_isMoreTold_29 rfl).row
theorem o23_32 : OkE cX1_isMoreTold RX1 "isMoreTold" 3 1 false (32, .iconst 0, 33, [0, 1, 2]) := (r_iconst dX1_isMoreTold_32 rfl).row
theorem o23_33 : OkE cX1_isMoreTold RX1 "isMoreTold" 3 1 false (33, .ireturn, 34, [0, 1, 2]) := dX1_isMoreTold_33
theorem ok23 : ∀ x ∈ k23, OkE cX1_isMoreTold RX1 "isMoreTold" 3 1 false x := List.forall_mem_cons.mpr ⟨o23_0, List.forall_mem_cons.mpr ⟨o23_1, List.forall_mem_cons.mpr ⟨o23_4, List.forall_mem_cons.mpr ⟨o23_7, List.forall_mem_cons.mpr ⟨o23_8, List.forall_mem_cons.mpr ⟨o23_11, List.forall_mem_cons.mpr ⟨o23_14, List.forall_mem_cons.mpr ⟨o23_15, List.forall_mem_cons.mpr ⟨o23_18, List.forall_mem_cons.mpr ⟨o23_19, List.forall_mem_cons.mpr ⟨o23_20, List.forall_mem_cons.mpr ⟨o23_21, List.forall_mem_cons.mpr ⟨o23_22, List.forall_mem_cons.mpr ⟨o23_23, List.forall_mem_cons.mpr ⟨o23_24, List.forall_mem_cons.mpr ⟨o23_25, List.forall_mem_cons.mpr ⟨o23_28, List.forall_mem_cons.mpr ⟨o23_29, List.forall_mem_cons.mpr ⟨o23_32, List.forall_mem_cons.mpr ⟨o23_33, fun _ h => absurd h List.not_mem_nil⟩⟩⟩⟩⟩⟩⟩⟩⟩⟩⟩⟩⟩⟩⟩⟩⟩⟩⟩⟩
theorem o24_0 : OkE cX1_setGives RX1 "setGives" 4 2 false (0, .aload 0, 1, []) := (r_aload_n dX1_setGives_0 rfl).row
theorem o24_1 : OkE cX1_setGives RX1 "setGives" 4 2 false (1, .iload 1, 2, []) := (r_iload_n dX1_setGives_1 rfl).row
theorem o24_2 : OkE cX1_setGives RX1 "setGives" 4 2 false (2, .invokevirtual 21, 5, []) := ⟨rfl, c_V dX1_setGives_2 wd_774 wd_775 wd_776 wd_70 wd_777 nmh_1⟩
theorem o24_5 : OkE cX1_setGives RX1 "setGives" 4 2 false (5, .istore 3, 6, []) := (r_istore_n dX1_setGives_5 rfl).row
theorem o24_6 : OkE cX1_setGives RX1 "setGives" 4 2 false (6, .iload 1, 7, []) := (r_iload_n dX1_setGives_6 rfl).row
theorem o24_7 : OkE cX1_setGives RX1 "setGives" 4 2 false (7, .invokestatic 139, 10, []) := ⟨rfl, c_SN dX1_setGives_7 wd_778 wd_379 wd_64 wd_380 nmh_8⟩
theorem o24_10 : OkE cX1_setGives RX1 "setGives" 4 2 false (10, .ifCond .eq 20, 13, []) := (r_if_eq dX1_setGives_10 rfl).row
theorem o24_13 : OkE cX1_setGives RX1 "setGives" 4 2 false (13, .aload 0, 14, []) := (r_aload_n dX1_setGives_13 rfl).row
theorem o24_14 : OkE cX1_setGives RX1 "setGives" 4 2 false (14, .invokeinterface 1 0, 17, []) := (r_get (C := RX1) (T := TX1) (N := 11) (ci := 1) (j := 0) (ref := RX1) dX1_setGives_14 rfl inX1 (by decide) wd_196 rfl).row
theorem o24_17 : OkE cX1_setGives RX1 "setGives" 4 2 false (17, .iload 1, 18, []) := (r_iload_n dX1_setGives_17 rfl).row
theorem o24_18 : OkE cX1_setGives RX1 "setGives" 4 2 false (18, .iload 2, 19, []) := (r_iload_n dX1_setGives_18 rfl).row
theorem o24_19 : OkE cX1_setGives RX1 "setGives" 4 2 false (19, .iastore, 20, []) := r_iast dX1_setGives_19
theorem o24_20 : OkE cX1_setGives RX1 "setGives" 4 2 false (20, .iload 3, 21, [0, 1, 2]) := (r_iload_n dX1_setGives_20 rfl).row
theorem o24_21 : OkE cX1_setGives RX1 "setGives" 4 2 false (21, .ireturn, 22, []) := dX1_setGives_21
theorem ok24 : ∀ x ∈ k24, OkE cX1_setGives RX1 "setGives" 4 2 false x := List.forall_mem_cons.mpr ⟨o24_0, List.forall_mem_cons.mpr ⟨o24_1, List.forall_mem_cons.mpr ⟨o24_2, List.forall_mem_cons.mpr ⟨o24_5, List.forall_mem_cons.mpr ⟨o24_6, List.forall_mem_cons.mpr ⟨o24_7, List.forall_mem_cons.mpr ⟨o24_10, List.forall_mem_cons.mpr ⟨o24_13, List.forall_mem_cons.mpr ⟨o24_14, List.forall_mem_cons.mpr ⟨o24_17, List.forall_mem_cons.mpr ⟨o24_18, List.forall_mem_cons.mpr ⟨o24_19, List.forall_mem_cons.mpr ⟨o24_20, List.forall_mem_cons.mpr ⟨o24_21, fun _ h => absurd h List.not_mem_nil⟩⟩⟩⟩⟩⟩⟩⟩⟩⟩⟩⟩⟩⟩
theorem o25_0 : OkE cX1_setMore RX1 "setMore" 4 1 false (0, .iload 1, 1, []) := (r_iload_n dX1_setMore_0 rfl).row
theorem o25_1 : OkE cX1_setMore RX1 "setMore" 4 1 false (1, .invokestatic 139, 4, []) := ⟨rfl, c_SN dX1_setMore_1 wd_778 wd_379 wd_64 wd_380 nmh_8⟩
theorem o25_4 : OkE cX1_setMore RX1 "setMore" 4 1 false (4, .ifCond .ne 9, 7, []) := (r_if_ne dX1_setMore_4 rfl).row
theorem o25_7 : OkE cX1_setMore RX1 "setMore" 4 1 false (7, .iconst 0, 8, []) := (r_iconst dX1_setMore_7 rfl).row
theorem o25_8 : OkE cX1_setMore RX1 "setMore" 4 1 false (8, .ireturn, 9, []) := dX1_setMore_8
theorem o25_9 : OkE cX1_setMore RX1 "setMore" 4 1 false (9, .aload 0, 10, []) := (r_aload_n dX1_setMore_9 rfl).row
theorem o25_10 : OkE cX1_setMore RX1 "setMore" 4 1 false (10, .invokeinterface 1 2, 13, []) := (r_get (C := RX1) (T := TX1) (N := 11) (ci := 1) (j := 2) (ref := RX1) dX1_setMore_10 rfl inX1 (by decide) wd_198 rfl).row
theorem o25_13 : OkE cX1_setMore RX1 "setMore" 4 1 false (13, .iload 1, 14, []) := (r_iload_n dX1_setMore_13 rfl).row
theorem o25_14 : OkE cX1_setMore RX1 "setMore" 4 1 false (14, .iaload, 15, []) := (r_iald dX1_setMore_14).row
theorem o25_15 : OkE cX1_setMore RX1 "setMore" 4 1 false (15, .istore 3, 16, []) := (r_istore_n dX1_setMore_15 rfl).row
theorem o25_16 : OkE cX1_setMore RX1 "setMore" 4 1 false (16, .aload 0, 17, []) := (r_aload_n dX1_setMore_16 rfl).row
theorem o25_17 : OkE cX1_setMore RX1 "setMore" 4 1 false (17, .invokeinterface 1 2, 20, []) := (r_get (C := RX1) (T := TX1) (N := 11) (ci := 1) (j := 2) (ref := RX1) dX1_setMore_17 rfl inX1 (by decide) wd_198 rfl).row
theorem o25_20 : OkE cX1_setMore RX1 "setMore" 4 1 false (20, .iload 1, 21, []) := (r_iload_n dX1_setMore_20 rfl).row
theorem o25_21 : OkE cX1_setMore RX1 "setMore" 4 1 false (21, .iload 2, 22, []) := (r_iload_n dX1_setMore_21 rfl).row
theorem o25_22 : OkE cX1_setMore RX1 "setMore" 4 1 false (22, .iastore, 23, []) := r_iast dX1_setMore_22
theorem o25_23 : OkE cX1_setMore RX1 "setMore" 4 1 false (23, .iload 3, 24, []) := (r_iload_n dX1_setMore_23 rfl).row
theorem o25_24 : OkE cX1_setMore RX1 "setMore" 4 1 false (24, .ireturn, 25, []) := dX1_setMore_24
theorem ok25 : ∀ x ∈ k25, OkE cX1_setMore RX1 "setMore" 4 1 false x := List.forall_mem_cons.mpr ⟨o25_0, List.forall_mem_cons.mpr ⟨o25_1, List.forall_mem_cons.mpr ⟨o25_4, List.forall_mem_cons.mpr ⟨o25_7, List.forall_mem_cons.mpr ⟨o25_8, List.forall_mem_cons.mpr ⟨o25_9, List.forall_mem_cons.mpr ⟨o25_10, List.forall_mem_cons.mpr ⟨o25_13, List.forall_mem_cons.mpr ⟨o25_14, List.forall_mem_cons.mpr ⟨o25_15, List.forall_mem_cons.mpr ⟨o25_16, List.forall_mem_cons.mpr ⟨o25_17, List.forall_mem_cons.mpr ⟨o25_20, List.forall_mem_cons.mpr ⟨o25_21, List.forall_mem_cons.mpr ⟨o25_22, List.forall_mem_cons.mpr ⟨o25_23, List.forall_mem_cons.mpr ⟨o25_24, fun _ h => absurd h List.not_mem_nil⟩⟩⟩⟩⟩⟩⟩⟩⟩⟩⟩⟩⟩⟩⟩⟩⟩
theorem o26_0 : OkE cX1_addOrder RX1 "addOrder" 4 0 false (0, .aload 0, 1, []) := (r_aload_n dX1_addOrder_0 rfl).row
theorem o26_1 : OkE cX1_addOrder RX1 "addOrder" 4 0 false (1, .invokeinterface 1 10, 4, []) := (r_get (C := RX1) (T := TX1) (N := 11) (ci := 1) (j := 10) (ref := RX1) dX1_addOrder_1 rfl inX1 (by decide) wd_217 rfl).row
theorem o26_4 : OkE cX1_addOrder RX1 "addOrder" 4 0 false (4, .iconst 6, 6, []) := (r_bipush dX1_addOrder_4 rfl).row
theorem o26_6 : OkE cX1_addOrder RX1 "addOrder" 4 0 false (6, .if_icmp .lt 11, 9, []) := (r_icmp_lt dX1_addOrder_6 rfl).row
theorem o26_9 : OkE cX1_addOrder RX1 "addOrder" 4 0 false (9, .iconst 0, 10, []) := (r_iconst dX1_addOrder_9 rfl).row
theorem o26_10 : OkE cX1_addOrder RX1 "addOrder" 4 0 false (10, .ireturn, 11, []) := dX1_addOrder_10
theorem o26_11 : OkE cX1_addOrder RX1 "addOrder" 4 0 false (11, .aload 0, 12, []) := (r_aload_n dX1_addOrder_11 rfl).row
theorem o26_12 : OkE cX1_addOrder RX1 "addOrder" 4 0 false (12, .invokeinterface 1 3, 15, []) := (r_get (C := RX1) (T := TX1) (N := 11) (ci := 1) (j := 3) (ref := RX1) dX1_addOrder_12 rfl inX1 (by decide) wd_199 rfl).row
theorem o26_15 : OkE cX1_addOrder RX1 "addOrder" 4 0 false (15, .aload 0, 16, []) := (r_aload_n dX1_addOrder_15 rfl).row
theorem o26_16 : OkE cX1_addOrder RX1 "addOrder" 4 0 false (16, .invokeinterface 1 10, 19, []) := (r_get (C := RX1) (T := TX1) (N := 11) (ci := 1) (j := 10) (ref := RX1) dX1_addOrder_16 rfl inX1 (by decide) wd_217 rfl).row
theorem o26_19 : OkE cX1_addOrder RX1 "addOrder" 4 0 false (19, .iload 1, 20, []) := (r_iload_n dX1_addOrder_19 rfl).row
theorem o26_20 : OkE cX1_addOrder RX1 "addOrder" 4 0 false (20, .iastore, 21, []) := r_iast dX1_addOrder_20
theorem o26_21 : OkE cX1_addOrder RX1 "addOrder" 4 0 false (21, .aload 0, 22, []) := (r_aload_n dX1_addOrder_21 rfl).row
theorem o26_22 : OkE cX1_addOrder RX1 "addOrder" 4 0 false (22, .invokeinterface 1 4, 25, []) := (r_get (C := RX1) (T := TX1) (N := 11) (ci := 1) (j := 4) (ref := RX1) dX1_addOrder_22 rfl inX1 (by decide) wd_201 rfl).row
theorem o26_25 : OkE cX1_addOrder RX1 "addOrder" 4 0 false (25, .aload 0, 26, []) := (r_aload_n dX1_addOrder_25 rfl).row
theorem o26_26 : OkE cX1_addOrder RX1 "addOrder" 4 0 false (26, .invokeinterface 1 10, 29, []) := (r_get (C := RX1) (T := TX1) (N := 11) (ci := 1) (j := 10) (ref := RX1) dX1_addOrder_26 rfl inX1 (by decide) wd_217 rfl).row
theorem o26_29 : OkE cX1_addOrder RX1 "addOrder" 4 0 false (29, .iload 2, 30, []) := (r_iload_n dX1_addOrder_29 rfl).row
theorem o26_30 : OkE cX1_addOrder RX1 "addOrder" 4 0 false (30, .iastore, 31, []) := r_iast dX1_addOrder_30
theorem o26_31 : OkE cX1_addOrder RX1 "addOrder" 4 0 false (31, .aload 0, 32, []) := (r_aload_n dX1_addOrder_31 rfl).row
theorem o26_32 : OkE cX1_addOrder RX1 "addOrder" 4 0 false (32, .invokeinterface 1 5, 35, []) := (r_get (C := RX1) (T := TX1) (N := 11) (ci := 1) (j := 5) (ref := RX1) dX1_addOrder_32 rfl inX1 (by decide) wd_203 rfl).row
theorem o26_35 : OkE cX1_addOrder RX1 "addOrder" 4 0 false (35, .aload 0, 36, []) := (r_aload_n dX1_addOrder_35 rfl).row
theorem o26_36 : OkE cX1_addOrder RX1 "addOrder" 4 0 false (36, .invokeinterface 1 10, 39, []) := (r_get (C := RX1) (T := TX1) (N := 11) (ci := 1) (j := 10) (ref := RX1) dX1_addOrder_36 rfl inX1 (by decide) wd_217 rfl).row
theorem o26_39 : OkE cX1_addOrder RX1 "addOrder" 4 0 false (39, .iload 3, 40, []) := (r_iload_n dX1_addOrder_39 rfl).row
theorem o26_40 : OkE cX1_addOrder RX1 "addOrder" 4 0 false (40, .iastore, 41, []) := r_iast dX1_addOrder_40
theorem o26_41 : OkE cX1_addOrder RX1 "addOrder" 4 0 false (41, .aload 0, 42, []) := (r_aload_n dX1_addOrder_41 rfl).row
theorem o26_42 : OkE cX1_addOrder RX1 "addOrder" 4 0 false (42, .dup, 43, []) := (r_dup dX1_addOrder_42).row
theorem o26_43 : OkE cX1_addOrder RX1 "addOrder" 4 0 false (43, .invokeinterface 1 10, 46, []) := (r_get (C := RX1) (T := TX1) (N := 11) (ci := 1) (j := 10) (ref := RX1) dX1_addOrder_43 rfl inX1 (by decide) wd_217 rfl).row
theorem o26_46 : OkE cX1_addOrder RX1 "addOrder" 4 0 false (46, .iconst 1, 47, []) := (r_iconst dX1_addOrder_46 rfl).row
theorem o26_47 : OkE cX1_addOrder RX1 "addOrder" 4 0 false (47, .iadd, 48, []) := (r_iadd dX1_addOrder_47).row
theorem o26_48 : OkE cX1_addOrder RX1 "addOrder" 4 0 false (48, .multianewarray 1 10, 51, []) := r_putI (C := RX1) (T := TX1) (N := 11) (ci := 1) (j := 10) (ref := RX1) dX1_addOrder_48 rfl inX1 tyX1 tyX1_ok nmX1 (by decide) wd_217 rfl rfl (tyX1_ok 10 (by decide)) rfl
theorem o26_51 : OkE cX1_addOrder RX1 "addOrder" 4 0 false (51, .iconst 1, 52, []) := (r_iconst dX1_addOrder_51 rfl).row
theorem o26_52 : OkE cX1_addOrder RX1 "addOrder" 4 0 false (52, .ireturn, 53, []) := dX1_addOrder_52
theorem ok26 : ∀ x ∈ k26, OkE cX1_addOrder RX1 "addOrder" 4 0 false x := List.forall_mem_cons.mpr ⟨o26_0, List.forall_mem_cons.mpr ⟨o26_1, List.forall_mem_cons.mpr ⟨o26_4, List.forall_mem_cons.mpr ⟨o26_6, List.forall_mem_cons.mpr ⟨o26_9, List.forall_mem_cons.mpr ⟨o26_10, List.forall_mem_cons.mpr ⟨o26_11, List.forall_mem_cons.mpr ⟨o26_12, List.forall_mem_cons.mpr ⟨o26_15, List.forall_mem_cons.mpr ⟨o26_16, List.forall_mem_cons.mpr ⟨o26_19, List.forall_mem_cons.mpr ⟨o26_20, List.forall_mem_cons.mpr ⟨o26_21, List.forall_mem_cons.mpr ⟨o26_22, List.forall_mem_cons.mpr ⟨o26_25, List.forall_mem_cons.mpr ⟨o26_26, List.forall_mem_cons.mpr ⟨o26_29, List.forall_mem_cons.mpr ⟨o26_30, List.forall_mem_cons.mpr ⟨o26_31, List.forall_mem_cons.mpr ⟨o26_32, List.forall_mem_cons.mpr ⟨o26_35, List.forall_mem_cons.mpr ⟨o26_36, List.forall_mem_cons.mpr ⟨o26_39, List.forall_mem_cons.mpr ⟨o26_40, List.forall_mem_cons.mpr ⟨o26_41, List.forall_mem_cons.mpr ⟨o26_42, List.forall_mem_cons.mpr ⟨o26_43, List.forall_mem_cons.mpr ⟨o26_46, List.forall_mem_cons.mpr ⟨o26_47, List.forall_mem_cons.mpr ⟨o26_48, List.forall_mem_cons.mpr ⟨o26_51, List.forall_mem_cons.mpr ⟨o26_52, fun _ h => absurd h List.not_mem_nil⟩⟩⟩⟩⟩⟩⟩⟩⟩⟩⟩⟩⟩⟩⟩⟩⟩⟩⟩⟩⟩⟩⟩⟩⟩⟩⟩⟩⟩⟩⟩⟩
theorem o27_0 : OkE cX1_givenOut RX1 "givenOut" 3 0 false (0, .iconst 0, 1, []) := (r_iconst dX1_givenOut_0 rfl).row
theorem o27_1 : OkE cX1_givenOut RX1 "givenOut" 3 0 false (1, .istore 1, 2, []) := (r_istore_n dX1_givenOut_1 rfl).row
theorem o27_2 : OkE cX1_givenOut RX1 "givenOut" 3 0 false (2, .iconst 0, 3, []) := (r_iconst dX1_givenOut_2 rfl).row
theorem o27_3 : OkE cX1_givenOut RX1 "givenOut" 3 0 false (3, .istore 2, 4, []) := (r_istore_n dX1_givenOut_3 rfl).row
theorem o27_4 : OkE cX1_givenOut RX1 "givenOut" 3 0 false (4, .iload 2, 5, []) := (r_iload_n dX1_givenOut_4 rfl).row
theorem o27_5 : OkE cX1_givenOut RX1 "givenOut" 3 0 false (5, .iconst 3, 6, []) := (r_iconst dX1_givenOut_5 rfl).row
theorem o27_6 : OkE cX1_givenOut RX1 "givenOut" 3 0 false (6, .if_icmp .ge 24, 9, []) := (r_icmp_ge dX1_givenOut_6 rfl).row
theorem o27_9 : OkE cX1_givenOut RX1 "givenOut" 3 0 false (9, .iload 1, 10, []) := (r_iload_n dX1_givenOut_9 rfl).row
theorem o27_10 : OkE cX1_givenOut RX1 "givenOut" 3 0 false (10, .aload 0, 11, []) := (r_aload_n dX1_givenOut_10 rfl).row
theorem o27_11 : OkE cX1_givenOut RX1 "givenOut" 3 0 false (11, .invokeinterface 1 0, 14, []) := (r_get (C := RX1) (T := TX1) (N := 11) (ci := 1) (j := 0) (ref := RX1) dX1_givenOut_11 rfl inX1 (by decide) wd_196 rfl).row
theorem o27_14 : OkE cX1_givenOut RX1 "givenOut" 3 0 false (14, .iload 2, 15, []) := (r_iload_n dX1_givenOut_14 rfl).row
theorem o27_15 : OkE cX1_givenOut RX1 "givenOut" 3 0 false (15, .iaload, 16, []) := (r_iald dX1_givenOut_15).row
theorem o27_16 : OkE cX1_givenOut RX1 "givenOut" 3 0 false (16, .iadd, 17, []) := (r_iadd dX1_givenOut_16).row
theorem o27_17 : OkE cX1_givenOut RX1 "givenOut" 3 0 false (17, .istore 1, 18, []) := (r_istore_n dX1_givenOut_17 rfl).row
theorem o27_18 : OkE cX1_givenOut RX1 "givenOut" 3 0 false (18, .iinc 2 1, 21, []) := (r_iinc dX1_givenOut_18 rfl).row
theorem o27_21 : OkE cX1_givenOut RX1 "givenOut" 3 0 false (21, .goto 4, 24, []) := (r_goto dX1_givenOut_21 rfl).row
theorem o27_24 : OkE cX1_givenOut RX1 "givenOut" 3 0 false (24, .iload 1, 25, []) := (r_iload_n dX1_givenOut_24 rfl).row
theorem o27_25 : OkE cX1_givenOut RX1 "givenOut" 3 0 false (25, .ireturn, 26, []) := dX1_givenOut_25
theorem ok27 : ∀ x ∈ k27, OkE cX1_givenOut RX1 "givenOut" 3 0 false x := List.forall_mem_cons.mpr ⟨o27_0, List.forall_mem_cons.mpr ⟨o27_1, List.forall_mem_cons.mpr ⟨o27_2, List.forall_mem_cons.mpr ⟨o27_3, List.forall_mem_cons.mpr ⟨o27_4, List.forall_mem_cons.mpr ⟨o27_5, List.forall_mem_cons.mpr ⟨o27_6, List.forall_mem_cons.mpr ⟨o27_9, List.forall_mem_cons.mpr ⟨o27_10, List.forall_mem_cons.mpr ⟨o27_11, List.forall_mem_cons.mpr ⟨o27_14, List.forall_mem_cons.mpr ⟨o27_15, List.forall_mem_cons.mpr ⟨o27_16, List.forall_mem_cons.mpr ⟨o27_17, List.forall_mem_cons.mpr ⟨o27_18, List.forall_mem_cons.mpr ⟨o27_21, List.forall_mem_cons.mpr ⟨o27_24, List.forall_mem_cons.mpr ⟨o27_25, fun _ h => absurd h List.not_mem_nil⟩⟩⟩⟩⟩⟩⟩⟩⟩⟩⟩⟩⟩⟩⟩⟩⟩⟩
theorem o28_0 : OkE cX1_changeHabit RX1 "changeHabit" 4 1 false (0, .iload 1, 1, []) := (r_iload_n dX1_changeHabit_0 rfl).row
theorem o28_1 : OkE cX1_changeHabit RX1 "changeHabit" 4 1 false (1, .invokestatic 139, 4, []) := ⟨rfl, c_SN dX1_changeHabit_1 wd_778 wd_379 wd_64 wd_380 nmh_8⟩
theorem o28_4 : OkE cX1_changeHabit RX1 "changeHabit" 4 1 false (4, .ifCond .ne 9, 7, []) := (r_if_ne dX1_changeHabit_4 rfl).row
theorem o28_7 : OkE cX1_changeHabit RX1 "changeHabit" 4 1 false (7, .iconst 0, 8, []) := (r_iconst dX1_changeHabit_7 rfl).row
theorem o28_8 : OkE cX1_changeHabit RX1 "changeHabit" 4 1 false (8, .ireturn, 9, []) := dX1_changeHabit_8
theorem o28_9 : OkE cX1_changeHabit RX1 "changeHabit" 4 1 false (9, .aload 0, 10, []) := (r_aload_n dX1_changeHabit_9 rfl).row
theorem o28_10 : OkE cX1_changeHabit RX1 "changeHabit" 4 1 false (10, .invokeinterface 1 1, 13, []) := (r_get (C := RX1) (T := TX1) (N := 11) (ci := 1) (j := 1) (ref := RX1) dX1_changeHabit_10 rfl inX1 (by decide) wd_197 rfl).row
theorem o28_13 : OkE cX1_changeHabit RX1 "changeHabit" 4 1 false (13, .iload 1, 14, []) := (r_iload_n dX1_changeHabit_13 rfl).row
theorem o28_14 : OkE cX1_changeHabit RX1 "changeHabit" 4 1 false (14, .iaload, 15, []) := (r_iald dX1_changeHabit_14).row
theorem o28_15 : OkE cX1_changeHabit RX1 "changeHabit" 4 1 false (15, .istore 3, 16, []) := (r_istore_n dX1_changeHabit_15 rfl).row
theorem o28_16 : OkE cX1_changeHabit RX1 "changeHabit" 4 1 false (16, .aload 0, 17, []) := (r_aload_n dX1_changeHabit_16 rfl).row
theorem o28_17 : OkE cX1_changeHabit RX1 "changeHabit" 4 1 false (17, .invokeinterface 1 1, 20, []) := (r_get (C := RX1) (T := TX1) (N := 11) (ci := 1) (j := 1) (ref := RX1) dX1_changeHabit_17 rfl inX1 (by decide) wd_197 rfl).row
theorem o28_20 : OkE cX1_changeHabit RX1 "changeHabit" 4 1 false (20, .iload 1, 21, []) := (r_iload_n dX1_changeHabit_20 rfl).row
theorem o28_21 : OkE cX1_changeHabit RX1 "changeHabit" 4 1 false (21, .iload 2, 22, []) := (r_iload_n dX1_changeHabit_21 rfl).row
theorem o28_22 : OkE cX1_changeHabit RX1 "changeHabit" 4 1 false (22, .ifCond .eq 36, 25, []) := (r_if_eq dX1_changeHabit_22 rfl).row
theorem o28_25 : OkE cX1_changeHabit RX1 "changeHabit" 4 1 false (25, .iload 3, 26, []) := (r_iload_n dX1_changeHabit_25 rfl).row
theorem o28_26 : OkE cX1_changeHabit RX1 "changeHabit" 4 1 false (26, .iconst 1, 27, []) := (r_iconst dX1_changeHabit_26 rfl).row
theorem o28_27 : OkE cX1_changeHabit RX1 "changeHabit" 4 1 false (27, .iadd, 28, []) := (r_iadd dX1_changeHabit_27).row
theorem o28_28 : OkE cX1_changeHabit RX1 "changeHabit" 4 1 false (28, .iconst 9, 30, []) := (r_bipush dX1_changeHabit_28 rfl).row
theorem o28_30 : OkE cX1_changeHabit RX1 "changeHabit" 4 1 false (30, .fsub, 33, []) := (r_mini dX1_changeHabit_30 wd_927 wd_746 wd_75 wd_747 (by decide)).row
theorem o28_33 : OkE cX1_changeHabit RX1 "changeHabit" 4 1 false (33, .goto 43, 36, []) := (r_goto dX1_changeHabit_33 rfl).row
theorem o28_36 : OkE cX1_changeHabit RX1 "changeHabit" 4 1 false (36, .iload 3, 37, []) := (r_iload_n dX1_changeHabit_36 rfl).row
theorem o28_37 : OkE cX1_changeHabit RX1 "changeHabit" 4 1 false (37, .iconst 1, 38, []) := (r_iconst dX1_changeHabit_37 rfl).row
theorem o28_38 : OkE cX1_changeHabit RX1 "changeHabit" 4 1 false (38, .isub, 39, []) := (r_isub dX1_changeHabit_38).row
theorem o28_39 : OkE cX1_changeHabit RX1 "changeHabit" 4 1 false (39, .iconst 0, 40, []) := (r_iconst dX1_changeHabit_39 rfl).row
theorem o28_40 : OkE cX1_changeHabit RX1 "changeHabit" 4 1 false (40, .fadd, 43, []) := (r_maxi dX1_changeHabit_40 wd_854 wd_485 wd_75 wd_486 (by decide)).row
theorem o28_43 : OkE cX1_changeHabit RX1 "changeHabit" 4 1 false (43, .iastore, 44, [2]) := r_iast dX1_changeHabit_43
theorem o28_44 : OkE cX1_changeHabit RX1 "changeHabit" 4 1 false (44, .aload 0, 45, []) := (r_aload_n dX1_changeHabit_44 rfl).row
theorem o28_45 : OkE cX1_changeHabit RX1 "changeHabit" 4 1 false (45, .invokeinterface 1 1, 48, []) := (r_get (C := RX1) (T := TX1) (N := 11) (ci := 1) (j := 1) (ref := RX1) dX1_changeHabit_45 rfl inX1 (by decide) wd_197 rfl).row
theorem o28_48 : OkE cX1_changeHabit RX1 "changeHabit" 4 1 false (48, .iload 1, 49, []) := (r_iload_n dX1_changeHabit_48 rfl).row
theorem o28_49 : OkE cX1_changeHabit RX1 "changeHabit" 4 1 false (49, .iaload, 50, []) := (r_iald dX1_changeHabit_49).row
theorem o28_50 : OkE cX1_changeHabit RX1 "changeHabit" 4 1 false (50, .iload 3, 51, []) := (r_iload_n dX1_changeHabit_50 rfl).row
theorem o28_51 : OkE cX1_changeHabit RX1 "changeHabit" 4 1 false (51, .if_icmp .ge 58, 54, []) := (r_icmp_ge dX1_changeHabit_51 rfl).row
theorem o28_54 : OkE cX1_changeHabit RX1 "changeHabit" 4 1 false (54, .iconst 1, 55, []) := (r_iconst dX1_changeHabit_54 rfl).row
theorem o28_55 : OkE cX1_changeHabit RX1 "changeHabit" 4 1 false (55, .goto 59, 58, []) := (r_goto dX1_changeHabit_55 rfl).row
theorem o28_58 : OkE cX1_changeHabit RX1 "changeHabit" 4 1 false (58, .iconst 0, 59, []) := (r_iconst dX1_changeHabit_58 rfl).row
theorem o28_59 : OkE cX1_changeHabit RX1 "changeHabit" 4 1 false (59, .ireturn, 60, [0, 1, 2, 3]) := dX1_changeHabit_59
theorem ok28 : ∀ x ∈ k28, OkE cX1_changeHabit RX1 "changeHabit" 4 1 false x := List.forall_mem_cons.mpr ⟨o28_0, List.forall_mem_cons.mpr ⟨o28_1, List.forall_mem_cons.mpr ⟨o28_4, List.forall_mem_cons.mpr ⟨o28_7, List.forall_mem_cons.mpr ⟨o28_8, List.forall_mem_cons.mpr ⟨o28_9, List.forall_mem_cons.mpr ⟨o28_10, List.forall_mem_cons.mpr ⟨o28_13, List.forall_mem_cons.mpr ⟨o28_14, List.forall_mem_cons.mpr ⟨o28_15, List.forall_mem_cons.mpr ⟨o28_16, List.forall_mem_cons.mpr ⟨o28_17, List.forall_mem_cons.mpr ⟨o28_20, List.forall_mem_cons.mpr ⟨o28_21, List.forall_mem_cons.mpr ⟨o28_22, List.forall_mem_cons.mpr ⟨o28_25, List.forall_mem_cons.mpr ⟨o28_26, List.forall_mem_cons.mpr ⟨o28_27, List.forall_mem_cons.mpr ⟨o28_28, List.forall_mem_cons.mpr ⟨o28_30, List.forall_mem_cons.mpr ⟨o28_33, List.forall_mem_cons.mpr ⟨o28_36, List.forall_mem_cons.mpr ⟨o28_37, List.forall_mem_cons.mpr ⟨o28_38, List.forall_mem_cons.mpr ⟨o28_39, List.forall_mem_cons.mpr ⟨o28_40, List.forall_mem_cons.mpr ⟨o28_43, List.forall_mem_cons.mpr ⟨o28_44, List.forall_mem_cons.mpr ⟨o28_45, List.forall_mem_cons.mpr ⟨o28_48, List.forall_mem_cons.mpr ⟨o28_49, List.forall_mem_cons.mpr ⟨o28_50, List.forall_mem_cons.mpr ⟨o28_51, List.forall_mem_cons.mpr ⟨o28_54, List.forall_mem_cons.mpr ⟨o28_55, List.forall_mem_cons.mpr ⟨o28_58, List.forall_mem_cons.mpr ⟨o28_59, fun _ h => absurd h List.not_mem_nil⟩⟩⟩⟩⟩⟩⟩⟩⟩⟩⟩⟩⟩⟩⟩⟩⟩⟩⟩⟩⟩⟩⟩⟩⟩⟩⟩⟩⟩⟩⟩⟩⟩⟩⟩⟩⟩
theorem o29_0 : OkE cX1_comeByHabit RX1 "comeByHabit" 4 2 false (0, .aload 0, 1, []) := (r_aload_n dX1_comeByHabit_0 rfl).row
theorem o29_1 : OkE cX1_comeByHabit RX1 "comeByHabit" 4 2 false (1, .iload 1, 2, []) := (r_iload_n dX1_comeByHabit_1 rfl).row
theorem o29_2 : OkE cX1_comeByHabit RX1 "comeByHabit" 4 2 false (2, .invokevirtual 22, 5, []) := ⟨rfl, c_V dX1_comeByHabit_2 wd_850 wd_851 wd_852 wd_70 wd_853 nmh_1⟩
theorem o29_5 : OkE cX1_comeByHabit RX1 "comeByHabit" 4 2 false (5, .istore 3, 6, []) := (r_istore_n dX1_comeByHabit_5 rfl).row
theorem o29_6 : OkE cX1_comeByHabit RX1 "comeByHabit" 4 2 false (6, .iload 3, 7, []) := (r_iload_n dX1_comeByHabit_6 rfl).row
theorem o29_7 : OkE cX1_comeByHabit RX1 "comeByHabit" 4 2 false (7, .iconst 3, 8, []) := (r_iconst dX1_comeByHabit_7 rfl).row
theorem o29_8 : OkE cX1_comeByHabit RX1 "comeByHabit" 4 2 false (8, .if_icmp .ge 19, 11, []) := (r_icmp_ge dX1_comeByHabit_8 rfl).row
theorem o29_11 : OkE cX1_comeByHabit RX1 "comeByHabit" 4 2 false (11, .iload 2, 12, []) := (r_iload_n dX1_comeByHabit_11 rfl).row
theorem o29_12 : OkE cX1_comeByHabit RX1 "comeByHabit" 4 2 false (12, .iconst 1, 13, []) := (r_iconst dX1_comeByHabit_12 rfl).row
theorem o29_13 : OkE cX1_comeByHabit RX1 "comeByHabit" 4 2 false (13, .isub, 14, []) := (r_isub dX1_comeByHabit_13).row
theorem o29_14 : OkE cX1_comeByHabit RX1 "comeByHabit" 4 2 false (14, .iconst 0, 15, []) := (r_iconst dX1_comeByHabit_14 rfl).row
theorem o29_15 : OkE cX1_comeByHabit RX1 "comeByHabit" 4 2 false (15, .fadd, 18, []) := (r_maxi dX1_comeByHabit_15 wd_854 wd_485 wd_75 wd_486 (by decide)).row
theorem o29_18 : OkE cX1_comeByHabit RX1 "comeByHabit" 4 2 false (18, .ireturn, 19, []) := dX1_comeByHabit_18
theorem o29_19 : OkE cX1_comeByHabit RX1 "comeByHabit" 4 2 false (19, .iload 3, 20, []) := (r_iload_n dX1_comeByHabit_19 rfl).row
theorem o29_20 : OkE cX1_comeByHabit RX1 "comeByHabit" 4 2 false (20, .iconst 7, 22, []) := (r_bipush dX1_comeByHabit_20 rfl).row
theorem o29_22 : OkE cX1_comeByHabit RX1 "comeByHabit" 4 2 false (22, .if_icmp .le 31, 25, []) := (r_icmp_le dX1_comeByHabit_22 rfl).row
theorem o29_25 : OkE cX1_comeByHabit RX1 "comeByHabit" 4 2 false (25, .iload 2, 26, []) := (r_iload_n dX1_comeByHabit_25 rfl).row
theorem o29_26 : OkE cX1_comeByHabit RX1 "comeByHabit" 4 2 false (26, .iconst 1, 27, []) := (r_iconst dX1_comeByHabit_26 rfl).row
theorem o29_27 : OkE cX1_comeByHabit RX1 "comeByHabit" 4 2 false (27, .iadd, 28, []) := (r_iadd dX1_comeByHabit_27).row
theorem o29_28 : OkE cX1_comeByHabit RX1 "comeByHabit" 4 2 false (28, .goto 32, 31, []) := (r_goto dX1_comeByHabit_28 rfl).row
theorem o29_31 : OkE cX1_comeByHabit RX1 "comeByHabit" 4 2 false (31, .iload 2, 32, []) := (r_iload_n dX1_comeByHabit_31 rfl).row
theorem o29_32 : OkE cX1_comeByHabit RX1 "comeByHabit" 4 2 false (32, .ireturn, 33, [0, 1, 2, 3]) := dX1_comeByHabit_32
theorem ok29 : ∀ x ∈ k29, OkE cX1_comeByHabit RX1 "comeByHabit" 4 2 false x := List.forall_mem_cons.mpr ⟨o29_0, List.forall_mem_cons.mpr ⟨o29_1, List.forall_mem_cons.mpr ⟨o29_2, List.forall_mem_cons.mpr ⟨o29_5, List.forall_mem_cons.mpr ⟨o29_6, List.forall_mem_cons.mpr ⟨o29_7, List.forall_mem_cons.mpr ⟨o29_8, List.forall_mem_cons.mpr ⟨o29_11, List.forall_mem_cons.mpr ⟨o29_12, List.forall_mem_cons.mpr ⟨o29_13, List.forall_mem_cons.mpr ⟨o29_14, List.forall_mem_cons.mpr ⟨o29_15, List.forall_mem_cons.mpr ⟨o29_18, List.forall_mem_cons.mpr ⟨o29_19, List.forall_mem_cons.mpr ⟨o29_20, List.forall_mem_cons.mpr ⟨o29_22, List.forall_mem_cons.mpr ⟨o29_25, List.forall_mem_cons.mpr ⟨o29_26, List.forall_mem_cons.mpr ⟨o29_27, List.forall_mem_cons.mpr ⟨o29_28, List.forall_mem_cons.mpr ⟨o29_31, List.forall_mem_cons.mpr ⟨o29_32, fun _ h => absurd h List.not_mem_nil⟩⟩⟩⟩⟩⟩⟩⟩⟩⟩⟩⟩⟩⟩⟩⟩⟩⟩⟩⟩⟩⟩
theorem o30_0 : OkE cX2_init RX2 "<init>" 1 1 false (0, .aload 0, 1, []) := (r_aload_n dX2_init_0 rfl).row
theorem o30_1 : OkE cX2_init RX2 "<init>" 1 1 false (1, .monitorexit, 4, []) := (r_obj dX2_init_1 wd_104 wd_83 wd_84 (by decide)).row
theorem o30_4 : OkE cX2_init RX2 "<init>" 1 1 false (4, .aload 0, 5, []) := (r_aload_n dX2_init_4 rfl).row
theorem o30_5 : OkE cX2_init RX2 "<init>" 1 1 false (5, .iconst 18, 7, []) := (r_bipush dX2_init_5 rfl).row
theorem o30_7 : OkE cX2_init RX2 "<init>" 1 1 false (7, .newarray .boolean, 9, []) := r_newz dX2_init_7 wd_115
theorem o30_9 : OkE cX2_init RX2 "<init>" 1 1 false (9, .multianewarray 2 0, 12, []) := r_putFR (C := RX2) (T := TX2) (N := 3) (ci := 2) (j := 0) (ref := RX2) dX2_init_9 rfl inX2 tyX2 tyX2_ok nmX2 (by decide) wd_105 rfl rfl rfl rfl (tyX2_ok 0 (by decide)) (fun a => ⟨rfl, rfl⟩) rfl
theorem o30_12 : OkE cX2_init RX2 "<init>" 1 1 false (12, .aload 0, 13, []) := (r_aload_n dX2_init_12 rfl).row
theorem o30_13 : OkE cX2_init RX2 "<init>" 1 1 false (13, .iconst 0, 14, []) := (r_iconst dX2_init_13 rfl).row
theorem o30_14 : OkE cX2_init RX2 "<init>" 1 1 false (14, .multianewarray 2 1, 17, []) := r_putI (C := RX2) (T := TX2) (N := 3) (ci := 2) (j := 1) (ref := RX2) dX2_init_14 rfl inX2 tyX2 tyX2_ok nmX2 (by decide) wd_106 rfl rfl (tyX2_ok 1 (by decide)) rfl
theorem o30_17 : OkE cX2_init RX2 "<init>" 1 1 false (17, .aload 0, 18, []) := (r_aload_n dX2_init_17 rfl).row
theorem o30_18 : OkE cX2_init RX2 "<init>" 1 1 false (18, .iconst 0, 19, []) := (r_iconst dX2_init_18 rfl).row
theorem o30_19 : OkE cX2_init RX2 "<init>" 1 1 false (19, .multianewarray 2 2, 22, []) := r_putI (C := RX2) (T := TX2) (N := 3) (ci := 2) (j := 2) (ref := RX2) dX2_init_19 rfl inX2 tyX2 tyX2_ok nmX2 (by decide) wd_107 rfl rfl (tyX2_ok 2 (by decide)) rfl
theorem o30_22 : OkE cX2_init RX2 "<init>" 1 1 false (22, .return_, 23, []) := dX2_init_22
theorem ok30 : ∀ x ∈ k30, OkE cX2_init RX2 "<init>" 1 1 false x := List.forall_mem_cons.mpr ⟨o30_0, List.forall_mem_cons.mpr ⟨o30_1, List.forall_mem_cons.mpr ⟨o30_4, List.forall_mem_cons.mpr ⟨o30_5, List.forall_mem_cons.mpr ⟨o30_7, List.forall_mem_cons.mpr ⟨o30_9, List.forall_mem_cons.mpr ⟨o30_12, List.forall_mem_cons.mpr ⟨o30_13, List.forall_mem_cons.mpr ⟨o30_14, List.forall_mem_cons.mpr ⟨o30_17, List.forall_mem_cons.mpr ⟨o30_18, List.forall_mem_cons.mpr ⟨o30_19, List.forall_mem_cons.mpr ⟨o30_22, fun _ h => absurd h List.not_mem_nil⟩⟩⟩⟩⟩⟩⟩⟩⟩⟩⟩⟩⟩
theorem o31_0 : OkE cX2_partsRead RX2 "partsRead" 1 0 false (0, .aload 0, 1, []) := (r_aload_n dX2_partsRead_0 rfl).row
theorem o31_1 : OkE cX2_partsRead RX2 "partsRead" 1 0 false (1, .invokeinterface 2 2, 4, []) := (r_get (C := RX2) (T := TX2) (N := 3) (ci := 2) (j := 2) (ref := RX2) dX2_partsRead_1 rfl inX2 (by decide) wd_107 rfl).row
theorem o31_4 : OkE cX2_partsRead RX2 "partsRead" 1 0 false (4, .ireturn, 5, []) := dX2_partsRead_4
theorem ok31 : ∀ x ∈ k31, OkE cX2_partsRead RX2 "partsRead" 1 0 false x := List.forall_mem_cons.mpr ⟨o31_0, List.forall_mem_cons.mpr ⟨o31_1, List.forall_mem_cons.mpr ⟨o31_4, fun _ h => absurd h List.not_mem_nil⟩⟩⟩
theorem o32_0 : OkE cX2_read RX2 "read" 4 5 false (0, .aload 0, 1, []) := (r_aload_n dX2_read_0 rfl).row
theorem o32_1 : OkE cX2_read RX2 "read" 4 5 false (1, .iconst 0, 2, []) := (r_iconst dX2_read_1 rfl).row
theorem o32_2 : OkE cX2_read RX2 "read" 4 5 false (2, .multianewarray 2 1, 5, []) := r_putI (C := RX2) (T := TX2) (N := 3) (ci := 2) (j := 1) (ref := RX2) dX2_read_2 rfl inX2 tyX2 tyX2_ok nmX2 (by decide) wd_106 rfl rfl (tyX2_ok 1 (by decide)) rfl
theorem o32_5 : OkE cX2_read RX2 "read" 4 5 false (5, .aload 0, 6, []) := (r_aload_n dX2_read_5 rfl).row
theorem o32_6 : OkE cX2_read RX2 "read" 4 5 false (6, .iconst 0, 7, []) := (r_iconst dX2_read_6 rfl).row
theorem o32_7 : OkE cX2_read RX2 "read" 4 5 false (7, .multianewarray 2 2, 10, []) := r_putI (C := RX2) (T := TX2) (N := 3) (ci := 2) (j := 2) (ref := RX2) dX2_read_7 rfl inX2 tyX2 tyX2_ok nmX2 (by decide) wd_107 rfl rfl (tyX2_ok 2 (by decide)) rfl
theorem o32_10 : OkE cX2_read RX2 "read" 4 5 false (10, .iconst 0, 11, []) := (r_iconst dX2_read_10 rfl).row
theorem o32_11 : OkE cX2_read RX2 "read" 4 5 false (11, .istore 3, 12, []) := (r_istore_n dX2_read_11 rfl).row
theorem o32_12 : OkE cX2_read RX2 "read" 4 5 false (12, .iload 3, 13, []) := (r_iload_n dX2_read_12 rfl).row
theorem o32_13 : OkE cX2_read RX2 "read" 4 5 false (13, .iconst 18, 15, []) := (r_bipush dX2_read_13 rfl).row
theorem o32_15 : OkE cX2_read RX2 "read" 4 5 false (15, .if_icmp .ge 31, 18, []) := (r_icmp_ge dX2_read_15 rfl).row
theorem o32_18 : OkE cX2_read RX2 "read" 4 5 false (18, .aload 0, 19, []) := (r_aload_n dX2_read_18 rfl).row
theorem o32_19 : OkE cX2_read RX2 "read" 4 5 false (19, .invokeinterface 2 0, 22, []) := (r_get (C := RX2) (T := TX2) (N := 3) (ci := 2) (j := 0) (ref := RX2) dX2_read_19 rfl inX2 (by decide) wd_105 rfl).row
theorem o32_22 : OkE cX2_read RX2 "read" 4 5 false (22, .iload 3, 23, []) := (r_iload_n dX2_read_22 rfl).row
theorem o32_23 : OkE cX2_read RX2 "read" 4 5 false (23, .iconst 0, 24, []) := (r_iconst dX2_read_23 rfl).row
theorem o32_24 : OkE cX2_read RX2 "read" 4 5 false (24, .bastore, 25, []) := r_zast dX2_read_24
theorem o32_25 : OkE cX2_read RX2 "read" 4 5 false (25, .iinc 3 1, 28, []) := (r_iinc dX2_read_25 rfl).row
theorem o32_28 : OkE cX2_read RX2 "read" 4 5 false (28, .goto 12, 31, []) := (r_goto dX2_read_28 rfl).row
theorem o32_31 : OkE cX2_read RX2 "read" 4 5 false (31, .aload 2, 32, []) := (r_aload_n dX2_read_31 rfl).row
theorem o32_32 : OkE cX2_read RX2 "read" 4 5 false (32, .invokevirtual 81, 35, []) := ⟨rfl, c_V dX2_read_32 wd_454 wd_297 wd_298 wd_73 wd_299 nmh_6⟩
theorem o32_35 : OkE cX2_read RX2 "read" 4 5 false (35, .aload 0, 36, []) := (r_aload_n dX2_read_35 rfl).row
theorem o32_36 : OkE cX2_read RX2 "read" 4 5 false (36, .aload 1, 37, []) := (r_aload_n dX2_read_36 rfl).row
theorem o32_37 : OkE cX2_read RX2 "read" 4 5 false (37, .aload 2, 38, []) := (r_aload_n dX2_read_37 rfl).row
theorem o32_38 : OkE cX2_read RX2 "read" 4 5 false (38, .invokevirtual 33, 41, []) := ⟨rfl, c_V dX2_read_38 wd_455 wd_457 wd_4 wd_66 wd_458 nmh_2⟩
theorem o32_41 : OkE cX2_read RX2 "read" 4 5 false (41, .ifCond .ne 49, 44, []) := (r_if_ne dX2_read_41 rfl).row
theorem o32_44 : OkE cX2_read RX2 "read" 4 5 false (44, .aload 0, 45, []) := (r_aload_n dX2_read_44 rfl).row
theorem o32_45 : OkE cX2_read RX2 "read" 4 5 false (45, .invokeinterface 2 1, 48, []) := (r_get (C := RX2) (T := TX2) (N := 3) (ci := 2) (j := 1) (ref := RX2) dX2_read_45 rfl inX2 (by decide) wd_106 rfl).row
theorem o32_48 : OkE cX2_read RX2 "read" 4 5 false (48, .ireturn, 49, []) := dX2_read_48
theorem o32_49 : OkE cX2_read RX2 "read" 4 5 false (49, .aload 0, 50, []) := (r_aload_n dX2_read_49 rfl).row
theorem o32_50 : OkE cX2_read RX2 "read" 4 5 false (50, .iconst 1, 51, []) := (r_iconst dX2_read_50 rfl).row
theorem o32_51 : OkE cX2_read RX2 "read" 4 5 false (51, .multianewarray 2 2, 54, []) := r_putI (C := RX2) (T := TX2) (N := 3) (ci := 2) (j := 2) (ref := RX2) dX2_read_51 rfl inX2 tyX2 tyX2_ok nmX2 (by decide) wd_107 rfl rfl (tyX2_ok 2 (by decide)) rfl
theorem o32_54 : OkE cX2_read RX2 "read" 4 5 false (54, .aload 0, 55, [3]) := (r_aload_n dX2_read_54 rfl).row
theorem o32_55 : OkE cX2_read RX2 "read" 4 5 false (55, .invokeinterface 2 2, 58, []) := (r_get (C := RX2) (T := TX2) (N := 3) (ci := 2) (j := 2) (ref := RX2) dX2_read_55 rfl inX2 (by decide) wd_107 rfl).row
theorem o32_58 : OkE cX2_read RX2 "read" 4 5 false (58, .iconst 18, 60, []) := (r_bipush dX2_read_58 rfl).row
theorem o32_60 : OkE cX2_read RX2 "read" 4 5 false (60, .if_icmp .gt 101, 63, []) := (r_icmp_gt dX2_read_60 rfl).row
theorem o32_63 : OkE cX2_read RX2 "read" 4 5 false (63, .aload 0, 64, []) := (r_aload_n dX2_read_63 rfl).row
theorem o32_64 : OkE cX2_read RX2 "read" 4 5 false (64, .invokeinterface 2 1, 67, []) := (r_get (C := RX2) (T := TX2) (N := 3) (ci := 2) (j := 1) (ref := RX2) dX2_read_64 rfl inX2 (by decide) wd_106 rfl).row
theorem o32_67 : OkE cX2_read RX2 "read" 4 5 false (67, .aload 1, 68, []) := (r_aload_n dX2_read_67 rfl).row
theorem o32_68 : OkE cX2_read RX2 "read" 4 5 false (68, .invokevirtual 75, 71, []) := ⟨rfl, c_V dX2_read_68 wd_471 wd_435 wd_436 wd_65 wd_437 nmh_5⟩
theorem o32_71 : OkE cX2_read RX2 "read" 4 5 false (71, .if_icmp .ge 101, 74, []) := (r_icmp_ge dX2_read_71 rfl).row
theorem o32_74 : OkE cX2_read RX2 "read" 4 5 false (74, .aload 0, 75, []) := (r_aload_n dX2_read_74 rfl).row
theorem o32_75 : OkE cX2_read RX2 "read" 4 5 false (75, .aload 1, 76, []) := (r_aload_n dX2_read_75 rfl).row
theorem o32_76 : OkE cX2_read RX2 "read" 4 5 false (76, .aload 2, 77, []) := (r_aload_n dX2_read_76 rfl).row
theorem o32_77 : OkE cX2_read RX2 "read" 4 5 false (77, .invokevirtual 34, 80, []) := ⟨rfl, c_V dX2_read_77 wd_472 wd_474 wd_7 wd_66 wd_475 nmh_2⟩
theorem o32_80 : OkE cX2_read RX2 "read" 4 5 false (80, .ifCond .ne 88, 83, []) := (r_if_ne dX2_read_80 rfl).row
theorem o32_83 : OkE cX2_read RX2 "read" 4 5 false (83, .aload 0, 84, []) := (r_aload_n dX2_read_83 rfl).row
theorem o32_84 : OkE cX2_read RX2 "read" 4 5 false (84, .invokeinterface 2 1, 87, []) := (r_get (C := RX2) (T := TX2) (N := 3) (ci := 2) (j := 1) (ref := RX2) dX2_read_84 rfl inX2 (by decide) wd_106 rfl).row
theorem o32_87 : OkE cX2_read RX2 "read" 4 5 false (87, .ireturn, 88, []) := dX2_read_87
theorem o32_88 : OkE cX2_read RX2 "read" 4 5 false (88, .aload 0, 89, []) := (r_aload_n dX2_read_88 rfl).row
theorem o32_89 : OkE cX2_read RX2 "read" 4 5 false (89, .dup, 90, []) := (r_dup dX2_read_89).row
theorem o32_90 : OkE cX2_read RX2 "read" 4 5 false (90, .invokeinterface 2 2, 93, []) := (r_get (C := RX2) (T := TX2) (N := 3) (ci := 2) (j := 2) (ref := RX2) dX2_read_90 rfl inX2 (by decide) wd_107 rfl).row
theorem o32_93 : OkE cX2_read RX2 "read" 4 5 false (93, .iconst 1, 94, []) := (r_iconst dX2_read_93 rfl).row
theorem o32_94 : OkE cX2_read RX2 "read" 4 5 false (94, .iadd, 95, []) := (r_iadd dX2_read_94).row
theorem o32_95 : OkE cX2_read RX2 "read" 4 5 false (95, .multianewarray 2 2, 98, []) := r_putI (C := RX2) (T := TX2) (N := 3) (ci := 2) (j := 2) (ref := RX2) dX2_read_95 rfl inX2 tyX2 tyX2_ok nmX2 (by decide) wd_107 rfl rfl (tyX2_ok 2 (by decide)) rfl
theorem o32_98 : OkE cX2_read RX2 "read" 4 5 false (98, .goto 54, 101, []) := (r_goto dX2_read_98 rfl).row
theorem o32_101 : OkE cX2_read RX2 "read" 4 5 false (101, .iconst (-9), 103, [0, 1, 2, 3]) := (r_bipush dX2_read_101 rfl).row
theorem o32_103 : OkE cX2_read RX2 "read" 4 5 false (103, .ireturn, 104, []) := dX2_read_103
theorem ok32 : ∀ x ∈ k32, OkE cX2_read RX2 "read" 4 5 false x := List.forall_mem_cons.mpr ⟨o32_0, List.forall_mem_cons.mpr ⟨o32_1, List.forall_mem_cons.mpr ⟨o32_2, List.forall_mem_cons.mpr ⟨o32_5, List.forall_mem_cons.mpr ⟨o32_6, List.forall_mem_cons.mpr ⟨o32_7, List.forall_mem_cons.mpr ⟨o32_10, List.forall_mem_cons.mpr ⟨o32_11, List.forall_mem_cons.mpr ⟨o32_12, List.forall_mem_cons.mpr ⟨o32_13, List.forall_mem_cons.mpr ⟨o32_15, List.forall_mem_cons.mpr ⟨o32_18, List.forall_mem_cons.mpr ⟨o32_19, List.forall_mem_cons.mpr ⟨o32_22, List.forall_mem_cons.mpr ⟨o32_23, List.forall_mem_cons.mpr ⟨o32_24, List.forall_mem_cons.mpr ⟨o32_25, List.forall_mem_cons.mpr ⟨o32_28, List.forall_mem_cons.mpr ⟨o32_31, List.forall_mem_cons.mpr ⟨o32_32, List.forall_mem_cons.mpr ⟨o32_35, List.forall_mem_cons.mpr ⟨o32_36, List.forall_mem_cons.mpr ⟨o32_37, List.forall_mem_cons.mpr ⟨o32_38, List.forall_mem_cons.mpr ⟨o32_41, List.forall_mem_cons.mpr ⟨o32_44, List.forall_mem_cons.mpr ⟨o32_45, List.forall_mem_cons.mpr ⟨o32_48, List.forall_mem_cons.mpr ⟨o32_49, List.forall_mem_cons.mpr ⟨o32_50, List.forall_mem_cons.mpr ⟨o32_51, List.forall_mem_cons.mpr ⟨o32_54, List.forall_mem_cons.mpr ⟨o32_55, List.forall_mem_cons.mpr ⟨o32_58, List.forall_mem_cons.mpr ⟨o32_60, List.forall_mem_cons.mpr ⟨o32_63, List.forall_mem_cons.mpr ⟨o32_64, List.forall_mem_cons.mpr ⟨o32_67, List.forall_mem_cons.mpr ⟨o32_68, List.forall_mem_cons.mpr ⟨o32_71, List.forall_mem_cons.mpr ⟨o32_74, List.forall_mem_cons.mpr ⟨o32_75, List.forall_mem_cons.mpr ⟨o32_76, List.forall_mem_cons.mpr ⟨o32_77, List.forall_mem_cons.mpr ⟨o32_80, List.forall_mem_cons.mpr ⟨o32_83, List.forall_mem_cons.mpr ⟨o32_84, List.forall_mem_cons.mpr ⟨o32_87, List.forall_mem_cons.mpr ⟨o32_88, List.forall_mem_cons.mpr ⟨o32_89, List.forall_mem_cons.mpr ⟨o32_90, List.forall_mem_cons.mpr ⟨o32_93, List.forall_mem_cons.mpr ⟨o32_94, List.forall_mem_cons.mpr ⟨o32_95, List.forall_mem_cons.mpr ⟨o32_98, List.forall_mem_cons.mpr ⟨o32_101, List.forall_mem_cons.mpr ⟨o32_103, fun _ h => absurd h List.not_mem_nil⟩⟩⟩⟩⟩⟩⟩⟩⟩⟩⟩⟩⟩⟩⟩⟩⟩⟩⟩⟩⟩⟩⟩⟩⟩⟩⟩⟩⟩⟩⟩⟩⟩⟩⟩⟩⟩⟩⟩⟩⟩⟩⟩⟩⟩⟩⟩⟩⟩⟩⟩⟩⟩⟩⟩⟩⟩
theorem o33_0 : OkE cX2_readCorners RX2 "readCorners" 4 3 false (0, .aload 1, 1, []) := (r_aload_n dX2_readCorners_0 rfl).row
theorem o33_1 : OkE cX2_readCorners RX2 "readCorners" 4 3 false (1, .aload 0, 2, []) := (r_aload_n dX2_readCorners_1 rfl).row
theorem o33_2 : OkE cX2_readCorners RX2 "readCorners" 4 3 false (2, .invokeinterface 2 1, 5, []) := (r_get (C := RX2) (T := TX2) (N := 3) (ci := 2) (j := 1) (ref := RX2) dX2_readCorners_2 rfl inX2 (by decide) wd_106 rfl).row
theorem o33_5 : OkE cX2_readCorners RX2 "readCorners" 4 3 false (5, .invokevirtual 79, 8, []) := ⟨rfl, c_V dX2_readCorners_5 wd_459 wd_460 wd_461 wd_65 wd_462 nmh_5⟩
theorem o33_8 : OkE cX2_readCorners RX2 "readCorners" 4 3 false (8, .iconst 78, 10, []) := (r_bipush dX2_readCorners_8 rfl).row
theorem o33_10 : OkE cX2_readCorners RX2 "readCorners" 4 3 false (10, .if_icmp .eq 15, 13, []) := (r_icmp_eq dX2_readCorners_10 rfl).row
theorem o33_13 : OkE cX2_readCorners RX2 "readCorners" 4 3 false (13, .iconst 0, 14, []) := (r_iconst dX2_readCorners_13 rfl).row
theorem o33_14 : OkE cX2_readCorners RX2 "readCorners" 4 3 false (14, .ireturn, 15, []) := dX2_readCorners_14
theorem o33_15 : OkE cX2_readCorners RX2 "readCorners" 4 3 false (15, .aload 0, 16, []) := (r_aload_n dX2_readCorners_15 rfl).row
theorem o33_16 : OkE cX2_readCorners RX2 "readCorners" 4 3 false (16, .dup, 17, []) := (r_dup dX2_readCorners_16).row
theorem o33_17 : OkE cX2_readCorners RX2 "readCorners" 4 3 false (17, .invokeinterface 2 1, 20, []) := (r_get (C := RX2) (T := TX2) (N := 3) (ci := 2) (j := 1) (ref := RX2) dX2_readCorners_17 rfl inX2 (by decide) wd_106 rfl).row
theorem o33_20 : OkE cX2_readCorners RX2 "readCorners" 4 3 false (20, .iconst 1, 21, []) := (r_iconst dX2_readCorners_20 rfl).row
theorem o33_21 : OkE cX2_readCorners RX2 "readCorners" 4 3 false (21, .iadd, 22, []) := (r_iadd dX2_readCorners_21).row
theorem o33_22 : OkE cX2_readCorners RX2 "readCorners" 4 3 false (22, .multianewarray 2 1, 25, []) := r_putI (C := RX2) (T := TX2) (N := 3) (ci := 2) (j := 1) (ref := RX2) dX2_readCorners_22 rfl inX2 tyX2 tyX2_ok nmX2 (by decide) wd_106 rfl rfl (tyX2_ok 1 (by decide)) rfl
theorem o33_25 : OkE cX2_readCorners RX2 "readCorners" 4 3 false (25, .aload 0, 26, []) := (r_aload_n dX2_readCorners_25 rfl).row
theorem o33_26 : OkE cX2_readCorners RX2 "readCorners" 4 3 false (26, .aload 1, 27, []) := (r_aload_n dX2_readCorners_26 rfl).row
theorem o33_27 : OkE cX2_readCorners RX2 "readCorners" 4 3 false (27, .iconst 1, 28, []) := (r_iconst dX2_readCorners_27 rfl).row
theorem o33_28 : OkE cX2_readCorners RX2 "readCorners" 4 3 false (28, .iconst 3, 29, []) := (r_iconst dX2_readCorners_28 rfl).row
theorem o33_29 : OkE cX2_readCorners RX2 "readCorners" 4 3 false (29, .invokevirtual 40, 32, []) := ⟨rfl, c_V dX2_readCorners_29 wd_463 wd_465 wd_5 wd_66 wd_466 nmh_2⟩
theorem o33_32 : OkE cX2_readCorners RX2 "readCorners" 4 3 false (32, .istore 3, 33, []) := (r_istore_n dX2_readCorners_32 rfl).row
theorem o33_33 : OkE cX2_readCorners RX2 "readCorners" 4 3 false (33, .iload 3, 34, []) := (r_iload_n dX2_readCorners_33 rfl).row
theorem o33_34 : OkE cX2_readCorners RX2 "readCorners" 4 3 false (34, .iconst (-9), 36, []) := (r_bipush dX2_readCorners_34 rfl).row
theorem o33_36 : OkE cX2_readCorners RX2 "readCorners" 4 3 false (36, .if_icmp .ne 41, 39, []) := (r_icmp_ne dX2_readCorners_36 rfl).row
theorem o33_39 : OkE cX2_readCorners RX2 "readCorners" 4 3 false (39, .iconst 0, 40, []) := (r_iconst dX2_readCorners_39 rfl).row
theorem o33_40 : OkE cX2_readCorners RX2 "readCorners" 4 3 false (40, .ireturn, 41, []) := dX2_readCorners_40
theorem o33_41 : OkE cX2_readCorners RX2 "readCorners" 4 3 false (41, .aload 2, 42, []) := (r_aload_n dX2_readCorners_41 rfl).row
theorem o33_42 : OkE cX2_readCorners RX2 "readCorners" 4 3 false (42, .iload 3, 43, []) := (r_iload_n dX2_readCorners_42 rfl).row
theorem o33_43 : OkE cX2_readCorners RX2 "readCorners" 4 3 false (43, .multianewarray 6 4, 46, []) := r_putNI (C := RX6) (T := TX6) (N := 8) (ci := 6) (j := 4) (ref := RX6) dX2_readCorners_43 rfl inX6 tyX6 tyX6_ok nmX6 (by decide) wd_307 rfl rfl (tyX6_ok 4 (by decide)) rfl
theorem o33_46 : OkE cX2_readCorners RX2 "readCorners" 4 3 false (46, .iconst 1, 47, []) := (r_iconst dX2_readCorners_46 rfl).row
theorem o33_47 : OkE cX2_readCorners RX2 "readCorners" 4 3 false (47, .ireturn, 48, []) := dX2_readCorners_47
theorem ok33 : ∀ x ∈ k33, OkE cX2_readCorners RX2 "readCorners" 4 3 false x := List.forall_mem_cons.mpr ⟨o33_0, List.forall_mem_cons.mpr ⟨o33_1, List.forall_mem_cons.mpr ⟨o33_2, List.forall_mem_cons.mpr ⟨o33_5, List.forall_mem_cons.mpr ⟨o33_8, List.forall_mem_cons.mpr ⟨o33_10, List.forall_mem_cons.mpr ⟨o33_13, List.forall_mem_cons.mpr ⟨o33_14, List.forall_mem_cons.mpr ⟨o33_15, List.forall_mem_cons.mpr ⟨o33_16, List.forall_mem_cons.mpr ⟨o33_17, List.forall_mem_cons.mpr ⟨o33_20, List.forall_mem_cons.mpr ⟨o33_21, List.forall_mem_cons.mpr ⟨o33_22, List.forall_mem_cons.mpr ⟨o33_25, List.forall_mem_cons.mpr ⟨o33_26, List.forall_mem_cons.mpr ⟨o33_27, List.forall_mem_cons.mpr ⟨o33_28, List.forall_mem_cons.mpr ⟨o33_29, List.forall_mem_cons.mpr ⟨o33_32, List.forall_mem_cons.mpr ⟨o33_33, List.forall_mem_cons.mpr ⟨o33_34, List.forall_mem_cons.mpr ⟨o33_36, List.forall_mem_cons.mpr ⟨o33_39, List.forall_mem_cons.mpr ⟨o33_40, List.forall_mem_cons.mpr ⟨o33_41, List.forall_mem_cons.mpr ⟨o33_42, List.forall_mem_cons.mpr ⟨o33_43, List.forall_mem_cons.mpr ⟨o33_46, List.forall_mem_cons.mpr ⟨o33_47, fun _ h => absurd h List.not_mem_nil⟩⟩⟩⟩⟩⟩⟩⟩⟩⟩⟩⟩⟩⟩⟩⟩⟩⟩⟩⟩⟩⟩⟩⟩⟩⟩⟩⟩⟩⟩
theorem o34_0 : OkE cX2_readPart RX2 "readPart" 3 4 false (0, .aload 1, 1, []) := (r_aload_n dX2_readPart_0 rfl).row
theorem o34_1 : OkE cX2_readPart RX2 "readPart" 3 4 false (1, .aload 0, 2, []) := (r_aload_n dX2_readPart_1 rfl).row
theorem o34_2 : OkE cX2_readPart RX2 "readPart" 3 4 false (2, .invokeinterface 2 1, 5, []) := (r_get (C := RX2) (T := TX2) (N := 3) (ci := 2) (j := 1) (ref := RX2) dX2_readPart_2 rfl inX2 (by decide) wd_106 rfl).row
theorem o34_5 : OkE cX2_readPart RX2 "readPart" 3 4 false (5, .invokevirtual 79, 8, []) := ⟨rfl, c_V dX2_readPart_5 wd_459 wd_460 wd_461 wd_65 wd_462 nmh_5⟩
theorem o34_8 : OkE cX2_readPart RX2 "readPart" 3 4 false (8, .lookupswitch 116 #[(67, 89), (71, 82), (75, 68), (80, 98), (82, 107), (87, 75)], 68, []) := (r_lsw dX2_readPart_8 rfl rfl rfl rfl (by decide)).row
theorem o34_68 : OkE cX2_readPart RX2 "readPart" 3 4 false (68, .aload 0, 69, []) := (r_aload_n dX2_readPart_68 rfl).row
theorem o34_69 : OkE cX2_readPart RX2 "readPart" 3 4 false (69, .aload 1, 70, []) := (r_aload_n dX2_readPart_69 rfl).row
theorem o34_70 : OkE cX2_readPart RX2 "readPart" 3 4 false (70, .aload 2, 71, []) := (r_aload_n dX2_readPart_70 rfl).row
theorem o34_71 : OkE cX2_readPart RX2 "readPart" 3 4 false (71, .invokevirtual 35, 74, []) := ⟨rfl, c_V dX2_readPart_71 wd_476 wd_478 wd_8 wd_66 wd_479 nmh_2⟩
theorem o34_74 : OkE cX2_readPart RX2 "readPart" 3 4 false (74, .ireturn, 75, []) := dX2_readPart_74
theorem o34_75 : OkE cX2_readPart RX2 "readPart" 3 4 false (75, .aload 0, 76, []) := (r_aload_n dX2_readPart_75 rfl).row
theorem o34_76 : OkE cX2_readPart RX2 "readPart" 3 4 false (76, .aload 1, 77, []) := (r_aload_n dX2_readPart_76 rfl).row
theorem o34_77 : OkE cX2_readPart RX2 "readPart" 3 4 false (77, .aload 2, 78, []) := (r_aload_n dX2_readPart_77 rfl).row
theorem o34_78 : OkE cX2_readPart RX2 "readPart" 3 4 false (78, .invokevirtual 36, 81, []) := ⟨rfl, c_V dX2_readPart_78 wd_499 wd_501 wd_12 wd_66 wd_502 nmh_2⟩
theorem o34_81 : OkE cX2_readPart RX2 "readPart" 3 4 false (81, .ireturn, 82, []) := dX2_readPart_81
theorem o34_82 : OkE cX2_readPart RX2 "readPart" 3 4 false (82, .aload 0, 83, []) := (r_aload_n dX2_readPart_82 rfl).row
theorem o34_83 : OkE cX2_readPart RX2 "readPart" 3 4 false (83, .aload 1, 84, []) := (r_aload_n dX2_readPart_83 rfl).row
theorem o34_84 : OkE cX2_readPart RX2 "readPart" 3 4 false (84, .aload 2, 85, []) := (r_aload_n dX2_readPart_84 rfl).row
theorem o34_85 : OkE cX2_readPart RX2 "readPart" 3 4 false (85, .invokevirtual 37, 88, []) := ⟨rfl, c_V dX2_readPart_85 wd_507 wd_509 wd_13 wd_66 wd_510 nmh_2⟩
theorem o34_88 : OkE cX2_readPart RX2 "readPart" 3 4 false (88, .ireturn, 89, []) := dX2_readPart_88
theorem o34_89 : OkE cX2_readPart RX2 "readPart" 3 4 false (89, .aload 0, 90, []) := (r_aload_n dX2_readPart_89 rfl).row
theorem o34_90 : OkE cX2_readPart RX2 "readPart" 3 4 false (90, .aload 1, 91, []) := (r_aload_n dX2_readPart_90 rfl).row
theorem o34_91 : OkE cX2_readPart RX2 "readPart" 3 4 false (91, .aload 2, 92, []) := (r_aload_n dX2_readPart_91 rfl).row
theorem o34_92 : OkE cX2_readPart RX2 "readPart" 3 4 false (92, .iconst 15, 94, []) := (r_bipush dX2_readPart_92 rfl).row
theorem o34_94 : OkE cX2_readPart RX2 "readPart" 3 4 false (94, .invokevirtual 38, 97, []) := ⟨rfl, c_V dX2_readPart_94 wd_519 wd_521 wd_14 wd_66 wd_522 nmh_2⟩
theorem o34_97 : OkE cX2_readPart RX2 "readPart" 3 4 false (97, .ireturn, 98, []) := dX2_readPart_97
theorem o34_98 : OkE cX2_readPart RX2 "readPart" 3 4 false (98, .aload 0, 99, []) := (r_aload_n dX2_readPart_98 rfl).row
theorem o34_99 : OkE cX2_readPart RX2 "readPart" 3 4 false (99, .aload 1, 100, []) := (r_aload_n dX2_readPart_99 rfl).row
theorem o34_100 : OkE cX2_readPart RX2 "readPart" 3 4 false (100, .aload 2, 101, []) := (r_aload_n dX2_readPart_100 rfl).row
theorem o34_101 : OkE cX2_readPart RX2 "readPart" 3 4 false (101, .iconst 16, 103, []) := (r_bipush dX2_readPart_101 rfl).row
theorem o34_103 : OkE cX2_readPart RX2 "readPart" 3 4 false (103, .invokevirtual 38, 106, []) := ⟨rfl, c_V dX2_readPart_103 wd_519 wd_521 wd_14 wd_66 wd_522 nmh_2⟩
theorem o34_106 : OkE cX2_readPart RX2 "readPart" 3 4 false (106, .ireturn, 107, []) := dX2_readPart_106
theorem o34_107 : OkE cX2_readPart RX2 "readPart" 3 4 false (107, .aload 0, 108, []) := (r_aload_n dX2_readPart_107 rfl).row
theorem o34_108 : OkE cX2_readPart RX2 "readPart" 3 4 false (108, .aload 1, 109, []) := (r_aload_n dX2_readPart_108 rfl).row
theorem o34_109 : OkE cX2_readPart RX2 "readPart" 3 4 false (109, .aload 2, 110, []) := (r_aload_n dX2_readPart_109 rfl).row
theorem o34_110 : OkE cX2_readPart RX2 "readPart" 3 4 false (110, .iconst 17, 112, []) := (r_bipush dX2_readPart_110 rfl).row
theorem o34_112 : OkE cX2_readPart RX2 "readPart" 3 4 false (112, .invokevirtual 38, 115, []) := ⟨rfl, c_V dX2_readPart_112 wd_519 wd_521 wd_14 wd_66 wd_522 nmh_2⟩
theorem o34_115 : OkE cX2_readPart RX2 "readPart" 3 4 false (115, .ireturn, 116, []) := dX2_readPart_115
theorem o34_116 : OkE cX2_readPart RX2 "readPart" 3 4 false (116, .iconst 0, 117, []) := (r_iconst dX2_readPart_116 rfl).row
theorem o34_117 : OkE cX2_readPart RX2 "readPart" 3 4 false (117, .ireturn, 118, []) := dX2_readPart_117
theorem ok34 : ∀ x ∈ k34, OkE cX2_readPart RX2 "readPart" 3 4 false x := List.forall_mem_cons.mpr ⟨o34_0, List.forall_mem_cons.mpr ⟨o34_1, List.forall_mem_cons.mpr ⟨o34_2, List.forall_mem_cons.mpr ⟨o34_5, List.forall_mem_cons.mpr ⟨o34_8, List.forall_mem_cons.mpr ⟨o34_68, List.forall_mem_cons.mpr ⟨o34_69, List.forall_mem_cons.mpr ⟨o34_70, List.forall_mem_cons.mpr ⟨o34_71, List.forall_mem_cons.mpr ⟨o34_74, List.forall_mem_cons.mpr ⟨o34_75, List.forall_mem_cons.mpr ⟨o34_76, List.forall_mem_cons.mpr ⟨o34_77, List.forall_mem_cons.mpr ⟨o34_78, List.forall_mem_cons.mpr ⟨o34_81, List.forall_mem_cons.mpr ⟨o34_82, List.forall_mem_cons.mpr ⟨o34_83, List.forall_mem_cons.mpr ⟨o34_84, List.forall_mem_cons.mpr ⟨o34_85, List.forall_mem_cons.mpr ⟨o34_88, List.forall_mem_cons.mpr ⟨o34_89, List.forall_mem_cons.mpr ⟨o34_90, List.forall_mem_cons.mpr ⟨o34_91, List.forall_mem_cons.mpr ⟨o34_92, List.forall_mem_cons.mpr ⟨o34_94, List.forall_mem_cons.mpr ⟨o34_97, List.forall_mem_cons.mpr ⟨o34_98, List.forall_mem_cons.mpr ⟨o34_99, List.forall_mem_cons.mpr ⟨o34_100, List.forall_mem_cons.mpr ⟨o34_101, List.forall_mem_cons.mpr ⟨o34_103, List.forall_mem_cons.mpr ⟨o34_106, List.forall_mem_cons.mpr ⟨o34_107, List.forall_mem_cons.mpr ⟨o34_108, List.forall_mem_cons.mpr ⟨o34_109, List.forall_mem_cons.mpr ⟨o34_110, List.forall_mem_cons.mpr ⟨o34_112, List.forall_mem_cons.mpr ⟨o34_115, List.forall_mem_cons.mpr ⟨o34_116, List.forall_mem_cons.mpr ⟨o34_117, fun _ h => absurd h List.not_mem_nil⟩⟩⟩⟩⟩⟩⟩⟩⟩⟩⟩⟩⟩⟩⟩⟩⟩⟩⟩⟩⟩⟩⟩⟩⟩⟩⟩⟩⟩⟩⟩⟩⟩⟩⟩⟩⟩⟩⟩⟩
theorem o35_0 : OkE cX2_readShare RX2 "readShare" 5 3 false (0, .aload 0, 1, []) := (r_aload_n dX2_readShare_0 rfl).row
theorem o35_1 : OkE cX2_readShare RX2 "readShare" 5 3 false (1, .iconst 0, 2, []) := (r_iconst dX2_readShare_1 rfl).row
theorem o35_2 : OkE cX2_readShare RX2 "readShare" 5 3 false (2, .iconst 3, 3, []) := (r_iconst dX2_readShare_2 rfl).row
theorem o35_3 : OkE cX2_readShare RX2 "readShare" 5 3 false (3, .invokevirtual 43, 6, []) := ⟨rfl, c_V dX2_readShare_3 wd_480 wd_482 wd_9 wd_66 wd_483 nmh_2⟩
theorem o35_6 : OkE cX2_readShare RX2 "readShare" 5 3 false (6, .ifCond .eq 11, 9, []) := (r_if_eq dX2_readShare_6 rfl).row
theorem o35_9 : OkE cX2_readShare RX2 "readShare" 5 3 false (9, .iconst 0, 10, []) := (r_iconst dX2_readShare_9 rfl).row
theorem o35_10 : OkE cX2_readShare RX2 "readShare" 5 3 false (10, .ireturn, 11, []) := dX2_readShare_10
theorem o35_11 : OkE cX2_readShare RX2 "readShare" 5 3 false (11, .aload 0, 12, []) := (r_aload_n dX2_readShare_11 rfl).row
theorem o35_12 : OkE cX2_readShare RX2 "readShare" 5 3 false (12, .dup, 13, []) := (r_dup dX2_readShare_12).row
theorem o35_13 : OkE cX2_readShare RX2 "readShare" 5 3 false (13, .invokeinterface 2 1, 16, []) := (r_get (C := RX2) (T := TX2) (N := 3) (ci := 2) (j := 1) (ref := RX2) dX2_readShare_13 rfl inX2 (by decide) wd_106 rfl).row
theorem o35_16 : OkE cX2_readShare RX2 "readShare" 5 3 false (16, .iconst 1, 17, []) := (r_iconst dX2_readShare_16 rfl).row
theorem o35_17 : OkE cX2_readShare RX2 "readShare" 5 3 false (17, .iadd, 18, []) := (r_iadd dX2_readShare_17).row
theorem o35_18 : OkE cX2_readShare RX2 "readShare" 5 3 false (18, .multianewarray 2 1, 21, []) := r_putI (C := RX2) (T := TX2) (N := 3) (ci := 2) (j := 1) (ref := RX2) dX2_readShare_18 rfl inX2 tyX2 tyX2_ok nmX2 (by decide) wd_106 rfl rfl (tyX2_ok 1 (by decide)) rfl
theorem o35_21 : OkE cX2_readShare RX2 "readShare" 5 3 false (21, .aload 0, 22, []) := (r_aload_n dX2_readShare_21 rfl).row
theorem o35_22 : OkE cX2_readShare RX2 "readShare" 5 3 false (22, .aload 1, 23, []) := (r_aload_n dX2_readShare_22 rfl).row
theorem o35_23 : OkE cX2_readShare RX2 "readShare" 5 3 false (23, .iconst 2, 24, []) := (r_iconst dX2_readShare_23 rfl).row
theorem o35_24 : OkE cX2_readShare RX2 "readShare" 5 3 false (24, .iconst 0, 25, []) := (r_iconst dX2_readShare_24 rfl).row
theorem o35_25 : OkE cX2_readShare RX2 "readShare" 5 3 false (25, .invokevirtual 41, 28, []) := ⟨rfl, c_V dX2_readShare_25 wd_487 wd_489 wd_10 wd_66 wd_490 nmh_2⟩
theorem o35_28 : OkE cX2_readShare RX2 "readShare" 5 3 false (28, .istore 3, 29, []) := (r_istore_n dX2_readShare_28 rfl).row
theorem o35_29 : OkE cX2_readShare RX2 "readShare" 5 3 false (29, .iload 3, 30, []) := (r_iload_n dX2_readShare_29 rfl).row
theorem o35_30 : OkE cX2_readShare RX2 "readShare" 5 3 false (30, .iconst (-9), 32, []) := (r_bipush dX2_readShare_30 rfl).row
theorem o35_32 : OkE cX2_readShare RX2 "readShare" 5 3 false (32, .if_icmp .ne 40, 35, []) := (r_icmp_ne dX2_readShare_32 rfl).row
theorem o35_35 : OkE cX2_readShare RX2 "readShare" 5 3 false (35, .iconst (-9), 37, []) := (r_bipush dX2_readShare_35 rfl).row
theorem o35_37 : OkE cX2_readShare RX2 "readShare" 5 3 false (37, .goto 48, 40, []) := (r_goto dX2_readShare_37 rfl).row
theorem o35_40 : OkE cX2_readShare RX2 "readShare" 5 3 false (40, .aload 0, 41, []) := (r_aload_n dX2_readShare_40 rfl).row
theorem o35_41 : OkE cX2_readShare RX2 "readShare" 5 3 false (41, .aload 1, 42, []) := (r_aload_n dX2_readShare_41 rfl).row
theorem o35_42 : OkE cX2_readShare RX2 "readShare" 5 3 false (42, .iconst 1, 43, []) := (r_iconst dX2_readShare_42 rfl).row
theorem o35_43 : OkE cX2_readShare RX2 "readShare" 5 3 false (43, .iconst 9, 45, []) := (r_bipush dX2_readShare_43 rfl).row
theorem o35_45 : OkE cX2_readShare RX2 "readShare" 5 3 false (45, .invokevirtual 40, 48, []) := ⟨rfl, c_V dX2_readShare_45 wd_463 wd_465 wd_5 wd_66 wd_466 nmh_2⟩
theorem o35_48 : OkE cX2_readShare RX2 "readShare" 5 3 false (48, .istore 4, 50, [0, 1]) := (r_istore dX2_readShare_48).row
theorem o35_50 : OkE cX2_readShare RX2 "readShare" 5 3 false (50, .iload 4, 52, []) := (r_iload dX2_readShare_50).row
theorem o35_52 : OkE cX2_readShare RX2 "readShare" 5 3 false (52, .iconst (-9), 54, []) := (r_bipush dX2_readShare_52 rfl).row
theorem o35_54 : OkE cX2_readShare RX2 "readShare" 5 3 false (54, .if_icmp .ne 59, 57, []) := (r_icmp_ne dX2_readShare_54 rfl).row
theorem o35_57 : OkE cX2_readShare RX2 "readShare" 5 3 false (57, .iconst 0, 58, []) := (r_iconst dX2_readShare_57 rfl).row
theorem o35_58 : OkE cX2_readShare RX2 "readShare" 5 3 false (58, .ireturn, 59, []) := dX2_readShare_58
theorem o35_59 : OkE cX2_readShare RX2 "readShare" 5 3 false (59, .aload 2, 60, []) := (r_aload_n dX2_readShare_59 rfl).row
theorem o35_60 : OkE cX2_readShare RX2 "readShare" 5 3 false (60, .iload 3, 61, []) := (r_iload_n dX2_readShare_60 rfl).row
theorem o35_61 : OkE cX2_readShare RX2 "readShare" 5 3 false (61, .iload 4, 63, []) := (r_iload dX2_readShare_61).row
theorem o35_63 : OkE cX2_readShare RX2 "readShare" 5 3 false (63, .invokevirtual 87, 66, []) := ⟨rfl, c_V dX2_readShare_63 wd_495 wd_496 wd_497 wd_73 wd_498 nmh_6⟩
theorem o35_66 : OkE cX2_readShare RX2 "readShare" 5 3 false (66, .iconst 1, 67, []) := (r_iconst dX2_readShare_66 rfl).row
theorem o35_67 : OkE cX2_readShare RX2 "readShare" 5 3 false (67, .ireturn, 68, []) := dX2_readShare_67
theorem ok35 : ∀ x ∈ k35, OkE cX2_readShare RX2 "readShare" 5 3 false x := List.forall_mem_cons.mpr ⟨o35_0, List.forall_mem_cons.mpr ⟨o35_1, List.forall_mem_cons.mpr ⟨o35_2, List.forall_mem_cons.mpr ⟨o35_3, List.forall_mem_cons.mpr ⟨o35_6, List.forall_mem_cons.mpr ⟨o35_9, List.forall_mem_cons.mpr ⟨o35_10, List.forall_mem_cons.mpr ⟨o35_11, List.forall_mem_cons.mpr ⟨o35_12, List.forall_mem_cons.mpr ⟨o35_13, List.forall_mem_cons.mpr ⟨o35_16, List.forall_mem_cons.mpr ⟨o35_17, List.forall_mem_cons.mpr ⟨o35_18, List.forall_mem_cons.mpr ⟨o35_21, List.forall_mem_cons.mpr ⟨o35_22, List.forall_mem_cons.mpr ⟨o35_23, List.forall_mem_cons.mpr ⟨o35_24, List.forall_mem_cons.mpr ⟨o35_25, List.forall_mem_cons.mpr ⟨o35_28, List.forall_mem_cons.mpr ⟨o35_29, List.forall_mem_cons.mpr ⟨o35_30, List.forall_mem_cons.mpr ⟨o35_32, List.forall_mem_cons.mpr ⟨o35_35, List.forall_mem_cons.mpr ⟨o35_37, List.forall_mem_cons.mpr ⟨o35_40, List.forall_mem_cons.mpr ⟨o35_41, List.forall_mem_cons.mpr ⟨o35_42, List.forall_mem_cons.mpr ⟨o35_43, List.forall_mem_cons.mpr ⟨o35_45, List.forall_mem_cons.mpr ⟨o35_48, List.forall_mem_cons.mpr ⟨o35_50, List.forall_mem_cons.mpr ⟨o35_52, List.forall_mem_cons.mpr ⟨o35_54, List.forall_mem_cons.mpr ⟨o35_57, List.forall_mem_cons.mpr ⟨o35_58, List.forall_mem_cons.mpr ⟨o35_59, List.forall_mem_cons.mpr ⟨o35_60, List.forall_mem_cons.mpr ⟨o35_61, List.forall_mem_cons.mpr ⟨o35_63, List.forall_mem_cons.mpr ⟨o35_66, List.forall_mem_cons.mpr ⟨o35_67, fun _ h => absurd h List.not_mem_nil⟩⟩⟩⟩⟩⟩⟩⟩⟩⟩⟩⟩⟩⟩⟩⟩⟩⟩⟩⟩⟩⟩⟩⟩⟩⟩⟩⟩⟩⟩⟩⟩⟩⟩⟩⟩⟩⟩⟩⟩⟩
theorem o36_0 : OkE cX2_readWants RX2 "readWants" 7 3 false (0, .aload 0, 1, []) := (r_aload_n dX2_readWants_0 rfl).row
theorem o36_1 : OkE cX2_readWants RX2 "readWants" 7 3 false (1, .iconst 3, 2, []) := (r_iconst dX2_readWants_1 rfl).row
theorem o36_2 : OkE cX2_readWants RX2 "readWants" 7 3 false (2, .aload 2, 3, []) := (r_aload_n dX2_readWants_2 rfl).row
theorem o36_3 : OkE cX2_readWants RX2 "readWants" 7 3 false (3, .invokeinterface 6 4, 6, []) := (r_getN (C := RX6) (T := TX6) (N := 8) (ci := 6) (j := 4) (ref := RX6) dX2_readWants_3 rfl inX6 (by decide) wd_307 rfl).row
theorem o36_6 : OkE cX2_readWants RX2 "readWants" 7 3 false (6, .iconst 3, 7, []) := (r_iconst dX2_readWants_6 rfl).row
theorem o36_7 : OkE cX2_readWants RX2 "readWants" 7 3 false (7, .imul, 8, []) := (r_imul dX2_readWants_7).row
theorem o36_8 : OkE cX2_readWants RX2 "readWants" 7 3 false (8, .invokevirtual 43, 11, []) := ⟨rfl, c_V dX2_readWants_8 wd_480 wd_482 wd_9 wd_66 wd_483 nmh_2⟩
theorem o36_11 : OkE cX2_readWants RX2 "readWants" 7 3 false (11, .ifCond .eq 16, 14, []) := (r_if_eq dX2_readWants_11 rfl).row
theorem o36_14 : OkE cX2_readWants RX2 "readWants" 7 3 false (14, .iconst 0, 15, []) := (r_iconst dX2_readWants_14 rfl).row
theorem o36_15 : OkE cX2_readWants RX2 "readWants" 7 3 false (15, .ireturn, 16, []) := dX2_readWants_15
theorem o36_16 : OkE cX2_readWants RX2 "readWants" 7 3 false (16, .aload 0, 17, []) := (r_aload_n dX2_readWants_16 rfl).row
theorem o36_17 : OkE cX2_readWants RX2 "readWants" 7 3 false (17, .dup, 18, []) := (r_dup dX2_readWants_17).row
theorem o36_18 : OkE cX2_readWants RX2 "readWants" 7 3 false (18, .invokeinterface 2 1, 21, []) := (r_get (C := RX2) (T := TX2) (N := 3) (ci := 2) (j := 1) (ref := RX2) dX2_readWants_18 rfl inX2 (by decide) wd_106 rfl).row
theorem o36_21 : OkE cX2_readWants RX2 "readWants" 7 3 false (21, .iconst 1, 22, []) := (r_iconst dX2_readWants_21 rfl).row
theorem o36_22 : OkE cX2_readWants RX2 "readWants" 7 3 false (22, .iadd, 23, []) := (r_iadd dX2_readWants_22).row
theorem o36_23 : OkE cX2_readWants RX2 "readWants" 7 3 false (23, .multianewarray 2 1, 26, []) := r_putI (C := RX2) (T := TX2) (N := 3) (ci := 2) (j := 1) (ref := RX2) dX2_readWants_23 rfl inX2 tyX2 tyX2_ok nmX2 (by decide) wd_106 rfl rfl (tyX2_ok 1 (by decide)) rfl
theorem o36_26 : OkE cX2_readWants RX2 "readWants" 7 3 false (26, .aload 0, 27, []) := (r_aload_n dX2_readWants_26 rfl).row
theorem o36_27 : OkE cX2_readWants RX2 "readWants" 7 3 false (27, .aload 1, 28, []) := (r_aload_n dX2_readWants_27 rfl).row
theorem o36_28 : OkE cX2_readWants RX2 "readWants" 7 3 false (28, .iconst 0, 29, []) := (r_iconst dX2_readWants_28 rfl).row
theorem o36_29 : OkE cX2_readWants RX2 "readWants" 7 3 false (29, .aload 2, 30, []) := (r_aload_n dX2_readWants_29 rfl).row
theorem o36_30 : OkE cX2_readWants RX2 "readWants" 7 3 false (30, .invokeinterface 6 4, 33, []) := (r_getN (C := RX6) (T := TX6) (N := 8) (ci := 6) (j := 4) (ref := RX6) dX2_readWants_30 rfl inX6 (by decide) wd_307 rfl).row
theorem o36_33 : OkE cX2_readWants RX2 "readWants" 7 3 false (33, .iconst 1, 34, []) := (r_iconst dX2_readWants_33 rfl).row
theorem o36_34 : OkE cX2_readWants RX2 "readWants" 7 3 false (34, .isub, 35, []) := (r_isub dX2_readWants_34).row
theorem o36_35 : OkE cX2_readWants RX2 "readWants" 7 3 false (35, .invokevirtual 39, 38, []) := ⟨rfl, c_V dX2_readWants_35 wd_467 wd_469 wd_6 wd_66 wd_470 nmh_2⟩
theorem o36_38 : OkE cX2_readWants RX2 "readWants" 7 3 false (38, .istore 3, 39, []) := (r_istore_n dX2_readWants_38 rfl).row
theorem o36_39 : OkE cX2_readWants RX2 "readWants" 7 3 false (39, .iload 3, 40, []) := (r_iload_n dX2_readWants_39 rfl).row
theorem o36_40 : OkE cX2_readWants RX2 "readWants" 7 3 false (40, .iconst (-9), 42, []) := (r_bipush dX2_readWants_40 rfl).row
theorem o36_42 : OkE cX2_readWants RX2 "readWants" 7 3 false (42, .if_icmp .eq 58, 45, []) := (r_icmp_eq dX2_readWants_42 rfl).row
theorem o36_45 : OkE cX2_readWants RX2 "readWants" 7 3 false (45, .aload 0, 46, []) := (r_aload_n dX2_readWants_45 rfl).row
theorem o36_46 : OkE cX2_readWants RX2 "readWants" 7 3 false (46, .iconst 3, 47, []) := (r_iconst dX2_readWants_46 rfl).row
theorem o36_47 : OkE cX2_readWants RX2 "readWants" 7 3 false (47, .iload 3, 48, []) := (r_iload_n dX2_readWants_47 rfl).row
theorem o36_48 : OkE cX2_readWants RX2 "readWants" 7 3 false (48, .iconst 3, 49, []) := (r_iconst dX2_readWants_48 rfl).row
theorem o36_49 : OkE cX2_readWants RX2 "readWants" 7 3 false (49, .imul, 50, []) := (r_imul dX2_readWants_49).row
theorem o36_50 : OkE cX2_readWants RX2 "readWants" 7 3 false (50, .iadd, 51, []) := (r_iadd dX2_readWants_50).row
theorem o36_51 : OkE cX2_readWants RX2 "readWants" 7 3 false (51, .iconst 3, 52, []) := (r_iconst dX2_readWants_51 rfl).row
theorem o36_52 : OkE cX2_readWants RX2 "readWants" 7 3 false (52, .invokevirtual 43, 55, []) := ⟨rfl, c_V dX2_readWants_52 wd_480 wd_482 wd_9 wd_66 wd_483 nmh_2⟩
theorem o36_55 : OkE cX2_readWants RX2 "readWants" 7 3 false (55, .ifCond .eq 60, 58, []) := (r_if_eq dX2_readWants_55 rfl).row
theorem o36_58 : OkE cX2_readWants RX2 "readWants" 7 3 false (58, .iconst 0, 59, [0, 1, 2, 3]) := (r_iconst dX2_readWants_58 rfl).row
theorem o36_59 : OkE cX2_readWants RX2 "readWants" 7 3 false (59, .ireturn, 60, []) := dX2_readWants_59
theorem o36_60 : OkE cX2_readWants RX2 "readWants" 7 3 false (60, .aload 0, 61, []) := (r_aload_n dX2_readWants_60 rfl).row
theorem o36_61 : OkE cX2_readWants RX2 "readWants" 7 3 false (61, .dup, 62, []) := (r_dup dX2_readWants_61).row
theorem o36_62 : OkE cX2_readWants RX2 "readWants" 7 3 false (62, .invokeinterface 2 1, 65, []) := (r_get (C := RX2) (T := TX2) (N := 3) (ci := 2) (j := 1) (ref := RX2) dX2_readWants_62 rfl inX2 (by decide) wd_106 rfl).row
theorem o36_65 : OkE cX2_readWants RX2 "readWants" 7 3 false (65, .iconst 1, 66, []) := (r_iconst dX2_readWants_65 rfl).row
theorem o36_66 : OkE cX2_readWants RX2 "readWants" 7 3 false (66, .iadd, 67, []) := (r_iadd dX2_readWants_66).row
theorem o36_67 : OkE cX2_readWants RX2 "readWants" 7 3 false (67, .multianewarray 2 1, 70, []) := r_putI (C := RX2) (T := TX2) (N := 3) (ci := 2) (j := 1) (ref := RX2) dX2_readWants_67 rfl inX2 tyX2 tyX2_ok nmX2 (by decide) wd_106 rfl rfl (tyX2_ok 1 (by decide)) rfl
theorem o36_70 : OkE cX2_readWants RX2 "readWants" 7 3 false (70, .aload 0, 71, []) := (r_aload_n dX2_readWants_70 rfl).row
theorem o36_71 : OkE cX2_readWants RX2 "readWants" 7 3 false (71, .aload 1, 72, []) := (r_aload_n dX2_readWants_71 rfl).row
theorem o36_72 : OkE cX2_readWants RX2 "readWants" 7 3 false (72, .iconst 2, 73, []) := (r_iconst dX2_readWants_72 rfl).row
theorem o36_73 : OkE cX2_readWants RX2 "readWants" 7 3 false (73, .iconst 3, 74, []) := (r_iconst dX2_readWants_73 rfl).row
theorem o36_74 : OkE cX2_readWants RX2 "readWants" 7 3 false (74, .iload 3, 75, []) := (r_iload_n dX2_readWants_74 rfl).row
theorem o36_75 : OkE cX2_readWants RX2 "readWants" 7 3 false (75, .iconst 3, 76, []) := (r_iconst dX2_readWants_75 rfl).row
theorem o36_76 : OkE cX2_readWants RX2 "readWants" 7 3 false (76, .imul, 77, []) := (r_imul dX2_readWants_76).row
theorem o36_77 : OkE cX2_readWants RX2 "readWants" 7 3 false (77, .iadd, 78, []) := (r_iadd dX2_readWants_77).row
theorem o36_78 : OkE cX2_readWants RX2 "readWants" 7 3 false (78, .invokevirtual 41, 81, []) := ⟨rfl, c_V dX2_readWants_78 wd_487 wd_489 wd_10 wd_66 wd_490 nmh_2⟩
theorem o36_81 : OkE cX2_readWants RX2 "readWants" 7 3 false (81, .istore 4, 83, []) := (r_istore dX2_readWants_81).row
theorem o36_83 : OkE cX2_readWants RX2 "readWants" 7 3 false (83, .iload 4, 85, []) := (r_iload dX2_readWants_83).row
theorem o36_85 : OkE cX2_readWants RX2 "readWants" 7 3 false (85, .iconst (-9), 87, []) := (r_bipush dX2_readWants_85 rfl).row
theorem o36_87 : OkE cX2_readWants RX2 "readWants" 7 3 false (87, .if_icmp .ne 95, 90, []) := (r_icmp_ne dX2_readWants_87 rfl).row
theorem o36_90 : OkE cX2_readWants RX2 "readWants" 7 3 false (90, .iconst (-9), 92, []) := (r_bipush dX2_readWants_90 rfl).row
theorem o36_92 : OkE cX2_readWants RX2 "readWants" 7 3 false (92, .goto 102, 95, []) := (r_goto dX2_readWants_92 rfl).row
theorem o36_95 : OkE cX2_readWants RX2 "readWants" 7 3 false (95, .aload 0, 96, []) := (r_aload_n dX2_readWants_95 rfl).row
theorem o36_96 : OkE cX2_readWants RX2 "readWants" 7 3 false (96, .aload 1, 97, []) := (r_aload_n dX2_readWants_96 rfl).row
theorem o36_97 : OkE cX2_readWants RX2 "readWants" 7 3 false (97, .iconst 0, 98, []) := (r_iconst dX2_readWants_97 rfl).row
theorem o36_98 : OkE cX2_readWants RX2 "readWants" 7 3 false (98, .iconst 3, 99, []) := (r_iconst dX2_readWants_98 rfl).row
theorem o36_99 : OkE cX2_readWants RX2 "readWants" 7 3 false (99, .invokevirtual 40, 102, []) := ⟨rfl, c_V dX2_readWants_99 wd_463 wd_465 wd_5 wd_66 wd_466 nmh_2⟩
theorem o36_102 : OkE cX2_readWants RX2 "readWants" 7 3 false (102, .istore 5, 104, []) := (r_istore dX2_readWants_102).row
theorem o36_104 : OkE cX2_readWants RX2 "readWants" 7 3 false (104, .iload 5, 106, []) := (r_iload dX2_readWants_104).row
theorem o36_106 : OkE cX2_readWants RX2 "readWants" 7 3 false (106, .iconst (-9), 108, []) := (r_bipush dX2_readWants_106 rfl).row
theorem o36_108 : OkE cX2_readWants RX2 "readWants" 7 3 false (108, .if_icmp .ne 116, 111, []) := (r_icmp_ne dX2_readWants_108 rfl).row
theorem o36_111 : OkE cX2_readWants RX2 "readWants" 7 3 false (111, .iconst (-9), 113, []) := (r_bipush dX2_readWants_111 rfl).row
theorem o36_113 : OkE cX2_readWants RX2 "readWants" 7 3 false (113, .goto 124, 116, []) := (r_goto dX2_readWants_113 rfl).row
theorem o36_116 : OkE cX2_readWants RX2 "readWants" 7 3 false (116, .aload 0, 117, []) := (r_aload_n dX2_readWants_116 rfl).row
theorem o36_117 : OkE cX2_readWants RX2 "readWants" 7 3 false (117, .aload 1, 118, []) := (r_aload_n dX2_readWants_117 rfl).row
theorem o36_118 : OkE cX2_readWants RX2 "readWants" 7 3 false (118, .iconst 0, 119, []) := (r_iconst dX2_readWants_118 rfl).row
theorem o36_119 : OkE cX2_readWants RX2 "readWants" 7 3 false (119, .iconst 9, 121, []) := (r_bipush dX2_readWants_119 rfl).row
theorem o36_121 : OkE cX2_readWants RX2 "readWants" 7 3 false (121, .invokevirtual 40, 124, []) := ⟨rfl, c_V dX2_readWants_121 wd_463 wd_465 wd_5 wd_66 wd_466 nmh_2⟩
theorem o36_124 : OkE cX2_readWants RX2 "readWants" 7 3 false (124, .istore 6, 126, [0, 1]) := (r_istore dX2_readWants_124).row
theorem o36_126 : OkE cX2_readWants RX2 "readWants" 7 3 false (126, .iload 6, 128, []) := (r_iload dX2_readWants_126).row
theorem o36_128 : OkE cX2_readWants RX2 "readWants" 7 3 false (128, .iconst (-9), 130, []) := (r_bipush dX2_readWants_128 rfl).row
theorem o36_130 : OkE cX2_readWants RX2 "readWants" 7 3 false (130, .if_icmp .ne 135, 133, []) := (r_icmp_ne dX2_readWants_130 rfl).row
theorem o36_133 : OkE cX2_readWants RX2 "readWants" 7 3 false (133, .iconst 0, 134, []) := (r_iconst dX2_readWants_133 rfl).row
theorem o36_134 : OkE cX2_readWants RX2 "readWants" 7 3 false (134, .ireturn, 135, []) := dX2_readWants_134
theorem o36_135 : OkE cX2_readWants RX2 "readWants" 7 3 false (135, .aload 2, 136, []) := (r_aload_n dX2_readWants_135 rfl).row
theorem o36_136 : OkE cX2_readWants RX2 "readWants" 7 3 false (136, .iload 3, 137, []) := (r_iload_n dX2_readWants_136 rfl).row
theorem o36_137 : OkE cX2_readWants RX2 "readWants" 7 3 false (137, .iload 4, 139, []) := (r_iload dX2_readWants_137).row
theorem o36_139 : OkE cX2_readWants RX2 "readWants" 7 3 false (139, .iload 5, 141, []) := (r_iload dX2_readWants_139).row
theorem o36_141 : OkE cX2_readWants RX2 "readWants" 7 3 false (141, .iload 6, 143, []) := (r_iload dX2_readWants_141).row
theorem o36_143 : OkE cX2_readWants RX2 "readWants" 7 3 false (143, .invokevirtual 88, 146, []) := ⟨rfl, c_V dX2_readWants_143 wd_503 wd_504 wd_505 wd_73 wd_506 nmh_6⟩
theorem o36_146 : OkE cX2_readWants RX2 "readWants" 7 3 false (146, .iconst 1, 147, []) := (r_iconst dX2_readWants_146 rfl).row
theorem o36_147 : OkE cX2_readWants RX2 "readWants" 7 3 false (147, .ireturn, 148, []) := dX2_readWants_147
theorem ok36 : ∀ x ∈ k36, OkE cX2_readWants RX2 "readWants" 7 3 false x := List.forall_mem_cons.mpr ⟨o36_0, List.forall_mem_cons.mpr ⟨o36_1, List.forall_mem_cons.mpr ⟨o36_2, List.forall_mem_cons.mpr ⟨o36_3, List.forall_mem_cons.mpr ⟨o36_6, List.forall_mem_cons.mpr ⟨o36_7, List.forall_mem_cons.mpr ⟨o36_8, List.forall_mem_cons.mpr ⟨o36_11, List.forall_mem_cons.mpr ⟨o36_14, List.forall_mem_cons.mpr ⟨o36_15, List.forall_mem_cons.mpr ⟨o36_16, List.forall_mem_cons.mpr ⟨o36_17, List.forall_mem_cons.mpr ⟨o36_18, List.forall_mem_cons.mpr ⟨o36_21, List.forall_mem_cons.mpr ⟨o36_22, List.forall_mem_cons.mpr ⟨o36_23, List.forall_mem_cons.mpr ⟨o36_26, List.forall_mem_cons.mpr ⟨o36_27, List.forall_mem_cons.mpr ⟨o36_28, List.forall_mem_cons.mpr ⟨o36_29, List.forall_mem_cons.mpr ⟨o36_30, List.forall_mem_cons.mpr ⟨o36_33, List.forall_mem_cons.mpr ⟨o36_34, List.forall_mem_cons.mpr ⟨o36_35, List.forall_mem_cons.mpr ⟨o36_38, List.forall_mem_cons.mpr ⟨o36_39, List.forall_mem_cons.mpr ⟨o36_40, List.forall_mem_cons.mpr ⟨o36_42, List.forall_mem_cons.mpr ⟨o36_45, List.forall_mem_cons.mpr ⟨o36_46, List.forall_mem_cons.mpr ⟨o36_47, List.forall_mem_cons.mpr ⟨o36_48, List.forall_mem_cons.mpr ⟨o36_49, List.forall_mem_cons.mpr ⟨o36_50, List.forall_mem_cons.mpr ⟨o36_51, List.forall_mem_cons.mpr ⟨o36_52, List.forall_mem_cons.mpr ⟨o36_55, List.forall_mem_cons.mpr ⟨o36_58, List.forall_mem_cons.mpr ⟨o36_59, List.forall_mem_cons.mpr ⟨o36_60, List.forall_mem_cons.mpr ⟨o36_61, List.forall_mem_cons.mpr ⟨o36_62, List.forall_mem_cons.mpr ⟨o36_65, List.forall_mem_cons.mpr ⟨o36_66, List.forall_mem_cons.mpr ⟨o36_67, List.forall_mem_cons.mpr ⟨o36_70, List.forall_mem_cons.mpr ⟨o36_71, List.forall_mem_cons.mpr ⟨o36_72, List.forall_mem_cons.mpr ⟨o36_73, List.forall_mem_cons.mpr ⟨o36_74, List.forall_mem_cons.mpr ⟨o36_75, List.forall_mem_cons.mpr ⟨o36_76, List.forall_mem_cons.mpr ⟨o36_77, List.forall_mem_cons.mpr ⟨o36_78, List.forall_mem_cons.mpr ⟨o36_81, List.forall_mem_cons.mpr ⟨o36_83, List.forall_mem_cons.mpr ⟨o36_85, List.forall_mem_cons.mpr ⟨o36_87, List.forall_mem_cons.mpr ⟨o36_90, List.forall_mem_cons.mpr ⟨o36_92, List.forall_mem_cons.mpr ⟨o36_95, List.forall_mem_cons.mpr ⟨o36_96, List.forall_mem_cons.mpr ⟨o36_97, List.forall_mem_cons.mpr ⟨o36_98, List.forall_mem_cons.mpr ⟨o36_99, List.forall_mem_cons.mpr ⟨o36_102, List.forall_mem_cons.mpr ⟨o36_104, List.forall_mem_cons.mpr ⟨o36_106, List.forall_mem_cons.mpr ⟨o36_108, List.forall_mem_cons.mpr ⟨o36_111, List.forall_mem_cons.mpr ⟨o36_113, List.forall_mem_cons.mpr ⟨o36_116, List.forall_mem_cons.mpr ⟨o36_117, List.forall_mem_cons.mpr ⟨o36_118, List.forall_mem_cons.mpr ⟨o36_119, List.forall_mem_cons.mpr ⟨o36_121, List.forall_mem_cons.mpr ⟨o36_124, List.forall_mem_cons.mpr ⟨o36_126, List.forall_mem_cons.mpr ⟨o36_128, List.forall_mem_cons.mpr ⟨o36_130, List.forall_mem_cons.mpr ⟨o36_133, List.forall_mem_cons.mpr ⟨o36_134, List.forall_mem_cons.mpr ⟨o36_135, List.forall_mem_cons.mpr ⟨o36_136, List.forall_mem_cons.mpr ⟨o36_137, List.forall_mem_cons.mpr ⟨o36_139, List.forall_mem_cons.mpr ⟨o36_141, List.forall_mem_cons.mpr ⟨o36_143, List.forall_mem_cons.mpr ⟨o36_146, List.forall_mem_cons.mpr ⟨o36_147, fun _ h => absurd h List.not_mem_nil⟩⟩⟩⟩⟩⟩⟩⟩⟩⟩⟩⟩⟩⟩⟩⟩⟩⟩⟩⟩⟩⟩⟩⟩⟩⟩⟩⟩⟩⟩⟩⟩⟩⟩⟩⟩⟩⟩⟩⟩⟩⟩⟩⟩⟩⟩⟩⟩⟩⟩⟩⟩⟩⟩⟩⟩⟩⟩⟩⟩⟩⟩⟩⟩⟩⟩⟩⟩⟩⟩⟩⟩⟩⟩⟩⟩⟩⟩⟩⟩⟩⟩⟩⟩⟩⟩⟩⟩⟩⟩
theorem o37_0 : OkE cX2_readNext RX2 "readNext" 5 3 false (0, .aload 2, 1, []) := (r_aload_n dX2_readNext_0 rfl).row
theorem o37_1 : OkE cX2_readNext RX2 "readNext" 5 3 false (1, .invokeinterface 6 4, 4, []) := (r_getN (C := RX6) (T := TX6) (N := 8) (ci := 6) (j := 4) (ref := RX6) dX2_readNext_1 rfl inX6 (by decide) wd_307 rfl).row
theorem o37_4 : OkE cX2_readNext RX2 "readNext" 5 3 false (4, .iconst 1, 5, []) := (r_iconst dX2_readNext_4 rfl).row
theorem o37_5 : OkE cX2_readNext RX2 "readNext" 5 3 false (5, .if_icmp .eq 21, 8, []) := (r_icmp_eq dX2_readNext_5 rfl).row
theorem o37_8 : OkE cX2_readNext RX2 "readNext" 5 3 false (8, .aload 0, 9, []) := (r_aload_n dX2_readNext_8 rfl).row
theorem o37_9 : OkE cX2_readNext RX2 "readNext" 5 3 false (9, .iconst 12, 11, []) := (r_bipush dX2_readNext_9 rfl).row
theorem o37_11 : OkE cX2_readNext RX2 "readNext" 5 3 false (11, .aload 2, 12, []) := (r_aload_n dX2_readNext_11 rfl).row
theorem o37_12 : OkE cX2_readNext RX2 "readNext" 5 3 false (12, .invokeinterface 6 4, 15, []) := (r_getN (C := RX6) (T := TX6) (N := 8) (ci := 6) (j := 4) (ref := RX6) dX2_readNext_12 rfl inX6 (by decide) wd_307 rfl).row
theorem o37_15 : OkE cX2_readNext RX2 "readNext" 5 3 false (15, .invokevirtual 43, 18, []) := ⟨rfl, c_V dX2_readNext_15 wd_480 wd_482 wd_9 wd_66 wd_483 nmh_2⟩
theorem o37_18 : OkE cX2_readNext RX2 "readNext" 5 3 false (18, .ifCond .eq 23, 21, []) := (r_if_eq dX2_readNext_18 rfl).row
theorem o37_21 : OkE cX2_readNext RX2 "readNext" 5 3 false (21, .iconst 0, 22, [0, 1, 2]) := (r_iconst dX2_readNext_21 rfl).row
theorem o37_22 : OkE cX2_readNext RX2 "readNext" 5 3 false (22, .ireturn, 23, []) := dX2_readNext_22
theorem o37_23 : OkE cX2_readNext RX2 "readNext" 5 3 false (23, .aload 0, 24, []) := (r_aload_n dX2_readNext_23 rfl).row
theorem o37_24 : OkE cX2_readNext RX2 "readNext" 5 3 false (24, .dup, 25, []) := (r_dup dX2_readNext_24).row
theorem o37_25 : OkE cX2_readNext RX2 "readNext" 5 3 false (25, .invokeinterface 2 1, 28, []) := (r_get (C := RX2) (T := TX2) (N := 3) (ci := 2) (j := 1) (ref := RX2) dX2_readNext_25 rfl inX2 (by decide) wd_106 rfl).row
theorem o37_28 : OkE cX2_readNext RX2 "readNext" 5 3 false (28, .iconst 1, 29, []) := (r_iconst dX2_readNext_28 rfl).row
theorem o37_29 : OkE cX2_readNext RX2 "readNext" 5 3 false (29, .iadd, 30, []) := (r_iadd dX2_readNext_29).row
theorem o37_30 : OkE cX2_readNext RX2 "readNext" 5 3 false (30, .multianewarray 2 1, 33, []) := r_putI (C := RX2) (T := TX2) (N := 3) (ci := 2) (j := 1) (ref := RX2) dX2_readNext_30 rfl inX2 tyX2 tyX2_ok nmX2 (by decide) wd_106 rfl rfl (tyX2_ok 1 (by decide)) rfl
theorem o37_33 : OkE cX2_readNext RX2 "readNext" 5 3 false (33, .aload 0, 34, []) := (r_aload_n dX2_readNext_33 rfl).row
theorem o37_34 : OkE cX2_readNext RX2 "readNext" 5 3 false (34, .aload 1, 35, []) := (r_aload_n dX2_readNext_34 rfl).row
theorem o37_35 : OkE cX2_readNext RX2 "readNext" 5 3 false (35, .aload 2, 36, []) := (r_aload_n dX2_readNext_35 rfl).row
theorem o37_36 : OkE cX2_readNext RX2 "readNext" 5 3 false (36, .invokeinterface 6 4, 39, []) := (r_getN (C := RX6) (T := TX6) (N := 8) (ci := 6) (j := 4) (ref := RX6) dX2_readNext_36 rfl inX6 (by decide) wd_307 rfl).row
theorem o37_39 : OkE cX2_readNext RX2 "readNext" 5 3 false (39, .iconst 1, 40, []) := (r_iconst dX2_readNext_39 rfl).row
theorem o37_40 : OkE cX2_readNext RX2 "readNext" 5 3 false (40, .isub, 41, []) := (r_isub dX2_readNext_40).row
theorem o37_41 : OkE cX2_readNext RX2 "readNext" 5 3 false (41, .iconst 12, 43, []) := (r_bipush dX2_readNext_41 rfl).row
theorem o37_43 : OkE cX2_readNext RX2 "readNext" 5 3 false (43, .invokevirtual 41, 46, []) := ⟨rfl, c_V dX2_readNext_43 wd_487 wd_489 wd_10 wd_66 wd_490 nmh_2⟩
theorem o37_46 : OkE cX2_readNext RX2 "readNext" 5 3 false (46, .istore 3, 47, []) := (r_istore_n dX2_readNext_46 rfl).row
theorem o37_47 : OkE cX2_readNext RX2 "readNext" 5 3 false (47, .iload 3, 48, []) := (r_iload_n dX2_readNext_47 rfl).row
theorem o37_48 : OkE cX2_readNext RX2 "readNext" 5 3 false (48, .iconst (-9), 50, []) := (r_bipush dX2_readNext_48 rfl).row
theorem o37_50 : OkE cX2_readNext RX2 "readNext" 5 3 false (50, .if_icmp .ne 58, 53, []) := (r_icmp_ne dX2_readNext_50 rfl).row
theorem o37_53 : OkE cX2_readNext RX2 "readNext" 5 3 false (53, .iconst (-9), 55, []) := (r_bipush dX2_readNext_53 rfl).row
theorem o37_55 : OkE cX2_readNext RX2 "readNext" 5 3 false (55, .goto 70, 58, []) := (r_goto dX2_readNext_55 rfl).row
theorem o37_58 : OkE cX2_readNext RX2 "readNext" 5 3 false (58, .aload 0, 59, []) := (r_aload_n dX2_readNext_58 rfl).row
theorem o37_59 : OkE cX2_readNext RX2 "readNext" 5 3 false (59, .aload 1, 60, []) := (r_aload_n dX2_readNext_59 rfl).row
theorem o37_60 : OkE cX2_readNext RX2 "readNext" 5 3 false (60, .iconst 0, 61, []) := (r_iconst dX2_readNext_60 rfl).row
theorem o37_61 : OkE cX2_readNext RX2 "readNext" 5 3 false (61, .aload 2, 62, []) := (r_aload_n dX2_readNext_61 rfl).row
theorem o37_62 : OkE cX2_readNext RX2 "readNext" 5 3 false (62, .invokeinterface 6 4, 65, []) := (r_getN (C := RX6) (T := TX6) (N := 8) (ci := 6) (j := 4) (ref := RX6) dX2_readNext_62 rfl inX6 (by decide) wd_307 rfl).row
theorem o37_65 : OkE cX2_readNext RX2 "readNext" 5 3 false (65, .iconst 1, 66, []) := (r_iconst dX2_readNext_65 rfl).row
theorem o37_66 : OkE cX2_readNext RX2 "readNext" 5 3 false (66, .isub, 67, []) := (r_isub dX2_readNext_66).row
theorem o37_67 : OkE cX2_readNext RX2 "readNext" 5 3 false (67, .invokevirtual 39, 70, []) := ⟨rfl, c_V dX2_readNext_67 wd_467 wd_469 wd_6 wd_66 wd_470 nmh_2⟩
theorem o37_70 : OkE cX2_readNext RX2 "readNext" 5 3 false (70, .istore 4, 72, [1]) := (r_istore dX2_readNext_70).row
theorem o37_72 : OkE cX2_readNext RX2 "readNext" 5 3 false (72, .iload 4, 74, []) := (r_iload dX2_readNext_72).row
theorem o37_74 : OkE cX2_readNext RX2 "readNext" 5 3 false (74, .iconst (-9), 76, []) := (r_bipush dX2_readNext_74 rfl).row
theorem o37_76 : OkE cX2_readNext RX2 "readNext" 5 3 false (76, .if_icmp .eq 85, 79, []) := (r_icmp_eq dX2_readNext_76 rfl).row
theorem o37_79 : OkE cX2_readNext RX2 "readNext" 5 3 false (79, .iload 4, 81, []) := (r_iload dX2_readNext_79).row
theorem o37_81 : OkE cX2_readNext RX2 "readNext" 5 3 false (81, .iload 3, 82, []) := (r_iload_n dX2_readNext_81 rfl).row
theorem o37_82 : OkE cX2_readNext RX2 "readNext" 5 3 false (82, .if_icmp .ne 87, 85, []) := (r_icmp_ne dX2_readNext_82 rfl).row
theorem o37_85 : OkE cX2_readNext RX2 "readNext" 5 3 false (85, .iconst 0, 86, [0, 1, 2, 3, 4]) := (r_iconst dX2_readNext_85 rfl).row
theorem o37_86 : OkE cX2_readNext RX2 "readNext" 5 3 false (86, .ireturn, 87, []) := dX2_readNext_86
theorem o37_87 : OkE cX2_readNext RX2 "readNext" 5 3 false (87, .aload 0, 88, []) := (r_aload_n dX2_readNext_87 rfl).row
theorem o37_88 : OkE cX2_readNext RX2 "readNext" 5 3 false (88, .dup, 89, []) := (r_dup dX2_readNext_88).row
theorem o37_89 : OkE cX2_readNext RX2 "readNext" 5 3 false (89, .invokeinterface 2 1, 92, []) := (r_get (C := RX2) (T := TX2) (N := 3) (ci := 2) (j := 1) (ref := RX2) dX2_readNext_89 rfl inX2 (by decide) wd_106 rfl).row
theorem o37_92 : OkE cX2_readNext RX2 "readNext" 5 3 false (92, .iconst 1, 93, []) := (r_iconst dX2_readNext_92 rfl).row
theorem o37_93 : OkE cX2_readNext RX2 "readNext" 5 3 false (93, .iadd, 94, []) := (r_iadd dX2_readNext_93).row
theorem o37_94 : OkE cX2_readNext RX2 "readNext" 5 3 false (94, .multianewarray 2 1, 97, []) := r_putI (C := RX2) (T := TX2) (N := 3) (ci := 2) (j := 1) (ref := RX2) dX2_readNext_94 rfl inX2 tyX2 tyX2_ok nmX2 (by decide) wd_106 rfl rfl (tyX2_ok 1 (by decide)) rfl
theorem o37_97 : OkE cX2_readNext RX2 "readNext" 5 3 false (97, .aload 2, 98, []) := (r_aload_n dX2_readNext_97 rfl).row
theorem o37_98 : OkE cX2_readNext RX2 "readNext" 5 3 false (98, .iload 3, 99, []) := (r_iload_n dX2_readNext_98 rfl).row
theorem o37_99 : OkE cX2_readNext RX2 "readNext" 5 3 false (99, .iload 4, 101, []) := (r_iload dX2_readNext_99).row
theorem o37_101 : OkE cX2_readNext RX2 "readNext" 5 3 false (101, .invokevirtual 89, 104, []) := ⟨rfl, c_V dX2_readNext_101 wd_511 wd_512 wd_513 wd_73 wd_514 nmh_6⟩
theorem o37_104 : OkE cX2_readNext RX2 "readNext" 5 3 false (104, .iconst 1, 105, []) := (r_iconst dX2_readNext_104 rfl).row
theorem o37_105 : OkE cX2_readNext RX2 "readNext" 5 3 false (105, .ireturn, 106, []) := dX2_readNext_105
theorem ok37 : ∀ x ∈ k37, OkE cX2_readNext RX2 "readNext" 5 3 false x := List.forall_mem_cons.mpr ⟨o37_0, List.forall_mem_cons.mpr ⟨o37_1, List.forall_mem_cons.mpr ⟨o37_4, List.forall_mem_cons.mpr ⟨o37_5, List.forall_mem_cons.mpr ⟨o37_8, List.forall_mem_cons.mpr ⟨o37_9, List.forall_mem_cons.mpr ⟨o37_11, List.forall_mem_cons.mpr ⟨o37_12, List.forall_mem_cons.mpr ⟨o37_15, List.forall_mem_cons.mpr ⟨o37_18, List.forall_mem_cons.mpr ⟨o37_21, List.forall_mem_cons.mpr ⟨o37_22, List.forall_mem_cons.mpr ⟨o37_23, List.forall_mem_cons.mpr ⟨o37_24, List.forall_mem_cons.mpr ⟨o37_25, List.forall_mem_cons.mpr ⟨o37_28, List.forall_mem_cons.mpr ⟨o37_29, List.forall_mem_cons.mpr ⟨o37_30, List.forall_mem_cons.mpr ⟨o37_33, List.forall_mem_cons.mpr ⟨o37_34, List.forall_mem_cons.mpr ⟨o37_35, List.forall_mem_cons.mpr ⟨o37_36, List.forall_mem_cons.mpr ⟨o37_39, List.forall_mem_cons.mpr ⟨o37_40, List.forall_mem_cons.mpr ⟨o37_41, List.forall_mem_cons.mpr ⟨o37_43, List.forall_mem_cons.mpr ⟨o37_46, List.forall_mem_cons.mpr ⟨o37_47, List.forall_mem_cons.mpr ⟨o37_48, List.forall_mem_cons.mpr ⟨o37_50, List.forall_mem_cons.mpr ⟨o37_53, List.forall_mem_cons.mpr ⟨o37_55, List.forall_mem_cons.mpr ⟨o37_58, List.forall_mem_cons.mpr ⟨o37_59, List.forall_mem_cons.mpr ⟨o37_60, List.forall_mem_cons.mpr ⟨o37_61, List.forall_mem_cons.mpr ⟨o37_62, List.forall_mem_cons.mpr ⟨o37_65, List.forall_mem_cons.mpr ⟨o37_66, List.forall_mem_cons.mpr ⟨o37_67, List.forall_mem_cons.mpr ⟨o37_70, List.forall_mem_cons.mpr ⟨o37_72, List.forall_mem_cons.mpr ⟨o37_74, List.forall_mem_cons.mpr ⟨o37_76, List.forall_mem_cons.mpr ⟨o37_79, List.forall_mem_cons.mpr ⟨o37_81, List.forall_mem_cons.mpr ⟨o37_82, List.forall_mem_cons.mpr ⟨o37_85, List.forall_mem_cons.mpr ⟨o37_86, List.forall_mem_cons.mpr ⟨o37_87, List.forall_mem_cons.mpr ⟨o37_88, List.forall_mem_cons.mpr ⟨o37_89, List.forall_mem_cons.mpr ⟨o37_92, List.forall_mem_cons.mpr ⟨o37_93, List.forall_mem_cons.mpr ⟨o37_94, List.forall_mem_cons.mpr ⟨o37_97, List.forall_mem_cons.mpr ⟨o37_98, List.forall_mem_cons.mpr ⟨o37_99, List.forall_mem_cons.mpr ⟨o37_101, List.forall_mem_cons.mpr ⟨o37_104, List.forall_mem_cons.mpr ⟨o37_105, fun _ h => absurd h List.not_mem_nil⟩⟩⟩⟩⟩⟩⟩⟩⟩⟩⟩⟩⟩⟩⟩⟩⟩⟩⟩⟩⟩⟩⟩⟩⟩⟩⟩⟩⟩⟩⟩⟩⟩⟩⟩⟩⟩⟩⟩⟩⟩⟩⟩⟩⟩⟩⟩⟩⟩⟩⟩⟩⟩⟩⟩⟩⟩⟩⟩⟩⟩
theorem o38_0 : OkE cX2_readPrice RX2 "readPrice" 7 3 false (0, .aload 0, 1, []) := (r_aload_n dX2_readPrice_0 rfl).row
theorem o38_1 : OkE cX2_readPrice RX2 "readPrice" 7 3 false (1, .iload 3, 2, []) := (r_iload_n dX2_readPrice_1 rfl).row
theorem o38_2 : OkE cX2_readPrice RX2 "readPrice" 7 3 false (2, .invokevirtual 42, 5, []) := ⟨rfl, c_V dX2_readPrice_2 wd_491 wd_493 wd_11 wd_66 wd_494 nmh_2⟩
theorem o38_5 : OkE cX2_readPrice RX2 "readPrice" 7 3 false (5, .ifCond .ne 10, 8, []) := (r_if_ne dX2_readPrice_5 rfl).row
theorem o38_8 : OkE cX2_readPrice RX2 "readPrice" 7 3 false (8, .iconst 0, 9, []) := (r_iconst dX2_readPrice_8 rfl).row
theorem o38_9 : OkE cX2_readPrice RX2 "readPrice" 7 3 false (9, .ireturn, 10, []) := dX2_readPrice_9
theorem o38_10 : OkE cX2_readPrice RX2 "readPrice" 7 3 false (10, .aload 0, 11, []) := (r_aload_n dX2_readPrice_10 rfl).row
theorem o38_11 : OkE cX2_readPrice RX2 "readPrice" 7 3 false (11, .dup, 12, []) := (r_dup dX2_readPrice_11).row
theorem o38_12 : OkE cX2_readPrice RX2 "readPrice" 7 3 false (12, .invokeinterface 2 1, 15, []) := (r_get (C := RX2) (T := TX2) (N := 3) (ci := 2) (j := 1) (ref := RX2) dX2_readPrice_12 rfl inX2 (by decide) wd_106 rfl).row
theorem o38_15 : OkE cX2_readPrice RX2 "readPrice" 7 3 false (15, .iconst 1, 16, []) := (r_iconst dX2_readPrice_15 rfl).row
theorem o38_16 : OkE cX2_readPrice RX2 "readPrice" 7 3 false (16, .iadd, 17, []) := (r_iadd dX2_readPrice_16).row
theorem o38_17 : OkE cX2_readPrice RX2 "readPrice" 7 3 false (17, .multianewarray 2 1, 20, []) := r_putI (C := RX2) (T := TX2) (N := 3) (ci := 2) (j := 1) (ref := RX2) dX2_readPrice_17 rfl inX2 tyX2 tyX2_ok nmX2 (by decide) wd_106 rfl rfl (tyX2_ok 1 (by decide)) rfl
theorem o38_20 : OkE cX2_readPrice RX2 "readPrice" 7 3 false (20, .aload 0, 21, []) := (r_aload_n dX2_readPrice_20 rfl).row
theorem o38_21 : OkE cX2_readPrice RX2 "readPrice" 7 3 false (21, .aload 1, 22, []) := (r_aload_n dX2_readPrice_21 rfl).row
theorem o38_22 : OkE cX2_readPrice RX2 "readPrice" 7 3 false (22, .iconst 0, 23, []) := (r_iconst dX2_readPrice_22 rfl).row
theorem o38_23 : OkE cX2_readPrice RX2 "readPrice" 7 3 false (23, .iconst 9, 25, []) := (r_bipush dX2_readPrice_23 rfl).row
theorem o38_25 : OkE cX2_readPrice RX2 "readPrice" 7 3 false (25, .invokevirtual 40, 28, []) := ⟨rfl, c_V dX2_readPrice_25 wd_463 wd_465 wd_5 wd_66 wd_466 nmh_2⟩
theorem o38_28 : OkE cX2_readPrice RX2 "readPrice" 7 3 false (28, .istore 4, 30, []) := (r_istore dX2_readPrice_28).row
theorem o38_30 : OkE cX2_readPrice RX2 "readPrice" 7 3 false (30, .iload 4, 32, []) := (r_iload dX2_readPrice_30).row
theorem o38_32 : OkE cX2_readPrice RX2 "readPrice" 7 3 false (32, .iconst (-9), 34, []) := (r_bipush dX2_readPrice_32 rfl).row
theorem o38_34 : OkE cX2_readPrice RX2 "readPrice" 7 3 false (34, .if_icmp .ne 42, 37, []) := (r_icmp_ne dX2_readPrice_34 rfl).row
theorem o38_37 : OkE cX2_readPrice RX2 "readPrice" 7 3 false (37, .iconst (-9), 39, []) := (r_bipush dX2_readPrice_37 rfl).row
theorem o38_39 : OkE cX2_readPrice RX2 "readPrice" 7 3 false (39, .goto 50, 42, []) := (r_goto dX2_readPrice_39 rfl).row
theorem o38_42 : OkE cX2_readPrice RX2 "readPrice" 7 3 false (42, .aload 0, 43, []) := (r_aload_n dX2_readPrice_42 rfl).row
theorem o38_43 : OkE cX2_readPrice RX2 "readPrice" 7 3 false (43, .aload 1, 44, []) := (r_aload_n dX2_readPrice_43 rfl).row
theorem o38_44 : OkE cX2_readPrice RX2 "readPrice" 7 3 false (44, .iconst 0, 45, []) := (r_iconst dX2_readPrice_44 rfl).row
theorem o38_45 : OkE cX2_readPrice RX2 "readPrice" 7 3 false (45, .iconst 9, 47, []) := (r_bipush dX2_readPrice_45 rfl).row
theorem o38_47 : OkE cX2_readPrice RX2 "readPrice" 7 3 false (47, .invokevirtual 40, 50, []) := ⟨rfl, c_V dX2_readPrice_47 wd_463 wd_465 wd_5 wd_66 wd_466 nmh_2⟩
theorem o38_50 : OkE cX2_readPrice RX2 "readPrice" 7 3 false (50, .istore 5, 52, [0, 1]) := (r_istore dX2_readPrice_50).row
theorem o38_52 : OkE cX2_readPrice RX2 "readPrice" 7 3 false (52, .iload 5, 54, []) := (r_iload dX2_readPrice_52).row
theorem o38_54 : OkE cX2_readPrice RX2 "readPrice" 7 3 false (54, .iconst (-9), 56, []) := (r_bipush dX2_readPrice_54 rfl).row
theorem o38_56 : OkE cX2_readPrice RX2 "readPrice" 7 3 false (56, .if_icmp .ne 61, 59, []) := (r_icmp_ne dX2_readPrice_56 rfl).row
theorem o38_59 : OkE cX2_readPrice RX2 "readPrice" 7 3 false (59, .iconst 0, 60, []) := (r_iconst dX2_readPrice_59 rfl).row
theorem o38_60 : OkE cX2_readPrice RX2 "readPrice" 7 3 false (60, .ireturn, 61, []) := dX2_readPrice_60
theorem o38_61 : OkE cX2_readPrice RX2 "readPrice" 7 3 false (61, .iload 4, 63, []) := (r_iload dX2_readPrice_61).row
theorem o38_63 : OkE cX2_readPrice RX2 "readPrice" 7 3 false (63, .iconst 10, 65, []) := (r_bipush dX2_readPrice_63 rfl).row
theorem o38_65 : OkE cX2_readPrice RX2 "readPrice" 7 3 false (65, .imul, 66, []) := (r_imul dX2_readPrice_65).row
theorem o38_66 : OkE cX2_readPrice RX2 "readPrice" 7 3 false (66, .iload 5, 68, []) := (r_iload dX2_readPrice_66).row
theorem o38_68 : OkE cX2_readPrice RX2 "readPrice" 7 3 false (68, .iadd, 69, []) := (r_iadd dX2_readPrice_68).row
theorem o38_69 : OkE cX2_readPrice RX2 "readPrice" 7 3 false (69, .istore 6, 71, []) := (r_istore dX2_readPrice_69).row
theorem o38_71 : OkE cX2_readPrice RX2 "readPrice" 7 3 false (71, .iload 3, 72, []) := (r_iload_n dX2_readPrice_71 rfl).row
theorem o38_72 : OkE cX2_readPrice RX2 "readPrice" 7 3 false (72, .iconst 15, 74, []) := (r_bipush dX2_readPrice_72 rfl).row
theorem o38_74 : OkE cX2_readPrice RX2 "readPrice" 7 3 false (74, .if_icmp .ne 86, 77, []) := (r_icmp_ne dX2_readPrice_74 rfl).row
theorem o38_77 : OkE cX2_readPrice RX2 "readPrice" 7 3 false (77, .aload 2, 78, []) := (r_aload_n dX2_readPrice_77 rfl).row
theorem o38_78 : OkE cX2_readPrice RX2 "readPrice" 7 3 false (78, .iload 6, 80, []) := (r_iload dX2_readPrice_78).row
theorem o38_80 : OkE cX2_readPrice RX2 "readPrice" 7 3 false (80, .multianewarray 6 5, 83, []) := r_putNI (C := RX6) (T := TX6) (N := 8) (ci := 6) (j := 5) (ref := RX6) dX2_readPrice_80 rfl inX6 tyX6 tyX6_ok nmX6 (by decide) wd_313 rfl rfl (tyX6_ok 5 (by decide)) rfl
theorem o38_83 : OkE cX2_readPrice RX2 "readPrice" 7 3 false (83, .goto 107, 86, []) := (r_goto dX2_readPrice_83 rfl).row
theorem o38_86 : OkE cX2_readPrice RX2 "readPrice" 7 3 false (86, .iload 3, 87, []) := (r_iload_n dX2_readPrice_86 rfl).row
theorem o38_87 : OkE cX2_readPrice RX2 "readPrice" 7 3 false (87, .iconst 16, 89, []) := (r_bipush dX2_readPrice_87 rfl).row
theorem o38_89 : OkE cX2_readPrice RX2 "readPrice" 7 3 false (89, .if_icmp .ne 101, 92, []) := (r_icmp_ne dX2_readPrice_89 rfl).row
theorem o38_92 : OkE cX2_readPrice RX2 "readPrice" 7 3 false (92, .aload 2, 93, []) := (r_aload_n dX2_readPrice_92 rfl).row
theorem o38_93 : OkE cX2_readPrice RX2 "readPrice" 7 3 false (93, .iload 6, 95, []) := (r_iload dX2_readPrice_93).row
theorem o38_95 : OkE cX2_readPrice RX2 "readPrice" 7 3 false (95, .multianewarray 6 6, 98, []) := r_putNI (C := RX6) (T := TX6) (N := 8) (ci := 6) (j := 6) (ref := RX6) dX2_readPrice_95 rfl inX6 tyX6 tyX6_ok nmX6 (by decide) wd_318 rfl rfl (tyX6_ok 6 (by decide)) rfl
theorem o38_98 : OkE cX2_readPrice RX2 "readPrice" 7 3 false (98, .goto 107, 101, []) := (r_goto dX2_readPrice_98 rfl).row
theorem o38_101 : OkE cX2_readPrice RX2 "readPrice" 7 3 false (101, .aload 2, 102, []) := (r_aload_n dX2_readPrice_101 rfl).row
theorem o38_102 : OkE cX2_readPrice RX2 "readPrice" 7 3 false (102, .iload 6, 104, []) := (r_iload dX2_readPrice_102).row
theorem o38_104 : OkE cX2_readPrice RX2 "readPrice" 7 3 false (104, .multianewarray 6 7, 107, []) := r_putNI (C := RX6) (T := TX6) (N := 8) (ci := 6) (j := 7) (ref := RX6) dX2_readPrice_104 rfl inX6 tyX6 tyX6_ok nmX6 (by decide) wd_323 rfl rfl (tyX6_ok 7 (by decide)) rfl
theorem o38_107 : OkE cX2_readPrice RX2 "readPrice" 7 3 false (107, .iconst 1, 108, [0, 1, 2, 3, 4, 5, 6]) := (r_iconst dX2_readPrice_107 rfl).row
theorem o38_108 : OkE cX2_readPrice RX2 "readPrice" 7 3 false (108, .ireturn, 109, []) := dX2_readPrice_108
theorem ok38 : ∀ x ∈ k38, OkE cX2_readPrice RX2 "readPrice" 7 3 false x := List.forall_mem_cons.mpr ⟨o38_0, List.forall_mem_cons.mpr ⟨o38_1, List.forall_mem_cons.mpr ⟨o38_2, List.forall_mem_cons.mpr ⟨o38_5, List.forall_mem_cons.mpr ⟨o38_8, List.forall_mem_cons.mpr ⟨o38_9, List.forall_mem_cons.mpr ⟨o38_10, List.forall_mem_cons.mpr ⟨o38_11, List.forall_mem_cons.mpr ⟨o38_12, List.forall_mem_cons.mpr ⟨o38_15, List.forall_mem_cons.mpr ⟨o38_16, List.forall_mem_cons.mpr ⟨o38_17, List.forall_mem_cons.mpr ⟨o38_20, List.forall_mem_cons.mpr ⟨o38_21, List.forall_mem_cons.mpr ⟨o38_22, List.forall_mem_cons.mpr ⟨o38_23, List.forall_mem_cons.mpr ⟨o38_25, List.forall_mem_cons.mpr ⟨o38_28, List.forall_mem_cons.mpr ⟨o38_30, List.forall_mem_cons.mpr ⟨o38_32, List.forall_mem_cons.mpr ⟨o38_34, List.forall_mem_cons.mpr ⟨o38_37, List.forall_mem_cons.mpr ⟨o38_39, List.forall_mem_cons.mpr ⟨o38_42, List.forall_mem_cons.mpr ⟨o38_43, List.forall_mem_cons.mpr ⟨o38_44, List.forall_mem_cons.mpr ⟨o38_45, List.forall_mem_cons.mpr ⟨o38_47, List.forall_mem_cons.mpr ⟨o38_50, List.forall_mem_cons.mpr ⟨o38_52, List.forall_mem_cons.mpr ⟨o38_54, List.forall_mem_cons.mpr ⟨o38_56, List.forall_mem_cons.mpr ⟨o38_59, List.forall_mem_cons.mpr ⟨o38_60, List.forall_mem_cons.mpr ⟨o38_61, List.forall_mem_cons.mpr ⟨o38_63, List.forall_mem_cons.mpr ⟨o38_65, List.forall_mem_cons.mpr ⟨o38_66, List.forall_mem_cons.mpr ⟨o38_68, List.forall_mem_cons.mpr ⟨o38_69, List.forall_mem_cons.mpr ⟨o38_71, List.forall_mem_cons.mpr ⟨o38_72, List.forall_mem_cons.mpr ⟨o38_74, List.forall_mem_cons.mpr ⟨o38_77, List.forall_mem_cons.mpr ⟨o38_78, List.forall_mem_cons.mpr ⟨o38_80, List.forall_mem_cons.mpr ⟨o38_83, List.forall_mem_cons.mpr ⟨o38_86, List.forall_mem_cons.mpr ⟨o38_87, List.forall_mem_cons.mpr ⟨o38_89, List.forall_mem_cons.mpr ⟨o38_92, List.forall_mem_cons.mpr ⟨o38_93, List.forall_mem_cons.mpr ⟨o38_95, List.forall_mem_cons.mpr ⟨o38_98, List.forall_mem_cons.mpr ⟨o38_101, List.forall_mem_cons.mpr ⟨o38_102, List.forall_mem_cons.mpr ⟨o38_104, List.forall_mem_cons.mpr ⟨o38_107, List.forall_mem_cons.mpr ⟨o38_108, fun _ h => absurd h List.not_mem_nil⟩⟩⟩⟩⟩⟩⟩⟩⟩⟩⟩⟩⟩⟩⟩⟩⟩⟩⟩⟩⟩⟩⟩⟩⟩⟩⟩⟩⟩⟩⟩⟩⟩⟩⟩⟩⟩⟩⟩⟩⟩⟩⟩⟩⟩⟩⟩⟩⟩⟩⟩⟩⟩⟩⟩⟩⟩⟩⟩
theorem o39_0 : OkE cX2_figure RX2 "figure" 5 1 false (0, .aload 1, 1, []) := (r_aload_n dX2_figure_0 rfl).row
theorem o39_1 : OkE cX2_figure RX2 "figure" 5 1 false (1, .aload 0, 2, []) := (r_aload_n dX2_figure_1 rfl).row
theorem o39_2 : OkE cX2_figure RX2 "figure" 5 1 false (2, .invokeinterface 2 1, 5, []) := (r_get (C := RX2) (T := TX2) (N := 3) (ci := 2) (j := 1) (ref := RX2) dX2_figure_2 rfl inX2 (by decide) wd_106 rfl).row
theorem o39_5 : OkE cX2_figure RX2 "figure" 5 1 false (5, .invokevirtual 79, 8, []) := ⟨rfl, c_V dX2_figure_5 wd_459 wd_460 wd_461 wd_65 wd_462 nmh_5⟩
theorem o39_8 : OkE cX2_figure RX2 "figure" 5 1 false (8, .iconst 48, 10, []) := (r_bipush dX2_figure_8 rfl).row
theorem o39_10 : OkE cX2_figure RX2 "figure" 5 1 false (10, .isub, 11, []) := (r_isub dX2_figure_10).row
theorem o39_11 : OkE cX2_figure RX2 "figure" 5 1 false (11, .istore 4, 13, []) := (r_istore dX2_figure_11).row
theorem o39_13 : OkE cX2_figure RX2 "figure" 5 1 false (13, .iload 4, 15, []) := (r_iload dX2_figure_13).row
theorem o39_15 : OkE cX2_figure RX2 "figure" 5 1 false (15, .iload 2, 16, []) := (r_iload_n dX2_figure_15 rfl).row
theorem o39_16 : OkE cX2_figure RX2 "figure" 5 1 false (16, .if_icmp .lt 25, 19, []) := (r_icmp_lt dX2_figure_16 rfl).row
theorem o39_19 : OkE cX2_figure RX2 "figure" 5 1 false (19, .iload 4, 21, []) := (r_iload dX2_figure_19).row
theorem o39_21 : OkE cX2_figure RX2 "figure" 5 1 false (21, .iload 3, 22, []) := (r_iload_n dX2_figure_21 rfl).row
theorem o39_22 : OkE cX2_figure RX2 "figure" 5 1 false (22, .if_icmp .le 30, 25, []) := (r_icmp_le dX2_figure_22 rfl).row
theorem o39_25 : OkE cX2_figure RX2 "figure" 5 1 false (25, .iconst (-9), 27, [0, 1, 2, 3, 4]) := (r_bipush dX2_figure_25 rfl).row
theorem o39_27 : OkE cX2_figure RX2 "figure" 5 1 false (27, .goto 32, 30, []) := (r_goto dX2_figure_27 rfl).row
theorem o39_30 : OkE cX2_figure RX2 "figure" 5 1 false (30, .iload 4, 32, []) := (r_iload dX2_figure_30).row
theorem o39_32 : OkE cX2_figure RX2 "figure" 5 1 false (32, .ireturn, 33, [0, 1, 2, 3, 4]) := dX2_figure_32
theorem ok39 : ∀ x ∈ k39, OkE cX2_figure RX2 "figure" 5 1 false x := List.forall_mem_cons.mpr ⟨o39_0, List.forall_mem_cons.mpr ⟨o39_1, List.forall_mem_cons.mpr ⟨o39_2, List.forall_mem_cons.mpr ⟨o39_5, List.forall_mem_cons.mpr ⟨o39_8, List.forall_mem_cons.mpr ⟨o39_10, List.forall_mem_cons.mpr ⟨o39_11, List.forall_mem_cons.mpr ⟨o39_13, List.forall_mem_cons.mpr ⟨o39_15, List.forall_mem_cons.mpr ⟨o39_16, List.forall_mem_cons.mpr ⟨o39_19, List.forall_mem_cons.mpr ⟨o39_21, List.forall_mem_cons.mpr ⟨o39_22, List.forall_mem_cons.mpr ⟨o39_25, List.forall_mem_cons.mpr ⟨o39_27, List.forall_mem_cons.mpr ⟨o39_30, List.forall_mem_cons.mpr ⟨o39_32, fun _ h => absurd h List.not_mem_nil⟩⟩⟩⟩⟩⟩⟩⟩⟩⟩⟩⟩⟩⟩⟩⟩⟩
theorem o40_0 : OkE cX2_take RX2 "take" 5 2 false (0, .aload 0, 1, []) := (r_aload_n dX2_take_0 rfl).row
theorem o40_1 : OkE cX2_take RX2 "take" 5 2 false (1, .aload 1, 2, []) := (r_aload_n dX2_take_1 rfl).row
theorem o40_2 : OkE cX2_take RX2 "take" 5 2 false (2, .iload 2, 3, []) := (r_iload_n dX2_take_2 rfl).row
theorem o40_3 : OkE cX2_take RX2 "take" 5 2 false (3, .iload 3, 4, []) := (r_iload_n dX2_take_3 rfl).row
theorem o40_4 : OkE cX2_take RX2 "take" 5 2 false (4, .invokevirtual 39, 7, []) := ⟨rfl, c_V dX2_take_4 wd_467 wd_469 wd_6 wd_66 wd_470 nmh_2⟩
theorem o40_7 : OkE cX2_take RX2 "take" 5 2 false (7, .istore 4, 9, []) := (r_istore dX2_take_7).row
theorem o40_9 : OkE cX2_take RX2 "take" 5 2 false (9, .iload 4, 11, []) := (r_iload dX2_take_9).row
theorem o40_11 : OkE cX2_take RX2 "take" 5 2 false (11, .iconst (-9), 13, []) := (r_bipush dX2_take_11 rfl).row
theorem o40_13 : OkE cX2_take RX2 "take" 5 2 false (13, .if_icmp .eq 26, 16, []) := (r_icmp_eq dX2_take_13 rfl).row
theorem o40_16 : OkE cX2_take RX2 "take" 5 2 false (16, .aload 0, 17, []) := (r_aload_n dX2_take_16 rfl).row
theorem o40_17 : OkE cX2_take RX2 "take" 5 2 false (17, .dup, 18, []) := (r_dup dX2_take_17).row
theorem o40_18 : OkE cX2_take RX2 "take" 5 2 false (18, .invokeinterface 2 1, 21, []) := (r_get (C := RX2) (T := TX2) (N := 3) (ci := 2) (j := 1) (ref := RX2) dX2_take_18 rfl inX2 (by decide) wd_106 rfl).row
theorem o40_21 : OkE cX2_take RX2 "take" 5 2 false (21, .iconst 1, 22, []) := (r_iconst dX2_take_21 rfl).row
theorem o40_22 : OkE cX2_take RX2 "take" 5 2 false (22, .iadd, 23, []) := (r_iadd dX2_take_22).row
theorem o40_23 : OkE cX2_take RX2 "take" 5 2 false (23, .multianewarray 2 1, 26, []) := r_putI (C := RX2) (T := TX2) (N := 3) (ci := 2) (j := 1) (ref := RX2) dX2_take_23 rfl inX2 tyX2 tyX2_ok nmX2 (by decide) wd_106 rfl rfl (tyX2_ok 1 (by decide)) rfl
theorem o40_26 : OkE cX2_take RX2 "take" 5 2 false (26, .iload 4, 28, [0, 1, 2, 3]) := (r_iload dX2_take_26).row
theorem o40_28 : OkE cX2_take RX2 "take" 5 2 false (28, .ireturn, 29, []) := dX2_take_28
theorem ok40 : ∀ x ∈ k40, OkE cX2_take RX2 "take" 5 2 false x := List.forall_mem_cons.mpr ⟨o40_0, List.forall_mem_cons.mpr ⟨o40_1, List.forall_mem_cons.mpr ⟨o40_2, List.forall_mem_cons.mpr ⟨o40_3, List.forall_mem_cons.mpr ⟨o40_4, List.forall_mem_cons.mpr ⟨o40_7, List.forall_mem_cons.mpr ⟨o40_9, List.forall_mem_cons.mpr ⟨o40_11, List.forall_mem_cons.mpr ⟨o40_13, List.forall_mem_cons.mpr ⟨o40_16, List.forall_mem_cons.mpr ⟨o40_17, List.forall_mem_cons.mpr ⟨o40_18, List.forall_mem_cons.mpr ⟨o40_21, List.forall_mem_cons.mpr ⟨o40_22, List.forall_mem_cons.mpr ⟨o40_23, List.forall_mem_cons.mpr ⟨o40_26, List.forall_mem_cons.mpr ⟨o40_28, fun _ h => absurd h List.not_mem_nil⟩⟩⟩⟩⟩⟩⟩⟩⟩⟩⟩⟩⟩⟩⟩⟩⟩
theorem o41_0 : OkE cX2_takeUntold RX2 "takeUntold" 5 2 false (0, .aload 0, 1, []) := (r_aload_n dX2_takeUntold_0 rfl).row
theorem o41_1 : OkE cX2_takeUntold RX2 "takeUntold" 5 2 false (1, .aload 1, 2, []) := (r_aload_n dX2_takeUntold_1 rfl).row
theorem o41_2 : OkE cX2_takeUntold RX2 "takeUntold" 5 2 false (2, .iconst 0, 3, []) := (r_iconst dX2_takeUntold_2 rfl).row
theorem o41_3 : OkE cX2_takeUntold RX2 "takeUntold" 5 2 false (3, .iload 2, 4, []) := (r_iload_n dX2_takeUntold_3 rfl).row
theorem o41_4 : OkE cX2_takeUntold RX2 "takeUntold" 5 2 false (4, .invokevirtual 39, 7, []) := ⟨rfl, c_V dX2_takeUntold_4 wd_467 wd_469 wd_6 wd_66 wd_470 nmh_2⟩
theorem o41_7 : OkE cX2_takeUntold RX2 "takeUntold" 5 2 false (7, .istore 4, 9, []) := (r_istore dX2_takeUntold_7).row
theorem o41_9 : OkE cX2_takeUntold RX2 "takeUntold" 5 2 false (9, .iload 4, 11, []) := (r_iload dX2_takeUntold_9).row
theorem o41_11 : OkE cX2_takeUntold RX2 "takeUntold" 5 2 false (11, .iconst (-9), 13, []) := (r_bipush dX2_takeUntold_11 rfl).row
theorem o41_13 : OkE cX2_takeUntold RX2 "takeUntold" 5 2 false (13, .if_icmp .eq 27, 16, []) := (r_icmp_eq dX2_takeUntold_13 rfl).row
theorem o41_16 : OkE cX2_takeUntold RX2 "takeUntold" 5 2 false (16, .aload 0, 17, []) := (r_aload_n dX2_takeUntold_16 rfl).row
theorem o41_17 : OkE cX2_takeUntold RX2 "takeUntold" 5 2 false (17, .iload 3, 18, []) := (r_iload_n dX2_takeUntold_17 rfl).row
theorem o41_18 : OkE cX2_takeUntold RX2 "takeUntold" 5 2 false (18, .iload 4, 20, []) := (r_iload dX2_takeUntold_18).row
theorem o41_20 : OkE cX2_takeUntold RX2 "takeUntold" 5 2 false (20, .iadd, 21, []) := (r_iadd dX2_takeUntold_20).row
theorem o41_21 : OkE cX2_takeUntold RX2 "takeUntold" 5 2 false (21, .invokevirtual 42, 24, []) := ⟨rfl, c_V dX2_takeUntold_21 wd_491 wd_493 wd_11 wd_66 wd_494 nmh_2⟩
theorem o41_24 : OkE cX2_takeUntold RX2 "takeUntold" 5 2 false (24, .ifCond .ne 30, 27, []) := (r_if_ne dX2_takeUntold_24 rfl).row
theorem o41_27 : OkE cX2_takeUntold RX2 "takeUntold" 5 2 false (27, .iconst (-9), 29, [0, 1, 2, 3, 4]) := (r_bipush dX2_takeUntold_27 rfl).row
theorem o41_29 : OkE cX2_takeUntold RX2 "takeUntold" 5 2 false (29, .ireturn, 30, []) := dX2_takeUntold_29
theorem o41_30 : OkE cX2_takeUntold RX2 "takeUntold" 5 2 false (30, .aload 0, 31, []) := (r_aload_n dX2_takeUntold_30 rfl).row
theorem o41_31 : OkE cX2_takeUntold RX2 "takeUntold" 5 2 false (31, .dup, 32, []) := (r_dup dX2_takeUntold_31).row
theorem o41_32 : OkE cX2_takeUntold RX2 "takeUntold" 5 2 false (32, .invokeinterface 2 1, 35, []) := (r_get (C := RX2) (T := TX2) (N := 3) (ci := 2) (j := 1) (ref := RX2) dX2_takeUntold_32 rfl inX2 (by decide) wd_106 rfl).row
theorem o41_35 : OkE cX2_takeUntold RX2 "takeUntold" 5 2 false (35, .iconst 1, 36, []) := (r_iconst dX2_takeUntold_35 rfl).row
theorem o41_36 : OkE cX2_takeUntold RX2 "takeUntold" 5 2 false (36, .iadd, 37, []) := (r_iadd dX2_takeUntold_36).row
theorem o41_37 : OkE cX2_takeUntold RX2 "takeUntold" 5 2 false (37, .multianewarray 2 1, 40, []) := r_putI (C := RX2) (T := TX2) (N := 3) (ci := 2) (j := 1) (ref := RX2) dX2_takeUntold_37 rfl inX2 tyX2 tyX2_ok nmX2 (by decide) wd_106 rfl rfl (tyX2_ok 1 (by decide)) rfl
theorem o41_40 : OkE cX2_takeUntold RX2 "takeUntold" 5 2 false (40, .iload 4, 42, []) := (r_iload dX2_takeUntold_40).row
theorem o41_42 : OkE cX2_takeUntold RX2 "takeUntold" 5 2 false (42, .ireturn, 43, []) := dX2_takeUntold_42
theorem ok41 : ∀ x ∈ k41, OkE cX2_takeUntold RX2 "takeUntold" 5 2 false x := List.forall_mem_cons.mpr ⟨o41_0, List.forall_mem_cons.mpr ⟨o41_1, List.forall_mem_cons.mpr ⟨o41_2, List.forall_mem_cons.mpr ⟨o41_3, List.forall_mem_cons.mpr ⟨o41_4, List.forall_mem_cons.mpr ⟨o41_7, List.forall_mem_cons.mpr ⟨o41_9, List.forall_mem_cons.mpr ⟨o41_11, List.forall_mem_cons.mpr ⟨o41_13, List.forall_mem_cons.mpr ⟨o41_16, List.forall_mem_cons.mpr ⟨o41_17, List.forall_mem_cons.mpr ⟨o41_18, List.forall_mem_cons.mpr ⟨o41_20, List.forall_mem_cons.mpr ⟨o41_21, List.forall_mem_cons.mpr ⟨o41_24, List.forall_mem_cons.mpr ⟨o41_27, List.forall_mem_cons.mpr ⟨o41_29, List.forall_mem_cons.mpr ⟨o41_30, List.forall_mem_cons.mpr ⟨o41_31, List.forall_mem_cons.mpr ⟨o41_32, List.forall_mem_cons.mpr ⟨o41_35, List.forall_mem_cons.mpr ⟨o41_36, List.forall_mem_cons.mpr ⟨o41_37, List.forall_mem_cons.mpr ⟨o41_40, List.forall_mem_cons.mpr ⟨o41_42, fun _ h => absurd h List.not_mem_nil⟩⟩⟩⟩⟩⟩⟩⟩⟩⟩⟩⟩⟩⟩⟩⟩⟩⟩⟩⟩⟩⟩⟩⟩⟩
theorem o42_0 : OkE cX2_tell RX2 "tell" 2 0 false (0, .iload 1, 1, []) := (r_iload_n dX2_tell_0 rfl).row
theorem o42_1 : OkE cX2_tell RX2 "tell" 2 0 false (1, .ifCond .lt 19, 4, []) := (r_if_lt dX2_tell_1 rfl).row
theorem o42_4 : OkE cX2_tell RX2 "tell" 2 0 false (4, .iload 1, 5, []) := (r_iload_n dX2_tell_4 rfl).row
theorem o42_5 : OkE cX2_tell RX2 "tell" 2 0 false (5, .iconst 18, 7, []) := (r_bipush dX2_tell_5 rfl).row
theorem o42_7 : OkE cX2_tell RX2 "tell" 2 0 false (7, .if_icmp .ge 19, 10, []) := (r_icmp_ge dX2_tell_7 rfl).row
theorem o42_10 : OkE cX2_tell RX2 "tell" 2 0 false (10, .aload 0, 11, []) := (r_aload_n dX2_tell_10 rfl).row
theorem o42_11 : OkE cX2_tell RX2 "tell" 2 0 false (11, .invokeinterface 2 0, 14, []) := (r_get (C := RX2) (T := TX2) (N := 3) (ci := 2) (j := 0) (ref := RX2) dX2_tell_11 rfl inX2 (by decide) wd_105 rfl).row
theorem o42_14 : OkE cX2_tell RX2 "tell" 2 0 false (14, .iload 1, 15, []) := (r_iload_n dX2_tell_14 rfl).row
theorem o42_15 : OkE cX2_tell RX2 "tell" 2 0 false (15, .baload, 16, []) := (r_zald dX2_tell_15).row
theorem o42_16 : OkE cX2_tell RX2 "tell" 2 0 false (16, .ifCond .eq 21, 19, []) := (r_if_eq dX2_tell_16 rfl).row
theorem o42_19 : OkE cX2_tell RX2 "tell" 2 0 false (19, .iconst 0, 20, [0, 1]) := (r_iconst dX2_tell_19 rfl).row
theorem o42_20 : OkE cX2_tell RX2 "tell" 2 0 false (20, .ireturn, 21, []) := dX2_tell_20
theorem o42_21 : OkE cX2_tell RX2 "tell" 2 0 false (21, .aload 0, 22, []) := (r_aload_n dX2_tell_21 rfl).row
theorem o42_22 : OkE cX2_tell RX2 "tell" 2 0 false (22, .invokeinterface 2 0, 25, []) := (r_get (C := RX2) (T := TX2) (N := 3) (ci := 2) (j := 0) (ref := RX2) dX2_tell_22 rfl inX2 (by decide) wd_105 rfl).row
theorem o42_25 : OkE cX2_tell RX2 "tell" 2 0 false (25, .iload 1, 26, []) := (r_iload_n dX2_tell_25 rfl).row
theorem o42_26 : OkE cX2_tell RX2 "tell" 2 0 false (26, .iconst 1, 27, []) := (r_iconst dX2_tell_26 rfl).row
theorem o42_27 : OkE cX2_tell RX2 "tell" 2 0 false (27, .bastore, 28, []) := r_zast dX2_tell_27
theorem o42_28 : OkE cX2_tell RX2 "tell" 2 0 false (28, .iconst 1, 29, []) := (r_iconst dX2_tell_28 rfl).row
theorem o42_29 : OkE cX2_tell RX2 "tell" 2 0 false (29, .ireturn, 30, []) := dX2_tell_29
theorem ok42 : ∀ x ∈ k42, OkE cX2_tell RX2 "tell" 2 0 false x := List.forall_mem_cons.mpr ⟨o42_0, List.forall_mem_cons.mpr ⟨o42_1, List.forall_mem_cons.mpr ⟨o42_4, List.forall_mem_cons.mpr ⟨o42_5, List.forall_mem_cons.mpr ⟨o42_7, List.forall_mem_cons.mpr ⟨o42_10, List.forall_mem_cons.mpr ⟨o42_11, List.forall_mem_cons.mpr ⟨o42_14, List.forall_mem_cons.mpr ⟨o42_15, List.forall_mem_cons.mpr ⟨o42_16, List.forall_mem_cons.mpr ⟨o42_19, List.forall_mem_cons.mpr ⟨o42_20, List.forall_mem_cons.mpr ⟨o42_21, List.forall_mem_cons.mpr ⟨o42_22, List.forall_mem_cons.mpr ⟨o42_25, List.forall_mem_cons.mpr ⟨o42_26, List.forall_mem_cons.mpr ⟨o42_27, List.forall_mem_cons.mpr ⟨o42_28, List.forall_mem_cons.mpr ⟨o42_29, fun _ h => absurd h List.not_mem_nil⟩⟩⟩⟩⟩⟩⟩⟩⟩⟩⟩⟩⟩⟩⟩⟩⟩⟩⟩
theorem o43_0 : OkE cX2_allTold RX2 "allTold" 4 1 false (0, .iload 1, 1, []) := (r_iload_n dX2_allTold_0 rfl).row
theorem o43_1 : OkE cX2_allTold RX2 "allTold" 4 1 false (1, .iconst 0, 2, []) := (r_iconst dX2_allTold_1 rfl).row
theorem o43_2 : OkE cX2_allTold RX2 "allTold" 4 1 false (2, .fadd, 5, []) := (r_maxi dX2_allTold_2 wd_484 wd_485 wd_75 wd_486 (by decide)).row
theorem o43_5 : OkE cX2_allTold RX2 "allTold" 4 1 false (5, .istore 3, 6, []) := (r_istore_n dX2_allTold_5 rfl).row
theorem o43_6 : OkE cX2_allTold RX2 "allTold" 4 1 false (6, .iload 3, 7, []) := (r_iload_n dX2_allTold_6 rfl).row
theorem o43_7 : OkE cX2_allTold RX2 "allTold" 4 1 false (7, .iload 1, 8, []) := (r_iload_n dX2_allTold_7 rfl).row
theorem o43_8 : OkE cX2_allTold RX2 "allTold" 4 1 false (8, .iload 2, 9, []) := (r_iload_n dX2_allTold_8 rfl).row
theorem o43_9 : OkE cX2_allTold RX2 "allTold" 4 1 false (9, .iadd, 10, []) := (r_iadd dX2_allTold_9).row
theorem o43_10 : OkE cX2_allTold RX2 "allTold" 4 1 false (10, .if_icmp .ge 36, 13, []) := (r_icmp_ge dX2_allTold_10 rfl).row
theorem o43_13 : OkE cX2_allTold RX2 "allTold" 4 1 false (13, .iload 3, 14, []) := (r_iload_n dX2_allTold_13 rfl).row
theorem o43_14 : OkE cX2_allTold RX2 "allTold" 4 1 false (14, .iconst 18, 16, []) := (r_bipush dX2_allTold_14 rfl).row
theorem o43_16 : OkE cX2_allTold RX2 "allTold" 4 1 false (16, .if_icmp .ge 36, 19, []) := (r_icmp_ge dX2_allTold_16 rfl).row
theorem o43_19 : OkE cX2_allTold RX2 "allTold" 4 1 false (19, .aload 0, 20, []) := (r_aload_n dX2_allTold_19 rfl).row
theorem o43_20 : OkE cX2_allTold RX2 "allTold" 4 1 false (20, .invokeinterface 2 0, 23, []) := (r_get (C := RX2) (T := TX2) (N := 3) (ci := 2) (j := 0) (ref := RX2) dX2_allTold_20 rfl inX2 (by decide) wd_105 rfl).row
theorem o43_23 : OkE cX2_allTold RX2 "allTold" 4 1 false (23, .iload 3, 24, []) := (r_iload_n dX2_allTold_23 rfl).row
theorem o43_24 : OkE cX2_allTold RX2 "allTold" 4 1 false (24, .baload, 25, []) := (r_zald dX2_allTold_24).row
theorem o43_25 : OkE cX2_allTold RX2 "allTold" 4 1 false (25, .ifCond .ne 30, 28, []) := (r_if_ne dX2_allTold_25 rfl).row
theorem o43_28 : OkE cX2_allTold RX2 "allTold" 4 1 false (28, .iconst 0, 29, []) := (r_iconst dX2_allTold_28 rfl).row
theorem o43_29 : OkE cX2_allTold RX2 "allTold" 4 1 false (29, .ireturn, 30, []) := dX2_allTold_29
theorem o43_30 : OkE cX2_allTold RX2 "allTold" 4 1 false (30, .iinc 3 1, 33, []) := (r_iinc dX2_allTold_30 rfl).row
theorem o43_33 : OkE cX2_allTold RX2 "allTold" 4 1 false (33, .goto 6, 36, []) := (r_goto dX2_allTold_33 rfl).row
theorem o43_36 : OkE cX2_allTold RX2 "allTold" 4 1 false (36, .iconst 1, 37, [0, 1, 2, 3]) := (r_iconst dX2_allTold_36 rfl).row
theorem o43_37 : OkE cX2_allTold RX2 "allTold" 4 1 false (37, .ireturn, 38, []) := dX2_allTold_37
theorem ok43 : ∀ x ∈ k43, OkE cX2_allTold RX2 "allTold" 4 1 false x := List.forall_mem_cons.mpr ⟨o43_0, List.forall_mem_cons.mpr ⟨o43_1, List.forall_mem_cons.mpr ⟨o43_2, List.forall_mem_cons.mpr ⟨o43_5, List.forall_mem_cons.mpr ⟨o43_6, List.forall_mem_cons.mpr ⟨o43_7, List.forall_mem_cons.mpr ⟨o43_8, List.forall_mem_cons.mpr ⟨o43_9, List.forall_mem_cons.mpr ⟨o43_10, List.forall_mem_cons.mpr ⟨o43_13, List.forall_mem_cons.mpr ⟨o43_14, List.forall_mem_cons.mpr ⟨o43_16, List.forall_mem_cons.mpr ⟨o43_19, List.forall_mem_cons.mpr ⟨o43_20, List.forall_mem_cons.mpr ⟨o43_23, List.forall_mem_cons.mpr ⟨o43_24, List.forall_mem_cons.mpr ⟨o43_25, List.forall_mem_cons.mpr ⟨o43_28, List.forall_mem_cons.mpr ⟨o43_29, List.forall_mem_cons.mpr ⟨o43_30, List.forall_mem_cons.mpr ⟨o43_33, List.forall_mem_cons.mpr ⟨o43_36, List.forall_mem_cons.mpr ⟨o43_37, fun _ h => absurd h List.not_mem_nil⟩⟩⟩⟩⟩⟩⟩⟩⟩⟩⟩⟩⟩⟩⟩⟩⟩⟩⟩⟩⟩⟩⟩
theorem o44_0 : OkE cX3_init RX3 "<init>" 1 1 false (0, .aload 0, 1, []) := (r_aload_n dX3_init_0 rfl).row
theorem o44_1 : OkE cX3_init RX3 "<init>" 1 1 false (1, .monitorexit, 4, []) := (r_obj dX3_init_1 wd_248 wd_83 wd_84 (by decide)).row
theorem o44_4 : OkE cX3_init RX3 "<init>" 1 1 false (4, .aload 0, 5, []) := (r_aload_n dX3_init_4 rfl).row
theorem o44_5 : OkE cX3_init RX3 "<init>" 1 1 false (5, .iconst 18, 7, []) := (r_bipush dX3_init_5 rfl).row
theorem o44_7 : OkE cX3_init RX3 "<init>" 1 1 false (7, .newarray .int, 9, []) := r_newi dX3_init_7 wd_98
theorem o44_9 : OkE cX3_init RX3 "<init>" 1 1 false (9, .multianewarray 3 0, 12, []) := r_putFR (C := RX3) (T := TX3) (N := 13) (ci := 3) (j := 0) (ref := RX3) dX3_init_9 rfl inX3 tyX3 tyX3_ok nmX3 (by decide) wd_249 rfl rfl rfl rfl (tyX3_ok 0 (by decide)) (fun a => ⟨rfl, rfl⟩) rfl
theorem o44_12 : OkE cX3_init RX3 "<init>" 1 1 false (12, .aload 0, 13, []) := (r_aload_n dX3_init_12 rfl).row
theorem o44_13 : OkE cX3_init RX3 "<init>" 1 1 false (13, .iconst 18, 15, []) := (r_bipush dX3_init_13 rfl).row
theorem o44_15 : OkE cX3_init RX3 "<init>" 1 1 false (15, .newarray .int, 17, []) := r_newi dX3_init_15 wd_98
theorem o44_17 : OkE cX3_init RX3 "<init>" 1 1 false (17, .multianewarray 3 1, 20, []) := r_putFR (C := RX3) (T := TX3) (N := 13) (ci := 3) (j := 1) (ref := RX3) dX3_init_17 rfl inX3 tyX3 tyX3_ok nmX3 (by decide) wd_250 rfl rfl rfl rfl (tyX3_ok 1 (by decide)) (fun a => ⟨rfl, rfl⟩) rfl
theorem o44_20 : OkE cX3_init RX3 "<init>" 1 1 false (20, .aload 0, 21, []) := (r_aload_n dX3_init_20 rfl).row
theorem o44_21 : OkE cX3_init RX3 "<init>" 1 1 false (21, .iconst 18, 23, []) := (r_bipush dX3_init_21 rfl).row
theorem o44_23 : OkE cX3_init RX3 "<init>" 1 1 false (23, .newarray .int, 25, []) := r_newi dX3_init_23 wd_98
theorem o44_25 : OkE cX3_init RX3 "<init>" 1 1 false (25, .multianewarray 3 2, 28, []) := r_putFR (C := RX3) (T := TX3) (N := 13) (ci := 3) (j := 2) (ref := RX3) dX3_init_25 rfl inX3 tyX3 tyX3_ok nmX3 (by decide) wd_251 rfl rfl rfl rfl (tyX3_ok 2 (by decide)) (fun a => ⟨rfl, rfl⟩) rfl
theorem o44_28 : OkE cX3_init RX3 "<init>" 1 1 false (28, .aload 0, 29, []) := (r_aload_n dX3_init_28 rfl).row
theorem o44_29 : OkE cX3_init RX3 "<init>" 1 1 false (29, .iconst 18, 31, []) := (r_bipush dX3_init_29 rfl).row
theorem o44_31 : OkE cX3_init RX3 "<init>" 1 1 false (31, .newarray .int, 33, []) := r_newi dX3_init_31 wd_98
theorem o44_33 : OkE cX3_init RX3 "<init>" 1 1 false (33, .multianewarray 3 3, 36, []) := r_putFR (C := RX3) (T := TX3) (N := 13) (ci := 3) (j := 3) (ref := RX3) dX3_init_33 rfl inX3 tyX3 tyX3_ok nmX3 (by decide) wd_252 rfl rfl rfl rfl (tyX3_ok 3 (by decide)) (fun a => ⟨rfl, rfl⟩) rfl
theorem o44_36 : OkE cX3_init RX3 "<init>" 1 1 false (36, .aload 0, 37, []) := (r_aload_n dX3_init_36 rfl).row
theorem o44_37 : OkE cX3_init RX3 "<init>" 1 1 false (37, .iconst 3, 38, []) := (r_iconst dX3_init_37 rfl).row
theorem o44_38 : OkE cX3_init RX3 "<init>" 1 1 false (38, .newarray .int, 40, []) := r_newi dX3_init_38 wd_98
theorem o44_40 : OkE cX3_init RX3 "<init>" 1 1 false (40, .multianewarray 3 4, 43, []) := r_putFR (C := RX3) (T := TX3) (N := 13) (ci := 3) (j := 4) (ref := RX3) dX3_init_40 rfl inX3 tyX3 tyX3_ok nmX3 (by decide) wd_253 rfl rfl rfl rfl (tyX3_ok 4 (by decide)) (fun a => ⟨rfl, rfl⟩) rfl
theorem o44_43 : OkE cX3_init RX3 "<init>" 1 1 false (43, .aload 0, 44, []) := (r_aload_n dX3_init_43 rfl).row
theorem o44_44 : OkE cX3_init RX3 "<init>" 1 1 false (44, .iconst 3, 45, []) := (r_iconst dX3_init_44 rfl).row
theorem o44_45 : OkE cX3_init RX3 "<init>" 1 1 false (45, .newarray .int, 47, []) := r_newi dX3_init_45 wd_98
theorem o44_47 : OkE cX3_init RX3 "<init>" 1 1 false (47, .multianewarray 3 5, 50, []) := r_putFR (C := RX3) (T := TX3) (N := 13) (ci := 3) (j := 5) (ref := RX3) dX3_init_47 rfl inX3 tyX3 tyX3_ok nmX3 (by decide) wd_254 rfl rfl rfl rfl (tyX3_ok 5 (by decide)) (fun a => ⟨rfl, rfl⟩) rfl
theorem o44_50 : OkE cX3_init RX3 "<init>" 1 1 false (50, .aload 0, 51, []) := (r_aload_n dX3_init_50 rfl).row
theorem o44_51 : OkE cX3_init RX3 "<init>" 1 1 false (51, .iconst (-9), 53, []) := (r_bipush dX3_init_51 rfl).row
theorem o44_53 : OkE cX3_init RX3 "<init>" 1 1 false (53, .multianewarray 3 9, 56, []) := r_putI (C := RX3) (T := TX3) (N := 13) (ci := 3) (j := 9) (ref := RX3) dX3_init_53 rfl inX3 tyX3 tyX3_ok nmX3 (by decide) wd_258 rfl rfl (tyX3_ok 9 (by decide)) rfl
theorem o44_56 : OkE cX3_init RX3 "<init>" 1 1 false (56, .aload 0, 57, []) := (r_aload_n dX3_init_56 rfl).row
theorem o44_57 : OkE cX3_init RX3 "<init>" 1 1 false (57, .iconst (-9), 59, []) := (r_bipush dX3_init_57 rfl).row
theorem o44_59 : OkE cX3_init RX3 "<init>" 1 1 false (59, .multianewarray 3 10, 62, []) := r_putI (C := RX3) (T := TX3) (N := 13) (ci := 3) (j := 10) (ref := RX3) dX3_init_59 rfl inX3 tyX3 tyX3_ok nmX3 (by decide) wd_259 rfl rfl (tyX3_ok 10 (by decide)) rfl
theorem o44_62 : OkE cX3_init RX3 "<init>" 1 1 false (62, .aload 0, 63, []) := (r_aload_n dX3_init_62 rfl).row
theorem o44_63 : OkE cX3_init RX3 "<init>" 1 1 false (63, .iconst (-9), 65, []) := (r_bipush dX3_init_63 rfl).row
theorem o44_65 : OkE cX3_init RX3 "<init>" 1 1 false (65, .multianewarray 3 11, 68, []) := r_putI (C := RX3) (T := TX3) (N := 13) (ci := 3) (j := 11) (ref := RX3) dX3_init_65 rfl inX3 tyX3 tyX3_ok nmX3 (by decide) wd_260 rfl rfl (tyX3_ok 11 (by decide)) rfl
theorem o44_68 : OkE cX3_init RX3 "<init>" 1 1 false (68, .aload 0, 69, []) := (r_aload_n dX3_init_68 rfl).row
theorem o44_69 : OkE cX3_init RX3 "<init>" 1 1 false (69, .iconst 0, 70, []) := (r_iconst dX3_init_69 rfl).row
theorem o44_70 : OkE cX3_init RX3 "<init>" 1 1 false (70, .multianewarray 3 12, 73, []) := r_putI (C := RX3) (T := TX3) (N := 13) (ci := 3) (j := 12) (ref := RX3) dX3_init_70 rfl inX3 tyX3 tyX3_ok nmX3 (by decide) wd_261 rfl rfl (tyX3_ok 12 (by decide)) rfl
theorem o44_73 : OkE cX3_init RX3 "<init>" 1 1 false (73, .return_, 74, []) := dX3_init_73
theorem ok44 : ∀ x ∈ k44, OkE cX3_init RX3 "<init>" 1 1 false x := List.forall_mem_cons.mpr ⟨o44_0, List.forall_mem_cons.mpr ⟨o44_1, List.forall_mem_cons.mpr ⟨o44_4, List.forall_mem_cons.mpr ⟨o44_5, List.forall_mem_cons.mpr ⟨o44_7, List.forall_mem_cons.mpr ⟨o44_9, List.forall_mem_cons.mpr ⟨o44_12, List.forall_mem_cons.mpr ⟨o44_13, List.forall_mem_cons.mpr ⟨o44_15, List.forall_mem_cons.mpr ⟨o44_17, List.forall_mem_cons.mpr ⟨o44_20, List.forall_mem_cons.mpr ⟨o44_21, List.forall_mem_cons.mpr ⟨o44_23, List.forall_mem_cons.mpr ⟨o44_25, List.forall_mem_cons.mpr ⟨o44_28, List.forall_mem_cons.mpr ⟨o44_29, List.forall_mem_cons.mpr ⟨o44_31, List.forall_mem_cons.mpr ⟨o44_33, List.forall_mem_cons.mpr ⟨o44_36, List.forall_mem_cons.mpr ⟨o44_37, List.forall_mem_cons.mpr ⟨o44_38, List.forall_mem_cons.mpr ⟨o44_40, List.forall_mem_cons.mpr ⟨o44_43, List.forall_mem_cons.mpr ⟨o44_44, List.forall_mem_cons.mpr ⟨o44_45, List.forall_mem_cons.mpr ⟨o44_47, List.forall_mem_cons.mpr ⟨o44_50, List.forall_mem_cons.mpr ⟨o44_51, List.forall_mem_cons.mpr ⟨o44_53, List.forall_mem_cons.mpr ⟨o44_56, List.forall_mem_cons.mpr ⟨o44_57, List.forall_mem_cons.mpr ⟨o44_59, List.forall_mem_cons.mpr ⟨o44_62, List.forall_mem_cons.mpr ⟨o44_63, List.forall_mem_cons.mpr ⟨o44_65, List.forall_mem_cons.mpr ⟨o44_68, List.forall_mem_cons.mpr ⟨o44_69, List.forall_mem_cons.mpr ⟨o44_70, List.forall_mem_cons.mpr ⟨o44_73, fun _ h => absurd h List.not_mem_nil⟩⟩⟩⟩⟩⟩⟩⟩⟩⟩⟩⟩⟩⟩⟩⟩⟩⟩⟩⟩⟩⟩⟩⟩⟩⟩⟩⟩⟩⟩⟩⟩⟩⟩⟩⟩⟩⟩⟩
theorem o45_0 : OkE cX3_plain RX3 "plain" 3 5 false (0, .aload 0, 1, []) := (r_aload_n dX3_plain_0 rfl).row
theorem o45_1 : OkE cX3_plain RX3 "plain" 3 5 false (1, .iconst (-9), 3, []) := (r_bipush dX3_plain_1 rfl).row
theorem o45_3 : OkE cX3_plain RX3 "plain" 3 5 false (3, .multianewarray 3 9, 6, []) := r_putI (C := RX3) (T := TX3) (N := 13) (ci := 3) (j := 9) (ref := RX3) dX3_plain_3 rfl inX3 tyX3 tyX3_ok nmX3 (by decide) wd_258 rfl rfl (tyX3_ok 9 (by decide)) rfl
theorem o45_6 : OkE cX3_plain RX3 "plain" 3 5 false (6, .aload 0, 7, []) := (r_aload_n dX3_plain_6 rfl).row
theorem o45_7 : OkE cX3_plain RX3 "plain" 3 5 false (7, .iconst (-9), 9, []) := (r_bipush dX3_plain_7 rfl).row
theorem o45_9 : OkE cX3_plain RX3 "plain" 3 5 false (9, .multianewarray 3 10, 12, []) := r_putI (C := RX3) (T := TX3) (N := 13) (ci := 3) (j := 10) (ref := RX3) dX3_plain_9 rfl inX3 tyX3 tyX3_ok nmX3 (by decide) wd_259 rfl rfl (tyX3_ok 10 (by decide)) rfl
theorem o45_12 : OkE cX3_plain RX3 "plain" 3 5 false (12, .aload 0, 13, []) := (r_aload_n dX3_plain_12 rfl).row
theorem o45_13 : OkE cX3_plain RX3 "plain" 3 5 false (13, .aload 1, 14, []) := (r_aload_n dX3_plain_13 rfl).row
theorem o45_14 : OkE cX3_plain RX3 "plain" 3 5 false (14, .aload 2, 15, []) := (r_aload_n dX3_plain_14 rfl).row
theorem o45_15 : OkE cX3_plain RX3 "plain" 3 5 false (15, .invokevirtual 48, 18, []) := ⟨rfl, c_V dX3_plain_15 wd_818 wd_820 wd_26 wd_72 wd_821 nmh_3⟩
theorem o45_18 : OkE cX3_plain RX3 "plain" 3 5 false (18, .return_, 19, []) := dX3_plain_18
theorem ok45 : ∀ x ∈ k45, OkE cX3_plain RX3 "plain" 3 5 false x := List.forall_mem_cons.mpr ⟨o45_0, List.forall_mem_cons.mpr ⟨o45_1, List.forall_mem_cons.mpr ⟨o45_3, List.forall_mem_cons.mpr ⟨o45_6, List.forall_mem_cons.mpr ⟨o45_7, List.forall_mem_cons.mpr ⟨o45_9, List.forall_mem_cons.mpr ⟨o45_12, List.forall_mem_cons.mpr ⟨o45_13, List.forall_mem_cons.mpr ⟨o45_14, List.forall_mem_cons.mpr ⟨o45_15, List.forall_mem_cons.mpr ⟨o45_18, fun _ h => absurd h List.not_mem_nil⟩⟩⟩⟩⟩⟩⟩⟩⟩⟩⟩
theorem o46_0 : OkE cX3_withCrier RX3 "withCrier" 4 5 false (0, .aload 0, 1, []) := (r_aload_n dX3_withCrier_0 rfl).row
theorem o46_1 : OkE cX3_withCrier RX3 "withCrier" 4 5 false (1, .iload 3, 2, []) := (r_iload_n dX3_withCrier_1 rfl).row
theorem o46_2 : OkE cX3_withCrier RX3 "withCrier" 4 5 false (2, .multianewarray 3 9, 5, []) := r_putI (C := RX3) (T := TX3) (N := 13) (ci := 3) (j := 9) (ref := RX3) dX3_withCrier_2 rfl inX3 tyX3 tyX3_ok nmX3 (by decide) wd_258 rfl rfl (tyX3_ok 9 (by decide)) rfl
theorem o46_5 : OkE cX3_withCrier RX3 "withCrier" 4 5 false (5, .aload 0, 6, []) := (r_aload_n dX3_withCrier_5 rfl).row
theorem o46_6 : OkE cX3_withCrier RX3 "withCrier" 4 5 false (6, .iconst (-9), 8, []) := (r_bipush dX3_withCrier_6 rfl).row
theorem o46_8 : OkE cX3_withCrier RX3 "withCrier" 4 5 false (8, .multianewarray 3 10, 11, []) := r_putI (C := RX3) (T := TX3) (N := 13) (ci := 3) (j := 10) (ref := RX3) dX3_withCrier_8 rfl inX3 tyX3 tyX3_ok nmX3 (by decide) wd_259 rfl rfl (tyX3_ok 10 (by decide)) rfl
theorem o46_11 : OkE cX3_withCrier RX3 "withCrier" 4 5 false (11, .aload 0, 12, []) := (r_aload_n dX3_withCrier_11 rfl).row
theorem o46_12 : OkE cX3_withCrier RX3 "withCrier" 4 5 false (12, .aload 1, 13, []) := (r_aload_n dX3_withCrier_12 rfl).row
theorem o46_13 : OkE cX3_withCrier RX3 "withCrier" 4 5 false (13, .aload 2, 14, []) := (r_aload_n dX3_withCrier_13 rfl).row
theorem o46_14 : OkE cX3_withCrier RX3 "withCrier" 4 5 false (14, .invokevirtual 48, 17, []) := ⟨rfl, c_V dX3_withCrier_14 wd_818 wd_820 wd_26 wd_72 wd_821 nmh_3⟩
theorem o46_17 : OkE cX3_withCrier RX3 "withCrier" 4 5 false (17, .return_, 18, []) := dX3_withCrier_17
theorem ok46 : ∀ x ∈ k46, OkE cX3_withCrier RX3 "withCrier" 4 5 false x := List.forall_mem_cons.mpr ⟨o46_0, List.forall_mem_cons.mpr ⟨o46_1, List.forall_mem_cons.mpr ⟨o46_2, List.forall_mem_cons.mpr ⟨o46_5, List.forall_mem_cons.mpr ⟨o46_6, List.forall_mem_cons.mpr ⟨o46_8, List.forall_mem_cons.mpr ⟨o46_11, List.forall_mem_cons.mpr ⟨o46_12, List.forall_mem_cons.mpr ⟨o46_13, List.forall_mem_cons.mpr ⟨o46_14, List.forall_mem_cons.mpr ⟨o46_17, fun _ h => absurd h List.not_mem_nil⟩⟩⟩⟩⟩⟩⟩⟩⟩⟩⟩
theorem o47_0 : OkE cX3_withSecond RX3 "withSecond" 6 5 false (0, .aload 0, 1, []) := (r_aload_n dX3_withSecond_0 rfl).row
theorem o47_1 : OkE cX3_withSecond RX3 "withSecond" 6 5 false (1, .iconst (-9), 3, []) := (r_bipush dX3_withSecond_1 rfl).row
theorem o47_3 : OkE cX3_withSecond RX3 "withSecond" 6 5 false (3, .multianewarray 3 9, 6, []) := r_putI (C := RX3) (T := TX3) (N := 13) (ci := 3) (j := 9) (ref := RX3) dX3_withSecond_3 rfl inX3 tyX3 tyX3_ok nmX3 (by decide) wd_258 rfl rfl (tyX3_ok 9 (by decide)) rfl
theorem o47_6 : OkE cX3_withSecond RX3 "withSecond" 6 5 false (6, .aload 0, 7, []) := (r_aload_n dX3_withSecond_6 rfl).row
theorem o47_7 : OkE cX3_withSecond RX3 "withSecond" 6 5 false (7, .iload 3, 8, []) := (r_iload_n dX3_withSecond_7 rfl).row
theorem o47_8 : OkE cX3_withSecond RX3 "withSecond" 6 5 false (8, .multianewarray 3 10, 11, []) := r_putI (C := RX3) (T := TX3) (N := 13) (ci := 3) (j := 10) (ref := RX3) dX3_withSecond_8 rfl inX3 tyX3 tyX3_ok nmX3 (by decide) wd_259 rfl rfl (tyX3_ok 10 (by decide)) rfl
theorem o47_11 : OkE cX3_withSecond RX3 "withSecond" 6 5 false (11, .aload 0, 12, []) := (r_aload_n dX3_withSecond_11 rfl).row
theorem o47_12 : OkE cX3_withSecond RX3 "withSecond" 6 5 false (12, .iload 4, 14, []) := (r_iload dX3_withSecond_12).row
theorem o47_14 : OkE cX3_withSecond RX3 "withSecond" 6 5 false (14, .multianewarray 3 11, 17, []) := r_putI (C := RX3) (T := TX3) (N := 13) (ci := 3) (j := 11) (ref := RX3) dX3_withSecond_14 rfl inX3 tyX3 tyX3_ok nmX3 (by decide) wd_260 rfl rfl (tyX3_ok 11 (by decide)) rfl
theorem o47_17 : OkE cX3_withSecond RX3 "withSecond" 6 5 false (17, .aload 0, 18, []) := (r_aload_n dX3_withSecond_17 rfl).row
theorem o47_18 : OkE cX3_withSecond RX3 "withSecond" 6 5 false (18, .iload 5, 20, []) := (r_iload dX3_withSecond_18).row
theorem o47_20 : OkE cX3_withSecond RX3 "withSecond" 6 5 false (20, .multianewarray 3 12, 23, []) := r_putI (C := RX3) (T := TX3) (N := 13) (ci := 3) (j := 12) (ref := RX3) dX3_withSecond_20 rfl inX3 tyX3 tyX3_ok nmX3 (by decide) wd_261 rfl rfl (tyX3_ok 12 (by decide)) rfl
theorem o47_23 : OkE cX3_withSecond RX3 "withSecond" 6 5 false (23, .aload 0, 24, []) := (r_aload_n dX3_withSecond_23 rfl).row
theorem o47_24 : OkE cX3_withSecond RX3 "withSecond" 6 5 false (24, .aload 1, 25, []) := (r_aload_n dX3_withSecond_24 rfl).row
theorem o47_25 : OkE cX3_withSecond RX3 "withSecond" 6 5 false (25, .aload 2, 26, []) := (r_aload_n dX3_withSecond_25 rfl).row
theorem o47_26 : OkE cX3_withSecond RX3 "withSecond" 6 5 false (26, .invokevirtual 48, 29, []) := ⟨rfl, c_V dX3_withSecond_26 wd_818 wd_820 wd_26 wd_72 wd_821 nmh_3⟩
theorem o47_29 : OkE cX3_withSecond RX3 "withSecond" 6 5 false (29, .return_, 30, []) := dX3_withSecond_29
theorem ok47 : ∀ x ∈ k47, OkE cX3_withSecond RX3 "withSecond" 6 5 false x := List.forall_mem_cons.mpr ⟨o47_0, List.forall_mem_cons.mpr ⟨o47_1, List.forall_mem_cons.mpr ⟨o47_3, List.forall_mem_cons.mpr ⟨o47_6, List.forall_mem_cons.mpr ⟨o47_7, List.forall_mem_cons.mpr ⟨o47_8, List.forall_mem_cons.mpr ⟨o47_11, List.forall_mem_cons.mpr ⟨o47_12, List.forall_mem_cons.mpr ⟨o47_14, List.forall_mem_cons.mpr ⟨o47_17, List.forall_mem_cons.mpr ⟨o47_18, List.forall_mem_cons.mpr ⟨o47_20, List.forall_mem_cons.mpr ⟨o47_23, List.forall_mem_cons.mpr ⟨o47_24, List.forall_mem_cons.mpr ⟨o47_25, List.forall_mem_cons.mpr ⟨o47_26, List.forall_mem_cons.mpr ⟨o47_29, fun _ h => absurd h List.not_mem_nil⟩⟩⟩⟩⟩⟩⟩⟩⟩⟩⟩⟩⟩⟩⟩⟩⟩
