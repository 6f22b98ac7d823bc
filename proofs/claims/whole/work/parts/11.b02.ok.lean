theorem o103_0 : OkE cX8_write RX8 "write" 4 1 false (0, .iload 1, 1, []) := (r_iload_n dX8_write_0 rfl).row
theorem o103_1 : OkE cX8_write RX8 "write" 4 1 false (1, .iconst 1, 2, []) := (r_iconst dX8_write_1 rfl).row
theorem o103_2 : OkE cX8_write RX8 "write" 4 1 false (2, .if_icmp .lt 11, 5, []) := (r_icmp_lt dX8_write_2 rfl).row
theorem o103_5 : OkE cX8_write RX8 "write" 4 1 false (5, .iload 1, 6, []) := (r_iload_n dX8_write_5 rfl).row
theorem o103_6 : OkE cX8_write RX8 "write" 4 1 false (6, .iconst 8, 8, []) := (r_bipush dX8_write_6 rfl).row
theorem o103_8 : OkE cX8_write RX8 "write" 4 1 false (8, .if_icmp .le 14, 11, []) := (r_icmp_le dX8_write_8 rfl).row
theorem o103_11 : OkE cX8_write RX8 "write" 4 1 false (11, .iconst (-2), 13, [0, 1, 2]) := (r_bipush dX8_write_11 rfl).row
theorem o103_13 : OkE cX8_write RX8 "write" 4 1 false (13, .ireturn, 14, []) := dX8_write_13
theorem o103_14 : OkE cX8_write RX8 "write" 4 1 false (14, .aload 0, 15, []) := (r_aload_n dX8_write_14 rfl).row
theorem o103_15 : OkE cX8_write RX8 "write" 4 1 false (15, .invokeinterface 8 0, 18, []) := (r_get (C := RX8) (T := TX8) (N := 11) (ci := 8) (j := 0) (ref := RX8) dX8_write_15 rfl inX8 (by decide) wd_388 rfl).row
theorem o103_18 : OkE cX8_write RX8 "write" 4 1 false (18, .iload 1, 19, []) := (r_iload_n dX8_write_18 rfl).row
theorem o103_19 : OkE cX8_write RX8 "write" 4 1 false (19, .invokevirtual 76, 22, []) := ⟨rfl, c_V dX8_write_19 wd_426 wd_427 wd_428 wd_65 wd_429 nmh_5⟩
theorem o103_22 : OkE cX8_write RX8 "write" 4 1 false (22, .ifCond .ne 28, 25, []) := (r_if_ne dX8_write_22 rfl).row
theorem o103_25 : OkE cX8_write RX8 "write" 4 1 false (25, .iconst (-4), 27, []) := (r_bipush dX8_write_25 rfl).row
theorem o103_27 : OkE cX8_write RX8 "write" 4 1 false (27, .ireturn, 28, []) := dX8_write_27
theorem o103_28 : OkE cX8_write RX8 "write" 4 1 false (28, .aload 0, 29, []) := (r_aload_n dX8_write_28 rfl).row
theorem o103_29 : OkE cX8_write RX8 "write" 4 1 false (29, .invokeinterface 8 0, 32, []) := (r_get (C := RX8) (T := TX8) (N := 11) (ci := 8) (j := 0) (ref := RX8) dX8_write_29 rfl inX8 (by decide) wd_388 rfl).row
theorem o103_32 : OkE cX8_write RX8 "write" 4 1 false (32, .iload 1, 33, []) := (r_iload_n dX8_write_32 rfl).row
theorem o103_33 : OkE cX8_write RX8 "write" 4 1 false (33, .lload 2, 34, []) := (r_lload_n dX8_write_33 rfl).row
theorem o103_34 : OkE cX8_write RX8 "write" 4 1 false (34, .invokevirtual 77, 37, []) := ⟨rfl, c_V dX8_write_34 wd_430 wd_431 wd_432 wd_65 wd_433 nmh_5⟩
theorem o103_37 : OkE cX8_write RX8 "write" 4 1 false (37, .aload 0, 38, []) := (r_aload_n dX8_write_37 rfl).row
theorem o103_38 : OkE cX8_write RX8 "write" 4 1 false (38, .invokeinterface 8 0, 41, []) := (r_get (C := RX8) (T := TX8) (N := 11) (ci := 8) (j := 0) (ref := RX8) dX8_write_38 rfl inX8 (by decide) wd_388 rfl).row
theorem o103_41 : OkE cX8_write RX8 "write" 4 1 false (41, .invokevirtual 75, 44, []) := ⟨rfl, c_V dX8_write_41 wd_434 wd_435 wd_436 wd_65 wd_437 nmh_5⟩
theorem o103_44 : OkE cX8_write RX8 "write" 4 1 false (44, .ireturn, 45, []) := dX8_write_44
theorem ok103 : ∀ x ∈ k103, OkE cX8_write RX8 "write" 4 1 false x := List.forall_mem_cons.mpr ⟨o103_0, List.forall_mem_cons.mpr ⟨o103_1, List.forall_mem_cons.mpr ⟨o103_2, List.forall_mem_cons.mpr ⟨o103_5, List.forall_mem_cons.mpr ⟨o103_6, List.forall_mem_cons.mpr ⟨o103_8, List.forall_mem_cons.mpr ⟨o103_11, List.forall_mem_cons.mpr ⟨o103_13, List.forall_mem_cons.mpr ⟨o103_14, List.forall_mem_cons.mpr ⟨o103_15, List.forall_mem_cons.mpr ⟨o103_18, List.forall_mem_cons.mpr ⟨o103_19, List.forall_mem_cons.mpr ⟨o103_22, List.forall_mem_cons.mpr ⟨o103_25, List.forall_mem_cons.mpr ⟨o103_27, List.forall_mem_cons.mpr ⟨o103_28, List.forall_mem_cons.mpr ⟨o103_29, List.forall_mem_cons.mpr ⟨o103_32, List.forall_mem_cons.mpr ⟨o103_33, List.forall_mem_cons.mpr ⟨o103_34, List.forall_mem_cons.mpr ⟨o103_37, List.forall_mem_cons.mpr ⟨o103_38, List.forall_mem_cons.mpr ⟨o103_41, List.forall_mem_cons.mpr ⟨o103_44, fun _ h => absurd h List.not_mem_nil⟩⟩⟩⟩⟩⟩⟩⟩⟩⟩⟩⟩⟩⟩⟩⟩⟩⟩⟩⟩⟩⟩⟩⟩
theorem o104_0 : OkE cX8_wipe RX8 "wipe" 1 1 false (0, .aload 0, 1, []) := (r_aload_n dX8_wipe_0 rfl).row
theorem o104_1 : OkE cX8_wipe RX8 "wipe" 1 1 false (1, .invokeinterface 8 0, 4, []) := (r_get (C := RX8) (T := TX8) (N := 11) (ci := 8) (j := 0) (ref := RX8) dX8_wipe_1 rfl inX8 (by decide) wd_388 rfl).row
theorem o104_4 : OkE cX8_wipe RX8 "wipe" 1 1 false (4, .invokevirtual 78, 7, []) := ⟨rfl, c_V dX8_wipe_4 wd_442 wd_443 wd_444 wd_65 wd_445 nmh_5⟩
theorem o104_7 : OkE cX8_wipe RX8 "wipe" 1 1 false (7, .ireturn, 8, []) := dX8_wipe_7
theorem ok104 : ∀ x ∈ k104, OkE cX8_wipe RX8 "wipe" 1 1 false x := List.forall_mem_cons.mpr ⟨o104_0, List.forall_mem_cons.mpr ⟨o104_1, List.forall_mem_cons.mpr ⟨o104_4, List.forall_mem_cons.mpr ⟨o104_7, fun _ h => absurd h List.not_mem_nil⟩⟩⟩⟩
theorem o105_0 : OkE cX8_fault RX8 "fault" 1 6 false (0, .aload 0, 1, []) := (r_aload_n dX8_fault_0 rfl).row
theorem o105_1 : OkE cX8_fault RX8 "fault" 1 6 false (1, .invokeinterface 8 1, 4, []) := (r_get (C := RX8) (T := TX8) (N := 11) (ci := 8) (j := 1) (ref := RX8) dX8_fault_1 rfl inX8 (by decide) wd_389 rfl).row
theorem o105_4 : OkE cX8_fault RX8 "fault" 1 6 false (4, .aload 0, 5, []) := (r_aload_n dX8_fault_4 rfl).row
theorem o105_5 : OkE cX8_fault RX8 "fault" 1 6 false (5, .invokeinterface 8 0, 8, []) := (r_get (C := RX8) (T := TX8) (N := 11) (ci := 8) (j := 0) (ref := RX8) dX8_fault_5 rfl inX8 (by decide) wd_388 rfl).row
theorem o105_8 : OkE cX8_fault RX8 "fault" 1 6 false (8, .aload 0, 9, []) := (r_aload_n dX8_fault_8 rfl).row
theorem o105_9 : OkE cX8_fault RX8 "fault" 1 6 false (9, .invokeinterface 8 10, 12, []) := (r_get (C := RX8) (T := TX8) (N := 11) (ci := 8) (j := 10) (ref := RX8) dX8_fault_9 rfl inX8 (by decide) wd_398 rfl).row
theorem o105_12 : OkE cX8_fault RX8 "fault" 1 6 false (12, .invokevirtual 32, 15, []) := ⟨rfl, c_V dX8_fault_12 wd_450 wd_451 wd_452 wd_66 wd_453 nmh_2⟩
theorem o105_15 : OkE cX8_fault RX8 "fault" 1 6 false (15, .ireturn, 16, []) := dX8_fault_15
theorem ok105 : ∀ x ∈ k105, OkE cX8_fault RX8 "fault" 1 6 false x := List.forall_mem_cons.mpr ⟨o105_0, List.forall_mem_cons.mpr ⟨o105_1, List.forall_mem_cons.mpr ⟨o105_4, List.forall_mem_cons.mpr ⟨o105_5, List.forall_mem_cons.mpr ⟨o105_8, List.forall_mem_cons.mpr ⟨o105_9, List.forall_mem_cons.mpr ⟨o105_12, List.forall_mem_cons.mpr ⟨o105_15, fun _ h => absurd h List.not_mem_nil⟩⟩⟩⟩⟩⟩⟩⟩
theorem o106_0 : OkE cX8_town RX8 "town" 3 6 false (0, .aload 0, 1, []) := (r_aload_n dX8_town_0 rfl).row
theorem o106_1 : OkE cX8_town RX8 "town" 3 6 false (1, .invokeinterface 8 1, 4, []) := (r_get (C := RX8) (T := TX8) (N := 11) (ci := 8) (j := 1) (ref := RX8) dX8_town_1 rfl inX8 (by decide) wd_389 rfl).row
theorem o106_4 : OkE cX8_town RX8 "town" 3 6 false (4, .aload 0, 5, []) := (r_aload_n dX8_town_4 rfl).row
theorem o106_5 : OkE cX8_town RX8 "town" 3 6 false (5, .invokeinterface 8 0, 8, []) := (r_get (C := RX8) (T := TX8) (N := 11) (ci := 8) (j := 0) (ref := RX8) dX8_town_5 rfl inX8 (by decide) wd_388 rfl).row
theorem o106_8 : OkE cX8_town RX8 "town" 3 6 false (8, .aload 0, 9, []) := (r_aload_n dX8_town_8 rfl).row
theorem o106_9 : OkE cX8_town RX8 "town" 3 6 false (9, .invokeinterface 8 10, 12, []) := (r_get (C := RX8) (T := TX8) (N := 11) (ci := 8) (j := 10) (ref := RX8) dX8_town_9 rfl inX8 (by decide) wd_398 rfl).row
theorem o106_12 : OkE cX8_town RX8 "town" 3 6 false (12, .invokevirtual 32, 15, []) := ⟨rfl, c_V dX8_town_12 wd_450 wd_451 wd_452 wd_66 wd_453 nmh_2⟩
theorem o106_15 : OkE cX8_town RX8 "town" 3 6 false (15, .iconst (-9), 17, []) := (r_bipush dX8_town_15 rfl).row
theorem o106_17 : OkE cX8_town RX8 "town" 3 6 false (17, .if_icmp .eq 23, 20, []) := (r_icmp_eq dX8_town_17 rfl).row
theorem o106_20 : OkE cX8_town RX8 "town" 3 6 false (20, .iconst (-3), 22, []) := (r_bipush dX8_town_20 rfl).row
theorem o106_22 : OkE cX8_town RX8 "town" 3 6 false (22, .ireturn, 23, []) := dX8_town_22
theorem o106_23 : OkE cX8_town RX8 "town" 3 6 false (23, .aload 0, 24, []) := (r_aload_n dX8_town_23 rfl).row
theorem o106_24 : OkE cX8_town RX8 "town" 3 6 false (24, .invokeinterface 8 9, 27, []) := (r_get (C := RX8) (T := TX8) (N := 11) (ci := 8) (j := 9) (ref := RX8) dX8_town_24 rfl inX8 (by decide) wd_397 rfl).row
theorem o106_27 : OkE cX8_town RX8 "town" 3 6 false (27, .astore 1, 28, []) := (r_astore_n dX8_town_27 rfl).row
theorem o106_28 : OkE cX8_town RX8 "town" 3 6 false (28, .aload 0, 29, []) := (r_aload_n dX8_town_28 rfl).row
theorem o106_29 : OkE cX8_town RX8 "town" 3 6 false (29, .aload 0, 30, []) := (r_aload_n dX8_town_29 rfl).row
theorem o106_30 : OkE cX8_town RX8 "town" 3 6 false (30, .invokeinterface 8 10, 33, []) := (r_get (C := RX8) (T := TX8) (N := 11) (ci := 8) (j := 10) (ref := RX8) dX8_town_30 rfl inX8 (by decide) wd_398 rfl).row
theorem o106_33 : OkE cX8_town RX8 "town" 3 6 false (33, .multianewarray 8 9, 36, []) := r_putR (C := RX8) (T := TX8) (N := 11) (ci := 8) (j := 9) (ref := RX8) dX8_town_33 rfl inX8 tyX8 tyX8_ok nmX8 (by decide) wd_397 rfl rfl (tyX8_ok 9 (by decide)) (fun a => ⟨rfl, rfl⟩) rfl
theorem o106_36 : OkE cX8_town RX8 "town" 3 6 false (36, .aload 0, 37, []) := (r_aload_n dX8_town_36 rfl).row
theorem o106_37 : OkE cX8_town RX8 "town" 3 6 false (37, .aload 1, 38, []) := (r_aload_n dX8_town_37 rfl).row
theorem o106_38 : OkE cX8_town RX8 "town" 3 6 false (38, .multianewarray 8 10, 41, []) := r_putR (C := RX8) (T := TX8) (N := 11) (ci := 8) (j := 10) (ref := RX8) dX8_town_38 rfl inX8 tyX8 tyX8_ok nmX8 (by decide) wd_398 rfl rfl (tyX8_ok 10 (by decide)) (fun a => ⟨rfl, rfl⟩) rfl
theorem o106_41 : OkE cX8_town RX8 "town" 3 6 false (41, .aload 0, 42, []) := (r_aload_n dX8_town_41 rfl).row
theorem o106_42 : OkE cX8_town RX8 "town" 3 6 false (42, .invokeinterface 8 2, 45, []) := (r_get (C := RX8) (T := TX8) (N := 11) (ci := 8) (j := 2) (ref := RX8) dX8_town_42 rfl inX8 (by decide) wd_390 rfl).row
theorem o106_45 : OkE cX8_town RX8 "town" 3 6 false (45, .aload 0, 46, []) := (r_aload_n dX8_town_45 rfl).row
theorem o106_46 : OkE cX8_town RX8 "town" 3 6 false (46, .invokeinterface 8 9, 49, []) := (r_get (C := RX8) (T := TX8) (N := 11) (ci := 8) (j := 9) (ref := RX8) dX8_town_46 rfl inX8 (by decide) wd_397 rfl).row
theorem o106_49 : OkE cX8_town RX8 "town" 3 6 false (49, .invokevirtual 1, 52, []) := ⟨rfl, c_V dX8_town_49 wd_343 wd_344 wd_345 wd_67 wd_346 nmh_0⟩
theorem o106_52 : OkE cX8_town RX8 "town" 3 6 false (52, .aload 0, 53, []) := (r_aload_n dX8_town_52 rfl).row
theorem o106_53 : OkE cX8_town RX8 "town" 3 6 false (53, .invokeinterface 8 3, 56, []) := (r_get (C := RX8) (T := TX8) (N := 11) (ci := 8) (j := 3) (ref := RX8) dX8_town_53 rfl inX8 (by decide) wd_391 rfl).row
theorem o106_56 : OkE cX8_town RX8 "town" 3 6 false (56, .invokevirtual 67, 59, []) := ⟨rfl, c_V dX8_town_56 wd_527 wd_528 wd_529 wd_68 wd_530 nmh_4⟩
theorem o106_59 : OkE cX8_town RX8 "town" 3 6 false (59, .pop, 60, []) := (r_pop dX8_town_59).row
theorem o106_60 : OkE cX8_town RX8 "town" 3 6 false (60, .aload 0, 61, []) := (r_aload_n dX8_town_60 rfl).row
theorem o106_61 : OkE cX8_town RX8 "town" 3 6 false (61, .invokeinterface 8 5, 64, []) := (r_get (C := RX8) (T := TX8) (N := 11) (ci := 8) (j := 5) (ref := RX8) dX8_town_61 rfl inX8 (by decide) wd_393 rfl).row
theorem o106_64 : OkE cX8_town RX8 "town" 3 6 false (64, .invokevirtual 18, 67, []) := ⟨rfl, c_V dX8_town_64 wd_531 wd_190 wd_191 wd_70 wd_192 nmh_1⟩
theorem o106_67 : OkE cX8_town RX8 "town" 3 6 false (67, .iconst 0, 68, []) := (r_iconst dX8_town_67 rfl).row
theorem o106_68 : OkE cX8_town RX8 "town" 3 6 false (68, .istore 2, 69, []) := (r_istore_n dX8_town_68 rfl).row
theorem o106_69 : OkE cX8_town RX8 "town" 3 6 false (69, .iload 2, 70, [1]) := (r_iload_n dX8_town_69 rfl).row
theorem o106_70 : OkE cX8_town RX8 "town" 3 6 false (70, .iconst 2, 71, []) := (r_iconst dX8_town_70 rfl).row
theorem o106_71 : OkE cX8_town RX8 "town" 3 6 false (71, .if_icmp .ge 87, 74, []) := (r_icmp_ge dX8_town_71 rfl).row
theorem o106_74 : OkE cX8_town RX8 "town" 3 6 false (74, .aload 0, 75, []) := (r_aload_n dX8_town_74 rfl).row
theorem o106_75 : OkE cX8_town RX8 "town" 3 6 false (75, .invokeinterface 8 8, 78, []) := (r_get (C := RX8) (T := TX8) (N := 11) (ci := 8) (j := 8) (ref := RX8) dX8_town_75 rfl inX8 (by decide) wd_396 rfl).row
theorem o106_78 : OkE cX8_town RX8 "town" 3 6 false (78, .iload 2, 79, []) := (r_iload_n dX8_town_78 rfl).row
theorem o106_79 : OkE cX8_town RX8 "town" 3 6 false (79, .iconst 0, 80, []) := (r_iconst dX8_town_79 rfl).row
theorem o106_80 : OkE cX8_town RX8 "town" 3 6 false (80, .bastore, 81, []) := r_zast dX8_town_80
theorem o106_81 : OkE cX8_town RX8 "town" 3 6 false (81, .iinc 2 1, 84, []) := (r_iinc dX8_town_81 rfl).row
theorem o106_84 : OkE cX8_town RX8 "town" 3 6 false (84, .goto 69, 87, []) := (r_goto dX8_town_84 rfl).row
theorem o106_87 : OkE cX8_town RX8 "town" 3 6 false (87, .aload 0, 88, []) := (r_aload_n dX8_town_87 rfl).row
theorem o106_88 : OkE cX8_town RX8 "town" 3 6 false (88, .invokeinterface 8 1, 91, []) := (r_get (C := RX8) (T := TX8) (N := 11) (ci := 8) (j := 1) (ref := RX8) dX8_town_88 rfl inX8 (by decide) wd_389 rfl).row
theorem o106_91 : OkE cX8_town RX8 "town" 3 6 false (91, .invokevirtual 31, 94, []) := ⟨rfl, c_V dX8_town_91 wd_532 wd_533 wd_534 wd_66 wd_535 nmh_2⟩
theorem o106_94 : OkE cX8_town RX8 "town" 3 6 false (94, .ireturn, 95, []) := dX8_town_94
theorem ok106 : ∀ x ∈ k106, OkE cX8_town RX8 "town" 3 6 false x := List.forall_mem_cons.mpr ⟨o106_0, List.forall_mem_cons.mpr ⟨o106_1, List.forall_mem_cons.mpr ⟨o106_4, List.forall_mem_cons.mpr ⟨o106_5, List.forall_mem_cons.mpr ⟨o106_8, List.forall_mem_cons.mpr ⟨o106_9, List.forall_mem_cons.mpr ⟨o106_12, List.forall_mem_cons.mpr ⟨o106_15, List.forall_mem_cons.mpr ⟨o106_17, List.forall_mem_cons.mpr ⟨o106_20, List.forall_mem_cons.mpr ⟨o106_22, List.forall_mem_cons.mpr ⟨o106_23, List.forall_mem_cons.mpr ⟨o106_24, List.forall_mem_cons.mpr ⟨o106_27, List.forall_mem_cons.mpr ⟨o106_28, List.forall_mem_cons.mpr ⟨o106_29, List.forall_mem_cons.mpr ⟨o106_30, List.forall_mem_cons.mpr ⟨o106_33, List.forall_mem_cons.mpr ⟨o106_36, List.forall_mem_cons.mpr ⟨o106_37, List.forall_mem_cons.mpr ⟨o106_38, List.forall_mem_cons.mpr ⟨o106_41, List.forall_mem_cons.mpr ⟨o106_42, List.forall_mem_cons.mpr ⟨o106_45, List.forall_mem_cons.mpr ⟨o106_46, List.forall_mem_cons.mpr ⟨o106_49, List.forall_mem_cons.mpr ⟨o106_52, List.forall_mem_cons.mpr ⟨o106_53, List.forall_mem_cons.mpr ⟨o106_56, List.forall_mem_cons.mpr ⟨o106_59, List.forall_mem_cons.mpr ⟨o106_60, List.forall_mem_cons.mpr ⟨o106_61, List.forall_mem_cons.mpr ⟨o106_64, List.forall_mem_cons.mpr ⟨o106_67, List.forall_mem_cons.mpr ⟨o106_68, List.forall_mem_cons.mpr ⟨o106_69, List.forall_mem_cons.mpr ⟨o106_70, List.forall_mem_cons.mpr ⟨o106_71, List.forall_mem_cons.mpr ⟨o106_74, List.forall_mem_cons.mpr ⟨o106_75, List.forall_mem_cons.mpr ⟨o106_78, List.forall_mem_cons.mpr ⟨o106_79, List.forall_mem_cons.mpr ⟨o106_80, List.forall_mem_cons.mpr ⟨o106_81, List.forall_mem_cons.mpr ⟨o106_84, List.forall_mem_cons.mpr ⟨o106_87, List.forall_mem_cons.mpr ⟨o106_88, List.forall_mem_cons.mpr ⟨o106_91, List.forall_mem_cons.mpr ⟨o106_94, fun _ h => absurd h List.not_mem_nil⟩⟩⟩⟩⟩⟩⟩⟩⟩⟩⟩⟩⟩⟩⟩⟩⟩⟩⟩⟩⟩⟩⟩⟩⟩⟩⟩⟩⟩⟩⟩⟩⟩⟩⟩⟩⟩⟩⟩⟩⟩⟩⟩⟩⟩⟩⟩⟩⟩
theorem o107_0 : OkE cX8_wants RX8 "wants" 4 1 false (0, .aload 0, 1, []) := (r_aload_n dX8_wants_0 rfl).row
theorem o107_1 : OkE cX8_wants RX8 "wants" 4 1 false (1, .invokeinterface 8 9, 4, []) := (r_get (C := RX8) (T := TX8) (N := 11) (ci := 8) (j := 9) (ref := RX8) dX8_wants_1 rfl inX8 (by decide) wd_397 rfl).row
theorem o107_4 : OkE cX8_wants RX8 "wants" 4 1 false (4, .iload 1, 5, []) := (r_iload_n dX8_wants_4 rfl).row
theorem o107_5 : OkE cX8_wants RX8 "wants" 4 1 false (5, .invokevirtual 82, 8, []) := ⟨rfl, c_V dX8_wants_5 wd_540 wd_516 wd_517 wd_73 wd_518 nmh_6⟩
theorem o107_8 : OkE cX8_wants RX8 "wants" 4 1 false (8, .ifCond .eq 18, 11, []) := (r_if_eq dX8_wants_8 rfl).row
theorem o107_11 : OkE cX8_wants RX8 "wants" 4 1 false (11, .iload 2, 12, []) := (r_iload_n dX8_wants_11 rfl).row
theorem o107_12 : OkE cX8_wants RX8 "wants" 4 1 false (12, .invokestatic 140, 15, []) := ⟨rfl, c_S dX8_wants_12 wd_541 wd_356 wd_64 wd_357 nmh_8⟩
theorem o107_15 : OkE cX8_wants RX8 "wants" 4 1 false (15, .ifCond .ne 20, 18, []) := (r_if_ne dX8_wants_15 rfl).row
theorem o107_18 : OkE cX8_wants RX8 "wants" 4 1 false (18, .iconst (-1), 19, [0, 1, 2, 3]) := (r_iconst dX8_wants_18 rfl).row
theorem o107_19 : OkE cX8_wants RX8 "wants" 4 1 false (19, .ireturn, 20, []) := dX8_wants_19
theorem o107_20 : OkE cX8_wants RX8 "wants" 4 1 false (20, .iload 3, 21, []) := (r_iload_n dX8_wants_20 rfl).row
theorem o107_21 : OkE cX8_wants RX8 "wants" 4 1 false (21, .ifCond .lt 29, 24, []) := (r_if_lt dX8_wants_21 rfl).row
theorem o107_24 : OkE cX8_wants RX8 "wants" 4 1 false (24, .iload 3, 25, []) := (r_iload_n dX8_wants_24 rfl).row
theorem o107_25 : OkE cX8_wants RX8 "wants" 4 1 false (25, .iconst 1, 26, []) := (r_iconst dX8_wants_25 rfl).row
theorem o107_26 : OkE cX8_wants RX8 "wants" 4 1 false (26, .if_icmp .le 32, 29, []) := (r_icmp_le dX8_wants_26 rfl).row
theorem o107_29 : OkE cX8_wants RX8 "wants" 4 1 false (29, .iconst (-2), 31, [0, 1, 2, 3]) := (r_bipush dX8_wants_29 rfl).row
theorem o107_31 : OkE cX8_wants RX8 "wants" 4 1 false (31, .ireturn, 32, []) := dX8_wants_31
theorem o107_32 : OkE cX8_wants RX8 "wants" 4 1 false (32, .iload 3, 33, []) := (r_iload_n dX8_wants_32 rfl).row
theorem o107_33 : OkE cX8_wants RX8 "wants" 4 1 false (33, .ifCond .ne 48, 36, []) := (r_if_ne dX8_wants_33 rfl).row
theorem o107_36 : OkE cX8_wants RX8 "wants" 4 1 false (36, .aload 0, 37, []) := (r_aload_n dX8_wants_36 rfl).row
theorem o107_37 : OkE cX8_wants RX8 "wants" 4 1 false (37, .invokeinterface 8 9, 40, []) := (r_get (C := RX8) (T := TX8) (N := 11) (ci := 8) (j := 9) (ref := RX8) dX8_wants_37 rfl inX8 (by decide) wd_397 rfl).row
theorem o107_40 : OkE cX8_wants RX8 "wants" 4 1 false (40, .iload 1, 41, []) := (r_iload_n dX8_wants_40 rfl).row
theorem o107_41 : OkE cX8_wants RX8 "wants" 4 1 false (41, .iload 2, 42, []) := (r_iload_n dX8_wants_41 rfl).row
theorem o107_42 : OkE cX8_wants RX8 "wants" 4 1 false (42, .invokevirtual 84, 45, []) := ⟨rfl, c_V dX8_wants_42 wd_542 wd_359 wd_360 wd_73 wd_361 nmh_6⟩
theorem o107_45 : OkE cX8_wants RX8 "wants" 4 1 false (45, .goto 57, 48, []) := (r_goto dX8_wants_45 rfl).row
theorem o107_48 : OkE cX8_wants RX8 "wants" 4 1 false (48, .aload 0, 49, []) := (r_aload_n dX8_wants_48 rfl).row
theorem o107_49 : OkE cX8_wants RX8 "wants" 4 1 false (49, .invokeinterface 8 9, 52, []) := (r_get (C := RX8) (T := TX8) (N := 11) (ci := 8) (j := 9) (ref := RX8) dX8_wants_49 rfl inX8 (by decide) wd_397 rfl).row
theorem o107_52 : OkE cX8_wants RX8 "wants" 4 1 false (52, .iload 1, 53, []) := (r_iload_n dX8_wants_52 rfl).row
theorem o107_53 : OkE cX8_wants RX8 "wants" 4 1 false (53, .iload 2, 54, []) := (r_iload_n dX8_wants_53 rfl).row
theorem o107_54 : OkE cX8_wants RX8 "wants" 4 1 false (54, .invokevirtual 85, 57, []) := ⟨rfl, c_V dX8_wants_54 wd_543 wd_363 wd_364 wd_73 wd_365 nmh_6⟩
theorem o107_57 : OkE cX8_wants RX8 "wants" 4 1 false (57, .ireturn, 58, [0, 1, 2, 3]) := dX8_wants_57
theorem ok107 : ∀ x ∈ k107, OkE cX8_wants RX8 "wants" 4 1 false x := List.forall_mem_cons.mpr ⟨o107_0, List.forall_mem_cons.mpr ⟨o107_1, List.forall_mem_cons.mpr ⟨o107_4, List.forall_mem_cons.mpr ⟨o107_5, List.forall_mem_cons.mpr ⟨o107_8, List.forall_mem_cons.mpr ⟨o107_11, List.forall_mem_cons.mpr ⟨o107_12, List.forall_mem_cons.mpr ⟨o107_15, List.forall_mem_cons.mpr ⟨o107_18, List.forall_mem_cons.mpr ⟨o107_19, List.forall_mem_cons.mpr ⟨o107_20, List.forall_mem_cons.mpr ⟨o107_21, List.forall_mem_cons.mpr ⟨o107_24, List.forall_mem_cons.mpr ⟨o107_25, List.forall_mem_cons.mpr ⟨o107_26, List.forall_mem_cons.mpr ⟨o107_29, List.forall_mem_cons.mpr ⟨o107_31, List.forall_mem_cons.mpr ⟨o107_32, List.forall_mem_cons.mpr ⟨o107_33, List.forall_mem_cons.mpr ⟨o107_36, List.forall_mem_cons.mpr ⟨o107_37, List.forall_mem_cons.mpr ⟨o107_40, List.forall_mem_cons.mpr ⟨o107_41, List.forall_mem_cons.mpr ⟨o107_42, List.forall_mem_cons.mpr ⟨o107_45, List.forall_mem_cons.mpr ⟨o107_48, List.forall_mem_cons.mpr ⟨o107_49, List.forall_mem_cons.mpr ⟨o107_52, List.forall_mem_cons.mpr ⟨o107_53, List.forall_mem_cons.mpr ⟨o107_54, List.forall_mem_cons.mpr ⟨o107_57, fun _ h => absurd h List.not_mem_nil⟩⟩⟩⟩⟩⟩⟩⟩⟩⟩⟩⟩⟩⟩⟩⟩⟩⟩⟩⟩⟩⟩⟩⟩⟩⟩⟩⟩⟩⟩⟩
theorem o108_0 : OkE cX8_about RX8 "about" 2 2 false (0, .iload 1, 1, []) := (r_iload_n dX8_about_0 rfl).row
theorem o108_1 : OkE cX8_about RX8 "about" 2 2 false (1, .ifCond .lt 10, 4, []) := (r_if_lt dX8_about_1 rfl).row
theorem o108_4 : OkE cX8_about RX8 "about" 2 2 false (4, .iload 1, 5, []) := (r_iload_n dX8_about_4 rfl).row
theorem o108_5 : OkE cX8_about RX8 "about" 2 2 false (5, .iconst 9, 7, []) := (r_bipush dX8_about_5 rfl).row
theorem o108_7 : OkE cX8_about RX8 "about" 2 2 false (7, .if_icmp .le 13, 10, []) := (r_icmp_le dX8_about_7 rfl).row
theorem o108_10 : OkE cX8_about RX8 "about" 2 2 false (10, .iconst (-2), 12, [0, 1]) := (r_bipush dX8_about_10 rfl).row
theorem o108_12 : OkE cX8_about RX8 "about" 2 2 false (12, .ireturn, 13, []) := dX8_about_12
theorem o108_13 : OkE cX8_about RX8 "about" 2 2 false (13, .iload 1, 14, []) := (r_iload_n dX8_about_13 rfl).row
theorem o108_14 : OkE cX8_about RX8 "about" 2 2 false (14, .ifCond .ne 25, 17, []) := (r_if_ne dX8_about_14 rfl).row
theorem o108_17 : OkE cX8_about RX8 "about" 2 2 false (17, .aload 0, 18, []) := (r_aload_n dX8_about_17 rfl).row
theorem o108_18 : OkE cX8_about RX8 "about" 2 2 false (18, .invokeinterface 8 9, 21, []) := (r_get (C := RX8) (T := TX8) (N := 11) (ci := 8) (j := 9) (ref := RX8) dX8_about_18 rfl inX8 (by decide) wd_397 rfl).row
theorem o108_21 : OkE cX8_about RX8 "about" 2 2 false (21, .invokeinterface 6 4, 24, []) := (r_getN (C := RX6) (T := TX6) (N := 8) (ci := 6) (j := 4) (ref := RX6) dX8_about_21 rfl inX6 (by decide) wd_309 rfl).row
theorem o108_24 : OkE cX8_about RX8 "about" 2 2 false (24, .ireturn, 25, []) := dX8_about_24
theorem o108_25 : OkE cX8_about RX8 "about" 2 2 false (25, .iload 1, 26, []) := (r_iload_n dX8_about_25 rfl).row
theorem o108_26 : OkE cX8_about RX8 "about" 2 2 false (26, .iconst 3, 27, []) := (r_iconst dX8_about_26 rfl).row
theorem o108_27 : OkE cX8_about RX8 "about" 2 2 false (27, .if_icmp .gt 41, 30, []) := (r_icmp_gt dX8_about_27 rfl).row
theorem o108_30 : OkE cX8_about RX8 "about" 2 2 false (30, .aload 0, 31, []) := (r_aload_n dX8_about_30 rfl).row
theorem o108_31 : OkE cX8_about RX8 "about" 2 2 false (31, .invokeinterface 8 9, 34, []) := (r_get (C := RX8) (T := TX8) (N := 11) (ci := 8) (j := 9) (ref := RX8) dX8_about_31 rfl inX8 (by decide) wd_397 rfl).row
theorem o108_34 : OkE cX8_about RX8 "about" 2 2 false (34, .iload 1, 35, []) := (r_iload_n dX8_about_34 rfl).row
theorem o108_35 : OkE cX8_about RX8 "about" 2 2 false (35, .iconst 1, 36, []) := (r_iconst dX8_about_35 rfl).row
theorem o108_36 : OkE cX8_about RX8 "about" 2 2 false (36, .isub, 37, []) := (r_isub dX8_about_36).row
theorem o108_37 : OkE cX8_about RX8 "about" 2 2 false (37, .invokevirtual 83, 40, []) := ⟨rfl, c_V dX8_about_37 wd_548 wd_352 wd_353 wd_73 wd_354 nmh_6⟩
theorem o108_40 : OkE cX8_about RX8 "about" 2 2 false (40, .ireturn, 41, []) := dX8_about_40
theorem o108_41 : OkE cX8_about RX8 "about" 2 2 false (41, .iload 1, 42, []) := (r_iload_n dX8_about_41 rfl).row
theorem o108_42 : OkE cX8_about RX8 "about" 2 2 false (42, .iconst 6, 44, []) := (r_bipush dX8_about_42 rfl).row
theorem o108_44 : OkE cX8_about RX8 "about" 2 2 false (44, .if_icmp .gt 85, 47, []) := (r_icmp_gt dX8_about_44 rfl).row
theorem o108_47 : OkE cX8_about RX8 "about" 2 2 false (47, .iload 1, 48, []) := (r_iload_n dX8_about_47 rfl).row
theorem o108_48 : OkE cX8_about RX8 "about" 2 2 false (48, .iconst 4, 49, []) := (r_iconst dX8_about_48 rfl).row
theorem o108_49 : OkE cX8_about RX8 "about" 2 2 false (49, .if_icmp .ne 62, 52, []) := (r_icmp_ne dX8_about_49 rfl).row
theorem o108_52 : OkE cX8_about RX8 "about" 2 2 false (52, .aload 0, 53, []) := (r_aload_n dX8_about_52 rfl).row
theorem o108_53 : OkE cX8_about RX8 "about" 2 2 false (53, .invokeinterface 8 9, 56, []) := (r_get (C := RX8) (T := TX8) (N := 11) (ci := 8) (j := 9) (ref := RX8) dX8_about_53 rfl inX8 (by decide) wd_397 rfl).row
theorem o108_56 : OkE cX8_about RX8 "about" 2 2 false (56, .invokeinterface 6 5, 59, []) := (r_getN (C := RX6) (T := TX6) (N := 8) (ci := 6) (j := 5) (ref := RX6) dX8_about_56 rfl inX6 (by decide) wd_312 rfl).row
theorem o108_59 : OkE cX8_about RX8 "about" 2 2 false (59, .goto 84, 62, []) := (r_goto dX8_about_59 rfl).row
theorem o108_62 : OkE cX8_about RX8 "about" 2 2 false (62, .iload 1, 63, []) := (r_iload_n dX8_about_62 rfl).row
theorem o108_63 : OkE cX8_about RX8 "about" 2 2 false (63, .iconst 5, 64, []) := (r_iconst dX8_about_63 rfl).row
theorem o108_64 : OkE cX8_about RX8 "about" 2 2 false (64, .if_icmp .ne 77, 67, []) := (r_icmp_ne dX8_about_64 rfl).row
theorem o108_67 : OkE cX8_about RX8 "about" 2 2 false (67, .aload 0, 68, []) := (r_aload_n dX8_about_67 rfl).row
theorem o108_68 : OkE cX8_about RX8 "about" 2 2 false (68, .invokeinterface 8 9, 71, []) := (r_get (C := RX8) (T := TX8) (N := 11) (ci := 8) (j := 9) (ref := RX8) dX8_about_68 rfl inX8 (by decide) wd_397 rfl).row
theorem o108_71 : OkE cX8_about RX8 "about" 2 2 false (71, .invokeinterface 6 6, 74, []) := (r_getN (C := RX6) (T := TX6) (N := 8) (ci := 6) (j := 6) (ref := RX6) dX8_about_71 rfl inX6 (by decide) wd_317 rfl).row
theorem o108_74 : OkE cX8_about RX8 "about" 2 2 false (74, .goto 84, 77, []) := (r_goto dX8_about_74 rfl).row
theorem o108_77 : OkE cX8_about RX8 "about" 2 2 false (77, .aload 0, 78, []) := (r_aload_n dX8_about_77 rfl).row
theorem o108_78 : OkE cX8_about RX8 "about" 2 2 false (78, .invokeinterface 8 9, 81, []) := (r_get (C := RX8) (T := TX8) (N := 11) (ci := 8) (j := 9) (ref := RX8) dX8_about_78 rfl inX8 (by decide) wd_397 rfl).row
theorem o108_81 : OkE cX8_about RX8 "about" 2 2 false (81, .invokeinterface 6 7, 84, []) := (r_getN (C := RX6) (T := TX6) (N := 8) (ci := 6) (j := 7) (ref := RX6) dX8_about_81 rfl inX6 (by decide) wd_322 rfl).row
theorem o108_84 : OkE cX8_about RX8 "about" 2 2 false (84, .ireturn, 85, [0, 1]) := dX8_about_84
theorem o108_85 : OkE cX8_about RX8 "about" 2 2 false (85, .aload 0, 86, []) := (r_aload_n dX8_about_85 rfl).row
theorem o108_86 : OkE cX8_about RX8 "about" 2 2 false (86, .invokeinterface 8 9, 89, []) := (r_get (C := RX8) (T := TX8) (N := 11) (ci := 8) (j := 9) (ref := RX8) dX8_about_86 rfl inX8 (by decide) wd_397 rfl).row
theorem o108_89 : OkE cX8_about RX8 "about" 2 2 false (89, .iload 1, 90, []) := (r_iload_n dX8_about_89 rfl).row
theorem o108_90 : OkE cX8_about RX8 "about" 2 2 false (90, .iconst 7, 92, []) := (r_bipush dX8_about_90 rfl).row
theorem o108_92 : OkE cX8_about RX8 "about" 2 2 false (92, .isub, 93, []) := (r_isub dX8_about_92).row
theorem o108_93 : OkE cX8_about RX8 "about" 2 2 false (93, .invokevirtual 82, 96, []) := ⟨rfl, c_V dX8_about_93 wd_540 wd_516 wd_517 wd_73 wd_518 nmh_6⟩
theorem o108_96 : OkE cX8_about RX8 "about" 2 2 false (96, .ifCond .eq 113, 99, []) := (r_if_eq dX8_about_96 rfl).row
theorem o108_99 : OkE cX8_about RX8 "about" 2 2 false (99, .aload 0, 100, []) := (r_aload_n dX8_about_99 rfl).row
theorem o108_100 : OkE cX8_about RX8 "about" 2 2 false (100, .invokeinterface 8 9, 103, []) := (r_get (C := RX8) (T := TX8) (N := 11) (ci := 8) (j := 9) (ref := RX8) dX8_about_100 rfl inX8 (by decide) wd_397 rfl).row
theorem o108_103 : OkE cX8_about RX8 "about" 2 2 false (103, .iload 1, 104, []) := (r_iload_n dX8_about_103 rfl).row
theorem o108_104 : OkE cX8_about RX8 "about" 2 2 false (104, .iconst 7, 106, []) := (r_bipush dX8_about_104 rfl).row
theorem o108_106 : OkE cX8_about RX8 "about" 2 2 false (106, .isub, 107, []) := (r_isub dX8_about_106).row
theorem o108_107 : OkE cX8_about RX8 "about" 2 2 false (107, .invokevirtual 86, 110, []) := ⟨rfl, c_V dX8_about_107 wd_549 wd_550 wd_551 wd_73 wd_552 nmh_6⟩
theorem o108_110 : OkE cX8_about RX8 "about" 2 2 false (110, .goto 114, 113, []) := (r_goto dX8_about_110 rfl).row
theorem o108_113 : OkE cX8_about RX8 "about" 2 2 false (113, .iconst (-1), 114, []) := (r_iconst dX8_about_113 rfl).row
theorem o108_114 : OkE cX8_about RX8 "about" 2 2 false (114, .ireturn, 115, [0, 1]) := dX8_about_114
theorem ok108 : ∀ x ∈ k108, OkE cX8_about RX8 "about" 2 2 false x := List.forall_mem_cons.mpr ⟨o108_0, List.forall_mem_cons.mpr ⟨o108_1, List.forall_mem_cons.mpr ⟨o108_4, List.forall_mem_cons.mpr ⟨o108_5, List.forall_mem_cons.mpr ⟨o108_7, List.forall_mem_cons.mpr ⟨o108_10, List.forall_mem_cons.mpr ⟨o108_12, List.forall_mem_cons.mpr ⟨o108_13, List.forall_mem_cons.mpr ⟨o108_14, List.forall_mem_cons.mpr ⟨o108_17, List.forall_mem_cons.mpr ⟨o108_18, List.forall_mem_cons.mpr ⟨o108_21, List.forall_mem_cons.mpr ⟨o108_24, List.forall_mem_cons.mpr ⟨o108_25, List.forall_mem_cons.mpr ⟨o108_26, List.forall_mem_cons.mpr ⟨o108_27, List.forall_mem_cons.mpr ⟨o108_30, List.forall_mem_cons.mpr ⟨o108_31, List.forall_mem_cons.mpr ⟨o108_34, List.forall_mem_cons.mpr ⟨o108_35, List.forall_mem_cons.mpr ⟨o108_36, List.forall_mem_cons.mpr ⟨o108_37, List.forall_mem_cons.mpr ⟨o108_40, List.forall_mem_cons.mpr ⟨o108_41, List.forall_mem_cons.mpr ⟨o108_42, List.forall_mem_cons.mpr ⟨o108_44, List.forall_mem_cons.mpr ⟨o108_47, List.forall_mem_cons.mpr ⟨o108_48, List.forall_mem_cons.mpr ⟨o108_49, List.forall_mem_cons.mpr ⟨o108_52, List.forall_mem_cons.mpr ⟨o108_53, List.forall_mem_cons.mpr ⟨o108_56, List.forall_mem_cons.mpr ⟨o108_59, List.forall_mem_cons.mpr ⟨o108_62, List.forall_mem_cons.mpr ⟨o108_63, List.forall_mem_cons.mpr ⟨o108_64, List.forall_mem_cons.mpr ⟨o108_67, List.forall_mem_cons.mpr ⟨o108_68, List.forall_mem_cons.mpr ⟨o108_71, List.forall_mem_cons.mpr ⟨o108_74, List.forall_mem_cons.mpr ⟨o108_77, List.forall_mem_cons.mpr ⟨o108_78, List.forall_mem_cons.mpr ⟨o108_81, List.forall_mem_cons.mpr ⟨o108_84, List.forall_mem_cons.mpr ⟨o108_85, List.forall_mem_cons.mpr ⟨o108_86, List.forall_mem_cons.mpr ⟨o108_89, List.forall_mem_cons.mpr ⟨o108_90, List.forall_mem_cons.mpr ⟨o108_92, List.forall_mem_cons.mpr ⟨o108_93, List.forall_mem_cons.mpr ⟨o108_96, List.forall_mem_cons.mpr ⟨o108_99, List.forall_mem_cons.mpr ⟨o108_100, List.forall_mem_cons.mpr ⟨o108_103, List.forall_mem_cons.mpr ⟨o108_104, List.forall_mem_cons.mpr ⟨o108_106, List.forall_mem_cons.mpr ⟨o108_107, List.forall_mem_cons.mpr ⟨o108_110, List.forall_mem_cons.mpr ⟨o108_113, List.forall_mem_cons.mpr ⟨o108_114, fun _ h => absurd h List.not_mem_nil⟩⟩⟩⟩⟩⟩⟩⟩⟩⟩⟩⟩⟩⟩⟩⟩⟩⟩⟩⟩⟩⟩⟩⟩⟩⟩⟩⟩⟩⟩⟩⟩⟩⟩⟩⟩⟩⟩⟩⟩⟩⟩⟩⟩⟩⟩⟩⟩⟩⟩⟩⟩⟩⟩⟩⟩⟩⟩⟩⟩
theorem o109_0 : OkE cX8_sold RX8 "sold" 5 3 false (0, .aload 0, 1, []) := (r_aload_n dX8_sold_0 rfl).row
theorem o109_1 : OkE cX8_sold RX8 "sold" 5 3 false (1, .iload 1, 2, []) := (r_iload_n dX8_sold_1 rfl).row
theorem o109_2 : OkE cX8_sold RX8 "sold" 5 3 false (2, .iload 2, 3, []) := (r_iload_n dX8_sold_2 rfl).row
theorem o109_3 : OkE cX8_sold RX8 "sold" 5 3 false (3, .invokevirtual 145, 6, []) := ⟨rfl, c_V dX8_sold_3 wd_557 wd_559 wd_15 wd_64 wd_560 nmh_8⟩
theorem o109_6 : OkE cX8_sold RX8 "sold" 5 3 false (6, .istore 4, 8, []) := (r_istore dX8_sold_6).row
theorem o109_8 : OkE cX8_sold RX8 "sold" 5 3 false (8, .iload 4, 10, []) := (r_iload dX8_sold_8).row
theorem o109_10 : OkE cX8_sold RX8 "sold" 5 3 false (10, .ifCond .eq 19, 13, []) := (r_if_eq dX8_sold_10 rfl).row
theorem o109_13 : OkE cX8_sold RX8 "sold" 5 3 false (13, .iload 4, 15, []) := (r_iload dX8_sold_13).row
theorem o109_15 : OkE cX8_sold RX8 "sold" 5 3 false (15, .i2l, 16, []) := (r_i2l dX8_sold_15).row
theorem o109_16 : OkE cX8_sold RX8 "sold" 5 3 false (16, .goto 39, 19, []) := (r_goto dX8_sold_16 rfl).row
theorem o109_19 : OkE cX8_sold RX8 "sold" 5 3 false (19, .aload 0, 20, []) := (r_aload_n dX8_sold_19 rfl).row
theorem o109_20 : OkE cX8_sold RX8 "sold" 5 3 false (20, .invokeinterface 8 2, 23, []) := (r_get (C := RX8) (T := TX8) (N := 11) (ci := 8) (j := 2) (ref := RX8) dX8_sold_20 rfl inX8 (by decide) wd_390 rfl).row
theorem o109_23 : OkE cX8_sold RX8 "sold" 5 3 false (23, .iload 1, 24, []) := (r_iload_n dX8_sold_23 rfl).row
theorem o109_24 : OkE cX8_sold RX8 "sold" 5 3 false (24, .iload 2, 25, []) := (r_iload_n dX8_sold_24 rfl).row
theorem o109_25 : OkE cX8_sold RX8 "sold" 5 3 false (25, .invokevirtual 7, 28, []) := ⟨rfl, c_V dX8_sold_25 wd_562 wd_563 wd_564 wd_67 wd_565 nmh_0⟩
theorem o109_28 : OkE cX8_sold RX8 "sold" 5 3 false (28, .aload 0, 29, []) := (r_aload_n dX8_sold_28 rfl).row
theorem o109_29 : OkE cX8_sold RX8 "sold" 5 3 false (29, .invokeinterface 8 2, 32, []) := (r_get (C := RX8) (T := TX8) (N := 11) (ci := 8) (j := 2) (ref := RX8) dX8_sold_29 rfl inX8 (by decide) wd_390 rfl).row
theorem o109_32 : OkE cX8_sold RX8 "sold" 5 3 false (32, .invokevirtual 5, 35, []) := ⟨rfl, c_V dX8_sold_32 wd_566 wd_567 wd_568 wd_67 wd_569 nmh_0⟩
theorem o109_35 : OkE cX8_sold RX8 "sold" 5 3 false (35, .iload 3, 36, []) := (r_iload_n dX8_sold_35 rfl).row
theorem o109_36 : OkE cX8_sold RX8 "sold" 5 3 false (36, .invokestatic 149, 39, []) := ⟨rfl, c_S dX8_sold_36 wd_570 wd_571 wd_64 wd_572 nmh_8⟩
theorem o109_39 : OkE cX8_sold RX8 "sold" 5 3 false (39, .lreturn, 40, [0, 1, 2, 3, 4]) := dX8_sold_39
theorem ok109 : ∀ x ∈ k109, OkE cX8_sold RX8 "sold" 5 3 false x := List.forall_mem_cons.mpr ⟨o109_0, List.forall_mem_cons.mpr ⟨o109_1, List.forall_mem_cons.mpr ⟨o109_2, List.forall_mem_cons.mpr ⟨o109_3, List.forall_mem_cons.mpr ⟨o109_6, List.forall_mem_cons.mpr ⟨o109_8, List.forall_mem_cons.mpr ⟨o109_10, List.forall_mem_cons.mpr ⟨o109_13, List.forall_mem_cons.mpr ⟨o109_15, List.forall_mem_cons.mpr ⟨o109_16, List.forall_mem_cons.mpr ⟨o109_19, List.forall_mem_cons.mpr ⟨o109_20, List.forall_mem_cons.mpr ⟨o109_23, List.forall_mem_cons.mpr ⟨o109_24, List.forall_mem_cons.mpr ⟨o109_25, List.forall_mem_cons.mpr ⟨o109_28, List.forall_mem_cons.mpr ⟨o109_29, List.forall_mem_cons.mpr ⟨o109_32, List.forall_mem_cons.mpr ⟨o109_35, List.forall_mem_cons.mpr ⟨o109_36, List.forall_mem_cons.mpr ⟨o109_39, fun _ h => absurd h List.not_mem_nil⟩⟩⟩⟩⟩⟩⟩⟩⟩⟩⟩⟩⟩⟩⟩⟩⟩⟩⟩⟩⟩
theorem o110_0 : OkE cX8_out RX8 "out" 5 3 false (0, .aload 0, 1, []) := (r_aload_n dX8_out_0 rfl).row
theorem o110_1 : OkE cX8_out RX8 "out" 5 3 false (1, .iload 1, 2, []) := (r_iload_n dX8_out_1 rfl).row
theorem o110_2 : OkE cX8_out RX8 "out" 5 3 false (2, .iload 2, 3, []) := (r_iload_n dX8_out_2 rfl).row
theorem o110_3 : OkE cX8_out RX8 "out" 5 3 false (3, .invokevirtual 145, 6, []) := ⟨rfl, c_V dX8_out_3 wd_557 wd_559 wd_15 wd_64 wd_560 nmh_8⟩
theorem o110_6 : OkE cX8_out RX8 "out" 5 3 false (6, .istore 4, 8, []) := (r_istore dX8_out_6).row
theorem o110_8 : OkE cX8_out RX8 "out" 5 3 false (8, .iload 4, 10, []) := (r_iload dX8_out_8).row
theorem o110_10 : OkE cX8_out RX8 "out" 5 3 false (10, .ifCond .eq 19, 13, []) := (r_if_eq dX8_out_10 rfl).row
theorem o110_13 : OkE cX8_out RX8 "out" 5 3 false (13, .iload 4, 15, []) := (r_iload dX8_out_13).row
theorem o110_15 : OkE cX8_out RX8 "out" 5 3 false (15, .i2l, 16, []) := (r_i2l dX8_out_15).row
theorem o110_16 : OkE cX8_out RX8 "out" 5 3 false (16, .goto 39, 19, []) := (r_goto dX8_out_16 rfl).row
theorem o110_19 : OkE cX8_out RX8 "out" 5 3 false (19, .aload 0, 20, []) := (r_aload_n dX8_out_19 rfl).row
theorem o110_20 : OkE cX8_out RX8 "out" 5 3 false (20, .invokeinterface 8 2, 23, []) := (r_get (C := RX8) (T := TX8) (N := 11) (ci := 8) (j := 2) (ref := RX8) dX8_out_20 rfl inX8 (by decide) wd_390 rfl).row
theorem o110_23 : OkE cX8_out RX8 "out" 5 3 false (23, .iload 1, 24, []) := (r_iload_n dX8_out_23 rfl).row
theorem o110_24 : OkE cX8_out RX8 "out" 5 3 false (24, .iload 2, 25, []) := (r_iload_n dX8_out_24 rfl).row
theorem o110_25 : OkE cX8_out RX8 "out" 5 3 false (25, .invokevirtual 8, 28, []) := ⟨rfl, c_V dX8_out_25 wd_583 wd_584 wd_585 wd_67 wd_586 nmh_0⟩
theorem o110_28 : OkE cX8_out RX8 "out" 5 3 false (28, .aload 0, 29, []) := (r_aload_n dX8_out_28 rfl).row
theorem o110_29 : OkE cX8_out RX8 "out" 5 3 false (29, .invokeinterface 8 2, 32, []) := (r_get (C := RX8) (T := TX8) (N := 11) (ci := 8) (j := 2) (ref := RX8) dX8_out_29 rfl inX8 (by decide) wd_390 rfl).row
theorem o110_32 : OkE cX8_out RX8 "out" 5 3 false (32, .invokevirtual 5, 35, []) := ⟨rfl, c_V dX8_out_32 wd_566 wd_567 wd_568 wd_67 wd_569 nmh_0⟩
theorem o110_35 : OkE cX8_out RX8 "out" 5 3 false (35, .iload 3, 36, []) := (r_iload_n dX8_out_35 rfl).row
theorem o110_36 : OkE cX8_out RX8 "out" 5 3 false (36, .invokestatic 149, 39, []) := ⟨rfl, c_S dX8_out_36 wd_570 wd_571 wd_64 wd_572 nmh_8⟩
theorem o110_39 : OkE cX8_out RX8 "out" 5 3 false (39, .lreturn, 40, [0, 1, 2, 3, 4]) := dX8_out_39
theorem ok110 : ∀ x ∈ k110, OkE cX8_out RX8 "out" 5 3 false x := List.forall_mem_cons.mpr ⟨o110_0, List.forall_mem_cons.mpr ⟨o110_1, List.forall_mem_cons.mpr ⟨o110_2, List.forall_mem_cons.mpr ⟨o110_3, List.forall_mem_cons.mpr ⟨o110_6, List.forall_mem_cons.mpr ⟨o110_8, List.forall_mem_cons.mpr ⟨o110_10, List.forall_mem_cons.mpr ⟨o110_13, List.forall_mem_cons.mpr ⟨o110_15, List.forall_mem_cons.mpr ⟨o110_16, List.forall_mem_cons.mpr ⟨o110_19, List.forall_mem_cons.mpr ⟨o110_20, List.forall_mem_cons.mpr ⟨o110_23, List.forall_mem_cons.mpr ⟨o110_24, List.forall_mem_cons.mpr ⟨o110_25, List.forall_mem_cons.mpr ⟨o110_28, List.forall_mem_cons.mpr ⟨o110_29, List.forall_mem_cons.mpr ⟨o110_32, List.forall_mem_cons.mpr ⟨o110_35, List.forall_mem_cons.mpr ⟨o110_36, List.forall_mem_cons.mpr ⟨o110_39, fun _ h => absurd h List.not_mem_nil⟩⟩⟩⟩⟩⟩⟩⟩⟩⟩⟩⟩⟩⟩⟩⟩⟩⟩⟩⟩⟩
theorem o111_0 : OkE cX8_given RX8 "given" 4 6 false (0, .aload 0, 1, []) := (r_aload_n dX8_given_0 rfl).row
theorem o111_1 : OkE cX8_given RX8 "given" 4 6 false (1, .iload 2, 2, []) := (r_iload_n dX8_given_1 rfl).row
theorem o111_2 : OkE cX8_given RX8 "given" 4 6 false (2, .iload 1, 3, []) := (r_iload_n dX8_given_2 rfl).row
theorem o111_3 : OkE cX8_given RX8 "given" 4 6 false (3, .invokevirtual 145, 6, []) := ⟨rfl, c_V dX8_given_3 wd_557 wd_559 wd_15 wd_64 wd_560 nmh_8⟩
theorem o111_6 : OkE cX8_given RX8 "given" 4 6 false (6, .istore 3, 7, []) := (r_istore_n dX8_given_6 rfl).row
theorem o111_7 : OkE cX8_given RX8 "given" 4 6 false (7, .iload 3, 8, []) := (r_iload_n dX8_given_7 rfl).row
theorem o111_8 : OkE cX8_given RX8 "given" 4 6 false (8, .ifCond .eq 15, 11, []) := (r_if_eq dX8_given_8 rfl).row
theorem o111_11 : OkE cX8_given RX8 "given" 4 6 false (11, .iload 3, 12, []) := (r_iload_n dX8_given_11 rfl).row
theorem o111_12 : OkE cX8_given RX8 "given" 4 6 false (12, .goto 28, 15, []) := (r_goto dX8_given_12 rfl).row
theorem o111_15 : OkE cX8_given RX8 "given" 4 6 false (15, .aload 0, 16, []) := (r_aload_n dX8_given_15 rfl).row
theorem o111_16 : OkE cX8_given RX8 "given" 4 6 false (16, .invokeinterface 8 2, 19, []) := (r_get (C := RX8) (T := TX8) (N := 11) (ci := 8) (j := 2) (ref := RX8) dX8_given_16 rfl inX8 (by decide) wd_390 rfl).row
theorem o111_19 : OkE cX8_given RX8 "given" 4 6 false (19, .aload 0, 20, []) := (r_aload_n dX8_given_19 rfl).row
theorem o111_20 : OkE cX8_given RX8 "given" 4 6 false (20, .invokeinterface 8 9, 23, []) := (r_get (C := RX8) (T := TX8) (N := 11) (ci := 8) (j := 9) (ref := RX8) dX8_given_20 rfl inX8 (by decide) wd_397 rfl).row
theorem o111_23 : OkE cX8_given RX8 "given" 4 6 false (23, .iload 1, 24, []) := (r_iload_n dX8_given_23 rfl).row
theorem o111_24 : OkE cX8_given RX8 "given" 4 6 false (24, .iload 2, 25, []) := (r_iload_n dX8_given_24 rfl).row
theorem o111_25 : OkE cX8_given RX8 "given" 4 6 false (25, .invokevirtual 9, 28, []) := ⟨rfl, c_V dX8_given_25 wd_591 wd_592 wd_593 wd_67 wd_594 nmh_0⟩
theorem o111_28 : OkE cX8_given RX8 "given" 4 6 false (28, .ireturn, 29, [0, 1, 2, 3]) := dX8_given_28
theorem ok111 : ∀ x ∈ k111, OkE cX8_given RX8 "given" 4 6 false x := List.forall_mem_cons.mpr ⟨o111_0, List.forall_mem_cons.mpr ⟨o111_1, List.forall_mem_cons.mpr ⟨o111_2, List.forall_mem_cons.mpr ⟨o111_3, List.forall_mem_cons.mpr ⟨o111_6, List.forall_mem_cons.mpr ⟨o111_7, List.forall_mem_cons.mpr ⟨o111_8, List.forall_mem_cons.mpr ⟨o111_11, List.forall_mem_cons.mpr ⟨o111_12, List.forall_mem_cons.mpr ⟨o111_15, List.forall_mem_cons.mpr ⟨o111_16, List.forall_mem_cons.mpr ⟨o111_19, List.forall_mem_cons.mpr ⟨o111_20, List.forall_mem_cons.mpr ⟨o111_23, List.forall_mem_cons.mpr ⟨o111_24, List.forall_mem_cons.mpr ⟨o111_25, List.forall_mem_cons.mpr ⟨o111_28, fun _ h => absurd h List.not_mem_nil⟩⟩⟩⟩⟩⟩⟩⟩⟩⟩⟩⟩⟩⟩⟩⟩⟩
theorem o112_0 : OkE cX8_earned RX8 "earned" 5 6 false (0, .iload 1, 1, []) := (r_iload_n dX8_earned_0 rfl).row
theorem o112_1 : OkE cX8_earned RX8 "earned" 5 6 false (1, .invokestatic 143, 4, []) := ⟨rfl, c_S dX8_earned_1 wd_561 wd_382 wd_64 wd_383 nmh_8⟩
theorem o112_4 : OkE cX8_earned RX8 "earned" 5 6 false (4, .ifCond .ne 11, 7, []) := (r_if_ne dX8_earned_4 rfl).row
theorem o112_7 : OkE cX8_earned RX8 "earned" 5 6 false (7, .sipush (-2), 10, []) := (r_ldc2 wd_613 dX8_earned_7 rfl).row
theorem o112_10 : OkE cX8_earned RX8 "earned" 5 6 false (10, .lreturn, 11, []) := dX8_earned_10
theorem o112_11 : OkE cX8_earned RX8 "earned" 5 6 false (11, .aload 0, 12, []) := (r_aload_n dX8_earned_11 rfl).row
theorem o112_12 : OkE cX8_earned RX8 "earned" 5 6 false (12, .invokeinterface 8 2, 15, []) := (r_get (C := RX8) (T := TX8) (N := 11) (ci := 8) (j := 2) (ref := RX8) dX8_earned_12 rfl inX8 (by decide) wd_390 rfl).row
theorem o112_15 : OkE cX8_earned RX8 "earned" 5 6 false (15, .aload 0, 16, []) := (r_aload_n dX8_earned_15 rfl).row
theorem o112_16 : OkE cX8_earned RX8 "earned" 5 6 false (16, .invokeinterface 8 9, 19, []) := (r_get (C := RX8) (T := TX8) (N := 11) (ci := 8) (j := 9) (ref := RX8) dX8_earned_16 rfl inX8 (by decide) wd_397 rfl).row
theorem o112_19 : OkE cX8_earned RX8 "earned" 5 6 false (19, .iload 1, 20, []) := (r_iload_n dX8_earned_19 rfl).row
theorem o112_20 : OkE cX8_earned RX8 "earned" 5 6 false (20, .invokevirtual 10, 23, []) := ⟨rfl, c_V dX8_earned_20 wd_614 wd_615 wd_616 wd_67 wd_617 nmh_0⟩
theorem o112_23 : OkE cX8_earned RX8 "earned" 5 6 false (23, .aload 0, 24, []) := (r_aload_n dX8_earned_23 rfl).row
theorem o112_24 : OkE cX8_earned RX8 "earned" 5 6 false (24, .invokeinterface 8 2, 27, []) := (r_get (C := RX8) (T := TX8) (N := 11) (ci := 8) (j := 2) (ref := RX8) dX8_earned_24 rfl inX8 (by decide) wd_390 rfl).row
theorem o112_27 : OkE cX8_earned RX8 "earned" 5 6 false (27, .invokevirtual 5, 30, []) := ⟨rfl, c_V dX8_earned_27 wd_566 wd_567 wd_568 wd_67 wd_569 nmh_0⟩
theorem o112_30 : OkE cX8_earned RX8 "earned" 5 6 false (30, .iload 2, 31, []) := (r_iload_n dX8_earned_30 rfl).row
theorem o112_31 : OkE cX8_earned RX8 "earned" 5 6 false (31, .invokestatic 149, 34, []) := ⟨rfl, c_S dX8_earned_31 wd_570 wd_571 wd_64 wd_572 nmh_8⟩
theorem o112_34 : OkE cX8_earned RX8 "earned" 5 6 false (34, .lstore 3, 35, []) := (r_lstore_n dX8_earned_34 rfl).row
theorem o112_35 : OkE cX8_earned RX8 "earned" 5 6 false (35, .iload 2, 36, []) := (r_iload_n dX8_earned_35 rfl).row
theorem o112_36 : OkE cX8_earned RX8 "earned" 5 6 false (36, .ifCond .eq 47, 39, []) := (r_if_eq dX8_earned_36 rfl).row
theorem o112_39 : OkE cX8_earned RX8 "earned" 5 6 false (39, .lload 3, 40, []) := (r_lload_n dX8_earned_39 rfl).row
theorem o112_40 : OkE cX8_earned RX8 "earned" 5 6 false (40, .sipush 1000000, 43, []) := (r_ldc2 wd_623 dX8_earned_40 rfl).row
theorem o112_43 : OkE cX8_earned RX8 "earned" 5 6 false (43, .ladd, 44, []) := (r_ladd dX8_earned_43).row
theorem o112_44 : OkE cX8_earned RX8 "earned" 5 6 false (44, .goto 48, 47, []) := (r_goto dX8_earned_44 rfl).row
theorem o112_47 : OkE cX8_earned RX8 "earned" 5 6 false (47, .lload 3, 48, []) := (r_lload_n dX8_earned_47 rfl).row
theorem o112_48 : OkE cX8_earned RX8 "earned" 5 6 false (48, .lreturn, 49, [0, 1, 2, 3]) := dX8_earned_48
theorem ok112 : ∀ x ∈ k112, OkE cX8_earned RX8 "earned" 5 6 false x := List.forall_mem_cons.mpr ⟨o112_0, List.forall_mem_cons.mpr ⟨o112_1, List.forall_mem_cons.mpr ⟨o112_4, List.forall_mem_cons.mpr ⟨o112_7, List.forall_mem_cons.mpr ⟨o112_10, List.forall_mem_cons.mpr ⟨o112_11, List.forall_mem_cons.mpr ⟨o112_12, List.forall_mem_cons.mpr ⟨o112_15, List.forall_mem_cons.mpr ⟨o112_16, List.forall_mem_cons.mpr ⟨o112_19, List.forall_mem_cons.mpr ⟨o112_20, List.forall_mem_cons.mpr ⟨o112_23, List.forall_mem_cons.mpr ⟨o112_24, List.forall_mem_cons.mpr ⟨o112_27, List.forall_mem_cons.mpr ⟨o112_30, List.forall_mem_cons.mpr ⟨o112_31, List.forall_mem_cons.mpr ⟨o112_34, List.forall_mem_cons.mpr ⟨o112_35, List.forall_mem_cons.mpr ⟨o112_36, List.forall_mem_cons.mpr ⟨o112_39, List.forall_mem_cons.mpr ⟨o112_40, List.forall_mem_cons.mpr ⟨o112_43, List.forall_mem_cons.mpr ⟨o112_44, List.forall_mem_cons.mpr ⟨o112_47, List.forall_mem_cons.mpr ⟨o112_48, fun _ h => absurd h List.not_mem_nil⟩⟩⟩⟩⟩⟩⟩⟩⟩⟩⟩⟩⟩⟩⟩⟩⟩⟩⟩⟩⟩⟩⟩⟩⟩
theorem o113_0 : OkE cX8_print RX8 "print" 1 5 false (0, .aload 0, 1, []) := (r_aload_n dX8_print_0 rfl).row
theorem o113_1 : OkE cX8_print RX8 "print" 1 5 false (1, .invokeinterface 8 2, 4, []) := (r_get (C := RX8) (T := TX8) (N := 11) (ci := 8) (j := 2) (ref := RX8) dX8_print_1 rfl inX8 (by decide) wd_390 rfl).row
theorem o113_4 : OkE cX8_print RX8 "print" 1 5 false (4, .aload 0, 5, []) := (r_aload_n dX8_print_4 rfl).row
theorem o113_5 : OkE cX8_print RX8 "print" 1 5 false (5, .invokeinterface 8 9, 8, []) := (r_get (C := RX8) (T := TX8) (N := 11) (ci := 8) (j := 9) (ref := RX8) dX8_print_5 rfl inX8 (by decide) wd_397 rfl).row
theorem o113_8 : OkE cX8_print RX8 "print" 1 5 false (8, .invokevirtual 12, 11, []) := ⟨rfl, c_V dX8_print_8 wd_628 wd_629 wd_630 wd_67 wd_631 nmh_0⟩
theorem o113_11 : OkE cX8_print RX8 "print" 1 5 false (11, .ireturn, 12, []) := dX8_print_11
theorem ok113 : ∀ x ∈ k113, OkE cX8_print RX8 "print" 1 5 false x := List.forall_mem_cons.mpr ⟨o113_0, List.forall_mem_cons.mpr ⟨o113_1, List.forall_mem_cons.mpr ⟨o113_4, List.forall_mem_cons.mpr ⟨o113_5, List.forall_mem_cons.mpr ⟨o113_8, List.forall_mem_cons.mpr ⟨o113_11, fun _ h => absurd h List.not_mem_nil⟩⟩⟩⟩⟩⟩
theorem o114_0 : OkE cX8_loss RX8 "loss" 8 6 false (0, .aload 0, 1, []) := (r_aload_n dX8_loss_0 rfl).row
theorem o114_1 : OkE cX8_loss RX8 "loss" 8 6 false (1, .iload 2, 2, []) := (r_iload_n dX8_loss_1 rfl).row
theorem o114_2 : OkE cX8_loss RX8 "loss" 8 6 false (2, .iload 1, 3, []) := (r_iload_n dX8_loss_2 rfl).row
theorem o114_3 : OkE cX8_loss RX8 "loss" 8 6 false (3, .invokevirtual 145, 6, []) := ⟨rfl, c_V dX8_loss_3 wd_557 wd_559 wd_15 wd_64 wd_560 nmh_8⟩
theorem o114_6 : OkE cX8_loss RX8 "loss" 8 6 false (6, .istore 5, 8, []) := (r_istore dX8_loss_6).row
theorem o114_8 : OkE cX8_loss RX8 "loss" 8 6 false (8, .iload 5, 10, []) := (r_iload dX8_loss_8).row
theorem o114_10 : OkE cX8_loss RX8 "loss" 8 6 false (10, .ifCond .eq 17, 13, []) := (r_if_eq dX8_loss_10 rfl).row
theorem o114_13 : OkE cX8_loss RX8 "loss" 8 6 false (13, .iload 5, 15, []) := (r_iload dX8_loss_13).row
theorem o114_15 : OkE cX8_loss RX8 "loss" 8 6 false (15, .i2l, 16, []) := (r_i2l dX8_loss_15).row
theorem o114_16 : OkE cX8_loss RX8 "loss" 8 6 false (16, .lreturn, 17, []) := dX8_loss_16
theorem o114_17 : OkE cX8_loss RX8 "loss" 8 6 false (17, .iload 3, 18, []) := (r_iload_n dX8_loss_17 rfl).row
theorem o114_18 : OkE cX8_loss RX8 "loss" 8 6 false (18, .ifCond .lt 26, 21, []) := (r_if_lt dX8_loss_18 rfl).row
theorem o114_21 : OkE cX8_loss RX8 "loss" 8 6 false (21, .iload 3, 22, []) := (r_iload_n dX8_loss_21 rfl).row
theorem o114_22 : OkE cX8_loss RX8 "loss" 8 6 false (22, .iload 1, 23, []) := (r_iload_n dX8_loss_22 rfl).row
theorem o114_23 : OkE cX8_loss RX8 "loss" 8 6 false (23, .if_icmp .le 30, 26, []) := (r_icmp_le dX8_loss_23 rfl).row
theorem o114_26 : OkE cX8_loss RX8 "loss" 8 6 false (26, .sipush (-2), 29, [0, 1, 2, 3, 4, 5]) := (r_ldc2 wd_613 dX8_loss_26 rfl).row
theorem o114_29 : OkE cX8_loss RX8 "loss" 8 6 false (29, .lreturn, 30, []) := dX8_loss_29
theorem o114_30 : OkE cX8_loss RX8 "loss" 8 6 false (30, .aload 0, 31, []) := (r_aload_n dX8_loss_30 rfl).row
theorem o114_31 : OkE cX8_loss RX8 "loss" 8 6 false (31, .invokeinterface 8 2, 34, []) := (r_get (C := RX8) (T := TX8) (N := 11) (ci := 8) (j := 2) (ref := RX8) dX8_loss_31 rfl inX8 (by decide) wd_390 rfl).row
theorem o114_34 : OkE cX8_loss RX8 "loss" 8 6 false (34, .aload 0, 35, []) := (r_aload_n dX8_loss_34 rfl).row
theorem o114_35 : OkE cX8_loss RX8 "loss" 8 6 false (35, .invokeinterface 8 9, 38, []) := (r_get (C := RX8) (T := TX8) (N := 11) (ci := 8) (j := 9) (ref := RX8) dX8_loss_35 rfl inX8 (by decide) wd_397 rfl).row
theorem o114_38 : OkE cX8_loss RX8 "loss" 8 6 false (38, .iload 1, 39, []) := (r_iload_n dX8_loss_38 rfl).row
theorem o114_39 : OkE cX8_loss RX8 "loss" 8 6 false (39, .invokevirtual 10, 42, []) := ⟨rfl, c_V dX8_loss_39 wd_614 wd_615 wd_616 wd_67 wd_617 nmh_0⟩
theorem o114_42 : OkE cX8_loss RX8 "loss" 8 6 false (42, .aload 0, 43, []) := (r_aload_n dX8_loss_42 rfl).row
theorem o114_43 : OkE cX8_loss RX8 "loss" 8 6 false (43, .invokeinterface 8 2, 46, []) := (r_get (C := RX8) (T := TX8) (N := 11) (ci := 8) (j := 2) (ref := RX8) dX8_loss_43 rfl inX8 (by decide) wd_390 rfl).row
theorem o114_46 : OkE cX8_loss RX8 "loss" 8 6 false (46, .aload 0, 47, []) := (r_aload_n dX8_loss_46 rfl).row
theorem o114_47 : OkE cX8_loss RX8 "loss" 8 6 false (47, .invokeinterface 8 9, 50, []) := (r_get (C := RX8) (T := TX8) (N := 11) (ci := 8) (j := 9) (ref := RX8) dX8_loss_47 rfl inX8 (by decide) wd_397 rfl).row
theorem o114_50 : OkE cX8_loss RX8 "loss" 8 6 false (50, .iload 1, 51, []) := (r_iload_n dX8_loss_50 rfl).row
theorem o114_51 : OkE cX8_loss RX8 "loss" 8 6 false (51, .iload 2, 52, []) := (r_iload_n dX8_loss_51 rfl).row
theorem o114_52 : OkE cX8_loss RX8 "loss" 8 6 false (52, .iload 3, 53, []) := (r_iload_n dX8_loss_52 rfl).row
theorem o114_53 : OkE cX8_loss RX8 "loss" 8 6 false (53, .invokevirtual 11, 56, []) := ⟨rfl, c_V dX8_loss_53 wd_636 wd_637 wd_638 wd_67 wd_639 nmh_0⟩
theorem o114_56 : OkE cX8_loss RX8 "loss" 8 6 false (56, .lsub, 57, []) := (r_lsub dX8_loss_56).row
theorem o114_57 : OkE cX8_loss RX8 "loss" 8 6 false (57, .lstore 6, 59, []) := (r_lstore dX8_loss_57).row
theorem o114_59 : OkE cX8_loss RX8 "loss" 8 6 false (59, .lload 6, 61, []) := (r_lload dX8_loss_59).row
theorem o114_61 : OkE cX8_loss RX8 "loss" 8 6 false (61, .aload 0, 62, []) := (r_aload_n dX8_loss_61 rfl).row
theorem o114_62 : OkE cX8_loss RX8 "loss" 8 6 false (62, .invokeinterface 8 2, 65, []) := (r_get (C := RX8) (T := TX8) (N := 11) (ci := 8) (j := 2) (ref := RX8) dX8_loss_62 rfl inX8 (by decide) wd_390 rfl).row
theorem o114_65 : OkE cX8_loss RX8 "loss" 8 6 false (65, .invokevirtual 5, 68, []) := ⟨rfl, c_V dX8_loss_65 wd_566 wd_567 wd_568 wd_67 wd_569 nmh_0⟩
theorem o114_68 : OkE cX8_loss RX8 "loss" 8 6 false (68, .iload 4, 70, []) := (r_iload dX8_loss_68).row
theorem o114_70 : OkE cX8_loss RX8 "loss" 8 6 false (70, .invokestatic 149, 73, []) := ⟨rfl, c_S dX8_loss_70 wd_570 wd_571 wd_64 wd_572 nmh_8⟩
theorem o114_73 : OkE cX8_loss RX8 "loss" 8 6 false (73, .lreturn, 74, []) := dX8_loss_73
theorem ok114 : ∀ x ∈ k114, OkE cX8_loss RX8 "loss" 8 6 false x := List.forall_mem_cons.mpr ⟨o114_0, List.forall_mem_cons.mpr ⟨o114_1, List.forall_mem_cons.mpr ⟨o114_2, List.forall_mem_cons.mpr ⟨o114_3, List.forall_mem_cons.mpr ⟨o114_6, List.forall_mem_cons.mpr ⟨o114_8, List.forall_mem_cons.mpr ⟨o114_10, List.forall_mem_cons.mpr ⟨o114_13, List.forall_mem_cons.mpr ⟨o114_15, List.forall_mem_cons.mpr ⟨o114_16, List.forall_mem_cons.mpr ⟨o114_17, List.forall_mem_cons.mpr ⟨o114_18, List.forall_mem_cons.mpr ⟨o114_21, List.forall_mem_cons.mpr ⟨o114_22, List.forall_mem_cons.mpr ⟨o114_23, List.forall_mem_cons.mpr ⟨o114_26, List.forall_mem_cons.mpr ⟨o114_29, List.forall_mem_cons.mpr ⟨o114_30, List.forall_mem_cons.mpr ⟨o114_31, List.forall_mem_cons.mpr ⟨o114_34, List.forall_mem_cons.mpr ⟨o114_35, List.forall_mem_cons.mpr ⟨o114_38, List.forall_mem_cons.mpr ⟨o114_39, List.forall_mem_cons.mpr ⟨o114_42, List.forall_mem_cons.mpr ⟨o114_43, List.forall_mem_cons.mpr ⟨o114_46, List.forall_mem_cons.mpr ⟨o114_47, List.forall_mem_cons.mpr ⟨o114_50, List.forall_mem_cons.mpr ⟨o114_51, List.forall_mem_cons.mpr ⟨o114_52, List.forall_mem_cons.mpr ⟨o114_53, List.forall_mem_cons.mpr ⟨o114_56, List.forall_mem_cons.mpr ⟨o114_57, List.forall_mem_cons.mpr ⟨o114_59, List.forall_mem_cons.mpr ⟨o114_61, List.forall_mem_cons.mpr ⟨o114_62, List.forall_mem_cons.mpr ⟨o114_65, List.forall_mem_cons.mpr ⟨o114_68, List.forall_mem_cons.mpr ⟨o114_70, List.forall_mem_cons.mpr ⟨o114_73, fun _ h => absurd h List.not_mem_nil⟩⟩⟩⟩⟩⟩⟩⟩⟩⟩⟩⟩⟩⟩⟩⟩⟩⟩⟩⟩⟩⟩⟩⟩⟩⟩⟩⟩⟩⟩⟩⟩⟩⟩⟩⟩⟩⟩⟩⟩
theorem o115_0 : OkE cX8_see RX8 "see" 3 1 false (0, .aload 0, 1, []) := (r_aload_n dX8_see_0 rfl).row
theorem o115_1 : OkE cX8_see RX8 "see" 3 1 false (1, .invokeinterface 8 9, 4, []) := (r_get (C := RX8) (T := TX8) (N := 11) (ci := 8) (j := 9) (ref := RX8) dX8_see_1 rfl inX8 (by decide) wd_397 rfl).row
theorem o115_4 : OkE cX8_see RX8 "see" 3 1 false (4, .iload 1, 5, []) := (r_iload_n dX8_see_4 rfl).row
theorem o115_5 : OkE cX8_see RX8 "see" 3 1 false (5, .invokevirtual 82, 8, []) := ⟨rfl, c_V dX8_see_5 wd_540 wd_516 wd_517 wd_73 wd_518 nmh_6⟩
theorem o115_8 : OkE cX8_see RX8 "see" 3 1 false (8, .ifCond .ne 13, 11, []) := (r_if_ne dX8_see_8 rfl).row
theorem o115_11 : OkE cX8_see RX8 "see" 3 1 false (11, .iconst (-1), 12, []) := (r_iconst dX8_see_11 rfl).row
theorem o115_12 : OkE cX8_see RX8 "see" 3 1 false (12, .ireturn, 13, []) := dX8_see_12
theorem o115_13 : OkE cX8_see RX8 "see" 3 1 false (13, .iload 2, 14, []) := (r_iload_n dX8_see_13 rfl).row
theorem o115_14 : OkE cX8_see RX8 "see" 3 1 false (14, .ifCond .lt 23, 17, []) := (r_if_lt dX8_see_14 rfl).row
theorem o115_17 : OkE cX8_see RX8 "see" 3 1 false (17, .iload 2, 18, []) := (r_iload_n dX8_see_17 rfl).row
theorem o115_18 : OkE cX8_see RX8 "see" 3 1 false (18, .iconst 9, 20, []) := (r_bipush dX8_see_18 rfl).row
theorem o115_20 : OkE cX8_see RX8 "see" 3 1 false (20, .if_icmp .le 26, 23, []) := (r_icmp_le dX8_see_20 rfl).row
theorem o115_23 : OkE cX8_see RX8 "see" 3 1 false (23, .iconst (-2), 25, [0, 1, 2]) := (r_bipush dX8_see_23 rfl).row
theorem o115_25 : OkE cX8_see RX8 "see" 3 1 false (25, .ireturn, 26, []) := dX8_see_25
theorem o115_26 : OkE cX8_see RX8 "see" 3 1 false (26, .aload 0, 27, []) := (r_aload_n dX8_see_26 rfl).row
theorem o115_27 : OkE cX8_see RX8 "see" 3 1 false (27, .invokeinterface 8 3, 30, []) := (r_get (C := RX8) (T := TX8) (N := 11) (ci := 8) (j := 3) (ref := RX8) dX8_see_27 rfl inX8 (by decide) wd_391 rfl).row
theorem o115_30 : OkE cX8_see RX8 "see" 3 1 false (30, .iload 1, 31, []) := (r_iload_n dX8_see_30 rfl).row
theorem o115_31 : OkE cX8_see RX8 "see" 3 1 false (31, .iload 2, 32, []) := (r_iload_n dX8_see_31 rfl).row
theorem o115_32 : OkE cX8_see RX8 "see" 3 1 false (32, .invokevirtual 66, 35, []) := ⟨rfl, c_V dX8_see_32 wd_644 wd_645 wd_646 wd_68 wd_647 nmh_4⟩
theorem o115_35 : OkE cX8_see RX8 "see" 3 1 false (35, .ifCond .eq 48, 38, []) := (r_if_eq dX8_see_35 rfl).row
theorem o115_38 : OkE cX8_see RX8 "see" 3 1 false (38, .aload 0, 39, []) := (r_aload_n dX8_see_38 rfl).row
theorem o115_39 : OkE cX8_see RX8 "see" 3 1 false (39, .invokeinterface 8 3, 42, []) := (r_get (C := RX8) (T := TX8) (N := 11) (ci := 8) (j := 3) (ref := RX8) dX8_see_39 rfl inX8 (by decide) wd_391 rfl).row
theorem o115_42 : OkE cX8_see RX8 "see" 3 1 false (42, .invokevirtual 65, 45, []) := ⟨rfl, c_V dX8_see_42 wd_648 wd_649 wd_650 wd_68 wd_651 nmh_4⟩
theorem o115_45 : OkE cX8_see RX8 "see" 3 1 false (45, .goto 50, 48, []) := (r_goto dX8_see_45 rfl).row
theorem o115_48 : OkE cX8_see RX8 "see" 3 1 false (48, .iconst (-4), 50, []) := (r_bipush dX8_see_48 rfl).row
theorem o115_50 : OkE cX8_see RX8 "see" 3 1 false (50, .ireturn, 51, [0, 1, 2]) := dX8_see_50
theorem ok115 : ∀ x ∈ k115, OkE cX8_see RX8 "see" 3 1 false x := List.forall_mem_cons.mpr ⟨o115_0, List.forall_mem_cons.mpr ⟨o115_1, List.forall_mem_cons.mpr ⟨o115_4, List.forall_mem_cons.mpr ⟨o115_5, List.forall_mem_cons.mpr ⟨o115_8, List.forall_mem_cons.mpr ⟨o115_11, List.forall_mem_cons.mpr ⟨o115_12, List.forall_mem_cons.mpr ⟨o115_13, List.forall_mem_cons.mpr ⟨o115_14, List.forall_mem_cons.mpr ⟨o115_17, List.forall_mem_cons.mpr ⟨o115_18, List.forall_mem_cons.mpr ⟨o115_20, List.forall_mem_cons.mpr ⟨o115_23, List.forall_mem_cons.mpr ⟨o115_25, List.forall_mem_cons.mpr ⟨o115_26, List.forall_mem_cons.mpr ⟨o115_27, List.forall_mem_cons.mpr ⟨o115_30, List.forall_mem_cons.mpr ⟨o115_31, List.forall_mem_cons.mpr ⟨o115_32, List.forall_mem_cons.mpr ⟨o115_35, List.forall_mem_cons.mpr ⟨o115_38, List.forall_mem_cons.mpr ⟨o115_39, List.forall_mem_cons.mpr ⟨o115_42, List.forall_mem_cons.mpr ⟨o115_45, List.forall_mem_cons.mpr ⟨o115_48, List.forall_mem_cons.mpr ⟨o115_50, fun _ h => absurd h List.not_mem_nil⟩⟩⟩⟩⟩⟩⟩⟩⟩⟩⟩⟩⟩⟩⟩⟩⟩⟩⟩⟩⟩⟩⟩⟩⟩⟩
theorem o116_0 : OkE cX8_unsee RX8 "unsee" 1 1 false (0, .aload 0, 1, []) := (r_aload_n dX8_unsee_0 rfl).row
theorem o116_1 : OkE cX8_unsee RX8 "unsee" 1 1 false (1, .invokeinterface 8 3, 4, []) := (r_get (C := RX8) (T := TX8) (N := 11) (ci := 8) (j := 3) (ref := RX8) dX8_unsee_1 rfl inX8 (by decide) wd_391 rfl).row
theorem o116_4 : OkE cX8_unsee RX8 "unsee" 1 1 false (4, .invokevirtual 67, 7, []) := ⟨rfl, c_V dX8_unsee_4 wd_527 wd_528 wd_529 wd_68 wd_530 nmh_4⟩
theorem o116_7 : OkE cX8_unsee RX8 "unsee" 1 1 false (7, .ireturn, 8, []) := dX8_unsee_7
theorem ok116 : ∀ x ∈ k116, OkE cX8_unsee RX8 "unsee" 1 1 false x := List.forall_mem_cons.mpr ⟨o116_0, List.forall_mem_cons.mpr ⟨o116_1, List.forall_mem_cons.mpr ⟨o116_4, List.forall_mem_cons.mpr ⟨o116_7, fun _ h => absurd h List.not_mem_nil⟩⟩⟩⟩
theorem o117_0 : OkE cX8_likely RX8 "likely" 5 4 false (0, .iload 1, 1, []) := (r_iload_n dX8_likely_0 rfl).row
theorem o117_1 : OkE cX8_likely RX8 "likely" 5 4 false (1, .invokestatic 140, 4, []) := ⟨rfl, c_S dX8_likely_1 wd_541 wd_356 wd_64 wd_357 nmh_8⟩
theorem o117_4 : OkE cX8_likely RX8 "likely" 5 4 false (4, .ifCond .ne 11, 7, []) := (r_if_ne dX8_likely_4 rfl).row
theorem o117_7 : OkE cX8_likely RX8 "likely" 5 4 false (7, .sipush (-1), 10, []) := (r_ldc2 wd_660 dX8_likely_7 rfl).row
theorem o117_10 : OkE cX8_likely RX8 "likely" 5 4 false (10, .lreturn, 11, []) := dX8_likely_10
theorem o117_11 : OkE cX8_likely RX8 "likely" 5 4 false (11, .aload 0, 12, []) := (r_aload_n dX8_likely_11 rfl).row
theorem o117_12 : OkE cX8_likely RX8 "likely" 5 4 false (12, .invokeinterface 8 3, 15, []) := (r_get (C := RX8) (T := TX8) (N := 11) (ci := 8) (j := 3) (ref := RX8) dX8_likely_12 rfl inX8 (by decide) wd_391 rfl).row
theorem o117_15 : OkE cX8_likely RX8 "likely" 5 4 false (15, .aload 0, 16, []) := (r_aload_n dX8_likely_15 rfl).row
theorem o117_16 : OkE cX8_likely RX8 "likely" 5 4 false (16, .invokeinterface 8 9, 19, []) := (r_get (C := RX8) (T := TX8) (N := 11) (ci := 8) (j := 9) (ref := RX8) dX8_likely_16 rfl inX8 (by decide) wd_397 rfl).row
theorem o117_19 : OkE cX8_likely RX8 "likely" 5 4 false (19, .invokevirtual 69, 22, []) := ⟨rfl, c_V dX8_likely_19 wd_661 wd_662 wd_663 wd_68 wd_664 nmh_4⟩
theorem o117_22 : OkE cX8_likely RX8 "likely" 5 4 false (22, .lstore 3, 23, []) := (r_lstore_n dX8_likely_22 rfl).row
theorem o117_23 : OkE cX8_likely RX8 "likely" 5 4 false (23, .lload 3, 24, []) := (r_lload_n dX8_likely_23 rfl).row
theorem o117_24 : OkE cX8_likely RX8 "likely" 5 4 false (24, .sipush 0, 25, []) := (r_lconst dX8_likely_24 rfl).row
theorem o117_25 : OkE cX8_likely RX8 "likely" 5 4 false (25, .lcmp, 26, []) := (r_lcmp dX8_likely_25).row
theorem o117_26 : OkE cX8_likely RX8 "likely" 5 4 false (26, .ifCond .ne 35, 29, []) := (r_if_ne dX8_likely_26 rfl).row
theorem o117_29 : OkE cX8_likely RX8 "likely" 5 4 false (29, .sipush (-3), 32, []) := (r_ldc2 wd_672 dX8_likely_29 rfl).row
theorem o117_32 : OkE cX8_likely RX8 "likely" 5 4 false (32, .goto 52, 35, []) := (r_goto dX8_likely_32 rfl).row
theorem o117_35 : OkE cX8_likely RX8 "likely" 5 4 false (35, .aload 0, 36, []) := (r_aload_n dX8_likely_35 rfl).row
theorem o117_36 : OkE cX8_likely RX8 "likely" 5 4 false (36, .invokeinterface 8 3, 39, []) := (r_get (C := RX8) (T := TX8) (N := 11) (ci := 8) (j := 3) (ref := RX8) dX8_likely_36 rfl inX8 (by decide) wd_391 rfl).row
theorem o117_39 : OkE cX8_likely RX8 "likely" 5 4 false (39, .aload 0, 40, []) := (r_aload_n dX8_likely_39 rfl).row
theorem o117_40 : OkE cX8_likely RX8 "likely" 5 4 false (40, .invokeinterface 8 9, 43, []) := (r_get (C := RX8) (T := TX8) (N := 11) (ci := 8) (j := 9) (ref := RX8) dX8_likely_40 rfl inX8 (by decide) wd_397 rfl).row
theorem o117_43 : OkE cX8_likely RX8 "likely" 5 4 false (43, .iload 1, 44, []) := (r_iload_n dX8_likely_43 rfl).row
theorem o117_44 : OkE cX8_likely RX8 "likely" 5 4 false (44, .invokevirtual 68, 47, []) := ⟨rfl, c_V dX8_likely_44 wd_673 wd_666 wd_667 wd_68 wd_668 nmh_4⟩
theorem o117_47 : OkE cX8_likely RX8 "likely" 5 4 false (47, .lload 3, 48, []) := (r_lload_n dX8_likely_47 rfl).row
theorem o117_48 : OkE cX8_likely RX8 "likely" 5 4 false (48, .iload 2, 49, []) := (r_iload_n dX8_likely_48 rfl).row
theorem o117_49 : OkE cX8_likely RX8 "likely" 5 4 false (49, .invokestatic 149, 52, []) := ⟨rfl, c_S dX8_likely_49 wd_570 wd_571 wd_64 wd_572 nmh_8⟩
theorem o117_52 : OkE cX8_likely RX8 "likely" 5 4 false (52, .lreturn, 53, [0, 1, 2, 3]) := dX8_likely_52
theorem ok117 : ∀ x ∈ k117, OkE cX8_likely RX8 "likely" 5 4 false x := List.forall_mem_cons.mpr ⟨o117_0, List.forall_mem_cons.mpr ⟨o117_1, List.forall_mem_cons.mpr ⟨o117_4, List.forall_mem_cons.mpr ⟨o117_7, List.forall_mem_cons.mpr ⟨o117_10, List.forall_mem_cons.mpr ⟨o117_11, List.forall_mem_cons.mpr ⟨o117_12, List.forall_mem_cons.mpr ⟨o117_15, List.forall_mem_cons.mpr ⟨o117_16, List.forall_mem_cons.mpr ⟨o117_19, List.forall_mem_cons.mpr ⟨o117_22, List.forall_mem_cons.mpr ⟨o117_23, List.forall_mem_cons.mpr ⟨o117_24, List.forall_mem_cons.mpr ⟨o117_25, List.forall_mem_cons.mpr ⟨o117_26, List.forall_mem_cons.mpr ⟨o117_29, List.forall_mem_cons.mpr ⟨o117_32, List.forall_mem_cons.mpr ⟨o117_35, List.forall_mem_cons.mpr ⟨o117_36, List.forall_mem_cons.mpr ⟨o117_39, List.forall_mem_cons.mpr ⟨o117_40, List.forall_mem_cons.mpr ⟨o117_43, List.forall_mem_cons.mpr ⟨o117_44, List.forall_mem_cons.mpr ⟨o117_47, List.forall_mem_cons.mpr ⟨o117_48, List.forall_mem_cons.mpr ⟨o117_49, List.forall_mem_cons.mpr ⟨o117_52, fun _ h => absurd h List.not_mem_nil⟩⟩⟩⟩⟩⟩⟩⟩⟩⟩⟩⟩⟩⟩⟩⟩⟩⟩⟩⟩⟩⟩⟩⟩⟩⟩⟩
theorem o118_0 : OkE cX8_likeliest RX8 "likeliest" 1 4 false (0, .aload 0, 1, []) := (r_aload_n dX8_likeliest_0 rfl).row
theorem o118_1 : OkE cX8_likeliest RX8 "likeliest" 1 4 false (1, .invokeinterface 8 3, 4, []) := (r_get (C := RX8) (T := TX8) (N := 11) (ci := 8) (j := 3) (ref := RX8) dX8_likeliest_1 rfl inX8 (by decide) wd_391 rfl).row
theorem o118_4 : OkE cX8_likeliest RX8 "likeliest" 1 4 false (4, .aload 0, 5, []) := (r_aload_n dX8_likeliest_4 rfl).row
theorem o118_5 : OkE cX8_likeliest RX8 "likeliest" 1 4 false (5, .invokeinterface 8 9, 8, []) := (r_get (C := RX8) (T := TX8) (N := 11) (ci := 8) (j := 9) (ref := RX8) dX8_likeliest_5 rfl inX8 (by decide) wd_397 rfl).row
theorem o118_8 : OkE cX8_likeliest RX8 "likeliest" 1 4 false (8, .invokevirtual 69, 11, []) := ⟨rfl, c_V dX8_likeliest_8 wd_661 wd_662 wd_663 wd_68 wd_664 nmh_4⟩
theorem o118_11 : OkE cX8_likeliest RX8 "likeliest" 1 4 false (11, .sipush 0, 12, []) := (r_lconst dX8_likeliest_11 rfl).row
theorem o118_12 : OkE cX8_likeliest RX8 "likeliest" 1 4 false (12, .lcmp, 13, []) := (r_lcmp dX8_likeliest_12).row
theorem o118_13 : OkE cX8_likeliest RX8 "likeliest" 1 4 false (13, .ifCond .ne 21, 16, []) := (r_if_ne dX8_likeliest_13 rfl).row
theorem o118_16 : OkE cX8_likeliest RX8 "likeliest" 1 4 false (16, .iconst (-3), 18, []) := (r_bipush dX8_likeliest_16 rfl).row
theorem o118_18 : OkE cX8_likeliest RX8 "likeliest" 1 4 false (18, .goto 32, 21, []) := (r_goto dX8_likeliest_18 rfl).row
theorem o118_21 : OkE cX8_likeliest RX8 "likeliest" 1 4 false (21, .aload 0, 22, []) := (r_aload_n dX8_likeliest_21 rfl).row
theorem o118_22 : OkE cX8_likeliest RX8 "likeliest" 1 4 false (22, .invokeinterface 8 3, 25, []) := (r_get (C := RX8) (T := TX8) (N := 11) (ci := 8) (j := 3) (ref := RX8) dX8_likeliest_22 rfl inX8 (by decide) wd_391 rfl).row
theorem o118_25 : OkE cX8_likeliest RX8 "likeliest" 1 4 false (25, .aload 0, 26, []) := (r_aload_n dX8_likeliest_25 rfl).row
theorem o118_26 : OkE cX8_likeliest RX8 "likeliest" 1 4 false (26, .invokeinterface 8 9, 29, []) := (r_get (C := RX8) (T := TX8) (N := 11) (ci := 8) (j := 9) (ref := RX8) dX8_likeliest_26 rfl inX8 (by decide) wd_397 rfl).row
theorem o118_29 : OkE cX8_likeliest RX8 "likeliest" 1 4 false (29, .invokevirtual 70, 32, []) := ⟨rfl, c_V dX8_likeliest_29 wd_678 wd_679 wd_680 wd_68 wd_681 nmh_4⟩
theorem o118_32 : OkE cX8_likeliest RX8 "likeliest" 1 4 false (32, .ireturn, 33, [0]) := dX8_likeliest_32
theorem ok118 : ∀ x ∈ k118, OkE cX8_likeliest RX8 "likeliest" 1 4 false x := List.forall_mem_cons.mpr ⟨o118_0, List.forall_mem_cons.mpr ⟨o118_1, List.forall_mem_cons.mpr ⟨o118_4, List.forall_mem_cons.mpr ⟨o118_5, List.forall_mem_cons.mpr ⟨o118_8, List.forall_mem_cons.mpr ⟨o118_11, List.forall_mem_cons.mpr ⟨o118_12, List.forall_mem_cons.mpr ⟨o118_13, List.forall_mem_cons.mpr ⟨o118_16, List.forall_mem_cons.mpr ⟨o118_18, List.forall_mem_cons.mpr ⟨o118_21, List.forall_mem_cons.mpr ⟨o118_22, List.forall_mem_cons.mpr ⟨o118_25, List.forall_mem_cons.mpr ⟨o118_26, List.forall_mem_cons.mpr ⟨o118_29, List.forall_mem_cons.mpr ⟨o118_32, fun _ h => absurd h List.not_mem_nil⟩⟩⟩⟩⟩⟩⟩⟩⟩⟩⟩⟩⟩⟩⟩⟩
theorem o119_0 : OkE cX8_ask RX8 "ask" 1 6 false (0, .aload 0, 1, []) := (r_aload_n dX8_ask_0 rfl).row
theorem o119_1 : OkE cX8_ask RX8 "ask" 1 6 false (1, .invokeinterface 8 3, 4, []) := (r_get (C := RX8) (T := TX8) (N := 11) (ci := 8) (j := 3) (ref := RX8) dX8_ask_1 rfl inX8 (by decide) wd_391 rfl).row
theorem o119_4 : OkE cX8_ask RX8 "ask" 1 6 false (4, .aload 0, 5, []) := (r_aload_n dX8_ask_4 rfl).row
theorem o119_5 : OkE cX8_ask RX8 "ask" 1 6 false (5, .invokeinterface 8 9, 8, []) := (r_get (C := RX8) (T := TX8) (N := 11) (ci := 8) (j := 9) (ref := RX8) dX8_ask_5 rfl inX8 (by decide) wd_397 rfl).row
theorem o119_8 : OkE cX8_ask RX8 "ask" 1 6 false (8, .invokevirtual 69, 11, []) := ⟨rfl, c_V dX8_ask_8 wd_661 wd_662 wd_663 wd_68 wd_664 nmh_4⟩
theorem o119_11 : OkE cX8_ask RX8 "ask" 1 6 false (11, .sipush 0, 12, []) := (r_lconst dX8_ask_11 rfl).row
theorem o119_12 : OkE cX8_ask RX8 "ask" 1 6 false (12, .lcmp, 13, []) := (r_lcmp dX8_ask_12).row
theorem o119_13 : OkE cX8_ask RX8 "ask" 1 6 false (13, .ifCond .ne 21, 16, []) := (r_if_ne dX8_ask_13 rfl).row
theorem o119_16 : OkE cX8_ask RX8 "ask" 1 6 false (16, .iconst (-3), 18, []) := (r_bipush dX8_ask_16 rfl).row
theorem o119_18 : OkE cX8_ask RX8 "ask" 1 6 false (18, .goto 32, 21, []) := (r_goto dX8_ask_18 rfl).row
theorem o119_21 : OkE cX8_ask RX8 "ask" 1 6 false (21, .aload 0, 22, []) := (r_aload_n dX8_ask_21 rfl).row
theorem o119_22 : OkE cX8_ask RX8 "ask" 1 6 false (22, .invokeinterface 8 3, 25, []) := (r_get (C := RX8) (T := TX8) (N := 11) (ci := 8) (j := 3) (ref := RX8) dX8_ask_22 rfl inX8 (by decide) wd_391 rfl).row
theorem o119_25 : OkE cX8_ask RX8 "ask" 1 6 false (25, .aload 0, 26, []) := (r_aload_n dX8_ask_25 rfl).row
theorem o119_26 : OkE cX8_ask RX8 "ask" 1 6 false (26, .invokeinterface 8 9, 29, []) := (r_get (C := RX8) (T := TX8) (N := 11) (ci := 8) (j := 9) (ref := RX8) dX8_ask_26 rfl inX8 (by decide) wd_397 rfl).row
theorem o119_29 : OkE cX8_ask RX8 "ask" 1 6 false (29, .invokevirtual 71, 32, []) := ⟨rfl, c_V dX8_ask_29 wd_686 wd_687 wd_688 wd_68 wd_689 nmh_4⟩
theorem o119_32 : OkE cX8_ask RX8 "ask" 1 6 false (32, .ireturn, 33, [0]) := dX8_ask_32
theorem ok119 : ∀ x ∈ k119, OkE cX8_ask RX8 "ask" 1 6 false x := List.forall_mem_cons.mpr ⟨o119_0, List.forall_mem_cons.mpr ⟨o119_1, List.forall_mem_cons.mpr ⟨o119_4, List.forall_mem_cons.mpr ⟨o119_5, List.forall_mem_cons.mpr ⟨o119_8, List.forall_mem_cons.mpr ⟨o119_11, List.forall_mem_cons.mpr ⟨o119_12, List.forall_mem_cons.mpr ⟨o119_13, List.forall_mem_cons.mpr ⟨o119_16, List.forall_mem_cons.mpr ⟨o119_18, List.forall_mem_cons.mpr ⟨o119_21, List.forall_mem_cons.mpr ⟨o119_22, List.forall_mem_cons.mpr ⟨o119_25, List.forall_mem_cons.mpr ⟨o119_26, List.forall_mem_cons.mpr ⟨o119_29, List.forall_mem_cons.mpr ⟨o119_32, fun _ h => absurd h List.not_mem_nil⟩⟩⟩⟩⟩⟩⟩⟩⟩⟩⟩⟩⟩⟩⟩⟩
theorem o120_0 : OkE cX8_best RX8 "best" 8 4 false (0, .aload 0, 1, []) := (r_aload_n dX8_best_0 rfl).row
theorem o120_1 : OkE cX8_best RX8 "best" 8 4 false (1, .iload 1, 2, []) := (r_iload_n dX8_best_1 rfl).row
theorem o120_2 : OkE cX8_best RX8 "best" 8 4 false (2, .iload 2, 3, []) := (r_iload_n dX8_best_2 rfl).row
theorem o120_3 : OkE cX8_best RX8 "best" 8 4 false (3, .iload 3, 4, []) := (r_iload_n dX8_best_3 rfl).row
theorem o120_4 : OkE cX8_best RX8 "best" 8 4 false (4, .iload 4, 6, []) := (r_iload dX8_best_4).row
theorem o120_6 : OkE cX8_best RX8 "best" 8 4 false (6, .iload 5, 8, []) := (r_iload dX8_best_6).row
theorem o120_8 : OkE cX8_best RX8 "best" 8 4 false (8, .iconst 0, 9, []) := (r_iconst dX8_best_8 rfl).row
theorem o120_9 : OkE cX8_best RX8 "best" 8 4 false (9, .invokevirtual 146, 12, []) := ⟨rfl, c_V dX8_best_9 wd_702 wd_704 wd_22 wd_64 wd_705 nmh_8⟩
theorem o120_12 : OkE cX8_best RX8 "best" 8 4 false (12, .istore 7, 14, []) := (r_istore dX8_best_12).row
theorem o120_14 : OkE cX8_best RX8 "best" 8 4 false (14, .iload 7, 16, []) := (r_iload dX8_best_14).row
theorem o120_16 : OkE cX8_best RX8 "best" 8 4 false (16, .ifCond .eq 23, 19, []) := (r_if_eq dX8_best_16 rfl).row
theorem o120_19 : OkE cX8_best RX8 "best" 8 4 false (19, .iload 7, 21, []) := (r_iload dX8_best_19).row
theorem o120_21 : OkE cX8_best RX8 "best" 8 4 false (21, .i2l, 22, []) := (r_i2l dX8_best_21).row
theorem o120_22 : OkE cX8_best RX8 "best" 8 4 false (22, .lreturn, 23, []) := dX8_best_22
theorem o120_23 : OkE cX8_best RX8 "best" 8 4 false (23, .aload 0, 24, []) := (r_aload_n dX8_best_23 rfl).row
theorem o120_24 : OkE cX8_best RX8 "best" 8 4 false (24, .invokeinterface 8 4, 27, []) := (r_get (C := RX8) (T := TX8) (N := 11) (ci := 8) (j := 4) (ref := RX8) dX8_best_24 rfl inX8 (by decide) wd_392 rfl).row
theorem o120_27 : OkE cX8_best RX8 "best" 8 4 false (27, .aload 0, 28, []) := (r_aload_n dX8_best_27 rfl).row
theorem o120_28 : OkE cX8_best RX8 "best" 8 4 false (28, .invokeinterface 8 9, 31, []) := (r_get (C := RX8) (T := TX8) (N := 11) (ci := 8) (j := 9) (ref := RX8) dX8_best_28 rfl inX8 (by decide) wd_397 rfl).row
theorem o120_31 : OkE cX8_best RX8 "best" 8 4 false (31, .iload 1, 32, []) := (r_iload_n dX8_best_31 rfl).row
theorem o120_32 : OkE cX8_best RX8 "best" 8 4 false (32, .iconst 10, 34, []) := (r_bipush dX8_best_32 rfl).row
theorem o120_34 : OkE cX8_best RX8 "best" 8 4 false (34, .idiv, 35, []) := (r_idiv dX8_best_34).row
theorem o120_35 : OkE cX8_best RX8 "best" 8 4 false (35, .iload 1, 36, []) := (r_iload_n dX8_best_35 rfl).row
theorem o120_36 : OkE cX8_best RX8 "best" 8 4 false (36, .iconst 10, 38, []) := (r_bipush dX8_best_36 rfl).row
theorem o120_38 : OkE cX8_best RX8 "best" 8 4 false (38, .irem, 39, []) := (r_irem dX8_best_38).row
theorem o120_39 : OkE cX8_best RX8 "best" 8 4 false (39, .iload 2, 40, []) := (r_iload_n dX8_best_39 rfl).row
theorem o120_40 : OkE cX8_best RX8 "best" 8 4 false (40, .invokevirtual 94, 43, []) := ⟨rfl, c_V dX8_best_40 wd_712 wd_713 wd_714 wd_69 wd_715 nmh_7⟩
theorem o120_43 : OkE cX8_best RX8 "best" 8 4 false (43, .aload 0, 44, []) := (r_aload_n dX8_best_43 rfl).row
theorem o120_44 : OkE cX8_best RX8 "best" 8 4 false (44, .invokeinterface 8 4, 47, []) := (r_get (C := RX8) (T := TX8) (N := 11) (ci := 8) (j := 4) (ref := RX8) dX8_best_44 rfl inX8 (by decide) wd_392 rfl).row
theorem o120_47 : OkE cX8_best RX8 "best" 8 4 false (47, .iload 3, 48, []) := (r_iload_n dX8_best_47 rfl).row
theorem o120_48 : OkE cX8_best RX8 "best" 8 4 false (48, .iconst 100, 50, []) := (r_bipush dX8_best_48 rfl).row
theorem o120_50 : OkE cX8_best RX8 "best" 8 4 false (50, .idiv, 51, []) := (r_idiv dX8_best_50).row
theorem o120_51 : OkE cX8_best RX8 "best" 8 4 false (51, .iload 3, 52, []) := (r_iload_n dX8_best_51 rfl).row
theorem o120_52 : OkE cX8_best RX8 "best" 8 4 false (52, .iconst 100, 54, []) := (r_bipush dX8_best_52 rfl).row
theorem o120_54 : OkE cX8_best RX8 "best" 8 4 false (54, .irem, 55, []) := (r_irem dX8_best_54).row
theorem o120_55 : OkE cX8_best RX8 "best" 8 4 false (55, .iadd, 56, []) := (r_iadd dX8_best_55).row
theorem o120_56 : OkE cX8_best RX8 "best" 8 4 false (56, .iload 4, 58, []) := (r_iload dX8_best_56).row
theorem o120_58 : OkE cX8_best RX8 "best" 8 4 false (58, .iload 5, 60, []) := (r_iload dX8_best_58).row
theorem o120_60 : OkE cX8_best RX8 "best" 8 4 false (60, .invokevirtual 96, 63, []) := ⟨rfl, c_V dX8_best_60 wd_718 wd_719 wd_720 wd_69 wd_721 nmh_7⟩
theorem o120_63 : OkE cX8_best RX8 "best" 8 4 false (63, .aload 0, 64, []) := (r_aload_n dX8_best_63 rfl).row
theorem o120_64 : OkE cX8_best RX8 "best" 8 4 false (64, .invokeinterface 8 4, 67, []) := (r_get (C := RX8) (T := TX8) (N := 11) (ci := 8) (j := 4) (ref := RX8) dX8_best_64 rfl inX8 (by decide) wd_392 rfl).row
theorem o120_67 : OkE cX8_best RX8 "best" 8 4 false (67, .iload 3, 68, []) := (r_iload_n dX8_best_67 rfl).row
theorem o120_68 : OkE cX8_best RX8 "best" 8 4 false (68, .iconst 100, 70, []) := (r_bipush dX8_best_68 rfl).row
theorem o120_70 : OkE cX8_best RX8 "best" 8 4 false (70, .idiv, 71, []) := (r_idiv dX8_best_70).row
theorem o120_71 : OkE cX8_best RX8 "best" 8 4 false (71, .iload 3, 72, []) := (r_iload_n dX8_best_71 rfl).row
theorem o120_72 : OkE cX8_best RX8 "best" 8 4 false (72, .iconst 100, 74, []) := (r_bipush dX8_best_72 rfl).row
theorem o120_74 : OkE cX8_best RX8 "best" 8 4 false (74, .irem, 75, []) := (r_irem dX8_best_74).row
theorem o120_75 : OkE cX8_best RX8 "best" 8 4 false (75, .iload 4, 77, []) := (r_iload dX8_best_75).row
theorem o120_77 : OkE cX8_best RX8 "best" 8 4 false (77, .invokevirtual 100, 80, []) := ⟨rfl, c_V dX8_best_77 wd_749 wd_731 wd_732 wd_69 wd_733 nmh_7⟩
theorem o120_80 : OkE cX8_best RX8 "best" 8 4 false (80, .aload 0, 81, []) := (r_aload_n dX8_best_80 rfl).row
theorem o120_81 : OkE cX8_best RX8 "best" 8 4 false (81, .invokeinterface 8 4, 84, []) := (r_get (C := RX8) (T := TX8) (N := 11) (ci := 8) (j := 4) (ref := RX8) dX8_best_81 rfl inX8 (by decide) wd_392 rfl).row
theorem o120_84 : OkE cX8_best RX8 "best" 8 4 false (84, .invokevirtual 95, 87, []) := ⟨rfl, c_V dX8_best_84 wd_750 wd_751 wd_752 wd_69 wd_753 nmh_7⟩
theorem o120_87 : OkE cX8_best RX8 "best" 8 4 false (87, .iload 6, 89, []) := (r_iload dX8_best_87).row
theorem o120_89 : OkE cX8_best RX8 "best" 8 4 false (89, .invokestatic 149, 92, []) := ⟨rfl, c_S dX8_best_89 wd_570 wd_571 wd_64 wd_572 nmh_8⟩
theorem o120_92 : OkE cX8_best RX8 "best" 8 4 false (92, .lreturn, 93, []) := dX8_best_92
theorem ok120 : ∀ x ∈ k120, OkE cX8_best RX8 "best" 8 4 false x := List.forall_mem_cons.mpr ⟨o120_0, List.forall_mem_cons.mpr ⟨o120_1, List.forall_mem_cons.mpr ⟨o120_2, List.forall_mem_cons.mpr ⟨o120_3, List.forall_mem_cons.mpr ⟨o120_4, List.forall_mem_cons.mpr ⟨o120_6, List.forall_mem_cons.mpr ⟨o120_8, List.forall_mem_cons.mpr ⟨o120_9, List.forall_mem_cons.mpr ⟨o120_12, List.forall_mem_cons.mpr ⟨o120_14, List.forall_mem_cons.mpr ⟨o120_16, List.forall_mem_cons.mpr ⟨o120_19, List.forall_mem_cons.mpr ⟨o120_21, List.forall_mem_cons.mpr ⟨o120_22, List.forall_mem_cons.mpr ⟨o120_23, List.forall_mem_cons.mpr ⟨o120_24, List.forall_mem_cons.mpr ⟨o120_27, List.forall_mem_cons.mpr ⟨o120_28, List.forall_mem_cons.mpr ⟨o120_31, List.forall_mem_cons.mpr ⟨o120_32, List.forall_mem_cons.mpr ⟨o120_34, List.forall_mem_cons.mpr ⟨o120_35, List.forall_mem_cons.mpr ⟨o120_36, List.forall_mem_cons.mpr ⟨o120_38, List.forall_mem_cons.mpr ⟨o120_39, List.forall_mem_cons.mpr ⟨o120_40, List.forall_mem_cons.mpr ⟨o120_43, List.forall_mem_cons.mpr ⟨o120_44, List.forall_mem_cons.mpr ⟨o120_47, List.forall_mem_cons.mpr ⟨o120_48, List.forall_mem_cons.mpr ⟨o120_50, List.forall_mem_cons.mpr ⟨o120_51, List.forall_mem_cons.mpr ⟨o120_52, List.forall_mem_cons.mpr ⟨o120_54, List.forall_mem_cons.mpr ⟨o120_55, List.forall_mem_cons.mpr ⟨o120_56, List.forall_mem_cons.mpr ⟨o120_58, List.forall_mem_cons.mpr ⟨o120_60, List.forall_mem_cons.mpr ⟨o120_63, List.forall_mem_cons.mpr ⟨o120_64, List.forall_mem_cons.mpr ⟨o120_67, List.forall_mem_cons.mpr ⟨o120_68, List.forall_mem_cons.mpr ⟨o120_70, List.forall_mem_cons.mpr ⟨o120_71, List.forall_mem_cons.mpr ⟨o120_72, List.forall_mem_cons.mpr ⟨o120_74, List.forall_mem_cons.mpr ⟨o120_75, List.forall_mem_cons.mpr ⟨o120_77, List.forall_mem_cons.mpr ⟨o120_80, List.forall_mem_cons.mpr ⟨o120_81, List.forall_mem_cons.mpr ⟨o120_84, List.forall_mem_cons.mpr ⟨o120_87, List.forall_mem_cons.mpr ⟨o120_89, List.forall_mem_cons.mpr ⟨o120_92, fun _ h => absurd h List.not_mem_nil⟩⟩⟩⟩⟩⟩⟩⟩⟩⟩⟩⟩⟩⟩⟩⟩⟩⟩⟩⟩⟩⟩⟩⟩⟩⟩⟩⟩⟩⟩⟩⟩⟩⟩⟩⟩⟩⟩⟩⟩⟩⟩⟩⟩⟩⟩⟩⟩⟩⟩⟩⟩⟩⟩
theorem o121_0 : OkE cX8_now RX8 "now" 7 4 false (0, .aload 0, 1, []) := (r_aload_n dX8_now_0 rfl).row
theorem o121_1 : OkE cX8_now RX8 "now" 7 4 false (1, .iload 1, 2, []) := (r_iload_n dX8_now_1 rfl).row
theorem o121_2 : OkE cX8_now RX8 "now" 7 4 false (2, .iload 2, 3, []) := (r_iload_n dX8_now_2 rfl).row
theorem o121_3 : OkE cX8_now RX8 "now" 7 4 false (3, .iload 3, 4, []) := (r_iload_n dX8_now_3 rfl).row
theorem o121_4 : OkE cX8_now RX8 "now" 7 4 false (4, .iload 4, 6, []) := (r_iload dX8_now_4).row
theorem o121_6 : OkE cX8_now RX8 "now" 7 4 false (6, .iload 5, 8, []) := (r_iload dX8_now_6).row
theorem o121_8 : OkE cX8_now RX8 "now" 7 4 false (8, .iconst 1, 9, []) := (r_iconst dX8_now_8 rfl).row
theorem o121_9 : OkE cX8_now RX8 "now" 7 4 false (9, .invokevirtual 146, 12, []) := ⟨rfl, c_V dX8_now_9 wd_702 wd_704 wd_22 wd_64 wd_705 nmh_8⟩
theorem o121_12 : OkE cX8_now RX8 "now" 7 4 false (12, .istore 6, 14, []) := (r_istore dX8_now_12).row
theorem o121_14 : OkE cX8_now RX8 "now" 7 4 false (14, .iload 6, 16, []) := (r_iload dX8_now_14).row
theorem o121_16 : OkE cX8_now RX8 "now" 7 4 false (16, .ifCond .eq 22, 19, []) := (r_if_eq dX8_now_16 rfl).row
theorem o121_19 : OkE cX8_now RX8 "now" 7 4 false (19, .iload 6, 21, []) := (r_iload dX8_now_19).row
theorem o121_21 : OkE cX8_now RX8 "now" 7 4 false (21, .ireturn, 22, []) := dX8_now_21
theorem o121_22 : OkE cX8_now RX8 "now" 7 4 false (22, .aload 0, 23, []) := (r_aload_n dX8_now_22 rfl).row
theorem o121_23 : OkE cX8_now RX8 "now" 7 4 false (23, .invokeinterface 8 4, 26, []) := (r_get (C := RX8) (T := TX8) (N := 11) (ci := 8) (j := 4) (ref := RX8) dX8_now_23 rfl inX8 (by decide) wd_392 rfl).row
theorem o121_26 : OkE cX8_now RX8 "now" 7 4 false (26, .aload 0, 27, []) := (r_aload_n dX8_now_26 rfl).row
theorem o121_27 : OkE cX8_now RX8 "now" 7 4 false (27, .invokeinterface 8 9, 30, []) := (r_get (C := RX8) (T := TX8) (N := 11) (ci := 8) (j := 9) (ref := RX8) dX8_now_27 rfl inX8 (by decide) wd_397 rfl).row
theorem o121_30 : OkE cX8_now RX8 "now" 7 4 false (30, .iload 1, 31, []) := (r_iload_n dX8_now_30 rfl).row
theorem o121_31 : OkE cX8_now RX8 "now" 7 4 false (31, .iconst 10, 33, []) := (r_bipush dX8_now_31 rfl).row
theorem o121_33 : OkE cX8_now RX8 "now" 7 4 false (33, .idiv, 34, []) := (r_idiv dX8_now_33).row
theorem o121_34 : OkE cX8_now RX8 "now" 7 4 false (34, .iload 1, 35, []) := (r_iload_n dX8_now_34 rfl).row
theorem o121_35 : OkE cX8_now RX8 "now" 7 4 false (35, .iconst 10, 37, []) := (r_bipush dX8_now_35 rfl).row
theorem o121_37 : OkE cX8_now RX8 "now" 7 4 false (37, .irem, 38, []) := (r_irem dX8_now_37).row
theorem o121_38 : OkE cX8_now RX8 "now" 7 4 false (38, .iload 2, 39, []) := (r_iload_n dX8_now_38 rfl).row
theorem o121_39 : OkE cX8_now RX8 "now" 7 4 false (39, .invokevirtual 94, 42, []) := ⟨rfl, c_V dX8_now_39 wd_712 wd_713 wd_714 wd_69 wd_715 nmh_7⟩
theorem o121_42 : OkE cX8_now RX8 "now" 7 4 false (42, .aload 0, 43, []) := (r_aload_n dX8_now_42 rfl).row
theorem o121_43 : OkE cX8_now RX8 "now" 7 4 false (43, .invokeinterface 8 4, 46, []) := (r_get (C := RX8) (T := TX8) (N := 11) (ci := 8) (j := 4) (ref := RX8) dX8_now_43 rfl inX8 (by decide) wd_392 rfl).row
theorem o121_46 : OkE cX8_now RX8 "now" 7 4 false (46, .iload 3, 47, []) := (r_iload_n dX8_now_46 rfl).row
theorem o121_47 : OkE cX8_now RX8 "now" 7 4 false (47, .iconst 100, 49, []) := (r_bipush dX8_now_47 rfl).row
theorem o121_49 : OkE cX8_now RX8 "now" 7 4 false (49, .idiv, 50, []) := (r_idiv dX8_now_49).row
theorem o121_50 : OkE cX8_now RX8 "now" 7 4 false (50, .iload 3, 51, []) := (r_iload_n dX8_now_50 rfl).row
theorem o121_51 : OkE cX8_now RX8 "now" 7 4 false (51, .iconst 100, 53, []) := (r_bipush dX8_now_51 rfl).row
theorem o121_53 : OkE cX8_now RX8 "now" 7 4 false (53, .irem, 54, []) := (r_irem dX8_now_53).row
theorem o121_54 : OkE cX8_now RX8 "now" 7 4 false (54, .iadd, 55, []) := (r_iadd dX8_now_54).row
theorem o121_55 : OkE cX8_now RX8 "now" 7 4 false (55, .iload 4, 57, []) := (r_iload dX8_now_55).row
theorem o121_57 : OkE cX8_now RX8 "now" 7 4 false (57, .iload 5, 59, []) := (r_iload dX8_now_57).row
theorem o121_59 : OkE cX8_now RX8 "now" 7 4 false (59, .invokevirtual 96, 62, []) := ⟨rfl, c_V dX8_now_59 wd_718 wd_719 wd_720 wd_69 wd_721 nmh_7⟩
theorem o121_62 : OkE cX8_now RX8 "now" 7 4 false (62, .aload 0, 63, []) := (r_aload_n dX8_now_62 rfl).row
theorem o121_63 : OkE cX8_now RX8 "now" 7 4 false (63, .invokeinterface 8 4, 66, []) := (r_get (C := RX8) (T := TX8) (N := 11) (ci := 8) (j := 4) (ref := RX8) dX8_now_63 rfl inX8 (by decide) wd_392 rfl).row
theorem o121_66 : OkE cX8_now RX8 "now" 7 4 false (66, .iload 3, 67, []) := (r_iload_n dX8_now_66 rfl).row
theorem o121_67 : OkE cX8_now RX8 "now" 7 4 false (67, .iconst 100, 69, []) := (r_bipush dX8_now_67 rfl).row
theorem o121_69 : OkE cX8_now RX8 "now" 7 4 false (69, .idiv, 70, []) := (r_idiv dX8_now_69).row
theorem o121_70 : OkE cX8_now RX8 "now" 7 4 false (70, .iload 3, 71, []) := (r_iload_n dX8_now_70 rfl).row
theorem o121_71 : OkE cX8_now RX8 "now" 7 4 false (71, .iconst 100, 73, []) := (r_bipush dX8_now_71 rfl).row
theorem o121_73 : OkE cX8_now RX8 "now" 7 4 false (73, .irem, 74, []) := (r_irem dX8_now_73).row
theorem o121_74 : OkE cX8_now RX8 "now" 7 4 false (74, .iload 4, 76, []) := (r_iload dX8_now_74).row
theorem o121_76 : OkE cX8_now RX8 "now" 7 4 false (76, .invokevirtual 101, 79, []) := ⟨rfl, c_V dX8_now_76 wd_758 wd_759 wd_760 wd_69 wd_761 nmh_7⟩
theorem o121_79 : OkE cX8_now RX8 "now" 7 4 false (79, .ireturn, 80, []) := dX8_now_79
theorem ok121 : ∀ x ∈ k121, OkE cX8_now RX8 "now" 7 4 false x := List.forall_mem_cons.mpr ⟨o121_0, List.forall_mem_cons.mpr ⟨o121_1, List.forall_mem_cons.mpr ⟨o121_2, List.forall_mem_cons.mpr ⟨o121_3, List.forall_mem_cons.mpr ⟨o121_4, List.forall_mem_cons.mpr ⟨o121_6, List.forall_mem_cons.mpr ⟨o121_8, List.forall_mem_cons.mpr ⟨o121_9, List.forall_mem_cons.mpr ⟨o121_12, List.forall_mem_cons.mpr ⟨o121_14, List.forall_mem_cons.mpr ⟨o121_16, List.forall_mem_cons.mpr ⟨o121_19, List.forall_mem_cons.mpr ⟨o121_21, List.forall_mem_cons.mpr ⟨o121_22, List.forall_mem_cons.mpr ⟨o121_23, List.forall_mem_cons.mpr ⟨o121_26, List.forall_mem_cons.mpr ⟨o121_27, List.forall_mem_cons.mpr ⟨o121_30, List.forall_mem_cons.mpr ⟨o121_31, List.forall_mem_cons.mpr ⟨o121_33, List.forall_mem_cons.mpr ⟨o121_34, List.forall_mem_cons.mpr ⟨o121_35, List.forall_mem_cons.mpr ⟨o121_37, List.forall_mem_cons.mpr ⟨o121_38, List.forall_mem_cons.mpr ⟨o121_39, List.forall_mem_cons.mpr ⟨o121_42, List.forall_mem_cons.mpr ⟨o121_43, List.forall_mem_cons.mpr ⟨o121_46, List.forall_mem_cons.mpr ⟨o121_47, List.forall_mem_cons.mpr ⟨o121_49, List.forall_mem_cons.mpr ⟨o121_50, List.forall_mem_cons.mpr ⟨o121_51, List.forall_mem_cons.mpr ⟨o121_53, List.forall_mem_cons.mpr ⟨o121_54, List.forall_mem_cons.mpr ⟨o121_55, List.forall_mem_cons.mpr ⟨o121_57, List.forall_mem_cons.mpr ⟨o121_59, List.forall_mem_cons.mpr ⟨o121_62, List.forall_mem_cons.mpr ⟨o121_63, List.forall_mem_cons.mpr ⟨o121_66, List.forall_mem_cons.mpr ⟨o121_67, List.forall_mem_cons.mpr ⟨o121_69, List.forall_mem_cons.mpr ⟨o121_70, List.forall_mem_cons.mpr ⟨o121_71, List.forall_mem_cons.mpr ⟨o121_73, List.forall_mem_cons.mpr ⟨o121_74, List.forall_mem_cons.mpr ⟨o121_76, List.forall_mem_cons.mpr ⟨o121_79, fun _ h => absurd h List.not_mem_nil⟩⟩⟩⟩⟩⟩⟩⟩⟩⟩⟩⟩⟩⟩⟩⟩⟩⟩⟩⟩⟩⟩⟩⟩⟩⟩⟩⟩⟩⟩⟩⟩⟩⟩⟩⟩⟩⟩⟩⟩⟩⟩⟩⟩⟩⟩⟩⟩
theorem o122_0 : OkE cX8_day RX8 "day" 3 1 false (0, .iload 1, 1, []) := (r_iload_n dX8_day_0 rfl).row
theorem o122_1 : OkE cX8_day RX8 "day" 3 1 false (1, .invokestatic 140, 4, []) := ⟨rfl, c_S dX8_day_1 wd_541 wd_356 wd_64 wd_357 nmh_8⟩
theorem o122_4 : OkE cX8_day RX8 "day" 3 1 false (4, .ifCond .ne 9, 7, []) := (r_if_ne dX8_day_4 rfl).row
theorem o122_7 : OkE cX8_day RX8 "day" 3 1 false (7, .iconst (-1), 8, []) := (r_iconst dX8_day_7 rfl).row
theorem o122_8 : OkE cX8_day RX8 "day" 3 1 false (8, .ireturn, 9, []) := dX8_day_8
theorem o122_9 : OkE cX8_day RX8 "day" 3 1 false (9, .aload 0, 10, []) := (r_aload_n dX8_day_9 rfl).row
theorem o122_10 : OkE cX8_day RX8 "day" 3 1 false (10, .invokeinterface 8 5, 13, []) := (r_get (C := RX8) (T := TX8) (N := 11) (ci := 8) (j := 5) (ref := RX8) dX8_day_10 rfl inX8 (by decide) wd_393 rfl).row
theorem o122_13 : OkE cX8_day RX8 "day" 3 1 false (13, .invokeinterface 1 6, 16, []) := (r_getN (C := RX1) (T := TX1) (N := 11) (ci := 1) (j := 6) (ref := RX1) dX8_day_13 rfl inX1 (by decide) wd_207 rfl).row
theorem o122_16 : OkE cX8_day RX8 "day" 3 1 false (16, .istore 2, 17, []) := (r_istore_n dX8_day_16 rfl).row
theorem o122_17 : OkE cX8_day RX8 "day" 3 1 false (17, .aload 0, 18, []) := (r_aload_n dX8_day_17 rfl).row
theorem o122_18 : OkE cX8_day RX8 "day" 3 1 false (18, .invokeinterface 8 5, 21, []) := (r_get (C := RX8) (T := TX8) (N := 11) (ci := 8) (j := 5) (ref := RX8) dX8_day_18 rfl inX8 (by decide) wd_393 rfl).row
theorem o122_21 : OkE cX8_day RX8 "day" 3 1 false (21, .iload 1, 22, []) := (r_iload_n dX8_day_21 rfl).row
theorem o122_22 : OkE cX8_day RX8 "day" 3 1 false (22, .multianewarray 1 6, 25, []) := r_putNI (C := RX1) (T := TX1) (N := 11) (ci := 1) (j := 6) (ref := RX1) dX8_day_22 rfl inX1 tyX1 tyX1_ok nmX1 (by decide) wd_207 rfl rfl (tyX1_ok 6 (by decide)) rfl
theorem o122_25 : OkE cX8_day RX8 "day" 3 1 false (25, .iload 2, 26, []) := (r_iload_n dX8_day_25 rfl).row
theorem o122_26 : OkE cX8_day RX8 "day" 3 1 false (26, .ireturn, 27, []) := dX8_day_26
theorem ok122 : ∀ x ∈ k122, OkE cX8_day RX8 "day" 3 1 false x := List.forall_mem_cons.mpr ⟨o122_0, List.forall_mem_cons.mpr ⟨o122_1, List.forall_mem_cons.mpr ⟨o122_4, List.forall_mem_cons.mpr ⟨o122_7, List.forall_mem_cons.mpr ⟨o122_8, List.forall_mem_cons.mpr ⟨o122_9, List.forall_mem_cons.mpr ⟨o122_10, List.forall_mem_cons.mpr ⟨o122_13, List.forall_mem_cons.mpr ⟨o122_16, List.forall_mem_cons.mpr ⟨o122_17, List.forall_mem_cons.mpr ⟨o122_18, List.forall_mem_cons.mpr ⟨o122_21, List.forall_mem_cons.mpr ⟨o122_22, List.forall_mem_cons.mpr ⟨o122_25, List.forall_mem_cons.mpr ⟨o122_26, fun _ h => absurd h List.not_mem_nil⟩⟩⟩⟩⟩⟩⟩⟩⟩⟩⟩⟩⟩⟩⟩
theorem o123_0 : OkE cX8_gives RX8 "gives" 4 3 false (0, .aload 0, 1, []) := (r_aload_n dX8_gives_0 rfl).row
theorem o123_1 : OkE cX8_gives RX8 "gives" 4 3 false (1, .iload 1, 2, []) := (r_iload_n dX8_gives_1 rfl).row
theorem o123_2 : OkE cX8_gives RX8 "gives" 4 3 false (2, .iload 2, 3, []) := (r_iload_n dX8_gives_2 rfl).row
theorem o123_3 : OkE cX8_gives RX8 "gives" 4 3 false (3, .invokevirtual 145, 6, []) := ⟨rfl, c_V dX8_gives_3 wd_557 wd_559 wd_15 wd_64 wd_560 nmh_8⟩
theorem o123_6 : OkE cX8_gives RX8 "gives" 4 3 false (6, .istore 3, 7, []) := (r_istore_n dX8_gives_6 rfl).row
theorem o123_7 : OkE cX8_gives RX8 "gives" 4 3 false (7, .iload 3, 8, []) := (r_iload_n dX8_gives_7 rfl).row
theorem o123_8 : OkE cX8_gives RX8 "gives" 4 3 false (8, .ifCond .eq 15, 11, []) := (r_if_eq dX8_gives_8 rfl).row
theorem o123_11 : OkE cX8_gives RX8 "gives" 4 3 false (11, .iload 3, 12, []) := (r_iload_n dX8_gives_11 rfl).row
theorem o123_12 : OkE cX8_gives RX8 "gives" 4 3 false (12, .goto 24, 15, []) := (r_goto dX8_gives_12 rfl).row
theorem o123_15 : OkE cX8_gives RX8 "gives" 4 3 false (15, .aload 0, 16, []) := (r_aload_n dX8_gives_15 rfl).row
theorem o123_16 : OkE cX8_gives RX8 "gives" 4 3 false (16, .invokeinterface 8 5, 19, []) := (r_get (C := RX8) (T := TX8) (N := 11) (ci := 8) (j := 5) (ref := RX8) dX8_gives_16 rfl inX8 (by decide) wd_393 rfl).row
theorem o123_19 : OkE cX8_gives RX8 "gives" 4 3 false (19, .iload 1, 20, []) := (r_iload_n dX8_gives_19 rfl).row
theorem o123_20 : OkE cX8_gives RX8 "gives" 4 3 false (20, .iload 2, 21, []) := (r_iload_n dX8_gives_20 rfl).row
theorem o123_21 : OkE cX8_gives RX8 "gives" 4 3 false (21, .invokevirtual 24, 24, []) := ⟨rfl, c_V dX8_gives_21 wd_770 wd_771 wd_772 wd_70 wd_773 nmh_1⟩
theorem o123_24 : OkE cX8_gives RX8 "gives" 4 3 false (24, .ireturn, 25, [0, 1, 2, 3]) := dX8_gives_24
theorem ok123 : ∀ x ∈ k123, OkE cX8_gives RX8 "gives" 4 3 false x := List.forall_mem_cons.mpr ⟨o123_0, List.forall_mem_cons.mpr ⟨o123_1, List.forall_mem_cons.mpr ⟨o123_2, List.forall_mem_cons.mpr ⟨o123_3, List.forall_mem_cons.mpr ⟨o123_6, List.forall_mem_cons.mpr ⟨o123_7, List.forall_mem_cons.mpr ⟨o123_8, List.forall_mem_cons.mpr ⟨o123_11, List.forall_mem_cons.mpr ⟨o123_12, List.forall_mem_cons.mpr ⟨o123_15, List.forall_mem_cons.mpr ⟨o123_16, List.forall_mem_cons.mpr ⟨o123_19, List.forall_mem_cons.mpr ⟨o123_20, List.forall_mem_cons.mpr ⟨o123_21, List.forall_mem_cons.mpr ⟨o123_24, fun _ h => absurd h List.not_mem_nil⟩⟩⟩⟩⟩⟩⟩⟩⟩⟩⟩⟩⟩⟩⟩
theorem o124_0 : OkE cX8_more RX8 "more" 3 2 false (0, .aload 0, 1, []) := (r_aload_n dX8_more_0 rfl).row
theorem o124_1 : OkE cX8_more RX8 "more" 3 2 false (1, .invokeinterface 8 9, 4, []) := (r_get (C := RX8) (T := TX8) (N := 11) (ci := 8) (j := 9) (ref := RX8) dX8_more_1 rfl inX8 (by decide) wd_397 rfl).row
theorem o124_4 : OkE cX8_more RX8 "more" 3 2 false (4, .iload 1, 5, []) := (r_iload_n dX8_more_4 rfl).row
theorem o124_5 : OkE cX8_more RX8 "more" 3 2 false (5, .invokevirtual 82, 8, []) := ⟨rfl, c_V dX8_more_5 wd_540 wd_516 wd_517 wd_73 wd_518 nmh_6⟩
theorem o124_8 : OkE cX8_more RX8 "more" 3 2 false (8, .ifCond .ne 13, 11, []) := (r_if_ne dX8_more_8 rfl).row
theorem o124_11 : OkE cX8_more RX8 "more" 3 2 false (11, .iconst (-1), 12, []) := (r_iconst dX8_more_11 rfl).row
theorem o124_12 : OkE cX8_more RX8 "more" 3 2 false (12, .ireturn, 13, []) := dX8_more_12
theorem o124_13 : OkE cX8_more RX8 "more" 3 2 false (13, .iload 2, 14, []) := (r_iload_n dX8_more_13 rfl).row
theorem o124_14 : OkE cX8_more RX8 "more" 3 2 false (14, .ifCond .lt 23, 17, []) := (r_if_lt dX8_more_14 rfl).row
theorem o124_17 : OkE cX8_more RX8 "more" 3 2 false (17, .iload 2, 18, []) := (r_iload_n dX8_more_17 rfl).row
theorem o124_18 : OkE cX8_more RX8 "more" 3 2 false (18, .iconst 63, 20, []) := (r_bipush dX8_more_18 rfl).row
theorem o124_20 : OkE cX8_more RX8 "more" 3 2 false (20, .if_icmp .le 28, 23, []) := (r_icmp_le dX8_more_20 rfl).row
theorem o124_23 : OkE cX8_more RX8 "more" 3 2 false (23, .iconst (-2), 25, [0, 1, 2]) := (r_bipush dX8_more_23 rfl).row
theorem o124_25 : OkE cX8_more RX8 "more" 3 2 false (25, .goto 37, 28, []) := (r_goto dX8_more_25 rfl).row
theorem o124_28 : OkE cX8_more RX8 "more" 3 2 false (28, .aload 0, 29, []) := (r_aload_n dX8_more_28 rfl).row
theorem o124_29 : OkE cX8_more RX8 "more" 3 2 false (29, .invokeinterface 8 5, 32, []) := (r_get (C := RX8) (T := TX8) (N := 11) (ci := 8) (j := 5) (ref := RX8) dX8_more_29 rfl inX8 (by decide) wd_393 rfl).row
theorem o124_32 : OkE cX8_more RX8 "more" 3 2 false (32, .iload 1, 33, []) := (r_iload_n dX8_more_32 rfl).row
theorem o124_33 : OkE cX8_more RX8 "more" 3 2 false (33, .iload 2, 34, []) := (r_iload_n dX8_more_33 rfl).row
theorem o124_34 : OkE cX8_more RX8 "more" 3 2 false (34, .invokevirtual 25, 37, []) := ⟨rfl, c_V dX8_more_34 wd_783 wd_784 wd_785 wd_70 wd_786 nmh_1⟩
theorem o124_37 : OkE cX8_more RX8 "more" 3 2 false (37, .ireturn, 38, [0, 1, 2]) := dX8_more_37
theorem ok124 : ∀ x ∈ k124, OkE cX8_more RX8 "more" 3 2 false x := List.forall_mem_cons.mpr ⟨o124_0, List.forall_mem_cons.mpr ⟨o124_1, List.forall_mem_cons.mpr ⟨o124_4, List.forall_mem_cons.mpr ⟨o124_5, List.forall_mem_cons.mpr ⟨o124_8, List.forall_mem_cons.mpr ⟨o124_11, List.forall_mem_cons.mpr ⟨o124_12, List.forall_mem_cons.mpr ⟨o124_13, List.forall_mem_cons.mpr ⟨o124_14, List.forall_mem_cons.mpr ⟨o124_17, List.forall_mem_cons.mpr ⟨o124_18, List.forall_mem_cons.mpr ⟨o124_20, List.forall_mem_cons.mpr ⟨o124_23, List.forall_mem_cons.mpr ⟨o124_25, List.forall_mem_cons.mpr ⟨o124_28, List.forall_mem_cons.mpr ⟨o124_29, List.forall_mem_cons.mpr ⟨o124_32, List.forall_mem_cons.mpr ⟨o124_33, List.forall_mem_cons.mpr ⟨o124_34, List.forall_mem_cons.mpr ⟨o124_37, fun _ h => absurd h List.not_mem_nil⟩⟩⟩⟩⟩⟩⟩⟩⟩⟩⟩⟩⟩⟩⟩⟩⟩⟩⟩⟩
theorem o125_0 : OkE cX8_van RX8 "van" 5 2 false (0, .iload 1, 1, []) := (r_iload_n dX8_van_0 rfl).row
theorem o125_1 : OkE cX8_van RX8 "van" 5 2 false (1, .invokestatic 143, 4, []) := ⟨rfl, c_S dX8_van_1 wd_561 wd_382 wd_64 wd_383 nmh_8⟩
theorem o125_4 : OkE cX8_van RX8 "van" 5 2 false (4, .ifCond .eq 15, 7, []) := (r_if_eq dX8_van_4 rfl).row
theorem o125_7 : OkE cX8_van RX8 "van" 5 2 false (7, .iload 2, 8, []) := (r_iload_n dX8_van_7 rfl).row
theorem o125_8 : OkE cX8_van RX8 "van" 5 2 false (8, .iload 3, 9, []) := (r_iload_n dX8_van_8 rfl).row
theorem o125_9 : OkE cX8_van RX8 "van" 5 2 false (9, .invokestatic 20, 12, []) := ⟨rfl, c_S dX8_van_9 wd_791 wd_792 wd_70 wd_793 nmh_1⟩
theorem o125_12 : OkE cX8_van RX8 "van" 5 2 false (12, .ifCond .ne 18, 15, []) := (r_if_ne dX8_van_12 rfl).row
theorem o125_15 : OkE cX8_van RX8 "van" 5 2 false (15, .iconst (-2), 17, [0, 1, 2, 3]) := (r_bipush dX8_van_15 rfl).row
theorem o125_17 : OkE cX8_van RX8 "van" 5 2 false (17, .ireturn, 18, []) := dX8_van_17
theorem o125_18 : OkE cX8_van RX8 "van" 5 2 false (18, .aload 0, 19, []) := (r_aload_n dX8_van_18 rfl).row
theorem o125_19 : OkE cX8_van RX8 "van" 5 2 false (19, .invokeinterface 8 5, 22, []) := (r_get (C := RX8) (T := TX8) (N := 11) (ci := 8) (j := 5) (ref := RX8) dX8_van_19 rfl inX8 (by decide) wd_393 rfl).row
theorem o125_22 : OkE cX8_van RX8 "van" 5 2 false (22, .invokeinterface 1 7, 25, []) := (r_getN (C := RX1) (T := TX1) (N := 11) (ci := 1) (j := 7) (ref := RX1) dX8_van_22 rfl inX1 (by decide) wd_210 rfl).row
theorem o125_25 : OkE cX8_van RX8 "van" 5 2 false (25, .istore 4, 27, []) := (r_istore dX8_van_25).row
theorem o125_27 : OkE cX8_van RX8 "van" 5 2 false (27, .aload 0, 28, []) := (r_aload_n dX8_van_27 rfl).row
theorem o125_28 : OkE cX8_van RX8 "van" 5 2 false (28, .invokeinterface 8 5, 31, []) := (r_get (C := RX8) (T := TX8) (N := 11) (ci := 8) (j := 5) (ref := RX8) dX8_van_28 rfl inX8 (by decide) wd_393 rfl).row
theorem o125_31 : OkE cX8_van RX8 "van" 5 2 false (31, .iload 1, 32, []) := (r_iload_n dX8_van_31 rfl).row
theorem o125_32 : OkE cX8_van RX8 "van" 5 2 false (32, .multianewarray 1 7, 35, []) := r_putNI (C := RX1) (T := TX1) (N := 11) (ci := 1) (j := 7) (ref := RX1) dX8_van_32 rfl inX1 tyX1 tyX1_ok nmX1 (by decide) wd_210 rfl rfl (tyX1_ok 7 (by decide)) rfl
theorem o125_35 : OkE cX8_van RX8 "van" 5 2 false (35, .aload 0, 36, []) := (r_aload_n dX8_van_35 rfl).row
theorem o125_36 : OkE cX8_van RX8 "van" 5 2 false (36, .invokeinterface 8 5, 39, []) := (r_get (C := RX8) (T := TX8) (N := 11) (ci := 8) (j := 5) (ref := RX8) dX8_van_36 rfl inX8 (by decide) wd_393 rfl).row
theorem o125_39 : OkE cX8_van RX8 "van" 5 2 false (39, .iload 2, 40, []) := (r_iload_n dX8_van_39 rfl).row
theorem o125_40 : OkE cX8_van RX8 "van" 5 2 false (40, .multianewarray 1 8, 43, []) := r_putNI (C := RX1) (T := TX1) (N := 11) (ci := 1) (j := 8) (ref := RX1) dX8_van_40 rfl inX1 tyX1 tyX1_ok nmX1 (by decide) wd_213 rfl rfl (tyX1_ok 8 (by decide)) rfl
theorem o125_43 : OkE cX8_van RX8 "van" 5 2 false (43, .aload 0, 44, []) := (r_aload_n dX8_van_43 rfl).row
theorem o125_44 : OkE cX8_van RX8 "van" 5 2 false (44, .invokeinterface 8 5, 47, []) := (r_get (C := RX8) (T := TX8) (N := 11) (ci := 8) (j := 5) (ref := RX8) dX8_van_44 rfl inX8 (by decide) wd_393 rfl).row
theorem o125_47 : OkE cX8_van RX8 "van" 5 2 false (47, .iload 3, 48, []) := (r_iload_n dX8_van_47 rfl).row
theorem o125_48 : OkE cX8_van RX8 "van" 5 2 false (48, .multianewarray 1 9, 51, []) := r_putNI (C := RX1) (T := TX1) (N := 11) (ci := 1) (j := 9) (ref := RX1) dX8_van_48 rfl inX1 tyX1 tyX1_ok nmX1 (by decide) wd_216 rfl rfl (tyX1_ok 9 (by decide)) rfl
theorem o125_51 : OkE cX8_van RX8 "van" 5 2 false (51, .iload 4, 53, []) := (r_iload dX8_van_51).row
theorem o125_53 : OkE cX8_van RX8 "van" 5 2 false (53, .ireturn, 54, []) := dX8_van_53
theorem ok125 : ∀ x ∈ k125, OkE cX8_van RX8 "van" 5 2 false x := List.forall_mem_cons.mpr ⟨o125_0, List.forall_mem_cons.mpr ⟨o125_1, List.forall_mem_cons.mpr ⟨o125_4, List.forall_mem_cons.mpr ⟨o125_7, List.forall_mem_cons.mpr ⟨o125_8, List.forall_mem_cons.mpr ⟨o125_9, List.forall_mem_cons.mpr ⟨o125_12, List.forall_mem_cons.mpr ⟨o125_15, List.forall_mem_cons.mpr ⟨o125_17, List.forall_mem_cons.mpr ⟨o125_18, List.forall_mem_cons.mpr ⟨o125_19, List.forall_mem_cons.mpr ⟨o125_22, List.forall_mem_cons.mpr ⟨o125_25, List.forall_mem_cons.mpr ⟨o125_27, List.forall_mem_cons.mpr ⟨o125_28, List.forall_mem_cons.mpr ⟨o125_31, List.forall_mem_cons.mpr ⟨o125_32, List.forall_mem_cons.mpr ⟨o125_35, List.forall_mem_cons.mpr ⟨o125_36, List.forall_mem_cons.mpr ⟨o125_39, List.forall_mem_cons.mpr ⟨o125_40, List.forall_mem_cons.mpr ⟨o125_43, List.forall_mem_cons.mpr ⟨o125_44, List.forall_mem_cons.mpr ⟨o125_47, List.forall_mem_cons.mpr ⟨o125_48, List.forall_mem_cons.mpr ⟨o125_51, List.forall_mem_cons.mpr ⟨o125_53, fun _ h => absurd h List.not_mem_nil⟩⟩⟩⟩⟩⟩⟩⟩⟩⟩⟩⟩⟩⟩⟩⟩⟩⟩⟩⟩⟩⟩⟩⟩⟩⟩⟩
theorem o126_0 : OkE cX8_order RX8 "order" 4 1 false (0, .iload 1, 1, []) := (r_iload_n dX8_order_0 rfl).row
theorem o126_1 : OkE cX8_order RX8 "order" 4 1 false (1, .invokestatic 141, 4, []) := ⟨rfl, c_S dX8_order_1 wd_801 wd_795 wd_64 wd_796 nmh_8⟩
theorem o126_4 : OkE cX8_order RX8 "order" 4 1 false (4, .ifCond .eq 18, 7, []) := (r_if_eq dX8_order_4 rfl).row
theorem o126_7 : OkE cX8_order RX8 "order" 4 1 false (7, .aload 0, 8, []) := (r_aload_n dX8_order_7 rfl).row
theorem o126_8 : OkE cX8_order RX8 "order" 4 1 false (8, .invokeinterface 8 9, 11, []) := (r_get (C := RX8) (T := TX8) (N := 11) (ci := 8) (j := 9) (ref := RX8) dX8_order_8 rfl inX8 (by decide) wd_397 rfl).row
theorem o126_11 : OkE cX8_order RX8 "order" 4 1 false (11, .iload 2, 12, []) := (r_iload_n dX8_order_11 rfl).row
theorem o126_12 : OkE cX8_order RX8 "order" 4 1 false (12, .invokevirtual 82, 15, []) := ⟨rfl, c_V dX8_order_12 wd_540 wd_516 wd_517 wd_73 wd_518 nmh_6⟩
theorem o126_15 : OkE cX8_order RX8 "order" 4 1 false (15, .ifCond .ne 20, 18, []) := (r_if_ne dX8_order_15 rfl).row
theorem o126_18 : OkE cX8_order RX8 "order" 4 1 false (18, .iconst (-1), 19, [0, 1, 2, 3]) := (r_iconst dX8_order_18 rfl).row
theorem o126_19 : OkE cX8_order RX8 "order" 4 1 false (19, .ireturn, 20, []) := dX8_order_19
theorem o126_20 : OkE cX8_order RX8 "order" 4 1 false (20, .iload 3, 21, []) := (r_iload_n dX8_order_20 rfl).row
theorem o126_21 : OkE cX8_order RX8 "order" 4 1 false (21, .iconst 1, 22, []) := (r_iconst dX8_order_21 rfl).row
theorem o126_22 : OkE cX8_order RX8 "order" 4 1 false (22, .if_icmp .lt 31, 25, []) := (r_icmp_lt dX8_order_22 rfl).row
theorem o126_25 : OkE cX8_order RX8 "order" 4 1 false (25, .iload 3, 26, []) := (r_iload_n dX8_order_25 rfl).row
theorem o126_26 : OkE cX8_order RX8 "order" 4 1 false (26, .iconst 20, 28, []) := (r_bipush dX8_order_26 rfl).row
theorem o126_28 : OkE cX8_order RX8 "order" 4 1 false (28, .if_icmp .le 34, 31, []) := (r_icmp_le dX8_order_28 rfl).row
theorem o126_31 : OkE cX8_order RX8 "order" 4 1 false (31, .iconst (-2), 33, [0, 1, 2, 3]) := (r_bipush dX8_order_31 rfl).row
theorem o126_33 : OkE cX8_order RX8 "order" 4 1 false (33, .ireturn, 34, []) := dX8_order_33
theorem o126_34 : OkE cX8_order RX8 "order" 4 1 false (34, .aload 0, 35, []) := (r_aload_n dX8_order_34 rfl).row
theorem o126_35 : OkE cX8_order RX8 "order" 4 1 false (35, .invokeinterface 8 5, 38, []) := (r_get (C := RX8) (T := TX8) (N := 11) (ci := 8) (j := 5) (ref := RX8) dX8_order_35 rfl inX8 (by decide) wd_393 rfl).row
theorem o126_38 : OkE cX8_order RX8 "order" 4 1 false (38, .iload 1, 39, []) := (r_iload_n dX8_order_38 rfl).row
theorem o126_39 : OkE cX8_order RX8 "order" 4 1 false (39, .iload 2, 40, []) := (r_iload_n dX8_order_39 rfl).row
theorem o126_40 : OkE cX8_order RX8 "order" 4 1 false (40, .iload 3, 41, []) := (r_iload_n dX8_order_40 rfl).row
theorem o126_41 : OkE cX8_order RX8 "order" 4 1 false (41, .invokevirtual 26, 44, []) := ⟨rfl, c_V dX8_order_41 wd_802 wd_803 wd_804 wd_70 wd_805 nmh_1⟩
theorem o126_44 : OkE cX8_order RX8 "order" 4 1 false (44, .ifCond .eq 59, 47, []) := (r_if_eq dX8_order_44 rfl).row
theorem o126_47 : OkE cX8_order RX8 "order" 4 1 false (47, .aload 0, 48, []) := (r_aload_n dX8_order_47 rfl).row
theorem o126_48 : OkE cX8_order RX8 "order" 4 1 false (48, .invokeinterface 8 5, 51, []) := (r_get (C := RX8) (T := TX8) (N := 11) (ci := 8) (j := 5) (ref := RX8) dX8_order_48 rfl inX8 (by decide) wd_393 rfl).row
theorem o126_51 : OkE cX8_order RX8 "order" 4 1 false (51, .invokeinterface 1 10, 54, []) := (r_getN (C := RX1) (T := TX1) (N := 11) (ci := 1) (j := 10) (ref := RX1) dX8_order_51 rfl inX1 (by decide) wd_219 rfl).row
theorem o126_54 : OkE cX8_order RX8 "order" 4 1 false (54, .iconst 1, 55, []) := (r_iconst dX8_order_54 rfl).row
theorem o126_55 : OkE cX8_order RX8 "order" 4 1 false (55, .isub, 56, []) := (r_isub dX8_order_55).row
theorem o126_56 : OkE cX8_order RX8 "order" 4 1 false (56, .goto 61, 59, []) := (r_goto dX8_order_56 rfl).row
theorem o126_59 : OkE cX8_order RX8 "order" 4 1 false (59, .iconst (-4), 61, []) := (r_bipush dX8_order_59 rfl).row
theorem o126_61 : OkE cX8_order RX8 "order" 4 1 false (61, .ireturn, 62, [0, 1, 2, 3]) := dX8_order_61
theorem ok126 : ∀ x ∈ k126, OkE cX8_order RX8 "order" 4 1 false x := List.forall_mem_cons.mpr ⟨o126_0, List.forall_mem_cons.mpr ⟨o126_1, List.forall_mem_cons.mpr ⟨o126_4, List.forall_mem_cons.mpr ⟨o126_7, List.forall_mem_cons.mpr ⟨o126_8, List.forall_mem_cons.mpr ⟨o126_11, List.forall_mem_cons.mpr ⟨o126_12, List.forall_mem_cons.mpr ⟨o126_15, List.forall_mem_cons.mpr ⟨o126_18, List.forall_mem_cons.mpr ⟨o126_19, List.forall_mem_cons.mpr ⟨o126_20, List.forall_mem_cons.mpr ⟨o126_21, List.forall_mem_cons.mpr ⟨o126_22, List.forall_mem_cons.mpr ⟨o126_25, List.forall_mem_cons.mpr ⟨o126_26, List.forall_mem_cons.mpr ⟨o126_28, List.forall_mem_cons.mpr ⟨o126_31, List.forall_mem_cons.mpr ⟨o126_33, List.forall_mem_cons.mpr ⟨o126_34, List.forall_mem_cons.mpr ⟨o126_35, List.forall_mem_cons.mpr ⟨o126_38, List.forall_mem_cons.mpr ⟨o126_39, List.forall_mem_cons.mpr ⟨o126_40, List.forall_mem_cons.mpr ⟨o126_41, List.forall_mem_cons.mpr ⟨o126_44, List.forall_mem_cons.mpr ⟨o126_47, List.forall_mem_cons.mpr ⟨o126_48, List.forall_mem_cons.mpr ⟨o126_51, List.forall_mem_cons.mpr ⟨o126_54, List.forall_mem_cons.mpr ⟨o126_55, List.forall_mem_cons.mpr ⟨o126_56, List.forall_mem_cons.mpr ⟨o126_59, List.forall_mem_cons.mpr ⟨o126_61, fun _ h => absurd h List.not_mem_nil⟩⟩⟩⟩⟩⟩⟩⟩⟩⟩⟩⟩⟩⟩⟩⟩⟩⟩⟩⟩⟩⟩⟩⟩⟩⟩⟩⟩⟩⟩⟩⟩⟩
theorem o127_0 : OkE cX8_unorder RX8 "unorder" 2 0 false (0, .aload 0, 1, []) := (r_aload_n dX8_unorder_0 rfl).row
theorem o127_1 : OkE cX8_unorder RX8 "unorder" 2 0 false (1, .invokeinterface 8 5, 4, []) := (r_get (C := RX8) (T := TX8) (N := 11) (ci := 8) (j := 5) (ref := RX8) dX8_unorder_1 rfl inX8 (by decide) wd_393 rfl).row
theorem o127_4 : OkE cX8_unorder RX8 "unorder" 2 0 false (4, .invokeinterface 1 10, 7, []) := (r_getN (C := RX1) (T := TX1) (N := 11) (ci := 1) (j := 10) (ref := RX1) dX8_unorder_4 rfl inX1 (by decide) wd_219 rfl).row
theorem o127_7 : OkE cX8_unorder RX8 "unorder" 2 0 false (7, .istore 1, 8, []) := (r_istore_n dX8_unorder_7 rfl).row
theorem o127_8 : OkE cX8_unorder RX8 "unorder" 2 0 false (8, .aload 0, 9, []) := (r_aload_n dX8_unorder_8 rfl).row
theorem o127_9 : OkE cX8_unorder RX8 "unorder" 2 0 false (9, .invokeinterface 8 5, 12, []) := (r_get (C := RX8) (T := TX8) (N := 11) (ci := 8) (j := 5) (ref := RX8) dX8_unorder_9 rfl inX8 (by decide) wd_393 rfl).row
theorem o127_12 : OkE cX8_unorder RX8 "unorder" 2 0 false (12, .iconst 0, 13, []) := (r_iconst dX8_unorder_12 rfl).row
theorem o127_13 : OkE cX8_unorder RX8 "unorder" 2 0 false (13, .multianewarray 1 10, 16, []) := r_putNI (C := RX1) (T := TX1) (N := 11) (ci := 1) (j := 10) (ref := RX1) dX8_unorder_13 rfl inX1 tyX1 tyX1_ok nmX1 (by decide) wd_219 rfl rfl (tyX1_ok 10 (by decide)) rfl
theorem o127_16 : OkE cX8_unorder RX8 "unorder" 2 0 false (16, .iload 1, 17, []) := (r_iload_n dX8_unorder_16 rfl).row
theorem o127_17 : OkE cX8_unorder RX8 "unorder" 2 0 false (17, .ireturn, 18, []) := dX8_unorder_17
theorem ok127 : ∀ x ∈ k127, OkE cX8_unorder RX8 "unorder" 2 0 false x := List.forall_mem_cons.mpr ⟨o127_0, List.forall_mem_cons.mpr ⟨o127_1, List.forall_mem_cons.mpr ⟨o127_4, List.forall_mem_cons.mpr ⟨o127_7, List.forall_mem_cons.mpr ⟨o127_8, List.forall_mem_cons.mpr ⟨o127_9, List.forall_mem_cons.mpr ⟨o127_12, List.forall_mem_cons.mpr ⟨o127_13, List.forall_mem_cons.mpr ⟨o127_16, List.forall_mem_cons.mpr ⟨o127_17, fun _ h => absurd h List.not_mem_nil⟩⟩⟩⟩⟩⟩⟩⟩⟩⟩
theorem o128_0 : OkE cX8_morning RX8 "morning" 4 6 false (0, .aload 0, 1, []) := (r_aload_n dX8_morning_0 rfl).row
theorem o128_1 : OkE cX8_morning RX8 "morning" 4 6 false (1, .invokeinterface 8 9, 4, []) := (r_get (C := RX8) (T := TX8) (N := 11) (ci := 8) (j := 9) (ref := RX8) dX8_morning_1 rfl inX8 (by decide) wd_397 rfl).row
theorem o128_4 : OkE cX8_morning RX8 "morning" 4 6 false (4, .iload 1, 5, []) := (r_iload_n dX8_morning_4 rfl).row
theorem o128_5 : OkE cX8_morning RX8 "morning" 4 6 false (5, .invokevirtual 82, 8, []) := ⟨rfl, c_V dX8_morning_5 wd_540 wd_516 wd_517 wd_73 wd_518 nmh_6⟩
theorem o128_8 : OkE cX8_morning RX8 "morning" 4 6 false (8, .ifCond .eq 18, 11, []) := (r_if_eq dX8_morning_8 rfl).row
theorem o128_11 : OkE cX8_morning RX8 "morning" 4 6 false (11, .iload 2, 12, []) := (r_iload_n dX8_morning_11 rfl).row
theorem o128_12 : OkE cX8_morning RX8 "morning" 4 6 false (12, .invokestatic 141, 15, []) := ⟨rfl, c_S dX8_morning_12 wd_801 wd_795 wd_64 wd_796 nmh_8⟩
theorem o128_15 : OkE cX8_morning RX8 "morning" 4 6 false (15, .ifCond .ne 20, 18, []) := (r_if_ne dX8_morning_15 rfl).row
theorem o128_18 : OkE cX8_morning RX8 "morning" 4 6 false (18, .iconst (-1), 19, [0, 1, 2, 3]) := (r_iconst dX8_morning_18 rfl).row
theorem o128_19 : OkE cX8_morning RX8 "morning" 4 6 false (19, .ireturn, 20, []) := dX8_morning_19
theorem o128_20 : OkE cX8_morning RX8 "morning" 4 6 false (20, .iload 3, 21, []) := (r_iload_n dX8_morning_20 rfl).row
theorem o128_21 : OkE cX8_morning RX8 "morning" 4 6 false (21, .ifCond .lt 29, 24, []) := (r_if_lt dX8_morning_21 rfl).row
theorem o128_24 : OkE cX8_morning RX8 "morning" 4 6 false (24, .iload 3, 25, []) := (r_iload_n dX8_morning_24 rfl).row
theorem o128_25 : OkE cX8_morning RX8 "morning" 4 6 false (25, .iconst 3, 26, []) := (r_iconst dX8_morning_25 rfl).row
theorem o128_26 : OkE cX8_morning RX8 "morning" 4 6 false (26, .if_icmp .le 32, 29, []) := (r_icmp_le dX8_morning_26 rfl).row
theorem o128_29 : OkE cX8_morning RX8 "morning" 4 6 false (29, .iconst (-2), 31, [0, 1, 2, 3]) := (r_bipush dX8_morning_29 rfl).row
theorem o128_31 : OkE cX8_morning RX8 "morning" 4 6 false (31, .ireturn, 32, []) := dX8_morning_31
theorem o128_32 : OkE cX8_morning RX8 "morning" 4 6 false (32, .aload 0, 33, []) := (r_aload_n dX8_morning_32 rfl).row
theorem o128_33 : OkE cX8_morning RX8 "morning" 4 6 false (33, .invokeinterface 8 6, 36, []) := (r_get (C := RX8) (T := TX8) (N := 11) (ci := 8) (j := 6) (ref := RX8) dX8_morning_33 rfl inX8 (by decide) wd_394 rfl).row
theorem o128_36 : OkE cX8_morning RX8 "morning" 4 6 false (36, .aload 0, 37, []) := (r_aload_n dX8_morning_36 rfl).row
theorem o128_37 : OkE cX8_morning RX8 "morning" 4 6 false (37, .invokeinterface 8 9, 40, []) := (r_get (C := RX8) (T := TX8) (N := 11) (ci := 8) (j := 9) (ref := RX8) dX8_morning_37 rfl inX8 (by decide) wd_397 rfl).row
theorem o128_40 : OkE cX8_morning RX8 "morning" 4 6 false (40, .aload 0, 41, []) := (r_aload_n dX8_morning_40 rfl).row
theorem o128_41 : OkE cX8_morning RX8 "morning" 4 6 false (41, .invokeinterface 8 5, 44, []) := (r_get (C := RX8) (T := TX8) (N := 11) (ci := 8) (j := 5) (ref := RX8) dX8_morning_41 rfl inX8 (by decide) wd_393 rfl).row
theorem o128_44 : OkE cX8_morning RX8 "morning" 4 6 false (44, .invokevirtual 45, 47, []) := ⟨rfl, c_V dX8_morning_44 wd_814 wd_815 wd_816 wd_72 wd_817 nmh_3⟩
theorem o128_47 : OkE cX8_morning RX8 "morning" 4 6 false (47, .aload 0, 48, []) := (r_aload_n dX8_morning_47 rfl).row
theorem o128_48 : OkE cX8_morning RX8 "morning" 4 6 false (48, .invokeinterface 8 6, 51, []) := (r_get (C := RX8) (T := TX8) (N := 11) (ci := 8) (j := 6) (ref := RX8) dX8_morning_48 rfl inX8 (by decide) wd_394 rfl).row
theorem o128_51 : OkE cX8_morning RX8 "morning" 4 6 false (51, .iload 1, 52, []) := (r_iload_n dX8_morning_51 rfl).row
theorem o128_52 : OkE cX8_morning RX8 "morning" 4 6 false (52, .iload 2, 53, []) := (r_iload_n dX8_morning_52 rfl).row
theorem o128_53 : OkE cX8_morning RX8 "morning" 4 6 false (53, .iload 3, 54, []) := (r_iload_n dX8_morning_53 rfl).row
theorem o128_54 : OkE cX8_morning RX8 "morning" 4 6 false (54, .invokevirtual 56, 57, []) := ⟨rfl, c_V dX8_morning_54 wd_867 wd_868 wd_869 wd_72 wd_870 nmh_3⟩
theorem o128_57 : OkE cX8_morning RX8 "morning" 4 6 false (57, .ireturn, 58, []) := dX8_morning_57
theorem ok128 : ∀ x ∈ k128, OkE cX8_morning RX8 "morning" 4 6 false x := List.forall_mem_cons.mpr ⟨o128_0, List.forall_mem_cons.mpr ⟨o128_1, List.forall_mem_cons.mpr ⟨o128_4, List.forall_mem_cons.mpr ⟨o128_5, List.forall_mem_cons.mpr ⟨o128_8, List.forall_mem_cons.mpr ⟨o128_11, List.forall_mem_cons.mpr ⟨o128_12, List.forall_mem_cons.mpr ⟨o128_15, List.forall_mem_cons.mpr ⟨o128_18, List.forall_mem_cons.mpr ⟨o128_19, List.forall_mem_cons.mpr ⟨o128_20, List.forall_mem_cons.mpr ⟨o128_21, List.forall_mem_cons.mpr ⟨o128_24, List.forall_mem_cons.mpr ⟨o128_25, List.forall_mem_cons.mpr ⟨o128_26, List.forall_mem_cons.mpr ⟨o128_29, List.forall_mem_cons.mpr ⟨o128_31, List.forall_mem_cons.mpr ⟨o128_32, List.forall_mem_cons.mpr ⟨o128_33, List.forall_mem_cons.mpr ⟨o128_36, List.forall_mem_cons.mpr ⟨o128_37, List.forall_mem_cons.mpr ⟨o128_40, List.forall_mem_cons.mpr ⟨o128_41, List.forall_mem_cons.mpr ⟨o128_44, List.forall_mem_cons.mpr ⟨o128_47, List.forall_mem_cons.mpr ⟨o128_48, List.forall_mem_cons.mpr ⟨o128_51, List.forall_mem_cons.mpr ⟨o128_52, List.forall_mem_cons.mpr ⟨o128_53, List.forall_mem_cons.mpr ⟨o128_54, List.forall_mem_cons.mpr ⟨o128_57, fun _ h => absurd h List.not_mem_nil⟩⟩⟩⟩⟩⟩⟩⟩⟩⟩⟩⟩⟩⟩⟩⟩⟩⟩⟩⟩⟩⟩⟩⟩⟩⟩⟩⟩⟩⟩⟩
theorem o129_0 : OkE cX8_ended RX8 "ended" 2 6 false (0, .iload 1, 1, []) := (r_iload_n dX8_ended_0 rfl).row
theorem o129_1 : OkE cX8_ended RX8 "ended" 2 6 false (1, .ifCond .lt 9, 4, []) := (r_if_lt dX8_ended_1 rfl).row
theorem o129_4 : OkE cX8_ended RX8 "ended" 2 6 false (4, .iload 1, 5, []) := (r_iload_n dX8_ended_4 rfl).row
theorem o129_5 : OkE cX8_ended RX8 "ended" 2 6 false (5, .iconst 4, 6, []) := (r_iconst dX8_ended_5 rfl).row
theorem o129_6 : OkE cX8_ended RX8 "ended" 2 6 false (6, .if_icmp .le 12, 9, []) := (r_icmp_le dX8_ended_6 rfl).row
theorem o129_9 : OkE cX8_ended RX8 "ended" 2 6 false (9, .iconst (-2), 11, [0, 1]) := (r_bipush dX8_ended_9 rfl).row
theorem o129_11 : OkE cX8_ended RX8 "ended" 2 6 false (11, .ireturn, 12, []) := dX8_ended_11
theorem o129_12 : OkE cX8_ended RX8 "ended" 2 6 false (12, .aload 0, 13, []) := (r_aload_n dX8_ended_12 rfl).row
theorem o129_13 : OkE cX8_ended RX8 "ended" 2 6 false (13, .invokeinterface 8 6, 16, []) := (r_get (C := RX8) (T := TX8) (N := 11) (ci := 8) (j := 6) (ref := RX8) dX8_ended_13 rfl inX8 (by decide) wd_394 rfl).row
theorem o129_16 : OkE cX8_ended RX8 "ended" 2 6 false (16, .aload 0, 17, []) := (r_aload_n dX8_ended_16 rfl).row
theorem o129_17 : OkE cX8_ended RX8 "ended" 2 6 false (17, .invokeinterface 8 9, 20, []) := (r_get (C := RX8) (T := TX8) (N := 11) (ci := 8) (j := 9) (ref := RX8) dX8_ended_17 rfl inX8 (by decide) wd_397 rfl).row
theorem o129_20 : OkE cX8_ended RX8 "ended" 2 6 false (20, .aload 0, 21, []) := (r_aload_n dX8_ended_20 rfl).row
theorem o129_21 : OkE cX8_ended RX8 "ended" 2 6 false (21, .invokeinterface 8 5, 24, []) := (r_get (C := RX8) (T := TX8) (N := 11) (ci := 8) (j := 5) (ref := RX8) dX8_ended_21 rfl inX8 (by decide) wd_393 rfl).row
theorem o129_24 : OkE cX8_ended RX8 "ended" 2 6 false (24, .invokevirtual 45, 27, []) := ⟨rfl, c_V dX8_ended_24 wd_814 wd_815 wd_816 wd_72 wd_817 nmh_3⟩
theorem o129_27 : OkE cX8_ended RX8 "ended" 2 6 false (27, .iload 1, 28, []) := (r_iload_n dX8_ended_27 rfl).row
theorem o129_28 : OkE cX8_ended RX8 "ended" 2 6 false (28, .tableswitch 92 0 3 #[60, 68, 76, 84], 60, []) := (r_tsw dX8_ended_28 rfl rfl rfl (by decide) rfl).row
theorem o129_60 : OkE cX8_ended RX8 "ended" 2 6 false (60, .aload 0, 61, []) := (r_aload_n dX8_ended_60 rfl).row
theorem o129_61 : OkE cX8_ended RX8 "ended" 2 6 false (61, .invokeinterface 8 6, 64, []) := (r_get (C := RX8) (T := TX8) (N := 11) (ci := 8) (j := 6) (ref := RX8) dX8_ended_61 rfl inX8 (by decide) wd_394 rfl).row
theorem o129_64 : OkE cX8_ended RX8 "ended" 2 6 false (64, .invokevirtual 59, 67, []) := ⟨rfl, c_V dX8_ended_64 wd_875 wd_876 wd_877 wd_72 wd_878 nmh_3⟩
theorem o129_67 : OkE cX8_ended RX8 "ended" 2 6 false (67, .ireturn, 68, []) := dX8_ended_67
theorem o129_68 : OkE cX8_ended RX8 "ended" 2 6 false (68, .aload 0, 69, []) := (r_aload_n dX8_ended_68 rfl).row
theorem o129_69 : OkE cX8_ended RX8 "ended" 2 6 false (69, .invokeinterface 8 6, 72, []) := (r_get (C := RX8) (T := TX8) (N := 11) (ci := 8) (j := 6) (ref := RX8) dX8_ended_69 rfl inX8 (by decide) wd_394 rfl).row
theorem o129_72 : OkE cX8_ended RX8 "ended" 2 6 false (72, .invokevirtual 60, 75, []) := ⟨rfl, c_V dX8_ended_72 wd_879 wd_880 wd_881 wd_72 wd_882 nmh_3⟩
theorem o129_75 : OkE cX8_ended RX8 "ended" 2 6 false (75, .ireturn, 76, []) := dX8_ended_75
theorem o129_76 : OkE cX8_ended RX8 "ended" 2 6 false (76, .aload 0, 77, []) := (r_aload_n dX8_ended_76 rfl).row
theorem o129_77 : OkE cX8_ended RX8 "ended" 2 6 false (77, .invokeinterface 8 6, 80, []) := (r_get (C := RX8) (T := TX8) (N := 11) (ci := 8) (j := 6) (ref := RX8) dX8_ended_77 rfl inX8 (by decide) wd_394 rfl).row
theorem o129_80 : OkE cX8_ended RX8 "ended" 2 6 false (80, .invokevirtual 61, 83, []) := ⟨rfl, c_V dX8_ended_80 wd_883 wd_884 wd_885 wd_72 wd_886 nmh_3⟩
theorem o129_83 : OkE cX8_ended RX8 "ended" 2 6 false (83, .ireturn, 84, []) := dX8_ended_83
theorem o129_84 : OkE cX8_ended RX8 "ended" 2 6 false (84, .aload 0, 85, []) := (r_aload_n dX8_ended_84 rfl).row
theorem o129_85 : OkE cX8_ended RX8 "ended" 2 6 false (85, .invokeinterface 8 6, 88, []) := (r_get (C := RX8) (T := TX8) (N := 11) (ci := 8) (j := 6) (ref := RX8) dX8_ended_85 rfl inX8 (by decide) wd_394 rfl).row
theorem o129_88 : OkE cX8_ended RX8 "ended" 2 6 false (88, .invokevirtual 62, 91, []) := ⟨rfl, c_V dX8_ended_88 wd_887 wd_888 wd_889 wd_72 wd_890 nmh_3⟩
theorem o129_91 : OkE cX8_ended RX8 "ended" 2 6 false (91, .ireturn, 92, []) := dX8_ended_91
theorem o129_92 : OkE cX8_ended RX8 "ended" 2 6 false (92, .aload 0, 93, []) := (r_aload_n dX8_ended_92 rfl).row
theorem o129_93 : OkE cX8_ended RX8 "ended" 2 6 false (93, .invokeinterface 8 6, 96, []) := (r_get (C := RX8) (T := TX8) (N := 11) (ci := 8) (j := 6) (ref := RX8) dX8_ended_93 rfl inX8 (by decide) wd_394 rfl).row
theorem o129_96 : OkE cX8_ended RX8 "ended" 2 6 false (96, .aload 0, 97, []) := (r_aload_n dX8_ended_96 rfl).row
theorem o129_97 : OkE cX8_ended RX8 "ended" 2 6 false (97, .invokeinterface 8 9, 100, []) := (r_get (C := RX8) (T := TX8) (N := 11) (ci := 8) (j := 9) (ref := RX8) dX8_ended_97 rfl inX8 (by decide) wd_397 rfl).row
theorem o129_100 : OkE cX8_ended RX8 "ended" 2 6 false (100, .aload 0, 101, []) := (r_aload_n dX8_ended_100 rfl).row
theorem o129_101 : OkE cX8_ended RX8 "ended" 2 6 false (101, .invokeinterface 8 5, 104, []) := (r_get (C := RX8) (T := TX8) (N := 11) (ci := 8) (j := 5) (ref := RX8) dX8_ended_101 rfl inX8 (by decide) wd_393 rfl).row
theorem o129_104 : OkE cX8_ended RX8 "ended" 2 6 false (104, .invokevirtual 63, 107, []) := ⟨rfl, c_V dX8_ended_104 wd_891 wd_892 wd_893 wd_72 wd_894 nmh_3⟩
theorem o129_107 : OkE cX8_ended RX8 "ended" 2 6 false (107, .iconst 100000, 110, []) := (r_ldcw wd_901 dX8_ended_107 rfl).row
theorem o129_110 : OkE cX8_ended RX8 "ended" 2 6 false (110, .iadd, 111, []) := (r_iadd dX8_ended_110).row
theorem o129_111 : OkE cX8_ended RX8 "ended" 2 6 false (111, .ireturn, 112, []) := dX8_ended_111
theorem ok129 : ∀ x ∈ k129, OkE cX8_ended RX8 "ended" 2 6 false x := List.forall_mem_cons.mpr ⟨o129_0, List.forall_mem_cons.mpr ⟨o129_1, List.forall_mem_cons.mpr ⟨o129_4, List.forall_mem_cons.mpr ⟨o129_5, List.forall_mem_cons.mpr ⟨o129_6, List.forall_mem_cons.mpr ⟨o129_9, List.forall_mem_cons.mpr ⟨o129_11, List.forall_mem_cons.mpr ⟨o129_12, List.forall_mem_cons.mpr ⟨o129_13, List.forall_mem_cons.mpr ⟨o129_16, List.forall_mem_cons.mpr ⟨o129_17, List.forall_mem_cons.mpr ⟨o129_20, List.forall_mem_cons.mpr ⟨o129_21, List.forall_mem_cons.mpr ⟨o129_24, List.forall_mem_cons.mpr ⟨o129_27, List.forall_mem_cons.mpr ⟨o129_28, List.forall_mem_cons.mpr ⟨o129_60, List.forall_mem_cons.mpr ⟨o129_61, List.forall_mem_cons.mpr ⟨o129_64, List.forall_mem_cons.mpr ⟨o129_67, List.forall_mem_cons.mpr ⟨o129_68, List.forall_mem_cons.mpr ⟨o129_69, List.forall_mem_cons.mpr ⟨o129_72, List.forall_mem_cons.mpr ⟨o129_75, List.forall_mem_cons.mpr ⟨o129_76, List.forall_mem_cons.mpr ⟨o129_77, List.forall_mem_cons.mpr ⟨o129_80, List.forall_mem_cons.mpr ⟨o129_83, List.forall_mem_cons.mpr ⟨o129_84, List.forall_mem_cons.mpr ⟨o129_85, List.forall_mem_cons.mpr ⟨o129_88, List.forall_mem_cons.mpr ⟨o129_91, List.forall_mem_cons.mpr ⟨o129_92, List.forall_mem_cons.mpr ⟨o129_93, List.forall_mem_cons.mpr ⟨o129_96, List.forall_mem_cons.mpr ⟨o129_97, List.forall_mem_cons.mpr ⟨o129_100, List.forall_mem_cons.mpr ⟨o129_101, List.forall_mem_cons.mpr ⟨o129_104, List.forall_mem_cons.mpr ⟨o129_107, List.forall_mem_cons.mpr ⟨o129_110, List.forall_mem_cons.mpr ⟨o129_111, fun _ h => absurd h List.not_mem_nil⟩⟩⟩⟩⟩⟩⟩⟩⟩⟩⟩⟩⟩⟩⟩⟩⟩⟩⟩⟩⟩⟩⟩⟩⟩⟩⟩⟩⟩⟩⟩⟩⟩⟩⟩⟩⟩⟩⟩⟩⟩⟩
theorem o130_0 : OkE cX8_ranOut RX8 "ranOut" 2 6 false (0, .aload 0, 1, []) := (r_aload_n dX8_ranOut_0 rfl).row
theorem o130_1 : OkE cX8_ranOut RX8 "ranOut" 2 6 false (1, .invokeinterface 8 9, 4, []) := (r_get (C := RX8) (T := TX8) (N := 11) (ci := 8) (j := 9) (ref := RX8) dX8_ranOut_1 rfl inX8 (by decide) wd_397 rfl).row
theorem o130_4 : OkE cX8_ranOut RX8 "ranOut" 2 6 false (4, .iload 1, 5, []) := (r_iload_n dX8_ranOut_4 rfl).row
theorem o130_5 : OkE cX8_ranOut RX8 "ranOut" 2 6 false (5, .invokevirtual 82, 8, []) := ⟨rfl, c_V dX8_ranOut_5 wd_540 wd_516 wd_517 wd_73 wd_518 nmh_6⟩
theorem o130_8 : OkE cX8_ranOut RX8 "ranOut" 2 6 false (8, .ifCond .ne 13, 11, []) := (r_if_ne dX8_ranOut_8 rfl).row
theorem o130_11 : OkE cX8_ranOut RX8 "ranOut" 2 6 false (11, .iconst (-1), 12, []) := (r_iconst dX8_ranOut_11 rfl).row
theorem o130_12 : OkE cX8_ranOut RX8 "ranOut" 2 6 false (12, .ireturn, 13, []) := dX8_ranOut_12
theorem o130_13 : OkE cX8_ranOut RX8 "ranOut" 2 6 false (13, .aload 0, 14, []) := (r_aload_n dX8_ranOut_13 rfl).row
theorem o130_14 : OkE cX8_ranOut RX8 "ranOut" 2 6 false (14, .invokeinterface 8 6, 17, []) := (r_get (C := RX8) (T := TX8) (N := 11) (ci := 8) (j := 6) (ref := RX8) dX8_ranOut_14 rfl inX8 (by decide) wd_394 rfl).row
theorem o130_17 : OkE cX8_ranOut RX8 "ranOut" 2 6 false (17, .aload 0, 18, []) := (r_aload_n dX8_ranOut_17 rfl).row
theorem o130_18 : OkE cX8_ranOut RX8 "ranOut" 2 6 false (18, .invokeinterface 8 9, 21, []) := (r_get (C := RX8) (T := TX8) (N := 11) (ci := 8) (j := 9) (ref := RX8) dX8_ranOut_18 rfl inX8 (by decide) wd_397 rfl).row
theorem o130_21 : OkE cX8_ranOut RX8 "ranOut" 2 6 false (21, .aload 0, 22, []) := (r_aload_n dX8_ranOut_21 rfl).row
theorem o130_22 : OkE cX8_ranOut RX8 "ranOut" 2 6 false (22, .invokeinterface 8 5, 25, []) := (r_get (C := RX8) (T := TX8) (N := 11) (ci := 8) (j := 5) (ref := RX8) dX8_ranOut_22 rfl inX8 (by decide) wd_393 rfl).row
theorem o130_25 : OkE cX8_ranOut RX8 "ranOut" 2 6 false (25, .invokevirtual 45, 28, []) := ⟨rfl, c_V dX8_ranOut_25 wd_814 wd_815 wd_816 wd_72 wd_817 nmh_3⟩
theorem o130_28 : OkE cX8_ranOut RX8 "ranOut" 2 6 false (28, .aload 0, 29, []) := (r_aload_n dX8_ranOut_28 rfl).row
theorem o130_29 : OkE cX8_ranOut RX8 "ranOut" 2 6 false (29, .invokeinterface 8 6, 32, []) := (r_get (C := RX8) (T := TX8) (N := 11) (ci := 8) (j := 6) (ref := RX8) dX8_ranOut_29 rfl inX8 (by decide) wd_394 rfl).row
theorem o130_32 : OkE cX8_ranOut RX8 "ranOut" 2 6 false (32, .iload 1, 33, []) := (r_iload_n dX8_ranOut_32 rfl).row
theorem o130_33 : OkE cX8_ranOut RX8 "ranOut" 2 6 false (33, .invokevirtual 58, 36, []) := ⟨rfl, c_V dX8_ranOut_33 wd_906 wd_907 wd_908 wd_72 wd_909 nmh_3⟩
theorem o130_36 : OkE cX8_ranOut RX8 "ranOut" 2 6 false (36, .ireturn, 37, []) := dX8_ranOut_36
theorem ok130 : ∀ x ∈ k130, OkE cX8_ranOut RX8 "ranOut" 2 6 false x := List.forall_mem_cons.mpr ⟨o130_0, List.forall_mem_cons.mpr ⟨o130_1, List.forall_mem_cons.mpr ⟨o130_4, List.forall_mem_cons.mpr ⟨o130_5, List.forall_mem_cons.mpr ⟨o130_8, List.forall_mem_cons.mpr ⟨o130_11, List.forall_mem_cons.mpr ⟨o130_12, List.forall_mem_cons.mpr ⟨o130_13, List.forall_mem_cons.mpr ⟨o130_14, List.forall_mem_cons.mpr ⟨o130_17, List.forall_mem_cons.mpr ⟨o130_18, List.forall_mem_cons.mpr ⟨o130_21, List.forall_mem_cons.mpr ⟨o130_22, List.forall_mem_cons.mpr ⟨o130_25, List.forall_mem_cons.mpr ⟨o130_28, List.forall_mem_cons.mpr ⟨o130_29, List.forall_mem_cons.mpr ⟨o130_32, List.forall_mem_cons.mpr ⟨o130_33, List.forall_mem_cons.mpr ⟨o130_36, fun _ h => absurd h List.not_mem_nil⟩⟩⟩⟩⟩⟩⟩⟩⟩⟩⟩⟩⟩⟩⟩⟩⟩⟩⟩
theorem o131_0 : OkE cX8_habit RX8 "habit" 2 2 false (0, .aload 0, 1, []) := (r_aload_n dX8_habit_0 rfl).row
theorem o131_1 : OkE cX8_habit RX8 "habit" 2 2 false (1, .invokeinterface 8 9, 4, []) := (r_get (C := RX8) (T := TX8) (N := 11) (ci := 8) (j := 9) (ref := RX8) dX8_habit_1 rfl inX8 (by decide) wd_397 rfl).row
theorem o131_4 : OkE cX8_habit RX8 "habit" 2 2 false (4, .iload 1, 5, []) := (r_iload_n dX8_habit_4 rfl).row
theorem o131_5 : OkE cX8_habit RX8 "habit" 2 2 false (5, .invokevirtual 82, 8, []) := ⟨rfl, c_V dX8_habit_5 wd_540 wd_516 wd_517 wd_73 wd_518 nmh_6⟩
theorem o131_8 : OkE cX8_habit RX8 "habit" 2 2 false (8, .ifCond .eq 22, 11, []) := (r_if_eq dX8_habit_8 rfl).row
theorem o131_11 : OkE cX8_habit RX8 "habit" 2 2 false (11, .aload 0, 12, []) := (r_aload_n dX8_habit_11 rfl).row
theorem o131_12 : OkE cX8_habit RX8 "habit" 2 2 false (12, .invokeinterface 8 5, 15, []) := (r_get (C := RX8) (T := TX8) (N := 11) (ci := 8) (j := 5) (ref := RX8) dX8_habit_12 rfl inX8 (by decide) wd_393 rfl).row
theorem o131_15 : OkE cX8_habit RX8 "habit" 2 2 false (15, .iload 1, 16, []) := (r_iload_n dX8_habit_15 rfl).row
theorem o131_16 : OkE cX8_habit RX8 "habit" 2 2 false (16, .invokevirtual 22, 19, []) := ⟨rfl, c_V dX8_habit_16 wd_914 wd_851 wd_852 wd_70 wd_853 nmh_1⟩
theorem o131_19 : OkE cX8_habit RX8 "habit" 2 2 false (19, .goto 23, 22, []) := (r_goto dX8_habit_19 rfl).row
theorem o131_22 : OkE cX8_habit RX8 "habit" 2 2 false (22, .iconst (-1), 23, []) := (r_iconst dX8_habit_22 rfl).row
theorem o131_23 : OkE cX8_habit RX8 "habit" 2 2 false (23, .ireturn, 24, [0, 1]) := dX8_habit_23
theorem ok131 : ∀ x ∈ k131, OkE cX8_habit RX8 "habit" 2 2 false x := List.forall_mem_cons.mpr ⟨o131_0, List.forall_mem_cons.mpr ⟨o131_1, List.forall_mem_cons.mpr ⟨o131_4, List.forall_mem_cons.mpr ⟨o131_5, List.forall_mem_cons.mpr ⟨o131_8, List.forall_mem_cons.mpr ⟨o131_11, List.forall_mem_cons.mpr ⟨o131_12, List.forall_mem_cons.mpr ⟨o131_15, List.forall_mem_cons.mpr ⟨o131_16, List.forall_mem_cons.mpr ⟨o131_19, List.forall_mem_cons.mpr ⟨o131_22, List.forall_mem_cons.mpr ⟨o131_23, fun _ h => absurd h List.not_mem_nil⟩⟩⟩⟩⟩⟩⟩⟩⟩⟩⟩⟩
theorem o132_0 : OkE cX8_days RX8 "days" 4 7 false (0, .iload 1, 1, []) := (r_iload_n dX8_days_0 rfl).row
theorem o132_1 : OkE cX8_days RX8 "days" 4 7 false (1, .iconst 1, 2, []) := (r_iconst dX8_days_1 rfl).row
theorem o132_2 : OkE cX8_days RX8 "days" 4 7 false (2, .if_icmp .lt 11, 5, []) := (r_icmp_lt dX8_days_2 rfl).row
theorem o132_5 : OkE cX8_days RX8 "days" 4 7 false (5, .iload 1, 6, []) := (r_iload_n dX8_days_5 rfl).row
theorem o132_6 : OkE cX8_days RX8 "days" 4 7 false (6, .iconst 30, 8, []) := (r_bipush dX8_days_6 rfl).row
theorem o132_8 : OkE cX8_days RX8 "days" 4 7 false (8, .if_icmp .le 14, 11, []) := (r_icmp_le dX8_days_8 rfl).row
theorem o132_11 : OkE cX8_days RX8 "days" 4 7 false (11, .iconst (-2), 13, [0, 1]) := (r_bipush dX8_days_11 rfl).row
theorem o132_13 : OkE cX8_days RX8 "days" 4 7 false (13, .ireturn, 14, []) := dX8_days_13
theorem o132_14 : OkE cX8_days RX8 "days" 4 7 false (14, .iconst 0, 15, []) := (r_iconst dX8_days_14 rfl).row
theorem o132_15 : OkE cX8_days RX8 "days" 4 7 false (15, .istore 2, 16, []) := (r_istore_n dX8_days_15 rfl).row
theorem o132_16 : OkE cX8_days RX8 "days" 4 7 false (16, .iconst 0, 17, []) := (r_iconst dX8_days_16 rfl).row
theorem o132_17 : OkE cX8_days RX8 "days" 4 7 false (17, .istore 3, 18, []) := (r_istore_n dX8_days_17 rfl).row
theorem o132_18 : OkE cX8_days RX8 "days" 4 7 false (18, .iload 3, 19, []) := (r_iload_n dX8_days_18 rfl).row
theorem o132_19 : OkE cX8_days RX8 "days" 4 7 false (19, .iload 1, 20, []) := (r_iload_n dX8_days_19 rfl).row
theorem o132_20 : OkE cX8_days RX8 "days" 4 7 false (20, .if_icmp .ge 34, 23, []) := (r_icmp_ge dX8_days_20 rfl).row
theorem o132_23 : OkE cX8_days RX8 "days" 4 7 false (23, .aload 0, 24, []) := (r_aload_n dX8_days_23 rfl).row
theorem o132_24 : OkE cX8_days RX8 "days" 4 7 false (24, .invokevirtual 147, 27, []) := ⟨rfl, c_V dX8_days_24 wd_919 wd_921 wd_33 wd_64 wd_922 nmh_8⟩
theorem o132_27 : OkE cX8_days RX8 "days" 4 7 false (27, .istore 2, 28, []) := (r_istore_n dX8_days_27 rfl).row
theorem o132_28 : OkE cX8_days RX8 "days" 4 7 false (28, .iinc 3 1, 31, []) := (r_iinc dX8_days_28 rfl).row
theorem o132_31 : OkE cX8_days RX8 "days" 4 7 false (31, .goto 18, 34, []) := (r_goto dX8_days_31 rfl).row
theorem o132_34 : OkE cX8_days RX8 "days" 4 7 false (34, .iload 2, 35, []) := (r_iload_n dX8_days_34 rfl).row
theorem o132_35 : OkE cX8_days RX8 "days" 4 7 false (35, .ireturn, 36, []) := dX8_days_35
theorem ok132 : ∀ x ∈ k132, OkE cX8_days RX8 "days" 4 7 false x := List.forall_mem_cons.mpr ⟨o132_0, List.forall_mem_cons.mpr ⟨o132_1, List.forall_mem_cons.mpr ⟨o132_2, List.forall_mem_cons.mpr ⟨o132_5, List.forall_mem_cons.mpr ⟨o132_6, List.forall_mem_cons.mpr ⟨o132_8, List.forall_mem_cons.mpr ⟨o132_11, List.forall_mem_cons.mpr ⟨o132_13, List.forall_mem_cons.mpr ⟨o132_14, List.forall_mem_cons.mpr ⟨o132_15, List.forall_mem_cons.mpr ⟨o132_16, List.forall_mem_cons.mpr ⟨o132_17, List.forall_mem_cons.mpr ⟨o132_18, List.forall_mem_cons.mpr ⟨o132_19, List.forall_mem_cons.mpr ⟨o132_20, List.forall_mem_cons.mpr ⟨o132_23, List.forall_mem_cons.mpr ⟨o132_24, List.forall_mem_cons.mpr ⟨o132_27, List.forall_mem_cons.mpr ⟨o132_28, List.forall_mem_cons.mpr ⟨o132_31, List.forall_mem_cons.mpr ⟨o132_34, List.forall_mem_cons.mpr ⟨o132_35, fun _ h => absurd h List.not_mem_nil⟩⟩⟩⟩⟩⟩⟩⟩⟩⟩⟩⟩⟩⟩⟩⟩⟩⟩⟩⟩⟩⟩
theorem o133_0 : OkE cX8_second RX8 "second" 10 6 false (0, .aload 0, 1, []) := (r_aload_n dX8_second_0 rfl).row
theorem o133_1 : OkE cX8_second RX8 "second" 10 6 false (1, .invokeinterface 8 9, 4, []) := (r_get (C := RX8) (T := TX8) (N := 11) (ci := 8) (j := 9) (ref := RX8) dX8_second_1 rfl inX8 (by decide) wd_397 rfl).row
theorem o133_4 : OkE cX8_second RX8 "second" 10 6 false (4, .iload 1, 5, []) := (r_iload_n dX8_second_4 rfl).row
theorem o133_5 : OkE cX8_second RX8 "second" 10 6 false (5, .invokevirtual 82, 8, []) := ⟨rfl, c_V dX8_second_5 wd_540 wd_516 wd_517 wd_73 wd_518 nmh_6⟩
theorem o133_8 : OkE cX8_second RX8 "second" 10 6 false (8, .ifCond .eq 18, 11, []) := (r_if_eq dX8_second_8 rfl).row
theorem o133_11 : OkE cX8_second RX8 "second" 10 6 false (11, .iload 2, 12, []) := (r_iload_n dX8_second_11 rfl).row
theorem o133_12 : OkE cX8_second RX8 "second" 10 6 false (12, .invokestatic 141, 15, []) := ⟨rfl, c_S dX8_second_12 wd_801 wd_795 wd_64 wd_796 nmh_8⟩
theorem o133_15 : OkE cX8_second RX8 "second" 10 6 false (15, .ifCond .ne 20, 18, []) := (r_if_ne dX8_second_15 rfl).row
theorem o133_18 : OkE cX8_second RX8 "second" 10 6 false (18, .iconst (-1), 19, [0, 1, 2, 3, 4]) := (r_iconst dX8_second_18 rfl).row
theorem o133_19 : OkE cX8_second RX8 "second" 10 6 false (19, .ireturn, 20, []) := dX8_second_19
theorem o133_20 : OkE cX8_second RX8 "second" 10 6 false (20, .iload 3, 21, []) := (r_iload_n dX8_second_20 rfl).row
theorem o133_21 : OkE cX8_second RX8 "second" 10 6 false (21, .iconst 1, 22, []) := (r_iconst dX8_second_21 rfl).row
theorem o133_22 : OkE cX8_second RX8 "second" 10 6 false (22, .if_icmp .lt 43, 25, []) := (r_icmp_lt dX8_second_22 rfl).row
theorem o133_25 : OkE cX8_second RX8 "second" 10 6 false (25, .iload 3, 26, []) := (r_iload_n dX8_second_25 rfl).row
theorem o133_26 : OkE cX8_second RX8 "second" 10 6 false (26, .iconst 60, 28, []) := (r_bipush dX8_second_26 rfl).row
theorem o133_28 : OkE cX8_second RX8 "second" 10 6 false (28, .if_icmp .gt 43, 31, []) := (r_icmp_gt dX8_second_28 rfl).row
theorem o133_31 : OkE cX8_second RX8 "second" 10 6 false (31, .iload 4, 33, []) := (r_iload dX8_second_31).row
theorem o133_33 : OkE cX8_second RX8 "second" 10 6 false (33, .ifCond .lt 43, 36, []) := (r_if_lt dX8_second_33 rfl).row
theorem o133_36 : OkE cX8_second RX8 "second" 10 6 false (36, .iload 4, 38, []) := (r_iload dX8_second_36).row
theorem o133_38 : OkE cX8_second RX8 "second" 10 6 false (38, .iconst 20, 40, []) := (r_bipush dX8_second_38 rfl).row
theorem o133_40 : OkE cX8_second RX8 "second" 10 6 false (40, .if_icmp .le 46, 43, []) := (r_icmp_le dX8_second_40 rfl).row
theorem o133_43 : OkE cX8_second RX8 "second" 10 6 false (43, .iconst (-2), 45, [0, 1, 2, 3, 4]) := (r_bipush dX8_second_43 rfl).row
theorem o133_45 : OkE cX8_second RX8 "second" 10 6 false (45, .ireturn, 46, []) := dX8_second_45
theorem o133_46 : OkE cX8_second RX8 "second" 10 6 false (46, .aload 0, 47, []) := (r_aload_n dX8_second_46 rfl).row
theorem o133_47 : OkE cX8_second RX8 "second" 10 6 false (47, .invokeinterface 8 6, 50, []) := (r_get (C := RX8) (T := TX8) (N := 11) (ci := 8) (j := 6) (ref := RX8) dX8_second_47 rfl inX8 (by decide) wd_394 rfl).row
theorem o133_50 : OkE cX8_second RX8 "second" 10 6 false (50, .aload 0, 51, []) := (r_aload_n dX8_second_50 rfl).row
theorem o133_51 : OkE cX8_second RX8 "second" 10 6 false (51, .invokeinterface 8 9, 54, []) := (r_get (C := RX8) (T := TX8) (N := 11) (ci := 8) (j := 9) (ref := RX8) dX8_second_51 rfl inX8 (by decide) wd_397 rfl).row
theorem o133_54 : OkE cX8_second RX8 "second" 10 6 false (54, .aload 0, 55, []) := (r_aload_n dX8_second_54 rfl).row
theorem o133_55 : OkE cX8_second RX8 "second" 10 6 false (55, .invokeinterface 8 5, 58, []) := (r_get (C := RX8) (T := TX8) (N := 11) (ci := 8) (j := 5) (ref := RX8) dX8_second_55 rfl inX8 (by decide) wd_393 rfl).row
theorem o133_58 : OkE cX8_second RX8 "second" 10 6 false (58, .invokevirtual 45, 61, []) := ⟨rfl, c_V dX8_second_58 wd_814 wd_815 wd_816 wd_72 wd_817 nmh_3⟩
theorem o133_61 : OkE cX8_second RX8 "second" 10 6 false (61, .aload 0, 62, []) := (r_aload_n dX8_second_61 rfl).row
theorem o133_62 : OkE cX8_second RX8 "second" 10 6 false (62, .invokeinterface 8 6, 65, []) := (r_get (C := RX8) (T := TX8) (N := 11) (ci := 8) (j := 6) (ref := RX8) dX8_second_62 rfl inX8 (by decide) wd_394 rfl).row
theorem o133_65 : OkE cX8_second RX8 "second" 10 6 false (65, .invokevirtual 59, 68, []) := ⟨rfl, c_V dX8_second_65 wd_875 wd_876 wd_877 wd_72 wd_878 nmh_3⟩
theorem o133_68 : OkE cX8_second RX8 "second" 10 6 false (68, .istore 5, 70, []) := (r_istore dX8_second_68).row
theorem o133_70 : OkE cX8_second RX8 "second" 10 6 false (70, .aload 0, 71, []) := (r_aload_n dX8_second_70 rfl).row
theorem o133_71 : OkE cX8_second RX8 "second" 10 6 false (71, .invokeinterface 8 6, 74, []) := (r_get (C := RX8) (T := TX8) (N := 11) (ci := 8) (j := 6) (ref := RX8) dX8_second_71 rfl inX8 (by decide) wd_394 rfl).row
theorem o133_74 : OkE cX8_second RX8 "second" 10 6 false (74, .invokevirtual 60, 77, []) := ⟨rfl, c_V dX8_second_74 wd_879 wd_880 wd_881 wd_72 wd_882 nmh_3⟩
theorem o133_77 : OkE cX8_second RX8 "second" 10 6 false (77, .aload 0, 78, []) := (r_aload_n dX8_second_77 rfl).row
theorem o133_78 : OkE cX8_second RX8 "second" 10 6 false (78, .invokeinterface 8 6, 81, []) := (r_get (C := RX8) (T := TX8) (N := 11) (ci := 8) (j := 6) (ref := RX8) dX8_second_78 rfl inX8 (by decide) wd_394 rfl).row
theorem o133_81 : OkE cX8_second RX8 "second" 10 6 false (81, .invokevirtual 61, 84, []) := ⟨rfl, c_V dX8_second_81 wd_883 wd_884 wd_885 wd_72 wd_886 nmh_3⟩
theorem o133_84 : OkE cX8_second RX8 "second" 10 6 false (84, .iadd, 85, []) := (r_iadd dX8_second_84).row
theorem o133_85 : OkE cX8_second RX8 "second" 10 6 false (85, .istore 6, 87, []) := (r_istore dX8_second_85).row
theorem o133_87 : OkE cX8_second RX8 "second" 10 6 false (87, .aload 0, 88, []) := (r_aload_n dX8_second_87 rfl).row
theorem o133_88 : OkE cX8_second RX8 "second" 10 6 false (88, .invokeinterface 8 6, 91, []) := (r_get (C := RX8) (T := TX8) (N := 11) (ci := 8) (j := 6) (ref := RX8) dX8_second_88 rfl inX8 (by decide) wd_394 rfl).row
theorem o133_91 : OkE cX8_second RX8 "second" 10 6 false (91, .aload 0, 92, []) := (r_aload_n dX8_second_91 rfl).row
theorem o133_92 : OkE cX8_second RX8 "second" 10 6 false (92, .invokeinterface 8 9, 95, []) := (r_get (C := RX8) (T := TX8) (N := 11) (ci := 8) (j := 9) (ref := RX8) dX8_second_92 rfl inX8 (by decide) wd_397 rfl).row
theorem o133_95 : OkE cX8_second RX8 "second" 10 6 false (95, .aload 0, 96, []) := (r_aload_n dX8_second_95 rfl).row
theorem o133_96 : OkE cX8_second RX8 "second" 10 6 false (96, .invokeinterface 8 5, 99, []) := (r_get (C := RX8) (T := TX8) (N := 11) (ci := 8) (j := 5) (ref := RX8) dX8_second_96 rfl inX8 (by decide) wd_393 rfl).row
theorem o133_99 : OkE cX8_second RX8 "second" 10 6 false (99, .iload 1, 100, []) := (r_iload_n dX8_second_99 rfl).row
theorem o133_100 : OkE cX8_second RX8 "second" 10 6 false (100, .iload 2, 101, []) := (r_iload_n dX8_second_100 rfl).row
theorem o133_101 : OkE cX8_second RX8 "second" 10 6 false (101, .iload 3, 102, []) := (r_iload_n dX8_second_101 rfl).row
theorem o133_102 : OkE cX8_second RX8 "second" 10 6 false (102, .invokevirtual 47, 105, []) := ⟨rfl, c_V dX8_second_102 wd_932 wd_933 wd_934 wd_72 wd_935 nmh_3⟩
theorem o133_105 : OkE cX8_second RX8 "second" 10 6 false (105, .aload 0, 106, []) := (r_aload_n dX8_second_105 rfl).row
theorem o133_106 : OkE cX8_second RX8 "second" 10 6 false (106, .invokeinterface 8 6, 109, []) := (r_get (C := RX8) (T := TX8) (N := 11) (ci := 8) (j := 6) (ref := RX8) dX8_second_106 rfl inX8 (by decide) wd_394 rfl).row
theorem o133_109 : OkE cX8_second RX8 "second" 10 6 false (109, .invokevirtual 59, 112, []) := ⟨rfl, c_V dX8_second_109 wd_875 wd_876 wd_877 wd_72 wd_878 nmh_3⟩
theorem o133_112 : OkE cX8_second RX8 "second" 10 6 false (112, .iload 5, 114, []) := (r_iload dX8_second_112).row
theorem o133_114 : OkE cX8_second RX8 "second" 10 6 false (114, .isub, 115, []) := (r_isub dX8_second_114).row
theorem o133_115 : OkE cX8_second RX8 "second" 10 6 false (115, .istore 7, 117, []) := (r_istore dX8_second_115).row
theorem o133_117 : OkE cX8_second RX8 "second" 10 6 false (117, .aload 0, 118, []) := (r_aload_n dX8_second_117 rfl).row
theorem o133_118 : OkE cX8_second RX8 "second" 10 6 false (118, .invokeinterface 8 6, 121, []) := (r_get (C := RX8) (T := TX8) (N := 11) (ci := 8) (j := 6) (ref := RX8) dX8_second_118 rfl inX8 (by decide) wd_394 rfl).row
theorem o133_121 : OkE cX8_second RX8 "second" 10 6 false (121, .invokevirtual 60, 124, []) := ⟨rfl, c_V dX8_second_121 wd_879 wd_880 wd_881 wd_72 wd_882 nmh_3⟩
theorem o133_124 : OkE cX8_second RX8 "second" 10 6 false (124, .aload 0, 125, []) := (r_aload_n dX8_second_124 rfl).row
theorem o133_125 : OkE cX8_second RX8 "second" 10 6 false (125, .invokeinterface 8 6, 128, []) := (r_get (C := RX8) (T := TX8) (N := 11) (ci := 8) (j := 6) (ref := RX8) dX8_second_125 rfl inX8 (by decide) wd_394 rfl).row
theorem o133_128 : OkE cX8_second RX8 "second" 10 6 false (128, .invokevirtual 61, 131, []) := ⟨rfl, c_V dX8_second_128 wd_883 wd_884 wd_885 wd_72 wd_886 nmh_3⟩
theorem o133_131 : OkE cX8_second RX8 "second" 10 6 false (131, .iadd, 132, []) := (r_iadd dX8_second_131).row
theorem o133_132 : OkE cX8_second RX8 "second" 10 6 false (132, .iload 6, 134, []) := (r_iload dX8_second_132).row
theorem o133_134 : OkE cX8_second RX8 "second" 10 6 false (134, .isub, 135, []) := (r_isub dX8_second_134).row
theorem o133_135 : OkE cX8_second RX8 "second" 10 6 false (135, .istore 8, 137, []) := (r_istore dX8_second_135).row
theorem o133_137 : OkE cX8_second RX8 "second" 10 6 false (137, .iload 7, 139, []) := (r_iload dX8_second_137).row
theorem o133_139 : OkE cX8_second RX8 "second" 10 6 false (139, .aload 0, 140, []) := (r_aload_n dX8_second_139 rfl).row
theorem o133_140 : OkE cX8_second RX8 "second" 10 6 false (140, .invokeinterface 8 9, 143, []) := (r_get (C := RX8) (T := TX8) (N := 11) (ci := 8) (j := 9) (ref := RX8) dX8_second_140 rfl inX8 (by decide) wd_397 rfl).row
theorem o133_143 : OkE cX8_second RX8 "second" 10 6 false (143, .invokeinterface 6 6, 146, []) := (r_getN (C := RX6) (T := TX6) (N := 8) (ci := 6) (j := 6) (ref := RX6) dX8_second_143 rfl inX6 (by decide) wd_317 rfl).row
theorem o133_146 : OkE cX8_second RX8 "second" 10 6 false (146, .imul, 147, []) := (r_imul dX8_second_146).row
theorem o133_147 : OkE cX8_second RX8 "second" 10 6 false (147, .iload 8, 149, []) := (r_iload dX8_second_147).row
theorem o133_149 : OkE cX8_second RX8 "second" 10 6 false (149, .aload 0, 150, []) := (r_aload_n dX8_second_149 rfl).row
theorem o133_150 : OkE cX8_second RX8 "second" 10 6 false (150, .invokeinterface 8 9, 153, []) := (r_get (C := RX8) (T := TX8) (N := 11) (ci := 8) (j := 9) (ref := RX8) dX8_second_150 rfl inX8 (by decide) wd_397 rfl).row
theorem o133_153 : OkE cX8_second RX8 "second" 10 6 false (153, .invokeinterface 6 7, 156, []) := (r_getN (C := RX6) (T := TX6) (N := 8) (ci := 6) (j := 7) (ref := RX6) dX8_second_153 rfl inX6 (by decide) wd_322 rfl).row
theorem o133_156 : OkE cX8_second RX8 "second" 10 6 false (156, .imul, 157, []) := (r_imul dX8_second_156).row
theorem o133_157 : OkE cX8_second RX8 "second" 10 6 false (157, .iadd, 158, []) := (r_iadd dX8_second_157).row
theorem o133_158 : OkE cX8_second RX8 "second" 10 6 false (158, .iload 3, 159, []) := (r_iload_n dX8_second_158 rfl).row
theorem o133_159 : OkE cX8_second RX8 "second" 10 6 false (159, .aload 0, 160, []) := (r_aload_n dX8_second_159 rfl).row
theorem o133_160 : OkE cX8_second RX8 "second" 10 6 false (160, .invokeinterface 8 9, 163, []) := (r_get (C := RX8) (T := TX8) (N := 11) (ci := 8) (j := 9) (ref := RX8) dX8_second_160 rfl inX8 (by decide) wd_397 rfl).row
theorem o133_163 : OkE cX8_second RX8 "second" 10 6 false (163, .invokeinterface 6 5, 166, []) := (r_getN (C := RX6) (T := TX6) (N := 8) (ci := 6) (j := 5) (ref := RX6) dX8_second_163 rfl inX6 (by decide) wd_312 rfl).row
theorem o133_166 : OkE cX8_second RX8 "second" 10 6 false (166, .iload 4, 168, []) := (r_iload dX8_second_166).row
theorem o133_168 : OkE cX8_second RX8 "second" 10 6 false (168, .iadd, 169, []) := (r_iadd dX8_second_168).row
theorem o133_169 : OkE cX8_second RX8 "second" 10 6 false (169, .imul, 170, []) := (r_imul dX8_second_169).row
theorem o133_170 : OkE cX8_second RX8 "second" 10 6 false (170, .isub, 171, []) := (r_isub dX8_second_170).row
theorem o133_171 : OkE cX8_second RX8 "second" 10 6 false (171, .istore 9, 173, []) := (r_istore dX8_second_171).row
theorem o133_173 : OkE cX8_second RX8 "second" 10 6 false (173, .iload 9, 175, []) := (r_iload dX8_second_173).row
theorem o133_175 : OkE cX8_second RX8 "second" 10 6 false (175, .iconst 100000, 178, []) := (r_ldcw wd_901 dX8_second_175 rfl).row
theorem o133_178 : OkE cX8_second RX8 "second" 10 6 false (178, .iadd, 179, []) := (r_iadd dX8_second_178).row
theorem o133_179 : OkE cX8_second RX8 "second" 10 6 false (179, .ireturn, 180, []) := dX8_second_179
theorem ok133 : ∀ x ∈ k133, OkE cX8_second RX8 "second" 10 6 false x := List.forall_mem_cons.mpr ⟨o133_0, List.forall_mem_cons.mpr ⟨o133_1, List.forall_mem_cons.mpr ⟨o133_4, List.forall_mem_cons.mpr ⟨o133_5, List.forall_mem_cons.mpr ⟨o133_8, List.forall_mem_cons.mpr ⟨o133_11, List.forall_mem_cons.mpr ⟨o133_12, List.forall_mem_cons.mpr ⟨o133_15, List.forall_mem_cons.mpr ⟨o133_18, List.forall_mem_cons.mpr ⟨o133_19, List.forall_mem_cons.mpr ⟨o133_20, List.forall_mem_cons.mpr ⟨o133_21, List.forall_mem_cons.mpr ⟨o133_22, List.forall_mem_cons.mpr ⟨o133_25, List.forall_mem_cons.mpr ⟨o133_26, List.forall_mem_cons.mpr ⟨o133_28, List.forall_mem_cons.mpr ⟨o133_31, List.forall_mem_cons.mpr ⟨o133_33, List.forall_mem_cons.mpr ⟨o133_36, List.forall_mem_cons.mpr ⟨o133_38, List.forall_mem_cons.mpr ⟨o133_40, List.forall_mem_cons.mpr ⟨o133_43, List.forall_mem_cons.mpr ⟨o133_45, List.forall_mem_cons.mpr ⟨o133_46, List.forall_mem_cons.mpr ⟨o133_47, List.forall_mem_cons.mpr ⟨o133_50, List.forall_mem_cons.mpr ⟨o133_51, List.forall_mem_cons.mpr ⟨o133_54, List.forall_mem_cons.mpr ⟨o133_55, List.forall_mem_cons.mpr ⟨o133_58, List.forall_mem_cons.mpr ⟨o133_61, List.forall_mem_cons.mpr ⟨o133_62, List.forall_mem_cons.mpr ⟨o133_65, List.forall_mem_cons.mpr ⟨o133_68, List.forall_mem_cons.mpr ⟨o133_70, List.forall_mem_cons.mpr ⟨o133_71, List.forall_mem_cons.mpr ⟨o133_74, List.forall_mem_cons.mpr ⟨o133_77, List.forall_mem_cons.mpr ⟨o133_78, List.forall_mem_cons.mpr ⟨o133_81, List.forall_mem_cons.mpr ⟨o133_84, List.forall_mem_cons.mpr ⟨o133_85, List.forall_mem_cons.mpr ⟨o133_87, List.forall_mem_cons.mpr ⟨o133_88, List.forall_mem_cons.mpr ⟨o133_91, List.forall_mem_cons.mpr ⟨o133_92, List.forall_mem_cons.mpr ⟨o133_95, List.forall_mem_cons.mpr ⟨o133_96, List.forall_mem_cons.mpr ⟨o133_99, List.forall_mem_cons.mpr ⟨o133_100, List.forall_mem_cons.mpr ⟨o133_101, List.forall_mem_cons.mpr ⟨o133_102, List.forall_mem_cons.mpr ⟨o133_105, List.forall_mem_cons.mpr ⟨o133_106, List.forall_mem_cons.mpr ⟨o133_109, List.forall_mem_cons.mpr ⟨o133_112, List.forall_mem_cons.mpr ⟨o133_114, List.forall_mem_cons.mpr ⟨o133_115, List.forall_mem_cons.mpr ⟨o133_117, List.forall_mem_cons.mpr ⟨o133_118, List.forall_mem_cons.mpr ⟨o133_121, List.forall_mem_cons.mpr ⟨o133_124, List.forall_mem_cons.mpr ⟨o133_125, List.forall_mem_cons.mpr ⟨o133_128, List.forall_mem_cons.mpr ⟨o133_131, List.forall_mem_cons.mpr ⟨o133_132, List.forall_mem_cons.mpr ⟨o133_134, List.forall_mem_cons.mpr ⟨o133_135, List.forall_mem_cons.mpr ⟨o133_137, List.forall_mem_cons.mpr ⟨o133_139, List.forall_mem_cons.mpr ⟨o133_140, List.forall_mem_cons.mpr ⟨o133_143, List.forall_mem_cons.mpr ⟨o133_146, List.forall_mem_cons.mpr ⟨o133_147, List.forall_mem_cons.mpr ⟨o133_149, List.forall_mem_cons.mpr ⟨o133_150, List.forall_mem_cons.mpr ⟨o133_153, List.forall_mem_cons.mpr ⟨o133_156, List.forall_mem_cons.mpr ⟨o133_157, List.forall_mem_cons.mpr ⟨o133_158, List.forall_mem_cons.mpr ⟨o133_159, List.forall_mem_cons.mpr ⟨o133_160, List.forall_mem_cons.mpr ⟨o133_163, List.forall_mem_cons.mpr ⟨o133_166, List.forall_mem_cons.mpr ⟨o133_168, List.forall_mem_cons.mpr ⟨o133_169, List.forall_mem_cons.mpr ⟨o133_170, List.forall_mem_cons.mpr ⟨o133_171, List.forall_mem_cons.mpr ⟨o133_173, List.forall_mem_cons.mpr ⟨o133_175, List.forall_mem_cons.mpr ⟨o133_178, List.forall_mem_cons.mpr ⟨o133_179, fun _ h => absurd h List.not_mem_nil⟩⟩⟩⟩⟩⟩⟩⟩⟩⟩⟩⟩⟩⟩⟩⟩⟩⟩⟩⟩⟩⟩⟩⟩⟩⟩⟩⟩⟩⟩⟩⟩⟩⟩⟩⟩⟩⟩⟩⟩⟩⟩⟩⟩⟩⟩⟩⟩⟩⟩⟩⟩⟩⟩⟩⟩⟩⟩⟩⟩⟩⟩⟩⟩⟩⟩⟩⟩⟩⟩⟩⟩⟩⟩⟩⟩⟩⟩⟩⟩⟩⟩⟩⟩⟩⟩⟩⟩⟩⟩⟩⟩
theorem o134_0 : OkE cX8_paid RX8 "paid" 4 7 false (0, .aload 0, 1, []) := (r_aload_n dX8_paid_0 rfl).row
theorem o134_1 : OkE cX8_paid RX8 "paid" 4 7 false (1, .invokeinterface 8 9, 4, []) := (r_get (C := RX8) (T := TX8) (N := 11) (ci := 8) (j := 9) (ref := RX8) dX8_paid_1 rfl inX8 (by decide) wd_397 rfl).row
theorem o134_4 : OkE cX8_paid RX8 "paid" 4 7 false (4, .iload 1, 5, []) := (r_iload_n dX8_paid_4 rfl).row
theorem o134_5 : OkE cX8_paid RX8 "paid" 4 7 false (5, .invokevirtual 82, 8, []) := ⟨rfl, c_V dX8_paid_5 wd_540 wd_516 wd_517 wd_73 wd_518 nmh_6⟩
theorem o134_8 : OkE cX8_paid RX8 "paid" 4 7 false (8, .ifCond .ne 13, 11, []) := (r_if_ne dX8_paid_8 rfl).row
theorem o134_11 : OkE cX8_paid RX8 "paid" 4 7 false (11, .iconst (-1), 12, []) := (r_iconst dX8_paid_11 rfl).row
theorem o134_12 : OkE cX8_paid RX8 "paid" 4 7 false (12, .ireturn, 13, []) := dX8_paid_12
theorem o134_13 : OkE cX8_paid RX8 "paid" 4 7 false (13, .iload 2, 14, []) := (r_iload_n dX8_paid_13 rfl).row
theorem o134_14 : OkE cX8_paid RX8 "paid" 4 7 false (14, .ifCond .lt 30, 17, []) := (r_if_lt dX8_paid_14 rfl).row
theorem o134_17 : OkE cX8_paid RX8 "paid" 4 7 false (17, .iload 2, 18, []) := (r_iload_n dX8_paid_17 rfl).row
theorem o134_18 : OkE cX8_paid RX8 "paid" 4 7 false (18, .iconst 20, 20, []) := (r_bipush dX8_paid_18 rfl).row
theorem o134_20 : OkE cX8_paid RX8 "paid" 4 7 false (20, .if_icmp .gt 30, 23, []) := (r_icmp_gt dX8_paid_20 rfl).row
theorem o134_23 : OkE cX8_paid RX8 "paid" 4 7 false (23, .iload 3, 24, []) := (r_iload_n dX8_paid_23 rfl).row
theorem o134_24 : OkE cX8_paid RX8 "paid" 4 7 false (24, .invokestatic 144, 27, []) := ⟨rfl, c_S dX8_paid_24 wd_940 wd_941 wd_64 wd_942 nmh_8⟩
theorem o134_27 : OkE cX8_paid RX8 "paid" 4 7 false (27, .ifCond .ne 33, 30, []) := (r_if_ne dX8_paid_27 rfl).row
theorem o134_30 : OkE cX8_paid RX8 "paid" 4 7 false (30, .iconst (-2), 32, [0, 1, 2, 3]) := (r_bipush dX8_paid_30 rfl).row
theorem o134_32 : OkE cX8_paid RX8 "paid" 4 7 false (32, .ireturn, 33, []) := dX8_paid_32
theorem o134_33 : OkE cX8_paid RX8 "paid" 4 7 false (33, .iload 2, 34, []) := (r_iload_n dX8_paid_33 rfl).row
theorem o134_34 : OkE cX8_paid RX8 "paid" 4 7 false (34, .aload 0, 35, []) := (r_aload_n dX8_paid_34 rfl).row
theorem o134_35 : OkE cX8_paid RX8 "paid" 4 7 false (35, .iload 1, 36, []) := (r_iload_n dX8_paid_35 rfl).row
theorem o134_36 : OkE cX8_paid RX8 "paid" 4 7 false (36, .iload 2, 37, []) := (r_iload_n dX8_paid_36 rfl).row
theorem o134_37 : OkE cX8_paid RX8 "paid" 4 7 false (37, .iload 3, 38, []) := (r_iload_n dX8_paid_37 rfl).row
theorem o134_38 : OkE cX8_paid RX8 "paid" 4 7 false (38, .if_icmp .lt 45, 41, []) := (r_icmp_lt dX8_paid_38 rfl).row
theorem o134_41 : OkE cX8_paid RX8 "paid" 4 7 false (41, .iconst 1, 42, []) := (r_iconst dX8_paid_41 rfl).row
theorem o134_42 : OkE cX8_paid RX8 "paid" 4 7 false (42, .goto 46, 45, []) := (r_goto dX8_paid_42 rfl).row
theorem o134_45 : OkE cX8_paid RX8 "paid" 4 7 false (45, .iconst 0, 46, []) := (r_iconst dX8_paid_45 rfl).row
theorem o134_46 : OkE cX8_paid RX8 "paid" 4 7 false (46, .invokevirtual 148, 49, [0, 1, 2, 3]) := ⟨rfl, c_V dX8_paid_46 wd_943 wd_945 wd_34 wd_64 wd_946 nmh_8⟩
theorem o134_49 : OkE cX8_paid RX8 "paid" 4 7 false (49, .imul, 50, []) := (r_imul dX8_paid_49).row
theorem o134_50 : OkE cX8_paid RX8 "paid" 4 7 false (50, .ireturn, 51, []) := dX8_paid_50
theorem ok134 : ∀ x ∈ k134, OkE cX8_paid RX8 "paid" 4 7 false x := List.forall_mem_cons.mpr ⟨o134_0, List.forall_mem_cons.mpr ⟨o134_1, List.forall_mem_cons.mpr ⟨o134_4, List.forall_mem_cons.mpr ⟨o134_5, List.forall_mem_cons.mpr ⟨o134_8, List.forall_mem_cons.mpr ⟨o134_11, List.forall_mem_cons.mpr ⟨o134_12, List.forall_mem_cons.mpr ⟨o134_13, List.forall_mem_cons.mpr ⟨o134_14, List.forall_mem_cons.mpr ⟨o134_17, List.forall_mem_cons.mpr ⟨o134_18, List.forall_mem_cons.mpr ⟨o134_20, List.forall_mem_cons.mpr ⟨o134_23, List.forall_mem_cons.mpr ⟨o134_24, List.forall_mem_cons.mpr ⟨o134_27, List.forall_mem_cons.mpr ⟨o134_30, List.forall_mem_cons.mpr ⟨o134_32, List.forall_mem_cons.mpr ⟨o134_33, List.forall_mem_cons.mpr ⟨o134_34, List.forall_mem_cons.mpr ⟨o134_35, List.forall_mem_cons.mpr ⟨o134_36, List.forall_mem_cons.mpr ⟨o134_37, List.forall_mem_cons.mpr ⟨o134_38, List.forall_mem_cons.mpr ⟨o134_41, List.forall_mem_cons.mpr ⟨o134_42, List.forall_mem_cons.mpr ⟨o134_45, List.forall_mem_cons.mpr ⟨o134_46, List.forall_mem_cons.mpr ⟨o134_49, List.forall_mem_cons.mpr ⟨o134_50, fun _ h => absurd h List.not_mem_nil⟩⟩⟩⟩⟩⟩⟩⟩⟩⟩⟩⟩⟩⟩⟩⟩⟩⟩⟩⟩⟩⟩⟩⟩⟩⟩⟩⟩⟩
theorem o135_0 : OkE cX8_leastPay RX8 "leastPay" 7 7 false (0, .aload 0, 1, []) := (r_aload_n dX8_leastPay_0 rfl).row
theorem o135_1 : OkE cX8_leastPay RX8 "leastPay" 7 7 false (1, .invokeinterface 8 9, 4, []) := (r_get (C := RX8) (T := TX8) (N := 11) (ci := 8) (j := 9) (ref := RX8) dX8_leastPay_1 rfl inX8 (by decide) wd_397 rfl).row
theorem o135_4 : OkE cX8_leastPay RX8 "leastPay" 7 7 false (4, .iload 1, 5, []) := (r_iload_n dX8_leastPay_4 rfl).row
theorem o135_5 : OkE cX8_leastPay RX8 "leastPay" 7 7 false (5, .invokevirtual 82, 8, []) := ⟨rfl, c_V dX8_leastPay_5 wd_540 wd_516 wd_517 wd_73 wd_518 nmh_6⟩
theorem o135_8 : OkE cX8_leastPay RX8 "leastPay" 7 7 false (8, .ifCond .ne 13, 11, []) := (r_if_ne dX8_leastPay_8 rfl).row
theorem o135_11 : OkE cX8_leastPay RX8 "leastPay" 7 7 false (11, .iconst (-1), 12, []) := (r_iconst dX8_leastPay_11 rfl).row
theorem o135_12 : OkE cX8_leastPay RX8 "leastPay" 7 7 false (12, .ireturn, 13, []) := dX8_leastPay_12
theorem o135_13 : OkE cX8_leastPay RX8 "leastPay" 7 7 false (13, .iload 2, 14, []) := (r_iload_n dX8_leastPay_13 rfl).row
theorem o135_14 : OkE cX8_leastPay RX8 "leastPay" 7 7 false (14, .invokestatic 144, 17, []) := ⟨rfl, c_S dX8_leastPay_14 wd_940 wd_941 wd_64 wd_942 nmh_8⟩
theorem o135_17 : OkE cX8_leastPay RX8 "leastPay" 7 7 false (17, .ifCond .eq 31, 20, []) := (r_if_eq dX8_leastPay_17 rfl).row
theorem o135_20 : OkE cX8_leastPay RX8 "leastPay" 7 7 false (20, .iload 3, 21, []) := (r_iload_n dX8_leastPay_20 rfl).row
theorem o135_21 : OkE cX8_leastPay RX8 "leastPay" 7 7 false (21, .ifCond .lt 31, 24, []) := (r_if_lt dX8_leastPay_21 rfl).row
theorem o135_24 : OkE cX8_leastPay RX8 "leastPay" 7 7 false (24, .iload 3, 25, []) := (r_iload_n dX8_leastPay_24 rfl).row
theorem o135_25 : OkE cX8_leastPay RX8 "leastPay" 7 7 false (25, .iconst 999, 28, []) := (r_sipush dX8_leastPay_25 rfl).row
theorem o135_28 : OkE cX8_leastPay RX8 "leastPay" 7 7 false (28, .if_icmp .le 34, 31, []) := (r_icmp_le dX8_leastPay_28 rfl).row
theorem o135_31 : OkE cX8_leastPay RX8 "leastPay" 7 7 false (31, .iconst (-2), 33, [0, 1, 2, 3]) := (r_bipush dX8_leastPay_31 rfl).row
theorem o135_33 : OkE cX8_leastPay RX8 "leastPay" 7 7 false (33, .ireturn, 34, []) := dX8_leastPay_33
theorem o135_34 : OkE cX8_leastPay RX8 "leastPay" 7 7 false (34, .aload 0, 35, []) := (r_aload_n dX8_leastPay_34 rfl).row
theorem o135_35 : OkE cX8_leastPay RX8 "leastPay" 7 7 false (35, .iload 1, 36, []) := (r_iload_n dX8_leastPay_35 rfl).row
theorem o135_36 : OkE cX8_leastPay RX8 "leastPay" 7 7 false (36, .iconst 0, 37, []) := (r_iconst dX8_leastPay_36 rfl).row
theorem o135_37 : OkE cX8_leastPay RX8 "leastPay" 7 7 false (37, .invokevirtual 148, 40, []) := ⟨rfl, c_V dX8_leastPay_37 wd_943 wd_945 wd_34 wd_64 wd_946 nmh_8⟩
theorem o135_40 : OkE cX8_leastPay RX8 "leastPay" 7 7 false (40, .istore 4, 42, []) := (r_istore dX8_leastPay_40).row
theorem o135_42 : OkE cX8_leastPay RX8 "leastPay" 7 7 false (42, .aload 0, 43, []) := (r_aload_n dX8_leastPay_42 rfl).row
theorem o135_43 : OkE cX8_leastPay RX8 "leastPay" 7 7 false (43, .iload 1, 44, []) := (r_iload_n dX8_leastPay_43 rfl).row
theorem o135_44 : OkE cX8_leastPay RX8 "leastPay" 7 7 false (44, .iconst 1, 45, []) := (r_iconst dX8_leastPay_44 rfl).row
theorem o135_45 : OkE cX8_leastPay RX8 "leastPay" 7 7 false (45, .invokevirtual 148, 48, []) := ⟨rfl, c_V dX8_leastPay_45 wd_943 wd_945 wd_34 wd_64 wd_946 nmh_8⟩
theorem o135_48 : OkE cX8_leastPay RX8 "leastPay" 7 7 false (48, .istore 5, 50, []) := (r_istore dX8_leastPay_48).row
theorem o135_50 : OkE cX8_leastPay RX8 "leastPay" 7 7 false (50, .iconst 0, 51, []) := (r_iconst dX8_leastPay_50 rfl).row
theorem o135_51 : OkE cX8_leastPay RX8 "leastPay" 7 7 false (51, .istore 6, 53, []) := (r_istore dX8_leastPay_51).row
theorem o135_53 : OkE cX8_leastPay RX8 "leastPay" 7 7 false (53, .iload 6, 55, [0, 1]) := (r_iload dX8_leastPay_53).row
theorem o135_55 : OkE cX8_leastPay RX8 "leastPay" 7 7 false (55, .iconst 20, 57, []) := (r_bipush dX8_leastPay_55 rfl).row
theorem o135_57 : OkE cX8_leastPay RX8 "leastPay" 7 7 false (57, .if_icmp .gt 89, 60, []) := (r_icmp_gt dX8_leastPay_57 rfl).row
theorem o135_60 : OkE cX8_leastPay RX8 "leastPay" 7 7 false (60, .iload 6, 62, []) := (r_iload dX8_leastPay_60).row
theorem o135_62 : OkE cX8_leastPay RX8 "leastPay" 7 7 false (62, .iload 6, 64, []) := (r_iload dX8_leastPay_62).row
theorem o135_64 : OkE cX8_leastPay RX8 "leastPay" 7 7 false (64, .iload 2, 65, []) := (r_iload_n dX8_leastPay_64 rfl).row
theorem o135_65 : OkE cX8_leastPay RX8 "leastPay" 7 7 false (65, .if_icmp .lt 73, 68, []) := (r_icmp_lt dX8_leastPay_65 rfl).row
theorem o135_68 : OkE cX8_leastPay RX8 "leastPay" 7 7 false (68, .iload 5, 70, []) := (r_iload dX8_leastPay_68).row
theorem o135_70 : OkE cX8_leastPay RX8 "leastPay" 7 7 false (70, .goto 75, 73, []) := (r_goto dX8_leastPay_70 rfl).row
theorem o135_73 : OkE cX8_leastPay RX8 "leastPay" 7 7 false (73, .iload 4, 75, []) := (r_iload dX8_leastPay_73).row
theorem o135_75 : OkE cX8_leastPay RX8 "leastPay" 7 7 false (75, .imul, 76, [0, 1]) := (r_imul dX8_leastPay_75).row
theorem o135_76 : OkE cX8_leastPay RX8 "leastPay" 7 7 false (76, .iload 3, 77, []) := (r_iload_n dX8_leastPay_76 rfl).row
theorem o135_77 : OkE cX8_leastPay RX8 "leastPay" 7 7 false (77, .if_icmp .lt 83, 80, []) := (r_icmp_lt dX8_leastPay_77 rfl).row
theorem o135_80 : OkE cX8_leastPay RX8 "leastPay" 7 7 false (80, .iload 6, 82, []) := (r_iload dX8_leastPay_80).row
theorem o135_82 : OkE cX8_leastPay RX8 "leastPay" 7 7 false (82, .ireturn, 83, []) := dX8_leastPay_82
theorem o135_83 : OkE cX8_leastPay RX8 "leastPay" 7 7 false (83, .iinc 6 1, 86, []) := (r_iinc dX8_leastPay_83 rfl).row
theorem o135_86 : OkE cX8_leastPay RX8 "leastPay" 7 7 false (86, .goto 53, 89, []) := (r_goto dX8_leastPay_86 rfl).row
theorem o135_89 : OkE cX8_leastPay RX8 "leastPay" 7 7 false (89, .iconst (-9), 91, []) := (r_bipush dX8_leastPay_89 rfl).row
theorem o135_91 : OkE cX8_leastPay RX8 "leastPay" 7 7 false (91, .ireturn, 92, []) := dX8_leastPay_91
theorem ok135 : ∀ x ∈ k135, OkE cX8_leastPay RX8 "leastPay" 7 7 false x := List.forall_mem_cons.mpr ⟨o135_0, List.forall_mem_cons.mpr ⟨o135_1, List.forall_mem_cons.mpr ⟨o135_4, List.forall_mem_cons.mpr ⟨o135_5, List.forall_mem_cons.mpr ⟨o135_8, List.forall_mem_cons.mpr ⟨o135_11, List.forall_mem_cons.mpr ⟨o135_12, List.forall_mem_cons.mpr ⟨o135_13, List.forall_mem_cons.mpr ⟨o135_14, List.forall_mem_cons.mpr ⟨o135_17, List.forall_mem_cons.mpr ⟨o135_20, List.forall_mem_cons.mpr ⟨o135_21, List.forall_mem_cons.mpr ⟨o135_24, List.forall_mem_cons.mpr ⟨o135_25, List.forall_mem_cons.mpr ⟨o135_28, List.forall_mem_cons.mpr ⟨o135_31, List.forall_mem_cons.mpr ⟨o135_33, List.forall_mem_cons.mpr ⟨o135_34, List.forall_mem_cons.mpr ⟨o135_35, List.forall_mem_cons.mpr ⟨o135_36, List.forall_mem_cons.mpr ⟨o135_37, List.forall_mem_cons.mpr ⟨o135_40, List.forall_mem_cons.mpr ⟨o135_42, List.forall_mem_cons.mpr ⟨o135_43, List.forall_mem_cons.mpr ⟨o135_44, List.forall_mem_cons.mpr ⟨o135_45, List.forall_mem_cons.mpr ⟨o135_48, List.forall_mem_cons.mpr ⟨o135_50, List.forall_mem_cons.mpr ⟨o135_51, List.forall_mem_cons.mpr ⟨o135_53, List.forall_mem_cons.mpr ⟨o135_55, List.forall_mem_cons.mpr ⟨o135_57, List.forall_mem_cons.mpr ⟨o135_60, List.forall_mem_cons.mpr ⟨o135_62, List.forall_mem_cons.mpr ⟨o135_64, List.forall_mem_cons.mpr ⟨o135_65, List.forall_mem_cons.mpr ⟨o135_68, List.forall_mem_cons.mpr ⟨o135_70, List.forall_mem_cons.mpr ⟨o135_73, List.forall_mem_cons.mpr ⟨o135_75, List.forall_mem_cons.mpr ⟨o135_76, List.forall_mem_cons.mpr ⟨o135_77, List.forall_mem_cons.mpr ⟨o135_80, List.forall_mem_cons.mpr ⟨o135_82, List.forall_mem_cons.mpr ⟨o135_83, List.forall_mem_cons.mpr ⟨o135_86, List.forall_mem_cons.mpr ⟨o135_89, List.forall_mem_cons.mpr ⟨o135_91, fun _ h => absurd h List.not_mem_nil⟩⟩⟩⟩⟩⟩⟩⟩⟩⟩⟩⟩⟩⟩⟩⟩⟩⟩⟩⟩⟩⟩⟩⟩⟩⟩⟩⟩⟩⟩⟩⟩⟩⟩⟩⟩⟩⟩⟩⟩⟩⟩⟩⟩⟩⟩⟩⟩
theorem o136_0 : OkE cX8_keep RX8 "keep" 2 2 false (0, .iload 1, 1, []) := (r_iload_n dX8_keep_0 rfl).row
theorem o136_1 : OkE cX8_keep RX8 "keep" 2 2 false (1, .invokestatic 142, 4, []) := ⟨rfl, c_S dX8_keep_1 wd_963 wd_964 wd_64 wd_965 nmh_8⟩
theorem o136_4 : OkE cX8_keep RX8 "keep" 2 2 false (4, .ifCond .ne 9, 7, []) := (r_if_ne dX8_keep_4 rfl).row
theorem o136_7 : OkE cX8_keep RX8 "keep" 2 2 false (7, .iconst (-1), 8, []) := (r_iconst dX8_keep_7 rfl).row
theorem o136_8 : OkE cX8_keep RX8 "keep" 2 2 false (8, .ireturn, 9, []) := dX8_keep_8
theorem o136_9 : OkE cX8_keep RX8 "keep" 2 2 false (9, .aload 0, 10, []) := (r_aload_n dX8_keep_9 rfl).row
theorem o136_10 : OkE cX8_keep RX8 "keep" 2 2 false (10, .invokeinterface 8 7, 13, []) := (r_get (C := RX8) (T := TX8) (N := 11) (ci := 8) (j := 7) (ref := RX8) dX8_keep_10 rfl inX8 (by decide) wd_395 rfl).row
theorem o136_13 : OkE cX8_keep RX8 "keep" 2 2 false (13, .iload 1, 14, []) := (r_iload_n dX8_keep_13 rfl).row
theorem o136_14 : OkE cX8_keep RX8 "keep" 2 2 false (14, .aaload, 15, []) := (r_aald dX8_keep_14).row
theorem o136_15 : OkE cX8_keep RX8 "keep" 2 2 false (15, .aload 0, 16, []) := (r_aload_n dX8_keep_15 rfl).row
theorem o136_16 : OkE cX8_keep RX8 "keep" 2 2 false (16, .invokeinterface 8 5, 19, []) := (r_get (C := RX8) (T := TX8) (N := 11) (ci := 8) (j := 5) (ref := RX8) dX8_keep_16 rfl inX8 (by decide) wd_393 rfl).row
theorem o136_19 : OkE cX8_keep RX8 "keep" 2 2 false (19, .invokevirtual 19, 22, []) := ⟨rfl, c_V dX8_keep_19 wd_966 wd_967 wd_968 wd_70 wd_969 nmh_1⟩
theorem o136_22 : OkE cX8_keep RX8 "keep" 2 2 false (22, .aload 0, 23, []) := (r_aload_n dX8_keep_22 rfl).row
theorem o136_23 : OkE cX8_keep RX8 "keep" 2 2 false (23, .invokeinterface 8 8, 26, []) := (r_get (C := RX8) (T := TX8) (N := 11) (ci := 8) (j := 8) (ref := RX8) dX8_keep_23 rfl inX8 (by decide) wd_396 rfl).row
theorem o136_26 : OkE cX8_keep RX8 "keep" 2 2 false (26, .iload 1, 27, []) := (r_iload_n dX8_keep_26 rfl).row
theorem o136_27 : OkE cX8_keep RX8 "keep" 2 2 false (27, .iconst 1, 28, []) := (r_iconst dX8_keep_27 rfl).row
theorem o136_28 : OkE cX8_keep RX8 "keep" 2 2 false (28, .bastore, 29, []) := r_zast dX8_keep_28
theorem o136_29 : OkE cX8_keep RX8 "keep" 2 2 false (29, .aload 0, 30, []) := (r_aload_n dX8_keep_29 rfl).row
theorem o136_30 : OkE cX8_keep RX8 "keep" 2 2 false (30, .invokeinterface 8 5, 33, []) := (r_get (C := RX8) (T := TX8) (N := 11) (ci := 8) (j := 5) (ref := RX8) dX8_keep_30 rfl inX8 (by decide) wd_393 rfl).row
theorem o136_33 : OkE cX8_keep RX8 "keep" 2 2 false (33, .invokevirtual 27, 36, []) := ⟨rfl, c_V dX8_keep_33 wd_973 wd_897 wd_898 wd_70 wd_899 nmh_1⟩
theorem o136_36 : OkE cX8_keep RX8 "keep" 2 2 false (36, .ireturn, 37, []) := dX8_keep_36
theorem ok136 : ∀ x ∈ k136, OkE cX8_keep RX8 "keep" 2 2 false x := List.forall_mem_cons.mpr ⟨o136_0, List.forall_mem_cons.mpr ⟨o136_1, List.forall_mem_cons.mpr ⟨o136_4, List.forall_mem_cons.mpr ⟨o136_7, List.forall_mem_cons.mpr ⟨o136_8, List.forall_mem_cons.mpr ⟨o136_9, List.forall_mem_cons.mpr ⟨o136_10, List.forall_mem_cons.mpr ⟨o136_13, List.forall_mem_cons.mpr ⟨o136_14, List.forall_mem_cons.mpr ⟨o136_15, List.forall_mem_cons.mpr ⟨o136_16, List.forall_mem_cons.mpr ⟨o136_19, List.forall_mem_cons.mpr ⟨o136_22, List.forall_mem_cons.mpr ⟨o136_23, List.forall_mem_cons.mpr ⟨o136_26, List.forall_mem_cons.mpr ⟨o136_27, List.forall_mem_cons.mpr ⟨o136_28, List.forall_mem_cons.mpr ⟨o136_29, List.forall_mem_cons.mpr ⟨o136_30, List.forall_mem_cons.mpr ⟨o136_33, List.forall_mem_cons.mpr ⟨o136_36, fun _ h => absurd h List.not_mem_nil⟩⟩⟩⟩⟩⟩⟩⟩⟩⟩⟩⟩⟩⟩⟩⟩⟩⟩⟩⟩⟩
theorem o137_0 : OkE cX8_again RX8 "again" 2 2 false (0, .iload 1, 1, []) := (r_iload_n dX8_again_0 rfl).row
theorem o137_1 : OkE cX8_again RX8 "again" 2 2 false (1, .invokestatic 142, 4, []) := ⟨rfl, c_S dX8_again_1 wd_963 wd_964 wd_64 wd_965 nmh_8⟩
theorem o137_4 : OkE cX8_again RX8 "again" 2 2 false (4, .ifCond .ne 9, 7, []) := (r_if_ne dX8_again_4 rfl).row
theorem o137_7 : OkE cX8_again RX8 "again" 2 2 false (7, .iconst (-1), 8, []) := (r_iconst dX8_again_7 rfl).row
theorem o137_8 : OkE cX8_again RX8 "again" 2 2 false (8, .ireturn, 9, []) := dX8_again_8
theorem o137_9 : OkE cX8_again RX8 "again" 2 2 false (9, .aload 0, 10, []) := (r_aload_n dX8_again_9 rfl).row
theorem o137_10 : OkE cX8_again RX8 "again" 2 2 false (10, .invokeinterface 8 8, 13, []) := (r_get (C := RX8) (T := TX8) (N := 11) (ci := 8) (j := 8) (ref := RX8) dX8_again_10 rfl inX8 (by decide) wd_396 rfl).row
theorem o137_13 : OkE cX8_again RX8 "again" 2 2 false (13, .iload 1, 14, []) := (r_iload_n dX8_again_13 rfl).row
theorem o137_14 : OkE cX8_again RX8 "again" 2 2 false (14, .baload, 15, []) := (r_zald dX8_again_14).row
theorem o137_15 : OkE cX8_again RX8 "again" 2 2 false (15, .ifCond .ne 21, 18, []) := (r_if_ne dX8_again_15 rfl).row
theorem o137_18 : OkE cX8_again RX8 "again" 2 2 false (18, .iconst (-3), 20, []) := (r_bipush dX8_again_18 rfl).row
theorem o137_20 : OkE cX8_again RX8 "again" 2 2 false (20, .ireturn, 21, []) := dX8_again_20
theorem o137_21 : OkE cX8_again RX8 "again" 2 2 false (21, .aload 0, 22, []) := (r_aload_n dX8_again_21 rfl).row
theorem o137_22 : OkE cX8_again RX8 "again" 2 2 false (22, .invokeinterface 8 5, 25, []) := (r_get (C := RX8) (T := TX8) (N := 11) (ci := 8) (j := 5) (ref := RX8) dX8_again_22 rfl inX8 (by decide) wd_393 rfl).row
theorem o137_25 : OkE cX8_again RX8 "again" 2 2 false (25, .aload 0, 26, []) := (r_aload_n dX8_again_25 rfl).row
theorem o137_26 : OkE cX8_again RX8 "again" 2 2 false (26, .invokeinterface 8 7, 29, []) := (r_get (C := RX8) (T := TX8) (N := 11) (ci := 8) (j := 7) (ref := RX8) dX8_again_26 rfl inX8 (by decide) wd_395 rfl).row
theorem o137_29 : OkE cX8_again RX8 "again" 2 2 false (29, .iload 1, 30, []) := (r_iload_n dX8_again_29 rfl).row
theorem o137_30 : OkE cX8_again RX8 "again" 2 2 false (30, .aaload, 31, []) := (r_aald dX8_again_30).row
theorem o137_31 : OkE cX8_again RX8 "again" 2 2 false (31, .invokevirtual 19, 34, []) := ⟨rfl, c_V dX8_again_31 wd_966 wd_967 wd_968 wd_70 wd_969 nmh_1⟩
theorem o137_34 : OkE cX8_again RX8 "again" 2 2 false (34, .aload 0, 35, []) := (r_aload_n dX8_again_34 rfl).row
theorem o137_35 : OkE cX8_again RX8 "again" 2 2 false (35, .invokeinterface 8 5, 38, []) := (r_get (C := RX8) (T := TX8) (N := 11) (ci := 8) (j := 5) (ref := RX8) dX8_again_35 rfl inX8 (by decide) wd_393 rfl).row
theorem o137_38 : OkE cX8_again RX8 "again" 2 2 false (38, .invokevirtual 27, 41, []) := ⟨rfl, c_V dX8_again_38 wd_973 wd_897 wd_898 wd_70 wd_899 nmh_1⟩
theorem o137_41 : OkE cX8_again RX8 "again" 2 2 false (41, .ireturn, 42, []) := dX8_again_41
theorem ok137 : ∀ x ∈ k137, OkE cX8_again RX8 "again" 2 2 false x := List.forall_mem_cons.mpr ⟨o137_0, List.forall_mem_cons.mpr ⟨o137_1, List.forall_mem_cons.mpr ⟨o137_4, List.forall_mem_cons.mpr ⟨o137_7, List.forall_mem_cons.mpr ⟨o137_8, List.forall_mem_cons.mpr ⟨o137_9, List.forall_mem_cons.mpr ⟨o137_10, List.forall_mem_cons.mpr ⟨o137_13, List.forall_mem_cons.mpr ⟨o137_14, List.forall_mem_cons.mpr ⟨o137_15, List.forall_mem_cons.mpr ⟨o137_18, List.forall_mem_cons.mpr ⟨o137_20, List.forall_mem_cons.mpr ⟨o137_21, List.forall_mem_cons.mpr ⟨o137_22, List.forall_mem_cons.mpr ⟨o137_25, List.forall_mem_cons.mpr ⟨o137_26, List.forall_mem_cons.mpr ⟨o137_29, List.forall_mem_cons.mpr ⟨o137_30, List.forall_mem_cons.mpr ⟨o137_31, List.forall_mem_cons.mpr ⟨o137_34, List.forall_mem_cons.mpr ⟨o137_35, List.forall_mem_cons.mpr ⟨o137_38, List.forall_mem_cons.mpr ⟨o137_41, fun _ h => absurd h List.not_mem_nil⟩⟩⟩⟩⟩⟩⟩⟩⟩⟩⟩⟩⟩⟩⟩⟩⟩⟩⟩⟩⟩⟩⟩
theorem o138_0 : OkE cX8_count RX8 "count" 2 1 false (0, .iload 1, 1, []) := (r_iload_n dX8_count_0 rfl).row
theorem o138_1 : OkE cX8_count RX8 "count" 2 1 false (1, .tableswitch 64 0 3 #[32, 40, 48, 56], 32, []) := (r_tsw dX8_count_1 rfl rfl rfl (by decide) rfl).row
theorem o138_32 : OkE cX8_count RX8 "count" 2 1 false (32, .aload 0, 33, []) := (r_aload_n dX8_count_32 rfl).row
theorem o138_33 : OkE cX8_count RX8 "count" 2 1 false (33, .invokeinterface 8 0, 36, []) := (r_get (C := RX8) (T := TX8) (N := 11) (ci := 8) (j := 0) (ref := RX8) dX8_count_33 rfl inX8 (by decide) wd_388 rfl).row
theorem o138_36 : OkE cX8_count RX8 "count" 2 1 false (36, .invokevirtual 75, 39, []) := ⟨rfl, c_V dX8_count_36 wd_434 wd_435 wd_436 wd_65 wd_437 nmh_5⟩
theorem o138_39 : OkE cX8_count RX8 "count" 2 1 false (39, .ireturn, 40, []) := dX8_count_39
theorem o138_40 : OkE cX8_count RX8 "count" 2 1 false (40, .aload 0, 41, []) := (r_aload_n dX8_count_40 rfl).row
theorem o138_41 : OkE cX8_count RX8 "count" 2 1 false (41, .invokeinterface 8 3, 44, []) := (r_get (C := RX8) (T := TX8) (N := 11) (ci := 8) (j := 3) (ref := RX8) dX8_count_41 rfl inX8 (by decide) wd_391 rfl).row
theorem o138_44 : OkE cX8_count RX8 "count" 2 1 false (44, .invokevirtual 65, 47, []) := ⟨rfl, c_V dX8_count_44 wd_648 wd_649 wd_650 wd_68 wd_651 nmh_4⟩
theorem o138_47 : OkE cX8_count RX8 "count" 2 1 false (47, .ireturn, 48, []) := dX8_count_47
theorem o138_48 : OkE cX8_count RX8 "count" 2 1 false (48, .aload 0, 49, []) := (r_aload_n dX8_count_48 rfl).row
theorem o138_49 : OkE cX8_count RX8 "count" 2 1 false (49, .invokeinterface 8 5, 52, []) := (r_get (C := RX8) (T := TX8) (N := 11) (ci := 8) (j := 5) (ref := RX8) dX8_count_49 rfl inX8 (by decide) wd_393 rfl).row
theorem o138_52 : OkE cX8_count RX8 "count" 2 1 false (52, .invokeinterface 1 10, 55, []) := (r_getN (C := RX1) (T := TX1) (N := 11) (ci := 1) (j := 10) (ref := RX1) dX8_count_52 rfl inX1 (by decide) wd_219 rfl).row
theorem o138_55 : OkE cX8_count RX8 "count" 2 1 false (55, .ireturn, 56, []) := dX8_count_55
theorem o138_56 : OkE cX8_count RX8 "count" 2 1 false (56, .aload 0, 57, []) := (r_aload_n dX8_count_56 rfl).row
theorem o138_57 : OkE cX8_count RX8 "count" 2 1 false (57, .invokeinterface 8 5, 60, []) := (r_get (C := RX8) (T := TX8) (N := 11) (ci := 8) (j := 5) (ref := RX8) dX8_count_57 rfl inX8 (by decide) wd_393 rfl).row
theorem o138_60 : OkE cX8_count RX8 "count" 2 1 false (60, .invokevirtual 27, 63, []) := ⟨rfl, c_V dX8_count_60 wd_973 wd_897 wd_898 wd_70 wd_899 nmh_1⟩
theorem o138_63 : OkE cX8_count RX8 "count" 2 1 false (63, .ireturn, 64, []) := dX8_count_63
theorem o138_64 : OkE cX8_count RX8 "count" 2 1 false (64, .iconst (-2), 66, []) := (r_bipush dX8_count_64 rfl).row
theorem o138_66 : OkE cX8_count RX8 "count" 2 1 false (66, .ireturn, 67, []) := dX8_count_66
theorem ok138 : ∀ x ∈ k138, OkE cX8_count RX8 "count" 2 1 false x := List.forall_mem_cons.mpr ⟨o138_0, List.forall_mem_cons.mpr ⟨o138_1, List.forall_mem_cons.mpr ⟨o138_32, List.forall_mem_cons.mpr ⟨o138_33, List.forall_mem_cons.mpr ⟨o138_36, List.forall_mem_cons.mpr ⟨o138_39, List.forall_mem_cons.mpr ⟨o138_40, List.forall_mem_cons.mpr ⟨o138_41, List.forall_mem_cons.mpr ⟨o138_44, List.forall_mem_cons.mpr ⟨o138_47, List.forall_mem_cons.mpr ⟨o138_48, List.forall_mem_cons.mpr ⟨o138_49, List.forall_mem_cons.mpr ⟨o138_52, List.forall_mem_cons.mpr ⟨o138_55, List.forall_mem_cons.mpr ⟨o138_56, List.forall_mem_cons.mpr ⟨o138_57, List.forall_mem_cons.mpr ⟨o138_60, List.forall_mem_cons.mpr ⟨o138_63, List.forall_mem_cons.mpr ⟨o138_64, List.forall_mem_cons.mpr ⟨o138_66, fun _ h => absurd h List.not_mem_nil⟩⟩⟩⟩⟩⟩⟩⟩⟩⟩⟩⟩⟩⟩⟩⟩⟩⟩⟩⟩
theorem o139_0 : OkE cX8_isRow RX8 "isRow" 1 0 false (0, .iload 0, 1, []) := (r_iload_n dX8_isRow_0 rfl).row
theorem o139_1 : OkE cX8_isRow RX8 "isRow" 1 0 false (1, .ifCond .lt 13, 4, []) := (r_if_lt dX8_isRow_1 rfl).row
theorem o139_4 : OkE cX8_isRow RX8 "isRow" 1 0 false (4, .iload 0, 5, []) := (r_iload_n dX8_isRow_4 rfl).row
theorem o139_5 : OkE cX8_isRow RX8 "isRow" 1 0 false (5, .iconst 3, 6, []) := (r_iconst dX8_isRow_5 rfl).row
theorem o139_6 : OkE cX8_isRow RX8 "isRow" 1 0 false (6, .if_icmp .ge 13, 9, []) := (r_icmp_ge dX8_isRow_6 rfl).row
theorem o139_9 : OkE cX8_isRow RX8 "isRow" 1 0 false (9, .iconst 1, 10, []) := (r_iconst dX8_isRow_9 rfl).row
theorem o139_10 : OkE cX8_isRow RX8 "isRow" 1 0 false (10, .goto 14, 13, []) := (r_goto dX8_isRow_10 rfl).row
theorem o139_13 : OkE cX8_isRow RX8 "isRow" 1 0 false (13, .iconst 0, 14, [0]) := (r_iconst dX8_isRow_13 rfl).row
theorem o139_14 : OkE cX8_isRow RX8 "isRow" 1 0 false (14, .ireturn, 15, [0]) := dX8_isRow_14
theorem ok139 : ∀ x ∈ k139, OkE cX8_isRow RX8 "isRow" 1 0 false x := List.forall_mem_cons.mpr ⟨o139_0, List.forall_mem_cons.mpr ⟨o139_1, List.forall_mem_cons.mpr ⟨o139_4, List.forall_mem_cons.mpr ⟨o139_5, List.forall_mem_cons.mpr ⟨o139_6, List.forall_mem_cons.mpr ⟨o139_9, List.forall_mem_cons.mpr ⟨o139_10, List.forall_mem_cons.mpr ⟨o139_13, List.forall_mem_cons.mpr ⟨o139_14, fun _ h => absurd h List.not_mem_nil⟩⟩⟩⟩⟩⟩⟩⟩⟩
theorem o140_0 : OkE cX8_isKind RX8 "isKind" 1 0 false (0, .iload 0, 1, []) := (r_iload_n dX8_isKind_0 rfl).row
theorem o140_1 : OkE cX8_isKind RX8 "isKind" 1 0 false (1, .ifCond .lt 13, 4, []) := (r_if_lt dX8_isKind_1 rfl).row
theorem o140_4 : OkE cX8_isKind RX8 "isKind" 1 0 false (4, .iload 0, 5, []) := (r_iload_n dX8_isKind_4 rfl).row
theorem o140_5 : OkE cX8_isKind RX8 "isKind" 1 0 false (5, .iconst 3, 6, []) := (r_iconst dX8_isKind_5 rfl).row
theorem o140_6 : OkE cX8_isKind RX8 "isKind" 1 0 false (6, .if_icmp .ge 13, 9, []) := (r_icmp_ge dX8_isKind_6 rfl).row
theorem o140_9 : OkE cX8_isKind RX8 "isKind" 1 0 false (9, .iconst 1, 10, []) := (r_iconst dX8_isKind_9 rfl).row
theorem o140_10 : OkE cX8_isKind RX8 "isKind" 1 0 false (10, .goto 14, 13, []) := (r_goto dX8_isKind_10 rfl).row
theorem o140_13 : OkE cX8_isKind RX8 "isKind" 1 0 false (13, .iconst 0, 14, [0]) := (r_iconst dX8_isKind_13 rfl).row
theorem o140_14 : OkE cX8_isKind RX8 "isKind" 1 0 false (14, .ireturn, 15, [0]) := dX8_isKind_14
theorem ok140 : ∀ x ∈ k140, OkE cX8_isKind RX8 "isKind" 1 0 false x := List.forall_mem_cons.mpr ⟨o140_0, List.forall_mem_cons.mpr ⟨o140_1, List.forall_mem_cons.mpr ⟨o140_4, List.forall_mem_cons.mpr ⟨o140_5, List.forall_mem_cons.mpr ⟨o140_6, List.forall_mem_cons.mpr ⟨o140_9, List.forall_mem_cons.mpr ⟨o140_10, List.forall_mem_cons.mpr ⟨o140_13, List.forall_mem_cons.mpr ⟨o140_14, fun _ h => absurd h List.not_mem_nil⟩⟩⟩⟩⟩⟩⟩⟩⟩
theorem o141_0 : OkE cX8_isHalfHour RX8 "isHalfHour" 1 0 false (0, .iload 0, 1, []) := (r_iload_n dX8_isHalfHour_0 rfl).row
theorem o141_1 : OkE cX8_isHalfHour RX8 "isHalfHour" 1 0 false (1, .ifCond .lt 14, 4, []) := (r_if_lt dX8_isHalfHour_1 rfl).row
theorem o141_4 : OkE cX8_isHalfHour RX8 "isHalfHour" 1 0 false (4, .iload 0, 5, []) := (r_iload_n dX8_isHalfHour_4 rfl).row
theorem o141_5 : OkE cX8_isHalfHour RX8 "isHalfHour" 1 0 false (5, .iconst 6, 7, []) := (r_bipush dX8_isHalfHour_5 rfl).row
theorem o141_7 : OkE cX8_isHalfHour RX8 "isHalfHour" 1 0 false (7, .if_icmp .ge 14, 10, []) := (r_icmp_ge dX8_isHalfHour_7 rfl).row
theorem o141_10 : OkE cX8_isHalfHour RX8 "isHalfHour" 1 0 false (10, .iconst 1, 11, []) := (r_iconst dX8_isHalfHour_10 rfl).row
theorem o141_11 : OkE cX8_isHalfHour RX8 "isHalfHour" 1 0 false (11, .goto 15, 14, []) := (r_goto dX8_isHalfHour_11 rfl).row
theorem o141_14 : OkE cX8_isHalfHour RX8 "isHalfHour" 1 0 false (14, .iconst 0, 15, [0]) := (r_iconst dX8_isHalfHour_14 rfl).row
theorem o141_15 : OkE cX8_isHalfHour RX8 "isHalfHour" 1 0 false (15, .ireturn, 16, [0]) := dX8_isHalfHour_15
theorem ok141 : ∀ x ∈ k141, OkE cX8_isHalfHour RX8 "isHalfHour" 1 0 false x := List.forall_mem_cons.mpr ⟨o141_0, List.forall_mem_cons.mpr ⟨o141_1, List.forall_mem_cons.mpr ⟨o141_4, List.forall_mem_cons.mpr ⟨o141_5, List.forall_mem_cons.mpr ⟨o141_7, List.forall_mem_cons.mpr ⟨o141_10, List.forall_mem_cons.mpr ⟨o141_11, List.forall_mem_cons.mpr ⟨o141_14, List.forall_mem_cons.mpr ⟨o141_15, fun _ h => absurd h List.not_mem_nil⟩⟩⟩⟩⟩⟩⟩⟩⟩
theorem o142_0 : OkE cX8_isSlot RX8 "isSlot" 1 0 false (0, .iload 0, 1, []) := (r_iload_n dX8_isSlot_0 rfl).row
theorem o142_1 : OkE cX8_isSlot RX8 "isSlot" 1 0 false (1, .ifCond .lt 13, 4, []) := (r_if_lt dX8_isSlot_1 rfl).row
theorem o142_4 : OkE cX8_isSlot RX8 "isSlot" 1 0 false (4, .iload 0, 5, []) := (r_iload_n dX8_isSlot_4 rfl).row
theorem o142_5 : OkE cX8_isSlot RX8 "isSlot" 1 0 false (5, .iconst 2, 6, []) := (r_iconst dX8_isSlot_5 rfl).row
theorem o142_6 : OkE cX8_isSlot RX8 "isSlot" 1 0 false (6, .if_icmp .ge 13, 9, []) := (r_icmp_ge dX8_isSlot_6 rfl).row
theorem o142_9 : OkE cX8_isSlot RX8 "isSlot" 1 0 false (9, .iconst 1, 10, []) := (r_iconst dX8_isSlot_9 rfl).row
theorem o142_10 : OkE cX8_isSlot RX8 "isSlot" 1 0 false (10, .goto 14, 13, []) := (r_goto dX8_isSlot_10 rfl).row
theorem o142_13 : OkE cX8_isSlot RX8 "isSlot" 1 0 false (13, .iconst 0, 14, [0]) := (r_iconst dX8_isSlot_13 rfl).row
theorem o142_14 : OkE cX8_isSlot RX8 "isSlot" 1 0 false (14, .ireturn, 15, [0]) := dX8_isSlot_14
theorem ok142 : ∀ x ∈ k142, OkE cX8_isSlot RX8 "isSlot" 1 0 false x := List.forall_mem_cons.mpr ⟨o142_0, List.forall_mem_cons.mpr ⟨o142_1, List.forall_mem_cons.mpr ⟨o142_4, List.forall_mem_cons.mpr ⟨o142_5, List.forall_mem_cons.mpr ⟨o142_6, List.forall_mem_cons.mpr ⟨o142_9, List.forall_mem_cons.mpr ⟨o142_10, List.forall_mem_cons.mpr ⟨o142_13, List.forall_mem_cons.mpr ⟨o142_14, fun _ h => absurd h List.not_mem_nil⟩⟩⟩⟩⟩⟩⟩⟩⟩
theorem o143_0 : OkE cX8_isPapers RX8 "isPapers" 1 0 false (0, .iload 0, 1, []) := (r_iload_n dX8_isPapers_0 rfl).row
theorem o143_1 : OkE cX8_isPapers RX8 "isPapers" 1 0 false (1, .ifCond .lt 14, 4, []) := (r_if_lt dX8_isPapers_1 rfl).row
theorem o143_4 : OkE cX8_isPapers RX8 "isPapers" 1 0 false (4, .iload 0, 5, []) := (r_iload_n dX8_isPapers_4 rfl).row
theorem o143_5 : OkE cX8_isPapers RX8 "isPapers" 1 0 false (5, .iconst 60, 7, []) := (r_bipush dX8_isPapers_5 rfl).row
theorem o143_7 : OkE cX8_isPapers RX8 "isPapers" 1 0 false (7, .if_icmp .gt 14, 10, []) := (r_icmp_gt dX8_isPapers_7 rfl).row
theorem o143_10 : OkE cX8_isPapers RX8 "isPapers" 1 0 false (10, .iconst 1, 11, []) := (r_iconst dX8_isPapers_10 rfl).row
theorem o143_11 : OkE cX8_isPapers RX8 "isPapers" 1 0 false (11, .goto 15, 14, []) := (r_goto dX8_isPapers_11 rfl).row
theorem o143_14 : OkE cX8_isPapers RX8 "isPapers" 1 0 false (14, .iconst 0, 15, [0]) := (r_iconst dX8_isPapers_14 rfl).row
theorem o143_15 : OkE cX8_isPapers RX8 "isPapers" 1 0 false (15, .ireturn, 16, [0]) := dX8_isPapers_15
theorem ok143 : ∀ x ∈ k143, OkE cX8_isPapers RX8 "isPapers" 1 0 false x := List.forall_mem_cons.mpr ⟨o143_0, List.forall_mem_cons.mpr ⟨o143_1, List.forall_mem_cons.mpr ⟨o143_4, List.forall_mem_cons.mpr ⟨o143_5, List.forall_mem_cons.mpr ⟨o143_7, List.forall_mem_cons.mpr ⟨o143_10, List.forall_mem_cons.mpr ⟨o143_11, List.forall_mem_cons.mpr ⟨o143_14, List.forall_mem_cons.mpr ⟨o143_15, fun _ h => absurd h List.not_mem_nil⟩⟩⟩⟩⟩⟩⟩⟩⟩
theorem o144_0 : OkE cX8_isCryingPay RX8 "isCryingPay" 1 0 false (0, .iload 0, 1, []) := (r_iload_n dX8_isCryingPay_0 rfl).row
theorem o144_1 : OkE cX8_isCryingPay RX8 "isCryingPay" 1 0 false (1, .ifCond .lt 14, 4, []) := (r_if_lt dX8_isCryingPay_1 rfl).row
theorem o144_4 : OkE cX8_isCryingPay RX8 "isCryingPay" 1 0 false (4, .iload 0, 5, []) := (r_iload_n dX8_isCryingPay_4 rfl).row
theorem o144_5 : OkE cX8_isCryingPay RX8 "isCryingPay" 1 0 false (5, .iconst 21, 7, []) := (r_bipush dX8_isCryingPay_5 rfl).row
theorem o144_7 : OkE cX8_isCryingPay RX8 "isCryingPay" 1 0 false (7, .if_icmp .gt 14, 10, []) := (r_icmp_gt dX8_isCryingPay_7 rfl).row
theorem o144_10 : OkE cX8_isCryingPay RX8 "isCryingPay" 1 0 false (10, .iconst 1, 11, []) := (r_iconst dX8_isCryingPay_10 rfl).row
theorem o144_11 : OkE cX8_isCryingPay RX8 "isCryingPay" 1 0 false (11, .goto 15, 14, []) := (r_goto dX8_isCryingPay_11 rfl).row
theorem o144_14 : OkE cX8_isCryingPay RX8 "isCryingPay" 1 0 false (14, .iconst 0, 15, [0]) := (r_iconst dX8_isCryingPay_14 rfl).row
theorem o144_15 : OkE cX8_isCryingPay RX8 "isCryingPay" 1 0 false (15, .ireturn, 16, [0]) := dX8_isCryingPay_15
theorem ok144 : ∀ x ∈ k144, OkE cX8_isCryingPay RX8 "isCryingPay" 1 0 false x := List.forall_mem_cons.mpr ⟨o144_0, List.forall_mem_cons.mpr ⟨o144_1, List.forall_mem_cons.mpr ⟨o144_4, List.forall_mem_cons.mpr ⟨o144_5, List.forall_mem_cons.mpr ⟨o144_7, List.forall_mem_cons.mpr ⟨o144_10, List.forall_mem_cons.mpr ⟨o144_11, List.forall_mem_cons.mpr ⟨o144_14, List.forall_mem_cons.mpr ⟨o144_15, fun _ h => absurd h List.not_mem_nil⟩⟩⟩⟩⟩⟩⟩⟩⟩
theorem o145_0 : OkE cX8_refusalOfPapers RX8 "refusalOfPapers" 3 1 false (0, .aload 0, 1, []) := (r_aload_n dX8_refusalOfPapers_0 rfl).row
theorem o145_1 : OkE cX8_refusalOfPapers RX8 "refusalOfPapers" 3 1 false (1, .invokeinterface 8 9, 4, []) := (r_get (C := RX8) (T := TX8) (N := 11) (ci := 8) (j := 9) (ref := RX8) dX8_refusalOfPapers_1 rfl inX8 (by decide) wd_397 rfl).row
theorem o145_4 : OkE cX8_refusalOfPapers RX8 "refusalOfPapers" 3 1 false (4, .iload 1, 5, []) := (r_iload_n dX8_refusalOfPapers_4 rfl).row
theorem o145_5 : OkE cX8_refusalOfPapers RX8 "refusalOfPapers" 3 1 false (5, .invokevirtual 82, 8, []) := ⟨rfl, c_V dX8_refusalOfPapers_5 wd_540 wd_516 wd_517 wd_73 wd_518 nmh_6⟩
theorem o145_8 : OkE cX8_refusalOfPapers RX8 "refusalOfPapers" 3 1 false (8, .ifCond .ne 13, 11, []) := (r_if_ne dX8_refusalOfPapers_8 rfl).row
theorem o145_11 : OkE cX8_refusalOfPapers RX8 "refusalOfPapers" 3 1 false (11, .iconst (-1), 12, []) := (r_iconst dX8_refusalOfPapers_11 rfl).row
theorem o145_12 : OkE cX8_refusalOfPapers RX8 "refusalOfPapers" 3 1 false (12, .ireturn, 13, []) := dX8_refusalOfPapers_12
theorem o145_13 : OkE cX8_refusalOfPapers RX8 "refusalOfPapers" 3 1 false (13, .iload 2, 14, []) := (r_iload_n dX8_refusalOfPapers_13 rfl).row
theorem o145_14 : OkE cX8_refusalOfPapers RX8 "refusalOfPapers" 3 1 false (14, .invokestatic 143, 17, []) := ⟨rfl, c_S dX8_refusalOfPapers_14 wd_561 wd_382 wd_64 wd_383 nmh_8⟩
theorem o145_17 : OkE cX8_refusalOfPapers RX8 "refusalOfPapers" 3 1 false (17, .ifCond .eq 24, 20, []) := (r_if_eq dX8_refusalOfPapers_17 rfl).row
theorem o145_20 : OkE cX8_refusalOfPapers RX8 "refusalOfPapers" 3 1 false (20, .iconst 0, 21, []) := (r_iconst dX8_refusalOfPapers_20 rfl).row
theorem o145_21 : OkE cX8_refusalOfPapers RX8 "refusalOfPapers" 3 1 false (21, .goto 26, 24, []) := (r_goto dX8_refusalOfPapers_21 rfl).row
theorem o145_24 : OkE cX8_refusalOfPapers RX8 "refusalOfPapers" 3 1 false (24, .iconst (-2), 26, []) := (r_bipush dX8_refusalOfPapers_24 rfl).row
theorem o145_26 : OkE cX8_refusalOfPapers RX8 "refusalOfPapers" 3 1 false (26, .ireturn, 27, [0, 1, 2]) := dX8_refusalOfPapers_26
theorem ok145 : ∀ x ∈ k145, OkE cX8_refusalOfPapers RX8 "refusalOfPapers" 3 1 false x := List.forall_mem_cons.mpr ⟨o145_0, List.forall_mem_cons.mpr ⟨o145_1, List.forall_mem_cons.mpr ⟨o145_4, List.forall_mem_cons.mpr ⟨o145_5, List.forall_mem_cons.mpr ⟨o145_8, List.forall_mem_cons.mpr ⟨o145_11, List.forall_mem_cons.mpr ⟨o145_12, List.forall_mem_cons.mpr ⟨o145_13, List.forall_mem_cons.mpr ⟨o145_14, List.forall_mem_cons.mpr ⟨o145_17, List.forall_mem_cons.mpr ⟨o145_20, List.forall_mem_cons.mpr ⟨o145_21, List.forall_mem_cons.mpr ⟨o145_24, List.forall_mem_cons.mpr ⟨o145_26, fun _ h => absurd h List.not_mem_nil⟩⟩⟩⟩⟩⟩⟩⟩⟩⟩⟩⟩⟩⟩
theorem o146_0 : OkE cX8_refusalOfPlan RX8 "refusalOfPlan" 7 2 false (0, .iload 1, 1, []) := (r_iload_n dX8_refusalOfPlan_0 rfl).row
theorem o146_1 : OkE cX8_refusalOfPlan RX8 "refusalOfPlan" 7 2 false (1, .ifCond .lt 39, 4, []) := (r_if_lt dX8_refusalOfPlan_1 rfl).row
theorem o146_4 : OkE cX8_refusalOfPlan RX8 "refusalOfPlan" 7 2 false (4, .aload 0, 5, []) := (r_aload_n dX8_refusalOfPlan_4 rfl).row
theorem o146_5 : OkE cX8_refusalOfPlan RX8 "refusalOfPlan" 7 2 false (5, .invokeinterface 8 9, 8, []) := (r_get (C := RX8) (T := TX8) (N := 11) (ci := 8) (j := 9) (ref := RX8) dX8_refusalOfPlan_5 rfl inX8 (by decide) wd_397 rfl).row
theorem o146_8 : OkE cX8_refusalOfPlan RX8 "refusalOfPlan" 7 2 false (8, .iload 1, 9, []) := (r_iload_n dX8_refusalOfPlan_8 rfl).row
theorem o146_9 : OkE cX8_refusalOfPlan RX8 "refusalOfPlan" 7 2 false (9, .iconst 10, 11, []) := (r_bipush dX8_refusalOfPlan_9 rfl).row
theorem o146_11 : OkE cX8_refusalOfPlan RX8 "refusalOfPlan" 7 2 false (11, .idiv, 12, []) := (r_idiv dX8_refusalOfPlan_11).row
theorem o146_12 : OkE cX8_refusalOfPlan RX8 "refusalOfPlan" 7 2 false (12, .invokevirtual 82, 15, []) := ⟨rfl, c_V dX8_refusalOfPlan_12 wd_540 wd_516 wd_517 wd_73 wd_518 nmh_6⟩
theorem o146_15 : OkE cX8_refusalOfPlan RX8 "refusalOfPlan" 7 2 false (15, .ifCond .eq 39, 18, []) := (r_if_eq dX8_refusalOfPlan_15 rfl).row
theorem o146_18 : OkE cX8_refusalOfPlan RX8 "refusalOfPlan" 7 2 false (18, .aload 0, 19, []) := (r_aload_n dX8_refusalOfPlan_18 rfl).row
theorem o146_19 : OkE cX8_refusalOfPlan RX8 "refusalOfPlan" 7 2 false (19, .invokeinterface 8 9, 22, []) := (r_get (C := RX8) (T := TX8) (N := 11) (ci := 8) (j := 9) (ref := RX8) dX8_refusalOfPlan_19 rfl inX8 (by decide) wd_397 rfl).row
theorem o146_22 : OkE cX8_refusalOfPlan RX8 "refusalOfPlan" 7 2 false (22, .iload 1, 23, []) := (r_iload_n dX8_refusalOfPlan_22 rfl).row
theorem o146_23 : OkE cX8_refusalOfPlan RX8 "refusalOfPlan" 7 2 false (23, .iconst 10, 25, []) := (r_bipush dX8_refusalOfPlan_23 rfl).row
theorem o146_25 : OkE cX8_refusalOfPlan RX8 "refusalOfPlan" 7 2 false (25, .irem, 26, []) := (r_irem dX8_refusalOfPlan_25).row
theorem o146_26 : OkE cX8_refusalOfPlan RX8 "refusalOfPlan" 7 2 false (26, .invokevirtual 82, 29, []) := ⟨rfl, c_V dX8_refusalOfPlan_26 wd_540 wd_516 wd_517 wd_73 wd_518 nmh_6⟩
theorem o146_29 : OkE cX8_refusalOfPlan RX8 "refusalOfPlan" 7 2 false (29, .ifCond .eq 39, 32, []) := (r_if_eq dX8_refusalOfPlan_29 rfl).row
theorem o146_32 : OkE cX8_refusalOfPlan RX8 "refusalOfPlan" 7 2 false (32, .iload 2, 33, []) := (r_iload_n dX8_refusalOfPlan_32 rfl).row
theorem o146_33 : OkE cX8_refusalOfPlan RX8 "refusalOfPlan" 7 2 false (33, .invokestatic 140, 36, []) := ⟨rfl, c_S dX8_refusalOfPlan_33 wd_541 wd_356 wd_64 wd_357 nmh_8⟩
theorem o146_36 : OkE cX8_refusalOfPlan RX8 "refusalOfPlan" 7 2 false (36, .ifCond .ne 41, 39, []) := (r_if_ne dX8_refusalOfPlan_36 rfl).row
theorem o146_39 : OkE cX8_refusalOfPlan RX8 "refusalOfPlan" 7 2 false (39, .iconst (-1), 40, [0, 1, 2, 3, 4, 5, 6]) := (r_iconst dX8_refusalOfPlan_39 rfl).row
theorem o146_40 : OkE cX8_refusalOfPlan RX8 "refusalOfPlan" 7 2 false (40, .ireturn, 41, []) := dX8_refusalOfPlan_40
theorem o146_41 : OkE cX8_refusalOfPlan RX8 "refusalOfPlan" 7 2 false (41, .iload 3, 42, []) := (r_iload_n dX8_refusalOfPlan_41 rfl).row
theorem o146_42 : OkE cX8_refusalOfPlan RX8 "refusalOfPlan" 7 2 false (42, .ifCond .lt 75, 45, []) := (r_if_lt dX8_refusalOfPlan_42 rfl).row
theorem o146_45 : OkE cX8_refusalOfPlan RX8 "refusalOfPlan" 7 2 false (45, .iload 3, 46, []) := (r_iload_n dX8_refusalOfPlan_45 rfl).row
theorem o146_46 : OkE cX8_refusalOfPlan RX8 "refusalOfPlan" 7 2 false (46, .iconst 100, 48, []) := (r_bipush dX8_refusalOfPlan_46 rfl).row
theorem o146_48 : OkE cX8_refusalOfPlan RX8 "refusalOfPlan" 7 2 false (48, .idiv, 49, []) := (r_idiv dX8_refusalOfPlan_48).row
theorem o146_49 : OkE cX8_refusalOfPlan RX8 "refusalOfPlan" 7 2 false (49, .iload 3, 50, []) := (r_iload_n dX8_refusalOfPlan_49 rfl).row
theorem o146_50 : OkE cX8_refusalOfPlan RX8 "refusalOfPlan" 7 2 false (50, .iconst 100, 52, []) := (r_bipush dX8_refusalOfPlan_50 rfl).row
theorem o146_52 : OkE cX8_refusalOfPlan RX8 "refusalOfPlan" 7 2 false (52, .irem, 53, []) := (r_irem dX8_refusalOfPlan_52).row
theorem o146_53 : OkE cX8_refusalOfPlan RX8 "refusalOfPlan" 7 2 false (53, .iload 4, 55, []) := (r_iload dX8_refusalOfPlan_53).row
theorem o146_55 : OkE cX8_refusalOfPlan RX8 "refusalOfPlan" 7 2 false (55, .invokestatic 91, 58, []) := ⟨rfl, c_S dX8_refusalOfPlan_55 wd_706 wd_707 wd_69 wd_708 nmh_7⟩
theorem o146_58 : OkE cX8_refusalOfPlan RX8 "refusalOfPlan" 7 2 false (58, .ifCond .eq 75, 61, []) := (r_if_eq dX8_refusalOfPlan_58 rfl).row
theorem o146_61 : OkE cX8_refusalOfPlan RX8 "refusalOfPlan" 7 2 false (61, .iload 5, 63, []) := (r_iload dX8_refusalOfPlan_61).row
theorem o146_63 : OkE cX8_refusalOfPlan RX8 "refusalOfPlan" 7 2 false (63, .iload 6, 65, []) := (r_iload dX8_refusalOfPlan_63).row
theorem o146_65 : OkE cX8_refusalOfPlan RX8 "refusalOfPlan" 7 2 false (65, .if_icmp .lt 75, 68, []) := (r_icmp_lt dX8_refusalOfPlan_65 rfl).row
theorem o146_68 : OkE cX8_refusalOfPlan RX8 "refusalOfPlan" 7 2 false (68, .iload 5, 70, []) := (r_iload dX8_refusalOfPlan_68).row
theorem o146_70 : OkE cX8_refusalOfPlan RX8 "refusalOfPlan" 7 2 false (70, .iconst 6, 72, []) := (r_bipush dX8_refusalOfPlan_70 rfl).row
theorem o146_72 : OkE cX8_refusalOfPlan RX8 "refusalOfPlan" 7 2 false (72, .if_icmp .le 78, 75, []) := (r_icmp_le dX8_refusalOfPlan_72 rfl).row
theorem o146_75 : OkE cX8_refusalOfPlan RX8 "refusalOfPlan" 7 2 false (75, .iconst (-2), 77, [0, 1, 2, 3, 4, 5, 6]) := (r_bipush dX8_refusalOfPlan_75 rfl).row
theorem o146_77 : OkE cX8_refusalOfPlan RX8 "refusalOfPlan" 7 2 false (77, .ireturn, 78, []) := dX8_refusalOfPlan_77
theorem o146_78 : OkE cX8_refusalOfPlan RX8 "refusalOfPlan" 7 2 false (78, .iload 1, 79, []) := (r_iload_n dX8_refusalOfPlan_78 rfl).row
theorem o146_79 : OkE cX8_refusalOfPlan RX8 "refusalOfPlan" 7 2 false (79, .iconst 10, 81, []) := (r_bipush dX8_refusalOfPlan_79 rfl).row
theorem o146_81 : OkE cX8_refusalOfPlan RX8 "refusalOfPlan" 7 2 false (81, .idiv, 82, []) := (r_idiv dX8_refusalOfPlan_81).row
theorem o146_82 : OkE cX8_refusalOfPlan RX8 "refusalOfPlan" 7 2 false (82, .iload 1, 83, []) := (r_iload_n dX8_refusalOfPlan_82 rfl).row
theorem o146_83 : OkE cX8_refusalOfPlan RX8 "refusalOfPlan" 7 2 false (83, .iconst 10, 85, []) := (r_bipush dX8_refusalOfPlan_83 rfl).row
theorem o146_85 : OkE cX8_refusalOfPlan RX8 "refusalOfPlan" 7 2 false (85, .irem, 86, []) := (r_irem dX8_refusalOfPlan_85).row
theorem o146_86 : OkE cX8_refusalOfPlan RX8 "refusalOfPlan" 7 2 false (86, .if_icmp .ne 94, 89, []) := (r_icmp_ne dX8_refusalOfPlan_86 rfl).row
theorem o146_89 : OkE cX8_refusalOfPlan RX8 "refusalOfPlan" 7 2 false (89, .iconst (-3), 91, []) := (r_bipush dX8_refusalOfPlan_89 rfl).row
theorem o146_91 : OkE cX8_refusalOfPlan RX8 "refusalOfPlan" 7 2 false (91, .goto 95, 94, []) := (r_goto dX8_refusalOfPlan_91 rfl).row
theorem o146_94 : OkE cX8_refusalOfPlan RX8 "refusalOfPlan" 7 2 false (94, .iconst 0, 95, []) := (r_iconst dX8_refusalOfPlan_94 rfl).row
theorem o146_95 : OkE cX8_refusalOfPlan RX8 "refusalOfPlan" 7 2 false (95, .ireturn, 96, [0, 1, 2, 3, 4, 5, 6]) := dX8_refusalOfPlan_95
theorem ok146 : ∀ x ∈ k146, OkE cX8_refusalOfPlan RX8 "refusalOfPlan" 7 2 false x := List.forall_mem_cons.mpr ⟨o146_0, List.forall_mem_cons.mpr ⟨o146_1, List.forall_mem_cons.mpr ⟨o146_4, List.forall_mem_cons.mpr ⟨o146_5, List.forall_mem_cons.mpr ⟨o146_8, List.forall_mem_cons.mpr ⟨o146_9, List.forall_mem_cons.mpr ⟨o146_11, List.forall_mem_cons.mpr ⟨o146_12, List.forall_mem_cons.mpr ⟨o146_15, List.forall_mem_cons.mpr ⟨o146_18, List.forall_mem_cons.mpr ⟨o146_19, List.forall_mem_cons.mpr ⟨o146_22, List.forall_mem_cons.mpr ⟨o146_23, List.forall_mem_cons.mpr ⟨o146_25, List.forall_mem_cons.mpr ⟨o146_26, List.forall_mem_cons.mpr ⟨o146_29, List.forall_mem_cons.mpr ⟨o146_32, List.forall_mem_cons.mpr ⟨o146_33, List.forall_mem_cons.mpr ⟨o146_36, List.forall_mem_cons.mpr ⟨o146_39, List.forall_mem_cons.mpr ⟨o146_40, List.forall_mem_cons.mpr ⟨o146_41, List.forall_mem_cons.mpr ⟨o146_42, List.forall_mem_cons.mpr ⟨o146_45, List.forall_mem_cons.mpr ⟨o146_46, List.forall_mem_cons.mpr ⟨o146_48, List.forall_mem_cons.mpr ⟨o146_49, List.forall_mem_cons.mpr ⟨o146_50, List.forall_mem_cons.mpr ⟨o146_52, List.forall_mem_cons.mpr ⟨o146_53, List.forall_mem_cons.mpr ⟨o146_55, List.forall_mem_cons.mpr ⟨o146_58, List.forall_mem_cons.mpr ⟨o146_61, List.forall_mem_cons.mpr ⟨o146_63, List.forall_mem_cons.mpr ⟨o146_65, List.forall_mem_cons.mpr ⟨o146_68, List.forall_mem_cons.mpr ⟨o146_70, List.forall_mem_cons.mpr ⟨o146_72, List.forall_mem_cons.mpr ⟨o146_75, List.forall_mem_cons.mpr ⟨o146_77, List.forall_mem_cons.mpr ⟨o146_78, List.forall_mem_cons.mpr ⟨o146_79, List.forall_mem_cons.mpr ⟨o146_81, List.forall_mem_cons.mpr ⟨o146_82, List.forall_mem_cons.mpr ⟨o146_83, List.forall_mem_cons.mpr ⟨o146_85, List.forall_mem_cons.mpr ⟨o146_86, List.forall_mem_cons.mpr ⟨o146_89, List.forall_mem_cons.mpr ⟨o146_91, List.forall_mem_cons.mpr ⟨o146_94, List.forall_mem_cons.mpr ⟨o146_95, fun _ h => absurd h List.not_mem_nil⟩⟩⟩⟩⟩⟩⟩⟩⟩⟩⟩⟩⟩⟩⟩⟩⟩⟩⟩⟩⟩⟩⟩⟩⟩⟩⟩⟩⟩⟩⟩⟩⟩⟩⟩⟩⟩⟩⟩⟩⟩⟩⟩⟩⟩⟩⟩⟩⟩⟩⟩
theorem o147_0 : OkE cX8_letDayGoBy RX8 "letDayGoBy" 3 6 false (0, .aload 0, 1, []) := (r_aload_n dX8_letDayGoBy_0 rfl).row
theorem o147_1 : OkE cX8_letDayGoBy RX8 "letDayGoBy" 3 6 false (1, .invokeinterface 8 6, 4, []) := (r_get (C := RX8) (T := TX8) (N := 11) (ci := 8) (j := 6) (ref := RX8) dX8_letDayGoBy_1 rfl inX8 (by decide) wd_394 rfl).row
theorem o147_4 : OkE cX8_letDayGoBy RX8 "letDayGoBy" 3 6 false (4, .aload 0, 5, []) := (r_aload_n dX8_letDayGoBy_4 rfl).row
theorem o147_5 : OkE cX8_letDayGoBy RX8 "letDayGoBy" 3 6 false (5, .invokeinterface 8 9, 8, []) := (r_get (C := RX8) (T := TX8) (N := 11) (ci := 8) (j := 9) (ref := RX8) dX8_letDayGoBy_5 rfl inX8 (by decide) wd_397 rfl).row
theorem o147_8 : OkE cX8_letDayGoBy RX8 "letDayGoBy" 3 6 false (8, .aload 0, 9, []) := (r_aload_n dX8_letDayGoBy_8 rfl).row
theorem o147_9 : OkE cX8_letDayGoBy RX8 "letDayGoBy" 3 6 false (9, .invokeinterface 8 5, 12, []) := (r_get (C := RX8) (T := TX8) (N := 11) (ci := 8) (j := 5) (ref := RX8) dX8_letDayGoBy_9 rfl inX8 (by decide) wd_393 rfl).row
theorem o147_12 : OkE cX8_letDayGoBy RX8 "letDayGoBy" 3 6 false (12, .invokevirtual 45, 15, []) := ⟨rfl, c_V dX8_letDayGoBy_12 wd_814 wd_815 wd_816 wd_72 wd_817 nmh_3⟩
theorem o147_15 : OkE cX8_letDayGoBy RX8 "letDayGoBy" 3 6 false (15, .iconst 0, 16, []) := (r_iconst dX8_letDayGoBy_15 rfl).row
theorem o147_16 : OkE cX8_letDayGoBy RX8 "letDayGoBy" 3 6 false (16, .istore 1, 17, []) := (r_istore_n dX8_letDayGoBy_16 rfl).row
theorem o147_17 : OkE cX8_letDayGoBy RX8 "letDayGoBy" 3 6 false (17, .iconst 0, 18, []) := (r_iconst dX8_letDayGoBy_17 rfl).row
theorem o147_18 : OkE cX8_letDayGoBy RX8 "letDayGoBy" 3 6 false (18, .istore 2, 19, []) := (r_istore_n dX8_letDayGoBy_18 rfl).row
theorem o147_19 : OkE cX8_letDayGoBy RX8 "letDayGoBy" 3 6 false (19, .iload 2, 20, []) := (r_iload_n dX8_letDayGoBy_19 rfl).row
theorem o147_20 : OkE cX8_letDayGoBy RX8 "letDayGoBy" 3 6 false (20, .aload 0, 21, []) := (r_aload_n dX8_letDayGoBy_20 rfl).row
theorem o147_21 : OkE cX8_letDayGoBy RX8 "letDayGoBy" 3 6 false (21, .invokeinterface 8 9, 24, []) := (r_get (C := RX8) (T := TX8) (N := 11) (ci := 8) (j := 9) (ref := RX8) dX8_letDayGoBy_21 rfl inX8 (by decide) wd_397 rfl).row
theorem o147_24 : OkE cX8_letDayGoBy RX8 "letDayGoBy" 3 6 false (24, .invokeinterface 6 4, 27, []) := (r_getN (C := RX6) (T := TX6) (N := 8) (ci := 6) (j := 4) (ref := RX6) dX8_letDayGoBy_24 rfl inX6 (by decide) wd_309 rfl).row
theorem o147_27 : OkE cX8_letDayGoBy RX8 "letDayGoBy" 3 6 false (27, .if_icmp .ge 68, 30, []) := (r_icmp_ge dX8_letDayGoBy_27 rfl).row
theorem o147_30 : OkE cX8_letDayGoBy RX8 "letDayGoBy" 3 6 false (30, .aload 0, 31, []) := (r_aload_n dX8_letDayGoBy_30 rfl).row
theorem o147_31 : OkE cX8_letDayGoBy RX8 "letDayGoBy" 3 6 false (31, .invokeinterface 8 5, 34, []) := (r_get (C := RX8) (T := TX8) (N := 11) (ci := 8) (j := 5) (ref := RX8) dX8_letDayGoBy_31 rfl inX8 (by decide) wd_393 rfl).row
theorem o147_34 : OkE cX8_letDayGoBy RX8 "letDayGoBy" 3 6 false (34, .iload 2, 35, []) := (r_iload_n dX8_letDayGoBy_34 rfl).row
theorem o147_35 : OkE cX8_letDayGoBy RX8 "letDayGoBy" 3 6 false (35, .aload 0, 36, []) := (r_aload_n dX8_letDayGoBy_35 rfl).row
theorem o147_36 : OkE cX8_letDayGoBy RX8 "letDayGoBy" 3 6 false (36, .invokeinterface 8 6, 39, []) := (r_get (C := RX8) (T := TX8) (N := 11) (ci := 8) (j := 6) (ref := RX8) dX8_letDayGoBy_36 rfl inX8 (by decide) wd_394 rfl).row
theorem o147_39 : OkE cX8_letDayGoBy RX8 "letDayGoBy" 3 6 false (39, .iload 2, 40, []) := (r_iload_n dX8_letDayGoBy_39 rfl).row
theorem o147_40 : OkE cX8_letDayGoBy RX8 "letDayGoBy" 3 6 false (40, .invokevirtual 58, 43, []) := ⟨rfl, c_V dX8_letDayGoBy_40 wd_906 wd_907 wd_908 wd_72 wd_909 nmh_3⟩
theorem o147_43 : OkE cX8_letDayGoBy RX8 "letDayGoBy" 3 6 false (43, .iconst (-9), 45, []) := (r_bipush dX8_letDayGoBy_43 rfl).row
theorem o147_45 : OkE cX8_letDayGoBy RX8 "letDayGoBy" 3 6 false (45, .if_icmp .ne 52, 48, []) := (r_icmp_ne dX8_letDayGoBy_45 rfl).row
theorem o147_48 : OkE cX8_letDayGoBy RX8 "letDayGoBy" 3 6 false (48, .iconst 1, 49, []) := (r_iconst dX8_letDayGoBy_48 rfl).row
theorem o147_49 : OkE cX8_letDayGoBy RX8 "letDayGoBy" 3 6 false (49, .goto 53, 52, []) := (r_goto dX8_letDayGoBy_49 rfl).row
theorem o147_52 : OkE cX8_letDayGoBy RX8 "letDayGoBy" 3 6 false (52, .iconst 0, 53, []) := (r_iconst dX8_letDayGoBy_52 rfl).row
theorem o147_53 : OkE cX8_letDayGoBy RX8 "letDayGoBy" 3 6 false (53, .invokevirtual 28, 56, []) := ⟨rfl, c_V dX8_letDayGoBy_53 wd_923 wd_924 wd_925 wd_70 wd_926 nmh_1⟩
theorem o147_56 : OkE cX8_letDayGoBy RX8 "letDayGoBy" 3 6 false (56, .ifCond .eq 62, 59, []) := (r_if_eq dX8_letDayGoBy_56 rfl).row
theorem o147_59 : OkE cX8_letDayGoBy RX8 "letDayGoBy" 3 6 false (59, .iinc 1 1, 62, []) := (r_iinc dX8_letDayGoBy_59 rfl).row
theorem o147_62 : OkE cX8_letDayGoBy RX8 "letDayGoBy" 3 6 false (62, .iinc 2 1, 65, []) := (r_iinc dX8_letDayGoBy_62 rfl).row
theorem o147_65 : OkE cX8_letDayGoBy RX8 "letDayGoBy" 3 6 false (65, .goto 19, 68, []) := (r_goto dX8_letDayGoBy_65 rfl).row
theorem o147_68 : OkE cX8_letDayGoBy RX8 "letDayGoBy" 3 6 false (68, .iload 1, 69, []) := (r_iload_n dX8_letDayGoBy_68 rfl).row
theorem o147_69 : OkE cX8_letDayGoBy RX8 "letDayGoBy" 3 6 false (69, .ireturn, 70, []) := dX8_letDayGoBy_69
theorem ok147 : ∀ x ∈ k147, OkE cX8_letDayGoBy RX8 "letDayGoBy" 3 6 false x := List.forall_mem_cons.mpr ⟨o147_0, List.forall_mem_cons.mpr ⟨o147_1, List.forall_mem_cons.mpr ⟨o147_4, List.forall_mem_cons.mpr ⟨o147_5, List.forall_mem_cons.mpr ⟨o147_8, List.forall_mem_cons.mpr ⟨o147_9, List.forall_mem_cons.mpr ⟨o147_12, List.forall_mem_cons.mpr ⟨o147_15, List.forall_mem_cons.mpr ⟨o147_16, List.forall_mem_cons.mpr ⟨o147_17, List.forall_mem_cons.mpr ⟨o147_18, List.forall_mem_cons.mpr ⟨o147_19, List.forall_mem_cons.mpr ⟨o147_20, List.forall_mem_cons.mpr ⟨o147_21, List.forall_mem_cons.mpr ⟨o147_24, List.forall_mem_cons.mpr ⟨o147_27, List.forall_mem_cons.mpr ⟨o147_30, List.forall_mem_cons.mpr ⟨o147_31, List.forall_mem_cons.mpr ⟨o147_34, List.forall_mem_cons.mpr ⟨o147_35, List.forall_mem_cons.mpr ⟨o147_36, List.forall_mem_cons.mpr ⟨o147_39, List.forall_mem_cons.mpr ⟨o147_40, List.forall_mem_cons.mpr ⟨o147_43, List.forall_mem_cons.mpr ⟨o147_45, List.forall_mem_cons.mpr ⟨o147_48, List.forall_mem_cons.mpr ⟨o147_49, List.forall_mem_cons.mpr ⟨o147_52, List.forall_mem_cons.mpr ⟨o147_53, List.forall_mem_cons.mpr ⟨o147_56, List.forall_mem_cons.mpr ⟨o147_59, List.forall_mem_cons.mpr ⟨o147_62, List.forall_mem_cons.mpr ⟨o147_65, List.forall_mem_cons.mpr ⟨o147_68, List.forall_mem_cons.mpr ⟨o147_69, fun _ h => absurd h List.not_mem_nil⟩⟩⟩⟩⟩⟩⟩⟩⟩⟩⟩⟩⟩⟩⟩⟩⟩⟩⟩⟩⟩⟩⟩⟩⟩⟩⟩⟩⟩⟩⟩⟩⟩⟩⟩
theorem o148_0 : OkE cX8_soldAt RX8 "soldAt" 3 6 false (0, .iload 2, 1, []) := (r_iload_n dX8_soldAt_0 rfl).row
theorem o148_1 : OkE cX8_soldAt RX8 "soldAt" 3 6 false (1, .ifCond .eq 23, 4, []) := (r_if_eq dX8_soldAt_1 rfl).row
theorem o148_4 : OkE cX8_soldAt RX8 "soldAt" 3 6 false (4, .aload 0, 5, []) := (r_aload_n dX8_soldAt_4 rfl).row
theorem o148_5 : OkE cX8_soldAt RX8 "soldAt" 3 6 false (5, .invokeinterface 8 6, 8, []) := (r_get (C := RX8) (T := TX8) (N := 11) (ci := 8) (j := 6) (ref := RX8) dX8_soldAt_5 rfl inX8 (by decide) wd_394 rfl).row
theorem o148_8 : OkE cX8_soldAt RX8 "soldAt" 3 6 false (8, .aload 0, 9, []) := (r_aload_n dX8_soldAt_8 rfl).row
theorem o148_9 : OkE cX8_soldAt RX8 "soldAt" 3 6 false (9, .invokeinterface 8 9, 12, []) := (r_get (C := RX8) (T := TX8) (N := 11) (ci := 8) (j := 9) (ref := RX8) dX8_soldAt_9 rfl inX8 (by decide) wd_397 rfl).row
theorem o148_12 : OkE cX8_soldAt RX8 "soldAt" 3 6 false (12, .aload 0, 13, []) := (r_aload_n dX8_soldAt_12 rfl).row
theorem o148_13 : OkE cX8_soldAt RX8 "soldAt" 3 6 false (13, .invokeinterface 8 5, 16, []) := (r_get (C := RX8) (T := TX8) (N := 11) (ci := 8) (j := 5) (ref := RX8) dX8_soldAt_13 rfl inX8 (by decide) wd_393 rfl).row
theorem o148_16 : OkE cX8_soldAt RX8 "soldAt" 3 6 false (16, .iload 1, 17, []) := (r_iload_n dX8_soldAt_16 rfl).row
theorem o148_17 : OkE cX8_soldAt RX8 "soldAt" 3 6 false (17, .invokevirtual 46, 20, []) := ⟨rfl, c_V dX8_soldAt_17 wd_947 wd_948 wd_949 wd_72 wd_950 nmh_3⟩
theorem o148_20 : OkE cX8_soldAt RX8 "soldAt" 3 6 false (20, .goto 38, 23, []) := (r_goto dX8_soldAt_20 rfl).row
theorem o148_23 : OkE cX8_soldAt RX8 "soldAt" 3 6 false (23, .aload 0, 24, []) := (r_aload_n dX8_soldAt_23 rfl).row
theorem o148_24 : OkE cX8_soldAt RX8 "soldAt" 3 6 false (24, .invokeinterface 8 6, 27, []) := (r_get (C := RX8) (T := TX8) (N := 11) (ci := 8) (j := 6) (ref := RX8) dX8_soldAt_24 rfl inX8 (by decide) wd_394 rfl).row
theorem o148_27 : OkE cX8_soldAt RX8 "soldAt" 3 6 false (27, .aload 0, 28, []) := (r_aload_n dX8_soldAt_27 rfl).row
theorem o148_28 : OkE cX8_soldAt RX8 "soldAt" 3 6 false (28, .invokeinterface 8 9, 31, []) := (r_get (C := RX8) (T := TX8) (N := 11) (ci := 8) (j := 9) (ref := RX8) dX8_soldAt_28 rfl inX8 (by decide) wd_397 rfl).row
theorem o148_31 : OkE cX8_soldAt RX8 "soldAt" 3 6 false (31, .aload 0, 32, []) := (r_aload_n dX8_soldAt_31 rfl).row
theorem o148_32 : OkE cX8_soldAt RX8 "soldAt" 3 6 false (32, .invokeinterface 8 5, 35, []) := (r_get (C := RX8) (T := TX8) (N := 11) (ci := 8) (j := 5) (ref := RX8) dX8_soldAt_32 rfl inX8 (by decide) wd_393 rfl).row
theorem o148_35 : OkE cX8_soldAt RX8 "soldAt" 3 6 false (35, .invokevirtual 45, 38, []) := ⟨rfl, c_V dX8_soldAt_35 wd_814 wd_815 wd_816 wd_72 wd_817 nmh_3⟩
theorem o148_38 : OkE cX8_soldAt RX8 "soldAt" 3 6 false (38, .aload 0, 39, [2]) := (r_aload_n dX8_soldAt_38 rfl).row
theorem o148_39 : OkE cX8_soldAt RX8 "soldAt" 3 6 false (39, .invokeinterface 8 6, 42, []) := (r_get (C := RX8) (T := TX8) (N := 11) (ci := 8) (j := 6) (ref := RX8) dX8_soldAt_39 rfl inX8 (by decide) wd_394 rfl).row
theorem o148_42 : OkE cX8_soldAt RX8 "soldAt" 3 6 false (42, .iload 1, 43, []) := (r_iload_n dX8_soldAt_42 rfl).row
theorem o148_43 : OkE cX8_soldAt RX8 "soldAt" 3 6 false (43, .iconst 5, 44, []) := (r_iconst dX8_soldAt_43 rfl).row
theorem o148_44 : OkE cX8_soldAt RX8 "soldAt" 3 6 false (44, .invokevirtual 57, 47, []) := ⟨rfl, c_V dX8_soldAt_44 wd_951 wd_952 wd_953 wd_72 wd_954 nmh_3⟩
theorem o148_47 : OkE cX8_soldAt RX8 "soldAt" 3 6 false (47, .ireturn, 48, []) := dX8_soldAt_47
theorem ok148 : ∀ x ∈ k148, OkE cX8_soldAt RX8 "soldAt" 3 6 false x := List.forall_mem_cons.mpr ⟨o148_0, List.forall_mem_cons.mpr ⟨o148_1, List.forall_mem_cons.mpr ⟨o148_4, List.forall_mem_cons.mpr ⟨o148_5, List.forall_mem_cons.mpr ⟨o148_8, List.forall_mem_cons.mpr ⟨o148_9, List.forall_mem_cons.mpr ⟨o148_12, List.forall_mem_cons.mpr ⟨o148_13, List.forall_mem_cons.mpr ⟨o148_16, List.forall_mem_cons.mpr ⟨o148_17, List.forall_mem_cons.mpr ⟨o148_20, List.forall_mem_cons.mpr ⟨o148_23, List.forall_mem_cons.mpr ⟨o148_24, List.forall_mem_cons.mpr ⟨o148_27, List.forall_mem_cons.mpr ⟨o148_28, List.forall_mem_cons.mpr ⟨o148_31, List.forall_mem_cons.mpr ⟨o148_32, List.forall_mem_cons.mpr ⟨o148_35, List.forall_mem_cons.mpr ⟨o148_38, List.forall_mem_cons.mpr ⟨o148_39, List.forall_mem_cons.mpr ⟨o148_42, List.forall_mem_cons.mpr ⟨o148_43, List.forall_mem_cons.mpr ⟨o148_44, List.forall_mem_cons.mpr ⟨o148_47, fun _ h => absurd h List.not_mem_nil⟩⟩⟩⟩⟩⟩⟩⟩⟩⟩⟩⟩⟩⟩⟩⟩⟩⟩⟩⟩⟩⟩⟩⟩
theorem o149_0 : OkE cX8_fraction RX8 "fraction" 7 2 false (0, .lload 0, 1, []) := (r_lload_n dX8_fraction_0 rfl).row
theorem o149_1 : OkE cX8_fraction RX8 "fraction" 7 2 false (1, .lload 2, 2, []) := (r_lload_n dX8_fraction_1 rfl).row
theorem o149_2 : OkE cX8_fraction RX8 "fraction" 7 2 false (2, .invokestatic 150, 5, []) := ⟨rfl, c_S dX8_fraction_2 wd_573 wd_574 wd_64 wd_575 nmh_8⟩
theorem o149_5 : OkE cX8_fraction RX8 "fraction" 7 2 false (5, .lstore 5, 7, []) := (r_lstore dX8_fraction_5).row
theorem o149_7 : OkE cX8_fraction RX8 "fraction" 7 2 false (7, .lload 5, 9, []) := (r_lload dX8_fraction_7).row
theorem o149_9 : OkE cX8_fraction RX8 "fraction" 7 2 false (9, .sipush 0, 10, []) := (r_lconst dX8_fraction_9 rfl).row
theorem o149_10 : OkE cX8_fraction RX8 "fraction" 7 2 false (10, .lcmp, 11, []) := (r_lcmp dX8_fraction_10).row
theorem o149_11 : OkE cX8_fraction RX8 "fraction" 7 2 false (11, .ifCond .ne 16, 14, []) := (r_if_ne dX8_fraction_11 rfl).row
theorem o149_14 : OkE cX8_fraction RX8 "fraction" 7 2 false (14, .sipush 0, 15, []) := (r_lconst dX8_fraction_14 rfl).row
theorem o149_15 : OkE cX8_fraction RX8 "fraction" 7 2 false (15, .lreturn, 16, []) := dX8_fraction_15
theorem o149_16 : OkE cX8_fraction RX8 "fraction" 7 2 false (16, .iload 4, 18, []) := (r_iload dX8_fraction_16).row
theorem o149_18 : OkE cX8_fraction RX8 "fraction" 7 2 false (18, .ifCond .eq 25, 21, []) := (r_if_eq dX8_fraction_18 rfl).row
theorem o149_21 : OkE cX8_fraction RX8 "fraction" 7 2 false (21, .lload 0, 22, []) := (r_lload_n dX8_fraction_21 rfl).row
theorem o149_22 : OkE cX8_fraction RX8 "fraction" 7 2 false (22, .goto 26, 25, []) := (r_goto dX8_fraction_22 rfl).row
theorem o149_25 : OkE cX8_fraction RX8 "fraction" 7 2 false (25, .lload 2, 26, []) := (r_lload_n dX8_fraction_25 rfl).row
theorem o149_26 : OkE cX8_fraction RX8 "fraction" 7 2 false (26, .lload 5, 28, [0, 2, 4]) := (r_lload dX8_fraction_26).row
theorem o149_28 : OkE cX8_fraction RX8 "fraction" 7 2 false (28, .ldiv, 29, []) := (r_ldiv dX8_fraction_28).row
theorem o149_29 : OkE cX8_fraction RX8 "fraction" 7 2 false (29, .lreturn, 30, []) := dX8_fraction_29
theorem ok149 : ∀ x ∈ k149, OkE cX8_fraction RX8 "fraction" 7 2 false x := List.forall_mem_cons.mpr ⟨o149_0, List.forall_mem_cons.mpr ⟨o149_1, List.forall_mem_cons.mpr ⟨o149_2, List.forall_mem_cons.mpr ⟨o149_5, List.forall_mem_cons.mpr ⟨o149_7, List.forall_mem_cons.mpr ⟨o149_9, List.forall_mem_cons.mpr ⟨o149_10, List.forall_mem_cons.mpr ⟨o149_11, List.forall_mem_cons.mpr ⟨o149_14, List.forall_mem_cons.mpr ⟨o149_15, List.forall_mem_cons.mpr ⟨o149_16, List.forall_mem_cons.mpr ⟨o149_18, List.forall_mem_cons.mpr ⟨o149_21, List.forall_mem_cons.mpr ⟨o149_22, List.forall_mem_cons.mpr ⟨o149_25, List.forall_mem_cons.mpr ⟨o149_26, List.forall_mem_cons.mpr ⟨o149_28, List.forall_mem_cons.mpr ⟨o149_29, fun _ h => absurd h List.not_mem_nil⟩⟩⟩⟩⟩⟩⟩⟩⟩⟩⟩⟩⟩⟩⟩⟩⟩⟩
theorem o150_0 : OkE cX8_commonDivisor RX8 "commonDivisor" 11 1 false (0, .lload 0, 1, []) := (r_lload_n dX8_commonDivisor_0 rfl).row
theorem o150_1 : OkE cX8_commonDivisor RX8 "commonDivisor" 11 1 false (1, .fneg, 4, []) := (r_absl dX8_commonDivisor_1 wd_576 wd_577 wd_75 wd_578 (by decide)).row
theorem o150_4 : OkE cX8_commonDivisor RX8 "commonDivisor" 11 1 false (4, .lstore 4, 6, []) := (r_lstore dX8_commonDivisor_4).row
theorem o150_6 : OkE cX8_commonDivisor RX8 "commonDivisor" 11 1 false (6, .lload 2, 7, []) := (r_lload_n dX8_commonDivisor_6 rfl).row
theorem o150_7 : OkE cX8_commonDivisor RX8 "commonDivisor" 11 1 false (7, .fneg, 10, []) := (r_absl dX8_commonDivisor_7 wd_576 wd_577 wd_75 wd_578 (by decide)).row
theorem o150_10 : OkE cX8_commonDivisor RX8 "commonDivisor" 11 1 false (10, .lstore 6, 12, []) := (r_lstore dX8_commonDivisor_10).row
theorem o150_12 : OkE cX8_commonDivisor RX8 "commonDivisor" 11 1 false (12, .iconst 0, 13, []) := (r_iconst dX8_commonDivisor_12 rfl).row
theorem o150_13 : OkE cX8_commonDivisor RX8 "commonDivisor" 11 1 false (13, .istore 8, 15, []) := (r_istore dX8_commonDivisor_13).row
theorem o150_15 : OkE cX8_commonDivisor RX8 "commonDivisor" 11 1 false (15, .iload 8, 17, [0, 2, 9]) := (r_iload dX8_commonDivisor_15).row
theorem o150_17 : OkE cX8_commonDivisor RX8 "commonDivisor" 11 1 false (17, .iconst 100, 19, []) := (r_bipush dX8_commonDivisor_17 rfl).row
theorem o150_19 : OkE cX8_commonDivisor RX8 "commonDivisor" 11 1 false (19, .if_icmp .ge 50, 22, []) := (r_icmp_ge dX8_commonDivisor_19 rfl).row
theorem o150_22 : OkE cX8_commonDivisor RX8 "commonDivisor" 11 1 false (22, .lload 6, 24, []) := (r_lload dX8_commonDivisor_22).row
theorem o150_24 : OkE cX8_commonDivisor RX8 "commonDivisor" 11 1 false (24, .sipush 0, 25, []) := (r_lconst dX8_commonDivisor_24 rfl).row
theorem o150_25 : OkE cX8_commonDivisor RX8 "commonDivisor" 11 1 false (25, .lcmp, 26, []) := (r_lcmp dX8_commonDivisor_25).row
theorem o150_26 : OkE cX8_commonDivisor RX8 "commonDivisor" 11 1 false (26, .ifCond .eq 50, 29, []) := (r_if_eq dX8_commonDivisor_26 rfl).row
theorem o150_29 : OkE cX8_commonDivisor RX8 "commonDivisor" 11 1 false (29, .lload 4, 31, []) := (r_lload dX8_commonDivisor_29).row
theorem o150_31 : OkE cX8_commonDivisor RX8 "commonDivisor" 11 1 false (31, .lload 6, 33, []) := (r_lload dX8_commonDivisor_31).row
theorem o150_33 : OkE cX8_commonDivisor RX8 "commonDivisor" 11 1 false (33, .lrem, 34, []) := (r_lrem dX8_commonDivisor_33).row
theorem o150_34 : OkE cX8_commonDivisor RX8 "commonDivisor" 11 1 false (34, .lstore 9, 36, []) := (r_lstore dX8_commonDivisor_34).row
theorem o150_36 : OkE cX8_commonDivisor RX8 "commonDivisor" 11 1 false (36, .lload 6, 38, []) := (r_lload dX8_commonDivisor_36).row
theorem o150_38 : OkE cX8_commonDivisor RX8 "commonDivisor" 11 1 false (38, .lstore 4, 40, []) := (r_lstore dX8_commonDivisor_38).row
theorem o150_40 : OkE cX8_commonDivisor RX8 "commonDivisor" 11 1 false (40, .lload 9, 42, []) := (r_lload dX8_commonDivisor_40).row
theorem o150_42 : OkE cX8_commonDivisor RX8 "commonDivisor" 11 1 false (42, .lstore 6, 44, []) := (r_lstore dX8_commonDivisor_42).row
theorem o150_44 : OkE cX8_commonDivisor RX8 "commonDivisor" 11 1 false (44, .iinc 8 1, 47, []) := (r_iinc dX8_commonDivisor_44 rfl).row
theorem o150_47 : OkE cX8_commonDivisor RX8 "commonDivisor" 11 1 false (47, .goto 15, 50, []) := (r_goto dX8_commonDivisor_47 rfl).row
theorem o150_50 : OkE cX8_commonDivisor RX8 "commonDivisor" 11 1 false (50, .lload 4, 52, [0, 2, 6, 8, 9]) := (r_lload dX8_commonDivisor_50).row
theorem o150_52 : OkE cX8_commonDivisor RX8 "commonDivisor" 11 1 false (52, .lreturn, 53, []) := dX8_commonDivisor_52
theorem ok150 : ∀ x ∈ k150, OkE cX8_commonDivisor RX8 "commonDivisor" 11 1 false x := List.forall_mem_cons.mpr ⟨o150_0, List.forall_mem_cons.mpr ⟨o150_1, List.forall_mem_cons.mpr ⟨o150_4, List.forall_mem_cons.mpr ⟨o150_6, List.forall_mem_cons.mpr ⟨o150_7, List.forall_mem_cons.mpr ⟨o150_10, List.forall_mem_cons.mpr ⟨o150_12, List.forall_mem_cons.mpr ⟨o150_13, List.forall_mem_cons.mpr ⟨o150_15, List.forall_mem_cons.mpr ⟨o150_17, List.forall_mem_cons.mpr ⟨o150_19, List.forall_mem_cons.mpr ⟨o150_22, List.forall_mem_cons.mpr ⟨o150_24, List.forall_mem_cons.mpr ⟨o150_25, List.forall_mem_cons.mpr ⟨o150_26, List.forall_mem_cons.mpr ⟨o150_29, List.forall_mem_cons.mpr ⟨o150_31, List.forall_mem_cons.mpr ⟨o150_33, List.forall_mem_cons.mpr ⟨o150_34, List.forall_mem_cons.mpr ⟨o150_36, List.forall_mem_cons.mpr ⟨o150_38, List.forall_mem_cons.mpr ⟨o150_40, List.forall_mem_cons.mpr ⟨o150_42, List.forall_mem_cons.mpr ⟨o150_44, List.forall_mem_cons.mpr ⟨o150_47, List.forall_mem_cons.mpr ⟨o150_50, List.forall_mem_cons.mpr ⟨o150_52, fun _ h => absurd h List.not_mem_nil⟩⟩⟩⟩⟩⟩⟩⟩⟩⟩⟩⟩⟩⟩⟩⟩⟩⟩⟩⟩⟩⟩⟩⟩⟩⟩⟩
theorem o151_0 : OkE cX9_init RX9 "<init>" 1 2 false (0, .aload 0, 1, []) := (r_aload_n dX9_init_0 rfl).row
theorem o151_1 : OkE cX9_init RX9 "<init>" 1 2 false (1, .monitorexit, 4, []) := (r_obj dX9_init_1 wd_987 wd_83 wd_84 (by decide)).row
theorem o151_4 : OkE cX9_init RX9 "<init>" 1 2 false (4, .aload 0, 5, []) := (r_aload_n dX9_init_4 rfl).row
theorem o151_5 : OkE cX9_init RX9 "<init>" 1 2 false (5, .iconst 28, 7, []) := (r_bipush dX9_init_5 rfl).row
theorem o151_7 : OkE cX9_init RX9 "<init>" 1 2 false (7, .newarray .int, 9, []) := r_newi dX9_init_7 wd_98
theorem o151_9 : OkE cX9_init RX9 "<init>" 1 2 false (9, .multianewarray 9 0, 12, []) := r_putFR (C := RX9) (T := TX9) (N := 45) (ci := 9) (j := 0) (ref := RX9) dX9_init_9 rfl inX9 tyX9 tyX9_ok nmX9 (by decide) wd_1000 rfl rfl rfl rfl (tyX9_ok 0 (by decide)) (fun a => ⟨rfl, rfl⟩) rfl
theorem o151_12 : OkE cX9_init RX9 "<init>" 1 2 false (12, .aload 0, 13, []) := (r_aload_n dX9_init_12 rfl).row
theorem o151_13 : OkE cX9_init RX9 "<init>" 1 2 false (13, .iconst 28, 15, []) := (r_bipush dX9_init_13 rfl).row
theorem o151_15 : OkE cX9_init RX9 "<init>" 1 2 false (15, .newarray .int, 17, []) := r_newi dX9_init_15 wd_98
theorem o151_17 : OkE cX9_init RX9 "<init>" 1 2 false (17, .multianewarray 9 1, 20, []) := r_putFR (C := RX9) (T := TX9) (N := 45) (ci := 9) (j := 1) (ref := RX9) dX9_init_17 rfl inX9 tyX9 tyX9_ok nmX9 (by decide) wd_1001 rfl rfl rfl rfl (tyX9_ok 1 (by decide)) (fun a => ⟨rfl, rfl⟩) rfl
theorem o151_20 : OkE cX9_init RX9 "<init>" 1 2 false (20, .aload 0, 21, []) := (r_aload_n dX9_init_20 rfl).row
theorem o151_21 : OkE cX9_init RX9 "<init>" 1 2 false (21, .iconst 28, 23, []) := (r_bipush dX9_init_21 rfl).row
theorem o151_23 : OkE cX9_init RX9 "<init>" 1 2 false (23, .newarray .boolean, 25, []) := r_newz dX9_init_23 wd_115
theorem o151_25 : OkE cX9_init RX9 "<init>" 1 2 false (25, .multianewarray 9 2, 28, []) := r_putFR (C := RX9) (T := TX9) (N := 45) (ci := 9) (j := 2) (ref := RX9) dX9_init_25 rfl inX9 tyX9 tyX9_ok nmX9 (by decide) wd_1002 rfl rfl rfl rfl (tyX9_ok 2 (by decide)) (fun a => ⟨rfl, rfl⟩) rfl
theorem o151_28 : OkE cX9_init RX9 "<init>" 1 2 false (28, .aload 0, 29, []) := (r_aload_n dX9_init_28 rfl).row
theorem o151_29 : OkE cX9_init RX9 "<init>" 1 2 false (29, .iconst 64, 31, []) := (r_bipush dX9_init_29 rfl).row
theorem o151_31 : OkE cX9_init RX9 "<init>" 1 2 false (31, .newarray .int, 33, []) := r_newi dX9_init_31 wd_98
theorem o151_33 : OkE cX9_init RX9 "<init>" 1 2 false (33, .multianewarray 9 3, 36, []) := r_putFR (C := RX9) (T := TX9) (N := 45) (ci := 9) (j := 3) (ref := RX9) dX9_init_33 rfl inX9 tyX9 tyX9_ok nmX9 (by decide) wd_1003 rfl rfl rfl rfl (tyX9_ok 3 (by decide)) (fun a => ⟨rfl, rfl⟩) rfl
theorem o151_36 : OkE cX9_init RX9 "<init>" 1 2 false (36, .aload 0, 37, []) := (r_aload_n dX9_init_36 rfl).row
theorem o151_37 : OkE cX9_init RX9 "<init>" 1 2 false (37, .iconst 3, 38, []) := (r_iconst dX9_init_37 rfl).row
theorem o151_38 : OkE cX9_init RX9 "<init>" 1 2 false (38, .newarray .int, 40, []) := r_newi dX9_init_38 wd_98
theorem o151_40 : OkE cX9_init RX9 "<init>" 1 2 false (40, .multianewarray 9 8, 43, []) := r_putFR (C := RX9) (T := TX9) (N := 45) (ci := 9) (j := 8) (ref := RX9) dX9_init_40 rfl inX9 tyX9 tyX9_ok nmX9 (by decide) wd_1008 rfl rfl rfl rfl (tyX9_ok 8 (by decide)) (fun a => ⟨rfl, rfl⟩) rfl
theorem o151_43 : OkE cX9_init RX9 "<init>" 1 2 false (43, .aload 0, 44, []) := (r_aload_n dX9_init_43 rfl).row
theorem o151_44 : OkE cX9_init RX9 "<init>" 1 2 false (44, .iconst 8, 46, []) := (r_bipush dX9_init_44 rfl).row
theorem o151_46 : OkE cX9_init RX9 "<init>" 1 2 false (46, .newarray .int, 48, []) := r_newi dX9_init_46 wd_98
theorem o151_48 : OkE cX9_init RX9 "<init>" 1 2 false (48, .multianewarray 9 10, 51, []) := r_putFR (C := RX9) (T := TX9) (N := 45) (ci := 9) (j := 10) (ref := RX9) dX9_init_48 rfl inX9 tyX9 tyX9_ok nmX9 (by decide) wd_1010 rfl rfl rfl rfl (tyX9_ok 10 (by decide)) (fun a => ⟨rfl, rfl⟩) rfl
theorem o151_51 : OkE cX9_init RX9 "<init>" 1 2 false (51, .aload 0, 52, []) := (r_aload_n dX9_init_51 rfl).row
theorem o151_52 : OkE cX9_init RX9 "<init>" 1 2 false (52, .iconst 8, 54, []) := (r_bipush dX9_init_52 rfl).row
theorem o151_54 : OkE cX9_init RX9 "<init>" 1 2 false (54, .newarray .int, 56, []) := r_newi dX9_init_54 wd_98
theorem o151_56 : OkE cX9_init RX9 "<init>" 1 2 false (56, .multianewarray 9 11, 59, []) := r_putFR (C := RX9) (T := TX9) (N := 45) (ci := 9) (j := 11) (ref := RX9) dX9_init_56 rfl inX9 tyX9 tyX9_ok nmX9 (by decide) wd_1011 rfl rfl rfl rfl (tyX9_ok 11 (by decide)) (fun a => ⟨rfl, rfl⟩) rfl
theorem o151_59 : OkE cX9_init RX9 "<init>" 1 2 false (59, .aload 0, 60, []) := (r_aload_n dX9_init_59 rfl).row
theorem o151_60 : OkE cX9_init RX9 "<init>" 1 2 false (60, .iconst 2197, 63, []) := (r_sipush dX9_init_60 rfl).row
theorem o151_63 : OkE cX9_init RX9 "<init>" 1 2 false (63, .newarray .long, 65, []) := r_newl dX9_init_63 wd_138
theorem o151_65 : OkE cX9_init RX9 "<init>" 1 2 false (65, .multianewarray 9 12, 68, []) := r_putFR (C := RX9) (T := TX9) (N := 45) (ci := 9) (j := 12) (ref := RX9) dX9_init_65 rfl inX9 tyX9 tyX9_ok nmX9 (by decide) wd_1012 rfl rfl rfl rfl (tyX9_ok 12 (by decide)) (fun a => ⟨rfl, rfl⟩) rfl
theorem o151_68 : OkE cX9_init RX9 "<init>" 1 2 false (68, .aload 0, 69, []) := (r_aload_n dX9_init_68 rfl).row
theorem o151_69 : OkE cX9_init RX9 "<init>" 1 2 false (69, .iconst 2197, 72, []) := (r_sipush dX9_init_69 rfl).row
theorem o151_72 : OkE cX9_init RX9 "<init>" 1 2 false (72, .newarray .long, 74, []) := r_newl dX9_init_72 wd_138
theorem o151_74 : OkE cX9_init RX9 "<init>" 1 2 false (74, .multianewarray 9 13, 77, []) := r_putFR (C := RX9) (T := TX9) (N := 45) (ci := 9) (j := 13) (ref := RX9) dX9_init_74 rfl inX9 tyX9 tyX9_ok nmX9 (by decide) wd_1013 rfl rfl rfl rfl (tyX9_ok 13 (by decide)) (fun a => ⟨rfl, rfl⟩) rfl
theorem o151_77 : OkE cX9_init RX9 "<init>" 1 2 false (77, .aload 0, 78, []) := (r_aload_n dX9_init_77 rfl).row
theorem o151_78 : OkE cX9_init RX9 "<init>" 1 2 false (78, .iconst 3, 79, []) := (r_iconst dX9_init_78 rfl).row
theorem o151_79 : OkE cX9_init RX9 "<init>" 1 2 false (79, .newarray .int, 81, []) := r_newi dX9_init_79 wd_98
theorem o151_81 : OkE cX9_init RX9 "<init>" 1 2 false (81, .multianewarray 9 16, 84, []) := r_putFR (C := RX9) (T := TX9) (N := 45) (ci := 9) (j := 16) (ref := RX9) dX9_init_81 rfl inX9 tyX9 tyX9_ok nmX9 (by decide) wd_1016 rfl rfl rfl rfl (tyX9_ok 16 (by decide)) (fun a => ⟨rfl, rfl⟩) rfl
theorem o151_84 : OkE cX9_init RX9 "<init>" 1 2 false (84, .aload 0, 85, []) := (r_aload_n dX9_init_84 rfl).row
theorem o151_85 : OkE cX9_init RX9 "<init>" 1 2 false (85, .iconst 3, 86, []) := (r_iconst dX9_init_85 rfl).row
theorem o151_86 : OkE cX9_init RX9 "<init>" 1 2 false (86, .newarray .int, 88, []) := r_newi dX9_init_86 wd_98
theorem o151_88 : OkE cX9_init RX9 "<init>" 1 2 false (88, .multianewarray 9 17, 91, []) := r_putFR (C := RX9) (T := TX9) (N := 45) (ci := 9) (j := 17) (ref := RX9) dX9_init_88 rfl inX9 tyX9 tyX9_ok nmX9 (by decide) wd_1017 rfl rfl rfl rfl (tyX9_ok 17 (by decide)) (fun a => ⟨rfl, rfl⟩) rfl
theorem o151_91 : OkE cX9_init RX9 "<init>" 1 2 false (91, .aload 0, 92, []) := (r_aload_n dX9_init_91 rfl).row
theorem o151_92 : OkE cX9_init RX9 "<init>" 1 2 false (92, .iconst 3, 93, []) := (r_iconst dX9_init_92 rfl).row
theorem o151_93 : OkE cX9_init RX9 "<init>" 1 2 false (93, .newarray .int, 95, []) := r_newi dX9_init_93 wd_98
theorem o151_95 : OkE cX9_init RX9 "<init>" 1 2 false (95, .multianewarray 9 18, 98, []) := r_putFR (C := RX9) (T := TX9) (N := 45) (ci := 9) (j := 18) (ref := RX9) dX9_init_95 rfl inX9 tyX9 tyX9_ok nmX9 (by decide) wd_1018 rfl rfl rfl rfl (tyX9_ok 18 (by decide)) (fun a => ⟨rfl, rfl⟩) rfl
theorem o151_98 : OkE cX9_init RX9 "<init>" 1 2 false (98, .aload 0, 99, []) := (r_aload_n dX9_init_98 rfl).row
theorem o151_99 : OkE cX9_init RX9 "<init>" 1 2 false (99, .iconst 6, 101, []) := (r_bipush dX9_init_99 rfl).row
theorem o151_101 : OkE cX9_init RX9 "<init>" 1 2 false (101, .newarray .int, 103, []) := r_newi dX9_init_101 wd_98
theorem o151_103 : OkE cX9_init RX9 "<init>" 1 2 false (103, .multianewarray 9 23, 106, []) := r_putFR (C := RX9) (T := TX9) (N := 45) (ci := 9) (j := 23) (ref := RX9) dX9_init_103 rfl inX9 tyX9 tyX9_ok nmX9 (by decide) wd_1023 rfl rfl rfl rfl (tyX9_ok 23 (by decide)) (fun a => ⟨rfl, rfl⟩) rfl
theorem o151_106 : OkE cX9_init RX9 "<init>" 1 2 false (106, .aload 0, 107, []) := (r_aload_n dX9_init_106 rfl).row
theorem o151_107 : OkE cX9_init RX9 "<init>" 1 2 false (107, .iconst 6, 109, []) := (r_bipush dX9_init_107 rfl).row
theorem o151_109 : OkE cX9_init RX9 "<init>" 1 2 false (109, .newarray .int, 111, []) := r_newi dX9_init_109 wd_98
theorem o151_111 : OkE cX9_init RX9 "<init>" 1 2 false (111, .multianewarray 9 24, 114, []) := r_putFR (C := RX9) (T := TX9) (N := 45) (ci := 9) (j := 24) (ref := RX9) dX9_init_111 rfl inX9 tyX9 tyX9_ok nmX9 (by decide) wd_1024 rfl rfl rfl rfl (tyX9_ok 24 (by decide)) (fun a => ⟨rfl, rfl⟩) rfl
theorem o151_114 : OkE cX9_init RX9 "<init>" 1 2 false (114, .aload 0, 115, []) := (r_aload_n dX9_init_114 rfl).row
theorem o151_115 : OkE cX9_init RX9 "<init>" 1 2 false (115, .iconst 6, 117, []) := (r_bipush dX9_init_115 rfl).row
theorem o151_117 : OkE cX9_init RX9 "<init>" 1 2 false (117, .newarray .int, 119, []) := r_newi dX9_init_117 wd_98
theorem o151_119 : OkE cX9_init RX9 "<init>" 1 2 false (119, .multianewarray 9 25, 122, []) := r_putFR (C := RX9) (T := TX9) (N := 45) (ci := 9) (j := 25) (ref := RX9) dX9_init_119 rfl inX9 tyX9 tyX9_ok nmX9 (by decide) wd_1025 rfl rfl rfl rfl (tyX9_ok 25 (by decide)) (fun a => ⟨rfl, rfl⟩) rfl
theorem o151_122 : OkE cX9_init RX9 "<init>" 1 2 false (122, .aload 0, 123, []) := (r_aload_n dX9_init_122 rfl).row
theorem o151_123 : OkE cX9_init RX9 "<init>" 1 2 false (123, .iconst 18, 125, []) := (r_bipush dX9_init_123 rfl).row
theorem o151_125 : OkE cX9_init RX9 "<init>" 1 2 false (125, .newarray .int, 127, []) := r_newi dX9_init_125 wd_98
theorem o151_127 : OkE cX9_init RX9 "<init>" 1 2 false (127, .multianewarray 9 26, 130, []) := r_putFR (C := RX9) (T := TX9) (N := 45) (ci := 9) (j := 26) (ref := RX9) dX9_init_127 rfl inX9 tyX9 tyX9_ok nmX9 (by decide) wd_1026 rfl rfl rfl rfl (tyX9_ok 26 (by decide)) (fun a => ⟨rfl, rfl⟩) rfl
theorem o151_130 : OkE cX9_init RX9 "<init>" 1 2 false (130, .aload 0, 131, []) := (r_aload_n dX9_init_130 rfl).row
theorem o151_131 : OkE cX9_init RX9 "<init>" 1 2 false (131, .iconst 18, 133, []) := (r_bipush dX9_init_131 rfl).row
theorem o151_133 : OkE cX9_init RX9 "<init>" 1 2 false (133, .newarray .int, 135, []) := r_newi dX9_init_133 wd_98
theorem o151_135 : OkE cX9_init RX9 "<init>" 1 2 false (135, .multianewarray 9 27, 138, []) := r_putFR (C := RX9) (T := TX9) (N := 45) (ci := 9) (j := 27) (ref := RX9) dX9_init_135 rfl inX9 tyX9 tyX9_ok nmX9 (by decide) wd_1027 rfl rfl rfl rfl (tyX9_ok 27 (by decide)) (fun a => ⟨rfl, rfl⟩) rfl
theorem o151_138 : OkE cX9_init RX9 "<init>" 1 2 false (138, .aload 0, 139, []) := (r_aload_n dX9_init_138 rfl).row
theorem o151_139 : OkE cX9_init RX9 "<init>" 1 2 false (139, .iconst 18, 141, []) := (r_bipush dX9_init_139 rfl).row
theorem o151_141 : OkE cX9_init RX9 "<init>" 1 2 false (141, .newarray .int, 143, []) := r_newi dX9_init_141 wd_98
theorem o151_143 : OkE cX9_init RX9 "<init>" 1 2 false (143, .multianewarray 9 28, 146, []) := r_putFR (C := RX9) (T := TX9) (N := 45) (ci := 9) (j := 28) (ref := RX9) dX9_init_143 rfl inX9 tyX9 tyX9_ok nmX9 (by decide) wd_1028 rfl rfl rfl rfl (tyX9_ok 28 (by decide)) (fun a => ⟨rfl, rfl⟩) rfl
theorem o151_146 : OkE cX9_init RX9 "<init>" 1 2 false (146, .aload 0, 147, []) := (r_aload_n dX9_init_146 rfl).row
theorem o151_147 : OkE cX9_init RX9 "<init>" 1 2 false (147, .iconst 18, 149, []) := (r_bipush dX9_init_147 rfl).row
theorem o151_149 : OkE cX9_init RX9 "<init>" 1 2 false (149, .newarray .int, 151, []) := r_newi dX9_init_149 wd_98
theorem o151_151 : OkE cX9_init RX9 "<init>" 1 2 false (151, .multianewarray 9 29, 154, []) := r_putFR (C := RX9) (T := TX9) (N := 45) (ci := 9) (j := 29) (ref := RX9) dX9_init_151 rfl inX9 tyX9 tyX9_ok nmX9 (by decide) wd_1029 rfl rfl rfl rfl (tyX9_ok 29 (by decide)) (fun a => ⟨rfl, rfl⟩) rfl
theorem o151_154 : OkE cX9_init RX9 "<init>" 1 2 false (154, .aload 0, 155, []) := (r_aload_n dX9_init_154 rfl).row
theorem o151_155 : OkE cX9_init RX9 "<init>" 1 2 false (155, .iconst 3, 156, []) := (r_iconst dX9_init_155 rfl).row
theorem o151_156 : OkE cX9_init RX9 "<init>" 1 2 false (156, .newarray .int, 158, []) := r_newi dX9_init_156 wd_98
theorem o151_158 : OkE cX9_init RX9 "<init>" 1 2 false (158, .multianewarray 9 30, 161, []) := r_putFR (C := RX9) (T := TX9) (N := 45) (ci := 9) (j := 30) (ref := RX9) dX9_init_158 rfl inX9 tyX9 tyX9_ok nmX9 (by decide) wd_1030 rfl rfl rfl rfl (tyX9_ok 30 (by decide)) (fun a => ⟨rfl, rfl⟩) rfl
theorem o151_161 : OkE cX9_init RX9 "<init>" 1 2 false (161, .aload 0, 162, []) := (r_aload_n dX9_init_161 rfl).row
theorem o151_162 : OkE cX9_init RX9 "<init>" 1 2 false (162, .iconst 3, 163, []) := (r_iconst dX9_init_162 rfl).row
theorem o151_163 : OkE cX9_init RX9 "<init>" 1 2 false (163, .newarray .int, 165, []) := r_newi dX9_init_163 wd_98
theorem o151_165 : OkE cX9_init RX9 "<init>" 1 2 false (165, .multianewarray 9 31, 168, []) := r_putFR (C := RX9) (T := TX9) (N := 45) (ci := 9) (j := 31) (ref := RX9) dX9_init_165 rfl inX9 tyX9 tyX9_ok nmX9 (by decide) wd_1031 rfl rfl rfl rfl (tyX9_ok 31 (by decide)) (fun a => ⟨rfl, rfl⟩) rfl
theorem o151_168 : OkE cX9_init RX9 "<init>" 1 2 false (168, .aload 0, 169, []) := (r_aload_n dX9_init_168 rfl).row
theorem o151_169 : OkE cX9_init RX9 "<init>" 1 2 false (169, .iconst 3, 170, []) := (r_iconst dX9_init_169 rfl).row
theorem o151_170 : OkE cX9_init RX9 "<init>" 1 2 false (170, .newarray .int, 172, []) := r_newi dX9_init_170 wd_98
theorem o151_172 : OkE cX9_init RX9 "<init>" 1 2 false (172, .multianewarray 9 32, 175, []) := r_putFR (C := RX9) (T := TX9) (N := 45) (ci := 9) (j := 32) (ref := RX9) dX9_init_172 rfl inX9 tyX9 tyX9_ok nmX9 (by decide) wd_1032 rfl rfl rfl rfl (tyX9_ok 32 (by decide)) (fun a => ⟨rfl, rfl⟩) rfl
theorem o151_175 : OkE cX9_init RX9 "<init>" 1 2 false (175, .aload 0, 176, []) := (r_aload_n dX9_init_175 rfl).row
theorem o151_176 : OkE cX9_init RX9 "<init>" 1 2 false (176, .iconst 2, 177, []) := (r_iconst dX9_init_176 rfl).row
theorem o151_177 : OkE cX9_init RX9 "<init>" 1 2 false (177, .newarray .boolean, 179, []) := r_newz dX9_init_177 wd_115
theorem o151_179 : OkE cX9_init RX9 "<init>" 1 2 false (179, .multianewarray 9 39, 182, []) := r_putFR (C := RX9) (T := TX9) (N := 45) (ci := 9) (j := 39) (ref := RX9) dX9_init_179 rfl inX9 tyX9 tyX9_ok nmX9 (by decide) wd_1039 rfl rfl rfl rfl (tyX9_ok 39 (by decide)) (fun a => ⟨rfl, rfl⟩) rfl
theorem o151_182 : OkE cX9_init RX9 "<init>" 1 2 false (182, .aload 0, 183, []) := (r_aload_n dX9_init_182 rfl).row
theorem o151_183 : OkE cX9_init RX9 "<init>" 1 2 false (183, .iconst 6, 185, []) := (r_bipush dX9_init_183 rfl).row
theorem o151_185 : OkE cX9_init RX9 "<init>" 1 2 false (185, .newarray .int, 187, []) := r_newi dX9_init_185 wd_98
theorem o151_187 : OkE cX9_init RX9 "<init>" 1 2 false (187, .multianewarray 9 40, 190, []) := r_putFR (C := RX9) (T := TX9) (N := 45) (ci := 9) (j := 40) (ref := RX9) dX9_init_187 rfl inX9 tyX9 tyX9_ok nmX9 (by decide) wd_1040 rfl rfl rfl rfl (tyX9_ok 40 (by decide)) (fun a => ⟨rfl, rfl⟩) rfl
theorem o151_190 : OkE cX9_init RX9 "<init>" 1 2 false (190, .aload 0, 191, []) := (r_aload_n dX9_init_190 rfl).row
theorem o151_191 : OkE cX9_init RX9 "<init>" 1 2 false (191, .iconst 6, 193, []) := (r_bipush dX9_init_191 rfl).row
theorem o151_193 : OkE cX9_init RX9 "<init>" 1 2 false (193, .newarray .int, 195, []) := r_newi dX9_init_193 wd_98
theorem o151_195 : OkE cX9_init RX9 "<init>" 1 2 false (195, .multianewarray 9 41, 198, []) := r_putFR (C := RX9) (T := TX9) (N := 45) (ci := 9) (j := 41) (ref := RX9) dX9_init_195 rfl inX9 tyX9 tyX9_ok nmX9 (by decide) wd_1041 rfl rfl rfl rfl (tyX9_ok 41 (by decide)) (fun a => ⟨rfl, rfl⟩) rfl
theorem o151_198 : OkE cX9_init RX9 "<init>" 1 2 false (198, .aload 0, 199, []) := (r_aload_n dX9_init_198 rfl).row
theorem o151_199 : OkE cX9_init RX9 "<init>" 1 2 false (199, .iconst 6, 201, []) := (r_bipush dX9_init_199 rfl).row
theorem o151_201 : OkE cX9_init RX9 "<init>" 1 2 false (201, .newarray .int, 203, []) := r_newi dX9_init_201 wd_98
theorem o151_203 : OkE cX9_init RX9 "<init>" 1 2 false (203, .multianewarray 9 42, 206, []) := r_putFR (C := RX9) (T := TX9) (N := 45) (ci := 9) (j := 42) (ref := RX9) dX9_init_203 rfl inX9 tyX9 tyX9_ok nmX9 (by decide) wd_1042 rfl rfl rfl rfl (tyX9_ok 42 (by decide)) (fun a => ⟨rfl, rfl⟩) rfl
theorem o151_206 : OkE cX9_init RX9 "<init>" 1 2 false (206, .aload 0, 207, []) := (r_aload_n dX9_init_206 rfl).row
theorem o151_207 : OkE cX9_init RX9 "<init>" 1 2 false (207, .iconst 10, 209, []) := (r_bipush dX9_init_207 rfl).row
theorem o151_209 : OkE cX9_init RX9 "<init>" 1 2 false (209, .newarray .int, 211, []) := r_newi dX9_init_209 wd_98
theorem o151_211 : OkE cX9_init RX9 "<init>" 1 2 false (211, .multianewarray 9 43, 214, []) := r_putFR (C := RX9) (T := TX9) (N := 45) (ci := 9) (j := 43) (ref := RX9) dX9_init_211 rfl inX9 tyX9 tyX9_ok nmX9 (by decide) wd_1043 rfl rfl rfl rfl (tyX9_ok 43 (by decide)) (fun a => ⟨rfl, rfl⟩) rfl
theorem o151_214 : OkE cX9_init RX9 "<init>" 1 2 false (214, .aload 0, 215, []) := (r_aload_n dX9_init_214 rfl).row
theorem o151_215 : OkE cX9_init RX9 "<init>" 1 2 false (215, .iconst 36, 217, []) := (r_bipush dX9_init_215 rfl).row
theorem o151_217 : OkE cX9_init RX9 "<init>" 1 2 false (217, .newarray .int, 219, []) := r_newi dX9_init_217 wd_98
theorem o151_219 : OkE cX9_init RX9 "<init>" 1 2 false (219, .multianewarray 9 44, 222, []) := r_putFR (C := RX9) (T := TX9) (N := 45) (ci := 9) (j := 44) (ref := RX9) dX9_init_219 rfl inX9 tyX9 tyX9_ok nmX9 (by decide) wd_1044 rfl rfl rfl rfl (tyX9_ok 44 (by decide)) (fun a => ⟨rfl, rfl⟩) rfl
theorem o151_222 : OkE cX9_init RX9 "<init>" 1 2 false (222, .aload 0, 223, []) := (r_aload_n dX9_init_222 rfl).row
theorem o151_223 : OkE cX9_init RX9 "<init>" 1 2 false (223, .invokevirtual 153, 226, []) := ⟨rfl, c_V dX9_init_223 wd_988 wd_990 wd_35 wd_74 wd_991 nmh_9⟩
theorem o151_226 : OkE cX9_init RX9 "<init>" 1 2 false (226, .aload 0, 227, []) := (r_aload_n dX9_init_226 rfl).row
theorem o151_227 : OkE cX9_init RX9 "<init>" 1 2 false (227, .invokeinterface 9 0, 230, []) := (r_get (C := RX9) (T := TX9) (N := 45) (ci := 9) (j := 0) (ref := RX9) dX9_init_227 rfl inX9 (by decide) wd_1000 rfl).row
theorem o151_230 : OkE cX9_init RX9 "<init>" 1 2 false (230, .iconst 0, 231, []) := (r_iconst dX9_init_230 rfl).row
theorem o151_231 : OkE cX9_init RX9 "<init>" 1 2 false (231, .iconst 1, 232, []) := (r_iconst dX9_init_231 rfl).row
theorem o151_232 : OkE cX9_init RX9 "<init>" 1 2 false (232, .iastore, 233, []) := r_iast dX9_init_232
theorem o151_233 : OkE cX9_init RX9 "<init>" 1 2 false (233, .aload 0, 234, []) := (r_aload_n dX9_init_233 rfl).row
theorem o151_234 : OkE cX9_init RX9 "<init>" 1 2 false (234, .invokevirtual 154, 237, []) := ⟨rfl, c_V dX9_init_234 wd_996 wd_998 wd_36 wd_74 wd_999 nmh_9⟩
theorem o151_237 : OkE cX9_init RX9 "<init>" 1 2 false (237, .return_, 238, []) := dX9_init_237
theorem ok151_0 : ∀ x ∈ k151_0, OkE cX9_init RX9 "<init>" 1 2 false x := List.forall_mem_cons.mpr ⟨o151_0, List.forall_mem_cons.mpr ⟨o151_1, List.forall_mem_cons.mpr ⟨o151_4, List.forall_mem_cons.mpr ⟨o151_5, List.forall_mem_cons.mpr ⟨o151_7, List.forall_mem_cons.mpr ⟨o151_9, List.forall_mem_cons.mpr ⟨o151_12, List.forall_mem_cons.mpr ⟨o151_13, List.forall_mem_cons.mpr ⟨o151_15, List.forall_mem_cons.mpr ⟨o151_17, List.forall_mem_cons.mpr ⟨o151_20, List.forall_mem_cons.mpr ⟨o151_21, List.forall_mem_cons.mpr ⟨o151_23, List.forall_mem_cons.mpr ⟨o151_25, List.forall_mem_cons.mpr ⟨o151_28, List.forall_mem_cons.mpr ⟨o151_29, List.forall_mem_cons.mpr ⟨o151_31, List.forall_mem_cons.mpr ⟨o151_33, List.forall_mem_cons.mpr ⟨o151_36, List.forall_mem_cons.mpr ⟨o151_37, List.forall_mem_cons.mpr ⟨o151_38, List.forall_mem_cons.mpr ⟨o151_40, List.forall_mem_cons.mpr ⟨o151_43, List.forall_mem_cons.mpr ⟨o151_44, List.forall_mem_cons.mpr ⟨o151_46, List.forall_mem_cons.mpr ⟨o151_48, List.forall_mem_cons.mpr ⟨o151_51, List.forall_mem_cons.mpr ⟨o151_52, List.forall_mem_cons.mpr ⟨o151_54, List.forall_mem_cons.mpr ⟨o151_56, List.forall_mem_cons.mpr ⟨o151_59, List.forall_mem_cons.mpr ⟨o151_60, List.forall_mem_cons.mpr ⟨o151_63, List.forall_mem_cons.mpr ⟨o151_65, List.forall_mem_cons.mpr ⟨o151_68, List.forall_mem_cons.mpr ⟨o151_69, List.forall_mem_cons.mpr ⟨o151_72, List.forall_mem_cons.mpr ⟨o151_74, List.forall_mem_cons.mpr ⟨o151_77, List.forall_mem_cons.mpr ⟨o151_78, List.forall_mem_cons.mpr ⟨o151_79, List.forall_mem_cons.mpr ⟨o151_81, List.forall_mem_cons.mpr ⟨o151_84, List.forall_mem_cons.mpr ⟨o151_85, List.forall_mem_cons.mpr ⟨o151_86, List.forall_mem_cons.mpr ⟨o151_88, List.forall_mem_cons.mpr ⟨o151_91, List.forall_mem_cons.mpr ⟨o151_92, List.forall_mem_cons.mpr ⟨o151_93, List.forall_mem_cons.mpr ⟨o151_95, List.forall_mem_cons.mpr ⟨o151_98, List.forall_mem_cons.mpr ⟨o151_99, List.forall_mem_cons.mpr ⟨o151_101, List.forall_mem_cons.mpr ⟨o151_103, List.forall_mem_cons.mpr ⟨o151_106, List.forall_mem_cons.mpr ⟨o151_107, List.forall_mem_cons.mpr ⟨o151_109, List.forall_mem_cons.mpr ⟨o151_111, List.forall_mem_cons.mpr ⟨o151_114, List.forall_mem_cons.mpr ⟨o151_115, List.forall_mem_cons.mpr ⟨o151_117, List.forall_mem_cons.mpr ⟨o151_119, List.forall_mem_cons.mpr ⟨o151_122, List.forall_mem_cons.mpr ⟨o151_123, List.forall_mem_cons.mpr ⟨o151_125, List.forall_mem_cons.mpr ⟨o151_127, List.forall_mem_cons.mpr ⟨o151_130, List.forall_mem_cons.mpr ⟨o151_131, List.forall_mem_cons.mpr ⟨o151_133, List.forall_mem_cons.mpr ⟨o151_135, List.forall_mem_cons.mpr ⟨o151_138, List.forall_mem_cons.mpr ⟨o151_139, List.forall_mem_cons.mpr ⟨o151_141, List.forall_mem_cons.mpr ⟨o151_143, List.forall_mem_cons.mpr ⟨o151_146, List.forall_mem_cons.mpr ⟨o151_147, List.forall_mem_cons.mpr ⟨o151_149, List.forall_mem_cons.mpr ⟨o151_151, List.forall_mem_cons.mpr ⟨o151_154, List.forall_mem_cons.mpr ⟨o151_155, fun _ h => absurd h List.not_mem_nil⟩⟩⟩⟩⟩⟩⟩⟩⟩⟩⟩⟩⟩⟩⟩⟩⟩⟩⟩⟩⟩⟩⟩⟩⟩⟩⟩⟩⟩⟩⟩⟩⟩⟩⟩⟩⟩⟩⟩⟩⟩⟩⟩⟩⟩⟩⟩⟩⟩⟩⟩⟩⟩⟩⟩⟩⟩⟩⟩⟩⟩⟩⟩⟩⟩⟩⟩⟩⟩⟩⟩⟩⟩⟩⟩⟩⟩⟩⟩⟩
theorem ok151_1 : ∀ x ∈ k151_1, OkE cX9_init RX9 "<init>" 1 2 false x := List.forall_mem_cons.mpr ⟨o151_156, List.forall_mem_cons.mpr ⟨o151_158, List.forall_mem_cons.mpr ⟨o151_161, List.forall_mem_cons.mpr ⟨o151_162, List.forall_mem_cons.mpr ⟨o151_163, List.forall_mem_cons.mpr ⟨o151_165, List.forall_mem_cons.mpr ⟨o151_168, List.forall_mem_cons.mpr ⟨o151_169, List.forall_mem_cons.mpr ⟨o151_170, List.forall_mem_cons.mpr ⟨o151_172, List.forall_mem_cons.mpr ⟨o151_175, List.forall_mem_cons.mpr ⟨o151_176, List.forall_mem_cons.mpr ⟨o151_177, List.forall_mem_cons.mpr ⟨o151_179, List.forall_mem_cons.mpr ⟨o151_182, List.forall_mem_cons.mpr ⟨o151_183, List.forall_mem_cons.mpr ⟨o151_185, List.forall_mem_cons.mpr ⟨o151_187, List.forall_mem_cons.mpr ⟨o151_190, List.forall_mem_cons.mpr ⟨o151_191, List.forall_mem_cons.mpr ⟨o151_193, List.forall_mem_cons.mpr ⟨o151_195, List.forall_mem_cons.mpr ⟨o151_198, List.forall_mem_cons.mpr ⟨o151_199, List.forall_mem_cons.mpr ⟨o151_201, List.forall_mem_cons.mpr ⟨o151_203, List.forall_mem_cons.mpr ⟨o151_206, List.forall_mem_cons.mpr ⟨o151_207, List.forall_mem_cons.mpr ⟨o151_209, List.forall_mem_cons.mpr ⟨o151_211, List.forall_mem_cons.mpr ⟨o151_214, List.forall_mem_cons.mpr ⟨o151_215, List.forall_mem_cons.mpr ⟨o151_217, List.forall_mem_cons.mpr ⟨o151_219, List.forall_mem_cons.mpr ⟨o151_222, List.forall_mem_cons.mpr ⟨o151_223, List.forall_mem_cons.mpr ⟨o151_226, List.forall_mem_cons.mpr ⟨o151_227, List.forall_mem_cons.mpr ⟨o151_230, List.forall_mem_cons.mpr ⟨o151_231, List.forall_mem_cons.mpr ⟨o151_232, List.forall_mem_cons.mpr ⟨o151_233, List.forall_mem_cons.mpr ⟨o151_234, List.forall_mem_cons.mpr ⟨o151_237, fun _ h => absurd h List.not_mem_nil⟩⟩⟩⟩⟩⟩⟩⟩⟩⟩⟩⟩⟩⟩⟩⟩⟩⟩⟩⟩⟩⟩⟩⟩⟩⟩⟩⟩⟩⟩⟩⟩⟩⟩⟩⟩⟩⟩⟩⟩⟩⟩⟩⟩
theorem ok151 : ∀ x ∈ k151, OkE cX9_init RX9 "<init>" 1 2 false x := List.forall_mem_append.mpr ⟨ok151_0, ok151_1⟩
theorem o152_0 : OkE cX9_in RX9 "in" 6 0 false (0, .lload 0, 1, []) := (r_lload_n dX9_in_0 rfl).row
theorem o152_1 : OkE cX9_in RX9 "in" 6 0 false (1, .lload 2, 2, []) := (r_lload_n dX9_in_1 rfl).row
theorem o152_2 : OkE cX9_in RX9 "in" 6 0 false (2, .lcmp, 3, []) := (r_lcmp dX9_in_2).row
theorem o152_3 : OkE cX9_in RX9 "in" 6 0 false (3, .ifCond .lt 17, 6, []) := (r_if_lt dX9_in_3 rfl).row
theorem o152_6 : OkE cX9_in RX9 "in" 6 0 false (6, .lload 0, 7, []) := (r_lload_n dX9_in_6 rfl).row
theorem o152_7 : OkE cX9_in RX9 "in" 6 0 false (7, .lload 4, 9, []) := (r_lload dX9_in_7).row
theorem o152_9 : OkE cX9_in RX9 "in" 6 0 false (9, .lcmp, 10, []) := (r_lcmp dX9_in_9).row
theorem o152_10 : OkE cX9_in RX9 "in" 6 0 false (10, .ifCond .gt 17, 13, []) := (r_if_gt dX9_in_10 rfl).row
theorem o152_13 : OkE cX9_in RX9 "in" 6 0 false (13, .iconst 1, 14, []) := (r_iconst dX9_in_13 rfl).row
theorem o152_14 : OkE cX9_in RX9 "in" 6 0 false (14, .goto 18, 17, []) := (r_goto dX9_in_14 rfl).row
theorem o152_17 : OkE cX9_in RX9 "in" 6 0 false (17, .iconst 0, 18, [0, 2, 4]) := (r_iconst dX9_in_17 rfl).row
theorem o152_18 : OkE cX9_in RX9 "in" 6 0 false (18, .ireturn, 19, [0, 2, 4]) := dX9_in_18
theorem ok152 : ∀ x ∈ k152, OkE cX9_in RX9 "in" 6 0 false x := List.forall_mem_cons.mpr ⟨o152_0, List.forall_mem_cons.mpr ⟨o152_1, List.forall_mem_cons.mpr ⟨o152_2, List.forall_mem_cons.mpr ⟨o152_3, List.forall_mem_cons.mpr ⟨o152_6, List.forall_mem_cons.mpr ⟨o152_7, List.forall_mem_cons.mpr ⟨o152_9, List.forall_mem_cons.mpr ⟨o152_10, List.forall_mem_cons.mpr ⟨o152_13, List.forall_mem_cons.mpr ⟨o152_14, List.forall_mem_cons.mpr ⟨o152_17, List.forall_mem_cons.mpr ⟨o152_18, fun _ h => absurd h List.not_mem_nil⟩⟩⟩⟩⟩⟩⟩⟩⟩⟩⟩⟩
theorem o153_0 : OkE cX9_blank RX9 "blank" 2 1 false (0, .iconst 0, 1, []) := (r_iconst dX9_blank_0 rfl).row
theorem o153_1 : OkE cX9_blank RX9 "blank" 2 1 false (1, .istore 1, 2, []) := (r_istore_n dX9_blank_1 rfl).row
theorem o153_2 : OkE cX9_blank RX9 "blank" 2 1 false (2, .iload 1, 3, []) := (r_iload_n dX9_blank_2 rfl).row
theorem o153_3 : OkE cX9_blank RX9 "blank" 2 1 false (3, .iconst 28, 5, []) := (r_bipush dX9_blank_3 rfl).row
theorem o153_5 : OkE cX9_blank RX9 "blank" 2 1 false (5, .if_icmp .ge 97, 8, []) := (r_icmp_ge dX9_blank_5 rfl).row
theorem o153_8 : OkE cX9_blank RX9 "blank" 2 1 false (8, .aload 0, 9, []) := (r_aload_n dX9_blank_8 rfl).row
theorem o153_9 : OkE cX9_blank RX9 "blank" 2 1 false (9, .invokeinterface 9 0, 12, []) := (r_get (C := RX9) (T := TX9) (N := 45) (ci := 9) (j := 0) (ref := RX9) dX9_blank_9 rfl inX9 (by decide) wd_1000 rfl).row
theorem o153_12 : OkE cX9_blank RX9 "blank" 2 1 false (12, .iload 1, 13, []) := (r_iload_n dX9_blank_12 rfl).row
theorem o153_13 : OkE cX9_blank RX9 "blank" 2 1 false (13, .iload 1, 14, []) := (r_iload_n dX9_blank_13 rfl).row
theorem o153_14 : OkE cX9_blank RX9 "blank" 2 1 false (14, .iconst 18, 16, []) := (r_bipush dX9_blank_14 rfl).row
theorem o153_16 : OkE cX9_blank RX9 "blank" 2 1 false (16, .if_icmp .gt 25, 19, []) := (r_icmp_gt dX9_blank_16 rfl).row
theorem o153_19 : OkE cX9_blank RX9 "blank" 2 1 false (19, .iload 1, 20, []) := (r_iload_n dX9_blank_19 rfl).row
theorem o153_20 : OkE cX9_blank RX9 "blank" 2 1 false (20, .iconst 6, 22, []) := (r_bipush dX9_blank_20 rfl).row
theorem o153_22 : OkE cX9_blank RX9 "blank" 2 1 false (22, .if_icmp .ne 29, 25, []) := (r_icmp_ne dX9_blank_22 rfl).row
theorem o153_25 : OkE cX9_blank RX9 "blank" 2 1 false (25, .iconst 5, 26, []) := (r_iconst dX9_blank_25 rfl).row
theorem o153_26 : OkE cX9_blank RX9 "blank" 2 1 false (26, .goto 83, 29, []) := (r_goto dX9_blank_26 rfl).row
theorem o153_29 : OkE cX9_blank RX9 "blank" 2 1 false (29, .iload 1, 30, []) := (r_iload_n dX9_blank_29 rfl).row
theorem o153_30 : OkE cX9_blank RX9 "blank" 2 1 false (30, .iconst 9, 32, []) := (r_bipush dX9_blank_30 rfl).row
theorem o153_32 : OkE cX9_blank RX9 "blank" 2 1 false (32, .if_icmp .gt 47, 35, []) := (r_icmp_gt dX9_blank_32 rfl).row
theorem o153_35 : OkE cX9_blank RX9 "blank" 2 1 false (35, .iload 1, 36, []) := (r_iload_n dX9_blank_35 rfl).row
theorem o153_36 : OkE cX9_blank RX9 "blank" 2 1 false (36, .i2l, 37, []) := (r_i2l dX9_blank_36).row
theorem o153_37 : OkE cX9_blank RX9 "blank" 2 1 false (37, .sipush 1, 38, []) := (r_lconst dX9_blank_37 rfl).row
theorem o153_38 : OkE cX9_blank RX9 "blank" 2 1 false (38, .sipush 3, 41, []) := (r_ldc2 wd_992 dX9_blank_38 rfl).row
theorem o153_41 : OkE cX9_blank RX9 "blank" 2 1 false (41, .invokestatic 152, 44, []) := ⟨rfl, c_S dX9_blank_41 wd_993 wd_994 wd_74 wd_995 nmh_9⟩
theorem o153_44 : OkE cX9_blank RX9 "blank" 2 1 false (44, .ifCond .eq 51, 47, []) := (r_if_eq dX9_blank_44 rfl).row
theorem o153_47 : OkE cX9_blank RX9 "blank" 2 1 false (47, .iconst 1, 48, []) := (r_iconst dX9_blank_47 rfl).row
theorem o153_48 : OkE cX9_blank RX9 "blank" 2 1 false (48, .goto 83, 51, []) := (r_goto dX9_blank_48 rfl).row
theorem o153_51 : OkE cX9_blank RX9 "blank" 2 1 false (51, .iload 1, 52, []) := (r_iload_n dX9_blank_51 rfl).row
theorem o153_52 : OkE cX9_blank RX9 "blank" 2 1 false (52, .iconst 6, 54, []) := (r_bipush dX9_blank_52 rfl).row
theorem o153_54 : OkE cX9_blank RX9 "blank" 2 1 false (54, .if_icmp .le 62, 57, []) := (r_icmp_le dX9_blank_54 rfl).row
theorem o153_57 : OkE cX9_blank RX9 "blank" 2 1 false (57, .iconst (-9), 59, []) := (r_bipush dX9_blank_57 rfl).row
theorem o153_59 : OkE cX9_blank RX9 "blank" 2 1 false (59, .goto 83, 62, []) := (r_goto dX9_blank_59 rfl).row
theorem o153_62 : OkE cX9_blank RX9 "blank" 2 1 false (62, .iload 1, 63, []) := (r_iload_n dX9_blank_62 rfl).row
theorem o153_63 : OkE cX9_blank RX9 "blank" 2 1 false (63, .iconst 4, 64, []) := (r_iconst dX9_blank_63 rfl).row
theorem o153_64 : OkE cX9_blank RX9 "blank" 2 1 false (64, .if_icmp .ne 72, 67, []) := (r_icmp_ne dX9_blank_64 rfl).row
theorem o153_67 : OkE cX9_blank RX9 "blank" 2 1 false (67, .iconst 10, 69, []) := (r_bipush dX9_blank_67 rfl).row
theorem o153_69 : OkE cX9_blank RX9 "blank" 2 1 false (69, .goto 83, 72, []) := (r_goto dX9_blank_69 rfl).row
theorem o153_72 : OkE cX9_blank RX9 "blank" 2 1 false (72, .iload 1, 73, []) := (r_iload_n dX9_blank_72 rfl).row
theorem o153_73 : OkE cX9_blank RX9 "blank" 2 1 false (73, .iconst 5, 74, []) := (r_iconst dX9_blank_73 rfl).row
theorem o153_74 : OkE cX9_blank RX9 "blank" 2 1 false (74, .if_icmp .ne 82, 77, []) := (r_icmp_ne dX9_blank_74 rfl).row
theorem o153_77 : OkE cX9_blank RX9 "blank" 2 1 false (77, .iconst 20, 79, []) := (r_bipush dX9_blank_77 rfl).row
theorem o153_79 : OkE cX9_blank RX9 "blank" 2 1 false (79, .goto 83, 82, []) := (r_goto dX9_blank_79 rfl).row
theorem o153_82 : OkE cX9_blank RX9 "blank" 2 1 false (82, .iconst 0, 83, []) := (r_iconst dX9_blank_82 rfl).row
theorem o153_83 : OkE cX9_blank RX9 "blank" 2 1 false (83, .iastore, 84, []) := r_iast dX9_blank_83
theorem o153_84 : OkE cX9_blank RX9 "blank" 2 1 false (84, .aload 0, 85, []) := (r_aload_n dX9_blank_84 rfl).row
theorem o153_85 : OkE cX9_blank RX9 "blank" 2 1 false (85, .invokeinterface 9 2, 88, []) := (r_get (C := RX9) (T := TX9) (N := 45) (ci := 9) (j := 2) (ref := RX9) dX9_blank_85 rfl inX9 (by decide) wd_1002 rfl).row
theorem o153_88 : OkE cX9_blank RX9 "blank" 2 1 false (88, .iload 1, 89, []) := (r_iload_n dX9_blank_88 rfl).row
theorem o153_89 : OkE cX9_blank RX9 "blank" 2 1 false (89, .iconst 0, 90, []) := (r_iconst dX9_blank_89 rfl).row
theorem o153_90 : OkE cX9_blank RX9 "blank" 2 1 false (90, .bastore, 91, []) := r_zast dX9_blank_90
theorem o153_91 : OkE cX9_blank RX9 "blank" 2 1 false (91, .iinc 1 1, 94, []) := (r_iinc dX9_blank_91 rfl).row
theorem o153_94 : OkE cX9_blank RX9 "blank" 2 1 false (94, .goto 2, 97, []) := (r_goto dX9_blank_94 rfl).row
theorem o153_97 : OkE cX9_blank RX9 "blank" 2 1 false (97, .return_, 98, []) := dX9_blank_97
theorem ok153 : ∀ x ∈ k153, OkE cX9_blank RX9 "blank" 2 1 false x := List.forall_mem_cons.mpr ⟨o153_0, List.forall_mem_cons.mpr ⟨o153_1, List.forall_mem_cons.mpr ⟨o153_2, List.forall_mem_cons.mpr ⟨o153_3, List.forall_mem_cons.mpr ⟨o153_5, List.forall_mem_cons.mpr ⟨o153_8, List.forall_mem_cons.mpr ⟨o153_9, List.forall_mem_cons.mpr ⟨o153_12, List.forall_mem_cons.mpr ⟨o153_13, List.forall_mem_cons.mpr ⟨o153_14, List.forall_mem_cons.mpr ⟨o153_16, List.forall_mem_cons.mpr ⟨o153_19, List.forall_mem_cons.mpr ⟨o153_20, List.forall_mem_cons.mpr ⟨o153_22, List.forall_mem_cons.mpr ⟨o153_25, List.forall_mem_cons.mpr ⟨o153_26, List.forall_mem_cons.mpr ⟨o153_29, List.forall_mem_cons.mpr ⟨o153_30, List.forall_mem_cons.mpr ⟨o153_32, List.forall_mem_cons.mpr ⟨o153_35, List.forall_mem_cons.mpr ⟨o153_36, List.forall_mem_cons.mpr ⟨o153_37, List.forall_mem_cons.mpr ⟨o153_38, List.forall_mem_cons.mpr ⟨o153_41, List.forall_mem_cons.mpr ⟨o153_44, List.forall_mem_cons.mpr ⟨o153_47, List.forall_mem_cons.mpr ⟨o153_48, List.forall_mem_cons.mpr ⟨o153_51, List.forall_mem_cons.mpr ⟨o153_52, List.forall_mem_cons.mpr ⟨o153_54, List.forall_mem_cons.mpr ⟨o153_57, List.forall_mem_cons.mpr ⟨o153_59, List.forall_mem_cons.mpr ⟨o153_62, List.forall_mem_cons.mpr ⟨o153_63, List.forall_mem_cons.mpr ⟨o153_64, List.forall_mem_cons.mpr ⟨o153_67, List.forall_mem_cons.mpr ⟨o153_69, List.forall_mem_cons.mpr ⟨o153_72, List.forall_mem_cons.mpr ⟨o153_73, List.forall_mem_cons.mpr ⟨o153_74, List.forall_mem_cons.mpr ⟨o153_77, List.forall_mem_cons.mpr ⟨o153_79, List.forall_mem_cons.mpr ⟨o153_82, List.forall_mem_cons.mpr ⟨o153_83, List.forall_mem_cons.mpr ⟨o153_84, List.forall_mem_cons.mpr ⟨o153_85, List.forall_mem_cons.mpr ⟨o153_88, List.forall_mem_cons.mpr ⟨o153_89, List.forall_mem_cons.mpr ⟨o153_90, List.forall_mem_cons.mpr ⟨o153_91, List.forall_mem_cons.mpr ⟨o153_94, List.forall_mem_cons.mpr ⟨o153_97, fun _ h => absurd h List.not_mem_nil⟩⟩⟩⟩⟩⟩⟩⟩⟩⟩⟩⟩⟩⟩⟩⟩⟩⟩⟩⟩⟩⟩⟩⟩⟩⟩⟩⟩⟩⟩⟩⟩⟩⟩⟩⟩⟩⟩⟩⟩⟩⟩⟩⟩⟩⟩⟩⟩⟩⟩⟩⟩
theorem o154_0 : OkE cX9_take RX9 "take" 2 0 false (0, .iconst 0, 1, []) := (r_iconst dX9_take_0 rfl).row
theorem o154_1 : OkE cX9_take RX9 "take" 2 0 false (1, .istore 1, 2, []) := (r_istore_n dX9_take_1 rfl).row
theorem o154_2 : OkE cX9_take RX9 "take" 2 0 false (2, .iload 1, 3, []) := (r_iload_n dX9_take_2 rfl).row
theorem o154_3 : OkE cX9_take RX9 "take" 2 0 false (3, .iconst 28, 5, []) := (r_bipush dX9_take_3 rfl).row
theorem o154_5 : OkE cX9_take RX9 "take" 2 0 false (5, .if_icmp .ge 26, 8, []) := (r_icmp_ge dX9_take_5 rfl).row
theorem o154_8 : OkE cX9_take RX9 "take" 2 0 false (8, .aload 0, 9, []) := (r_aload_n dX9_take_8 rfl).row
theorem o154_9 : OkE cX9_take RX9 "take" 2 0 false (9, .invokeinterface 9 1, 12, []) := (r_get (C := RX9) (T := TX9) (N := 45) (ci := 9) (j := 1) (ref := RX9) dX9_take_9 rfl inX9 (by decide) wd_1001 rfl).row
theorem o154_12 : OkE cX9_take RX9 "take" 2 0 false (12, .iload 1, 13, []) := (r_iload_n dX9_take_12 rfl).row
theorem o154_13 : OkE cX9_take RX9 "take" 2 0 false (13, .aload 0, 14, []) := (r_aload_n dX9_take_13 rfl).row
theorem o154_14 : OkE cX9_take RX9 "take" 2 0 false (14, .invokeinterface 9 0, 17, []) := (r_get (C := RX9) (T := TX9) (N := 45) (ci := 9) (j := 0) (ref := RX9) dX9_take_14 rfl inX9 (by decide) wd_1000 rfl).row
theorem o154_17 : OkE cX9_take RX9 "take" 2 0 false (17, .iload 1, 18, []) := (r_iload_n dX9_take_17 rfl).row
theorem o154_18 : OkE cX9_take RX9 "take" 2 0 false (18, .iaload, 19, []) := (r_iald dX9_take_18).row
theorem o154_19 : OkE cX9_take RX9 "take" 2 0 false (19, .iastore, 20, []) := r_iast dX9_take_19
theorem o154_20 : OkE cX9_take RX9 "take" 2 0 false (20, .iinc 1 1, 23, []) := (r_iinc dX9_take_20 rfl).row
theorem o154_23 : OkE cX9_take RX9 "take" 2 0 false (23, .goto 2, 26, []) := (r_goto dX9_take_23 rfl).row
theorem o154_26 : OkE cX9_take RX9 "take" 2 0 false (26, .aload 0, 27, []) := (r_aload_n dX9_take_26 rfl).row
theorem o154_27 : OkE cX9_take RX9 "take" 2 0 false (27, .iconst 0, 28, []) := (r_iconst dX9_take_27 rfl).row
theorem o154_28 : OkE cX9_take RX9 "take" 2 0 false (28, .multianewarray 9 9, 31, []) := r_putI (C := RX9) (T := TX9) (N := 45) (ci := 9) (j := 9) (ref := RX9) dX9_take_28 rfl inX9 tyX9 tyX9_ok nmX9 (by decide) wd_1009 rfl rfl (tyX9_ok 9 (by decide)) rfl
theorem o154_31 : OkE cX9_take RX9 "take" 2 0 false (31, .aload 0, 32, []) := (r_aload_n dX9_take_31 rfl).row
theorem o154_32 : OkE cX9_take RX9 "take" 2 0 false (32, .invokeinterface 9 39, 35, []) := (r_get (C := RX9) (T := TX9) (N := 45) (ci := 9) (j := 39) (ref := RX9) dX9_take_32 rfl inX9 (by decide) wd_1039 rfl).row
theorem o154_35 : OkE cX9_take RX9 "take" 2 0 false (35, .iconst 0, 36, []) := (r_iconst dX9_take_35 rfl).row
theorem o154_36 : OkE cX9_take RX9 "take" 2 0 false (36, .iconst 0, 37, []) := (r_iconst dX9_take_36 rfl).row
theorem o154_37 : OkE cX9_take RX9 "take" 2 0 false (37, .bastore, 38, []) := r_zast dX9_take_37
theorem o154_38 : OkE cX9_take RX9 "take" 2 0 false (38, .aload 0, 39, []) := (r_aload_n dX9_take_38 rfl).row
theorem o154_39 : OkE cX9_take RX9 "take" 2 0 false (39, .invokeinterface 9 39, 42, []) := (r_get (C := RX9) (T := TX9) (N := 45) (ci := 9) (j := 39) (ref := RX9) dX9_take_39 rfl inX9 (by decide) wd_1039 rfl).row
theorem o154_42 : OkE cX9_take RX9 "take" 2 0 false (42, .iconst 1, 43, []) := (r_iconst dX9_take_42 rfl).row
theorem o154_43 : OkE cX9_take RX9 "take" 2 0 false (43, .iconst 0, 44, []) := (r_iconst dX9_take_43 rfl).row
theorem o154_44 : OkE cX9_take RX9 "take" 2 0 false (44, .bastore, 45, []) := r_zast dX9_take_44
theorem o154_45 : OkE cX9_take RX9 "take" 2 0 false (45, .aload 0, 46, []) := (r_aload_n dX9_take_45 rfl).row
theorem o154_46 : OkE cX9_take RX9 "take" 2 0 false (46, .iconst 0, 47, []) := (r_iconst dX9_take_46 rfl).row
theorem o154_47 : OkE cX9_take RX9 "take" 2 0 false (47, .multianewarray 9 15, 50, []) := r_putI (C := RX9) (T := TX9) (N := 45) (ci := 9) (j := 15) (ref := RX9) dX9_take_47 rfl inX9 tyX9 tyX9_ok nmX9 (by decide) wd_1015 rfl rfl (tyX9_ok 15 (by decide)) rfl
theorem o154_50 : OkE cX9_take RX9 "take" 2 0 false (50, .aload 0, 51, []) := (r_aload_n dX9_take_50 rfl).row
theorem o154_51 : OkE cX9_take RX9 "take" 2 0 false (51, .iconst 0, 52, []) := (r_iconst dX9_take_51 rfl).row
theorem o154_52 : OkE cX9_take RX9 "take" 2 0 false (52, .multianewarray 9 19, 55, []) := r_putI (C := RX9) (T := TX9) (N := 45) (ci := 9) (j := 19) (ref := RX9) dX9_take_52 rfl inX9 tyX9 tyX9_ok nmX9 (by decide) wd_1019 rfl rfl (tyX9_ok 19 (by decide)) rfl
theorem o154_55 : OkE cX9_take RX9 "take" 2 0 false (55, .aload 0, 56, []) := (r_aload_n dX9_take_55 rfl).row
theorem o154_56 : OkE cX9_take RX9 "take" 2 0 false (56, .iconst 0, 57, []) := (r_iconst dX9_take_56 rfl).row
theorem o154_57 : OkE cX9_take RX9 "take" 2 0 false (57, .multianewarray 9 20, 60, []) := r_putI (C := RX9) (T := TX9) (N := 45) (ci := 9) (j := 20) (ref := RX9) dX9_take_57 rfl inX9 tyX9 tyX9_ok nmX9 (by decide) wd_1020 rfl rfl (tyX9_ok 20 (by decide)) rfl
theorem o154_60 : OkE cX9_take RX9 "take" 2 0 false (60, .aload 0, 61, []) := (r_aload_n dX9_take_60 rfl).row
theorem o154_61 : OkE cX9_take RX9 "take" 2 0 false (61, .iconst 0, 62, []) := (r_iconst dX9_take_61 rfl).row
theorem o154_62 : OkE cX9_take RX9 "take" 2 0 false (62, .multianewarray 9 21, 65, []) := r_putI (C := RX9) (T := TX9) (N := 45) (ci := 9) (j := 21) (ref := RX9) dX9_take_62 rfl inX9 tyX9 tyX9_ok nmX9 (by decide) wd_1021 rfl rfl (tyX9_ok 21 (by decide)) rfl
theorem o154_65 : OkE cX9_take RX9 "take" 2 0 false (65, .aload 0, 66, []) := (r_aload_n dX9_take_65 rfl).row
theorem o154_66 : OkE cX9_take RX9 "take" 2 0 false (66, .iconst 0, 67, []) := (r_iconst dX9_take_66 rfl).row
theorem o154_67 : OkE cX9_take RX9 "take" 2 0 false (67, .multianewarray 9 22, 70, []) := r_putI (C := RX9) (T := TX9) (N := 45) (ci := 9) (j := 22) (ref := RX9) dX9_take_67 rfl inX9 tyX9 tyX9_ok nmX9 (by decide) wd_1022 rfl rfl (tyX9_ok 22 (by decide)) rfl
theorem o154_70 : OkE cX9_take RX9 "take" 2 0 false (70, .iconst 0, 71, []) := (r_iconst dX9_take_70 rfl).row
theorem o154_71 : OkE cX9_take RX9 "take" 2 0 false (71, .istore 1, 72, []) := (r_istore_n dX9_take_71 rfl).row
theorem o154_72 : OkE cX9_take RX9 "take" 2 0 false (72, .iload 1, 73, []) := (r_iload_n dX9_take_72 rfl).row
theorem o154_73 : OkE cX9_take RX9 "take" 2 0 false (73, .iconst 3, 74, []) := (r_iconst dX9_take_73 rfl).row
theorem o154_74 : OkE cX9_take RX9 "take" 2 0 false (74, .if_icmp .ge 104, 77, []) := (r_icmp_ge dX9_take_74 rfl).row
theorem o154_77 : OkE cX9_take RX9 "take" 2 0 false (77, .aload 0, 78, []) := (r_aload_n dX9_take_77 rfl).row
theorem o154_78 : OkE cX9_take RX9 "take" 2 0 false (78, .invokeinterface 9 16, 81, []) := (r_get (C := RX9) (T := TX9) (N := 45) (ci := 9) (j := 16) (ref := RX9) dX9_take_78 rfl inX9 (by decide) wd_1016 rfl).row
theorem o154_81 : OkE cX9_take RX9 "take" 2 0 false (81, .iload 1, 82, []) := (r_iload_n dX9_take_81 rfl).row
theorem o154_82 : OkE cX9_take RX9 "take" 2 0 false (82, .iconst 0, 83, []) := (r_iconst dX9_take_82 rfl).row
theorem o154_83 : OkE cX9_take RX9 "take" 2 0 false (83, .iastore, 84, []) := r_iast dX9_take_83
theorem o154_84 : OkE cX9_take RX9 "take" 2 0 false (84, .aload 0, 85, []) := (r_aload_n dX9_take_84 rfl).row
theorem o154_85 : OkE cX9_take RX9 "take" 2 0 false (85, .invokeinterface 9 17, 88, []) := (r_get (C := RX9) (T := TX9) (N := 45) (ci := 9) (j := 17) (ref := RX9) dX9_take_85 rfl inX9 (by decide) wd_1017 rfl).row
theorem o154_88 : OkE cX9_take RX9 "take" 2 0 false (88, .iload 1, 89, []) := (r_iload_n dX9_take_88 rfl).row
theorem o154_89 : OkE cX9_take RX9 "take" 2 0 false (89, .iconst 0, 90, []) := (r_iconst dX9_take_89 rfl).row
theorem o154_90 : OkE cX9_take RX9 "take" 2 0 false (90, .iastore, 91, []) := r_iast dX9_take_90
theorem o154_91 : OkE cX9_take RX9 "take" 2 0 false (91, .aload 0, 92, []) := (r_aload_n dX9_take_91 rfl).row
theorem o154_92 : OkE cX9_take RX9 "take" 2 0 false (92, .invokeinterface 9 18, 95, []) := (r_get (C := RX9) (T := TX9) (N := 45) (ci := 9) (j := 18) (ref := RX9) dX9_take_92 rfl inX9 (by decide) wd_1018 rfl).row
theorem o154_95 : OkE cX9_take RX9 "take" 2 0 false (95, .iload 1, 96, []) := (r_iload_n dX9_take_95 rfl).row
theorem o154_96 : OkE cX9_take RX9 "take" 2 0 false (96, .iconst 5, 97, []) := (r_iconst dX9_take_96 rfl).row
theorem o154_97 : OkE cX9_take RX9 "take" 2 0 false (97, .iastore, 98, []) := r_iast dX9_take_97
theorem o154_98 : OkE cX9_take RX9 "take" 2 0 false (98, .iinc 1 1, 101, []) := (r_iinc dX9_take_98 rfl).row
theorem o154_101 : OkE cX9_take RX9 "take" 2 0 false (101, .goto 72, 104, []) := (r_goto dX9_take_101 rfl).row
theorem o154_104 : OkE cX9_take RX9 "take" 2 0 false (104, .return_, 105, []) := dX9_take_104
theorem ok154 : ∀ x ∈ k154, OkE cX9_take RX9 "take" 2 0 false x := List.forall_mem_cons.mpr ⟨o154_0, List.forall_mem_cons.mpr ⟨o154_1, List.forall_mem_cons.mpr ⟨o154_2, List.forall_mem_cons.mpr ⟨o154_3, List.forall_mem_cons.mpr ⟨o154_5, List.forall_mem_cons.mpr ⟨o154_8, List.forall_mem_cons.mpr ⟨o154_9, List.forall_mem_cons.mpr ⟨o154_12, List.forall_mem_cons.mpr ⟨o154_13, List.forall_mem_cons.mpr ⟨o154_14, List.forall_mem_cons.mpr ⟨o154_17, List.forall_mem_cons.mpr ⟨o154_18, List.forall_mem_cons.mpr ⟨o154_19, List.forall_mem_cons.mpr ⟨o154_20, List.forall_mem_cons.mpr ⟨o154_23, List.forall_mem_cons.mpr ⟨o154_26, List.forall_mem_cons.mpr ⟨o154_27, List.forall_mem_cons.mpr ⟨o154_28, List.forall_mem_cons.mpr ⟨o154_31, List.forall_mem_cons.mpr ⟨o154_32, List.forall_mem_cons.mpr ⟨o154_35, List.forall_mem_cons.mpr ⟨o154_36, List.forall_mem_cons.mpr ⟨o154_37, List.forall_mem_cons.mpr ⟨o154_38, List.forall_mem_cons.mpr ⟨o154_39, List.forall_mem_cons.mpr ⟨o154_42, List.forall_mem_cons.mpr ⟨o154_43, List.forall_mem_cons.mpr ⟨o154_44, List.forall_mem_cons.mpr ⟨o154_45, List.forall_mem_cons.mpr ⟨o154_46, List.forall_mem_cons.mpr ⟨o154_47, List.forall_mem_cons.mpr ⟨o154_50, List.forall_mem_cons.mpr ⟨o154_51, List.forall_mem_cons.mpr ⟨o154_52, List.forall_mem_cons.mpr ⟨o154_55, List.forall_mem_cons.mpr ⟨o154_56, List.forall_mem_cons.mpr ⟨o154_57, List.forall_mem_cons.mpr ⟨o154_60, List.forall_mem_cons.mpr ⟨o154_61, List.forall_mem_cons.mpr ⟨o154_62, List.forall_mem_cons.mpr ⟨o154_65, List.forall_mem_cons.mpr ⟨o154_66, List.forall_mem_cons.mpr ⟨o154_67, List.forall_mem_cons.mpr ⟨o154_70, List.forall_mem_cons.mpr ⟨o154_71, List.forall_mem_cons.mpr ⟨o154_72, List.forall_mem_cons.mpr ⟨o154_73, List.forall_mem_cons.mpr ⟨o154_74, List.forall_mem_cons.mpr ⟨o154_77, List.forall_mem_cons.mpr ⟨o154_78, List.forall_mem_cons.mpr ⟨o154_81, List.forall_mem_cons.mpr ⟨o154_82, List.forall_mem_cons.mpr ⟨o154_83, List.forall_mem_cons.mpr ⟨o154_84, List.forall_mem_cons.mpr ⟨o154_85, List.forall_mem_cons.mpr ⟨o154_88, List.forall_mem_cons.mpr ⟨o154_89, List.forall_mem_cons.mpr ⟨o154_90, List.forall_mem_cons.mpr ⟨o154_91, List.forall_mem_cons.mpr ⟨o154_92, List.forall_mem_cons.mpr ⟨o154_95, List.forall_mem_cons.mpr ⟨o154_96, List.forall_mem_cons.mpr ⟨o154_97, List.forall_mem_cons.mpr ⟨o154_98, List.forall_mem_cons.mpr ⟨o154_101, List.forall_mem_cons.mpr ⟨o154_104, fun _ h => absurd h List.not_mem_nil⟩⟩⟩⟩⟩⟩⟩⟩⟩⟩⟩⟩⟩⟩⟩⟩⟩⟩⟩⟩⟩⟩⟩⟩⟩⟩⟩⟩⟩⟩⟩⟩⟩⟩⟩⟩⟩⟩⟩⟩⟩⟩⟩⟩⟩⟩⟩⟩⟩⟩⟩⟩⟩⟩⟩⟩⟩⟩⟩⟩⟩⟩⟩⟩⟩⟩
