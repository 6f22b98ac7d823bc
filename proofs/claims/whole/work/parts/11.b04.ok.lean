theorem o190_0 : OkE cX9_layGift RX9 "layGift" 16 2 false (0, .aload 0, 1, []) := (r_aload_n dX9_layGift_0 rfl).row
theorem o190_1 : OkE cX9_layGift RX9 "layGift" 16 2 false (1, .iload 1, 2, []) := (r_iload_n dX9_layGift_1 rfl).row
theorem o190_2 : OkE cX9_layGift RX9 "layGift" 16 2 false (2, .iload 2, 3, []) := (r_iload_n dX9_layGift_2 rfl).row
theorem o190_3 : OkE cX9_layGift RX9 "layGift" 16 2 false (3, .iload 3, 4, []) := (r_iload_n dX9_layGift_3 rfl).row
theorem o190_4 : OkE cX9_layGift RX9 "layGift" 16 2 false (4, .iload 4, 6, []) := (r_iload dX9_layGift_4).row
theorem o190_6 : OkE cX9_layGift RX9 "layGift" 16 2 false (6, .iload 5, 8, []) := (r_iload dX9_layGift_6).row
theorem o190_8 : OkE cX9_layGift RX9 "layGift" 16 2 false (8, .iload 6, 10, []) := (r_iload dX9_layGift_8).row
theorem o190_10 : OkE cX9_layGift RX9 "layGift" 16 2 false (10, .lload 7, 12, []) := (r_lload dX9_layGift_10).row
theorem o190_12 : OkE cX9_layGift RX9 "layGift" 16 2 false (12, .invokevirtual 189, 15, []) := ⟨rfl, c_V dX9_layGift_12 wd_1294 wd_1296 wd_53 wd_74 wd_1297 nmh_9⟩
theorem o190_15 : OkE cX9_layGift RX9 "layGift" 16 2 false (15, .lstore 9, 17, []) := (r_lstore dX9_layGift_15).row
theorem o190_17 : OkE cX9_layGift RX9 "layGift" 16 2 false (17, .aload 0, 18, []) := (r_aload_n dX9_layGift_17 rfl).row
theorem o190_18 : OkE cX9_layGift RX9 "layGift" 16 2 false (18, .iconst 0, 19, []) := (r_iconst dX9_layGift_18 rfl).row
theorem o190_19 : OkE cX9_layGift RX9 "layGift" 16 2 false (19, .multianewarray 9 14, 22, []) := r_putI (C := RX9) (T := TX9) (N := 45) (ci := 9) (j := 14) (ref := RX9) dX9_layGift_19 rfl inX9 tyX9 tyX9_ok nmX9 (by decide) wd_1014 rfl rfl (tyX9_ok 14 (by decide)) rfl
theorem o190_22 : OkE cX9_layGift RX9 "layGift" 16 2 false (22, .iconst 1, 23, []) := (r_iconst dX9_layGift_22 rfl).row
theorem o190_23 : OkE cX9_layGift RX9 "layGift" 16 2 false (23, .istore 11, 25, []) := (r_istore dX9_layGift_23).row
theorem o190_25 : OkE cX9_layGift RX9 "layGift" 16 2 false (25, .iload 11, 27, [12, 14]) := (r_iload dX9_layGift_25).row
theorem o190_27 : OkE cX9_layGift RX9 "layGift" 16 2 false (27, .iload 6, 29, []) := (r_iload dX9_layGift_27).row
theorem o190_29 : OkE cX9_layGift RX9 "layGift" 16 2 false (29, .if_icmp .gt 163, 32, []) := (r_icmp_gt dX9_layGift_29 rfl).row
theorem o190_32 : OkE cX9_layGift RX9 "layGift" 16 2 false (32, .aload 0, 33, []) := (r_aload_n dX9_layGift_32 rfl).row
theorem o190_33 : OkE cX9_layGift RX9 "layGift" 16 2 false (33, .iload 1, 34, []) := (r_iload_n dX9_layGift_33 rfl).row
theorem o190_34 : OkE cX9_layGift RX9 "layGift" 16 2 false (34, .iload 2, 35, []) := (r_iload_n dX9_layGift_34 rfl).row
theorem o190_35 : OkE cX9_layGift RX9 "layGift" 16 2 false (35, .iload 3, 36, []) := (r_iload_n dX9_layGift_35 rfl).row
theorem o190_36 : OkE cX9_layGift RX9 "layGift" 16 2 false (36, .iload 4, 38, []) := (r_iload dX9_layGift_36).row
theorem o190_38 : OkE cX9_layGift RX9 "layGift" 16 2 false (38, .iload 11, 40, []) := (r_iload dX9_layGift_38).row
theorem o190_40 : OkE cX9_layGift RX9 "layGift" 16 2 false (40, .iadd, 41, []) := (r_iadd dX9_layGift_40).row
theorem o190_41 : OkE cX9_layGift RX9 "layGift" 16 2 false (41, .iload 5, 43, []) := (r_iload dX9_layGift_41).row
theorem o190_43 : OkE cX9_layGift RX9 "layGift" 16 2 false (43, .iload 6, 45, []) := (r_iload dX9_layGift_43).row
theorem o190_45 : OkE cX9_layGift RX9 "layGift" 16 2 false (45, .iload 11, 47, []) := (r_iload dX9_layGift_45).row
theorem o190_47 : OkE cX9_layGift RX9 "layGift" 16 2 false (47, .isub, 48, []) := (r_isub dX9_layGift_47).row
theorem o190_48 : OkE cX9_layGift RX9 "layGift" 16 2 false (48, .lload 7, 50, []) := (r_lload dX9_layGift_48).row
theorem o190_50 : OkE cX9_layGift RX9 "layGift" 16 2 false (50, .invokevirtual 189, 53, []) := ⟨rfl, c_V dX9_layGift_50 wd_1294 wd_1296 wd_53 wd_74 wd_1297 nmh_9⟩
theorem o190_53 : OkE cX9_layGift RX9 "layGift" 16 2 false (53, .lstore 12, 55, []) := (r_lstore dX9_layGift_53).row
theorem o190_55 : OkE cX9_layGift RX9 "layGift" 16 2 false (55, .aload 0, 56, []) := (r_aload_n dX9_layGift_55 rfl).row
theorem o190_56 : OkE cX9_layGift RX9 "layGift" 16 2 false (56, .lload 12, 58, []) := (r_lload dX9_layGift_56).row
theorem o190_58 : OkE cX9_layGift RX9 "layGift" 16 2 false (58, .lload 9, 60, []) := (r_lload dX9_layGift_58).row
theorem o190_60 : OkE cX9_layGift RX9 "layGift" 16 2 false (60, .lcmp, 61, []) := (r_lcmp dX9_layGift_60).row
theorem o190_61 : OkE cX9_layGift RX9 "layGift" 16 2 false (61, .ifCond .le 69, 64, []) := (r_if_le dX9_layGift_61 rfl).row
theorem o190_64 : OkE cX9_layGift RX9 "layGift" 16 2 false (64, .iload 11, 66, []) := (r_iload dX9_layGift_64).row
theorem o190_66 : OkE cX9_layGift RX9 "layGift" 16 2 false (66, .goto 73, 69, []) := (r_goto dX9_layGift_66 rfl).row
theorem o190_69 : OkE cX9_layGift RX9 "layGift" 16 2 false (69, .aload 0, 70, []) := (r_aload_n dX9_layGift_69 rfl).row
theorem o190_70 : OkE cX9_layGift RX9 "layGift" 16 2 false (70, .invokeinterface 9 14, 73, []) := (r_get (C := RX9) (T := TX9) (N := 45) (ci := 9) (j := 14) (ref := RX9) dX9_layGift_70 rfl inX9 (by decide) wd_1014 rfl).row
theorem o190_73 : OkE cX9_layGift RX9 "layGift" 16 2 false (73, .multianewarray 9 14, 76, [14]) := r_putI (C := RX9) (T := TX9) (N := 45) (ci := 9) (j := 14) (ref := RX9) dX9_layGift_73 rfl inX9 tyX9 tyX9_ok nmX9 (by decide) wd_1014 rfl rfl (tyX9_ok 14 (by decide)) rfl
theorem o190_76 : OkE cX9_layGift RX9 "layGift" 16 2 false (76, .lload 12, 78, []) := (r_lload dX9_layGift_76).row
theorem o190_78 : OkE cX9_layGift RX9 "layGift" 16 2 false (78, .lload 9, 80, []) := (r_lload dX9_layGift_78).row
theorem o190_80 : OkE cX9_layGift RX9 "layGift" 16 2 false (80, .lcmp, 81, []) := (r_lcmp dX9_layGift_80).row
theorem o190_81 : OkE cX9_layGift RX9 "layGift" 16 2 false (81, .ifCond .le 89, 84, []) := (r_if_le dX9_layGift_81 rfl).row
theorem o190_84 : OkE cX9_layGift RX9 "layGift" 16 2 false (84, .lload 12, 86, []) := (r_lload dX9_layGift_84).row
theorem o190_86 : OkE cX9_layGift RX9 "layGift" 16 2 false (86, .goto 91, 89, []) := (r_goto dX9_layGift_86 rfl).row
theorem o190_89 : OkE cX9_layGift RX9 "layGift" 16 2 false (89, .lload 9, 91, []) := (r_lload dX9_layGift_89).row
theorem o190_91 : OkE cX9_layGift RX9 "layGift" 16 2 false (91, .lstore 9, 93, [9, 12, 14]) := (r_lstore dX9_layGift_91).row
theorem o190_93 : OkE cX9_layGift RX9 "layGift" 16 2 false (93, .aload 0, 94, []) := (r_aload_n dX9_layGift_93 rfl).row
theorem o190_94 : OkE cX9_layGift RX9 "layGift" 16 2 false (94, .iload 1, 95, []) := (r_iload_n dX9_layGift_94 rfl).row
theorem o190_95 : OkE cX9_layGift RX9 "layGift" 16 2 false (95, .iload 2, 96, []) := (r_iload_n dX9_layGift_95 rfl).row
theorem o190_96 : OkE cX9_layGift RX9 "layGift" 16 2 false (96, .iload 3, 97, []) := (r_iload_n dX9_layGift_96 rfl).row
theorem o190_97 : OkE cX9_layGift RX9 "layGift" 16 2 false (97, .iload 4, 99, []) := (r_iload dX9_layGift_97).row
theorem o190_99 : OkE cX9_layGift RX9 "layGift" 16 2 false (99, .iload 5, 101, []) := (r_iload dX9_layGift_99).row
theorem o190_101 : OkE cX9_layGift RX9 "layGift" 16 2 false (101, .iload 11, 103, []) := (r_iload dX9_layGift_101).row
theorem o190_103 : OkE cX9_layGift RX9 "layGift" 16 2 false (103, .iadd, 104, []) := (r_iadd dX9_layGift_103).row
theorem o190_104 : OkE cX9_layGift RX9 "layGift" 16 2 false (104, .iload 6, 106, []) := (r_iload dX9_layGift_104).row
theorem o190_106 : OkE cX9_layGift RX9 "layGift" 16 2 false (106, .iload 11, 108, []) := (r_iload dX9_layGift_106).row
theorem o190_108 : OkE cX9_layGift RX9 "layGift" 16 2 false (108, .isub, 109, []) := (r_isub dX9_layGift_108).row
theorem o190_109 : OkE cX9_layGift RX9 "layGift" 16 2 false (109, .lload 7, 111, []) := (r_lload dX9_layGift_109).row
theorem o190_111 : OkE cX9_layGift RX9 "layGift" 16 2 false (111, .invokevirtual 189, 114, []) := ⟨rfl, c_V dX9_layGift_111 wd_1294 wd_1296 wd_53 wd_74 wd_1297 nmh_9⟩
theorem o190_114 : OkE cX9_layGift RX9 "layGift" 16 2 false (114, .lstore 14, 116, []) := (r_lstore dX9_layGift_114).row
theorem o190_116 : OkE cX9_layGift RX9 "layGift" 16 2 false (116, .aload 0, 117, []) := (r_aload_n dX9_layGift_116 rfl).row
theorem o190_117 : OkE cX9_layGift RX9 "layGift" 16 2 false (117, .lload 14, 119, []) := (r_lload dX9_layGift_117).row
theorem o190_119 : OkE cX9_layGift RX9 "layGift" 16 2 false (119, .lload 9, 121, []) := (r_lload dX9_layGift_119).row
theorem o190_121 : OkE cX9_layGift RX9 "layGift" 16 2 false (121, .lcmp, 122, []) := (r_lcmp dX9_layGift_121).row
theorem o190_122 : OkE cX9_layGift RX9 "layGift" 16 2 false (122, .ifCond .le 133, 125, []) := (r_if_le dX9_layGift_122 rfl).row
theorem o190_125 : OkE cX9_layGift RX9 "layGift" 16 2 false (125, .iconst 100, 127, []) := (r_bipush dX9_layGift_125 rfl).row
theorem o190_127 : OkE cX9_layGift RX9 "layGift" 16 2 false (127, .iload 11, 129, []) := (r_iload dX9_layGift_127).row
theorem o190_129 : OkE cX9_layGift RX9 "layGift" 16 2 false (129, .iadd, 130, []) := (r_iadd dX9_layGift_129).row
theorem o190_130 : OkE cX9_layGift RX9 "layGift" 16 2 false (130, .goto 137, 133, []) := (r_goto dX9_layGift_130 rfl).row
theorem o190_133 : OkE cX9_layGift RX9 "layGift" 16 2 false (133, .aload 0, 134, []) := (r_aload_n dX9_layGift_133 rfl).row
theorem o190_134 : OkE cX9_layGift RX9 "layGift" 16 2 false (134, .invokeinterface 9 14, 137, []) := (r_get (C := RX9) (T := TX9) (N := 45) (ci := 9) (j := 14) (ref := RX9) dX9_layGift_134 rfl inX9 (by decide) wd_1014 rfl).row
theorem o190_137 : OkE cX9_layGift RX9 "layGift" 16 2 false (137, .multianewarray 9 14, 140, [12]) := r_putI (C := RX9) (T := TX9) (N := 45) (ci := 9) (j := 14) (ref := RX9) dX9_layGift_137 rfl inX9 tyX9 tyX9_ok nmX9 (by decide) wd_1014 rfl rfl (tyX9_ok 14 (by decide)) rfl
theorem o190_140 : OkE cX9_layGift RX9 "layGift" 16 2 false (140, .lload 14, 142, []) := (r_lload dX9_layGift_140).row
theorem o190_142 : OkE cX9_layGift RX9 "layGift" 16 2 false (142, .lload 9, 144, []) := (r_lload dX9_layGift_142).row
theorem o190_144 : OkE cX9_layGift RX9 "layGift" 16 2 false (144, .lcmp, 145, []) := (r_lcmp dX9_layGift_144).row
theorem o190_145 : OkE cX9_layGift RX9 "layGift" 16 2 false (145, .ifCond .le 153, 148, []) := (r_if_le dX9_layGift_145 rfl).row
theorem o190_148 : OkE cX9_layGift RX9 "layGift" 16 2 false (148, .lload 14, 150, []) := (r_lload dX9_layGift_148).row
theorem o190_150 : OkE cX9_layGift RX9 "layGift" 16 2 false (150, .goto 155, 153, []) := (r_goto dX9_layGift_150 rfl).row
theorem o190_153 : OkE cX9_layGift RX9 "layGift" 16 2 false (153, .lload 9, 155, []) := (r_lload dX9_layGift_153).row
theorem o190_155 : OkE cX9_layGift RX9 "layGift" 16 2 false (155, .lstore 9, 157, [9, 12, 14]) := (r_lstore dX9_layGift_155).row
theorem o190_157 : OkE cX9_layGift RX9 "layGift" 16 2 false (157, .iinc 11 1, 160, []) := (r_iinc dX9_layGift_157 rfl).row
theorem o190_160 : OkE cX9_layGift RX9 "layGift" 16 2 false (160, .goto 25, 163, []) := (r_goto dX9_layGift_160 rfl).row
theorem o190_163 : OkE cX9_layGift RX9 "layGift" 16 2 false (163, .lload 9, 165, []) := (r_lload dX9_layGift_163).row
theorem o190_165 : OkE cX9_layGift RX9 "layGift" 16 2 false (165, .lreturn, 166, []) := dX9_layGift_165
theorem ok190 : ∀ x ∈ k190, OkE cX9_layGift RX9 "layGift" 16 2 false x := List.forall_mem_cons.mpr ⟨o190_0, List.forall_mem_cons.mpr ⟨o190_1, List.forall_mem_cons.mpr ⟨o190_2, List.forall_mem_cons.mpr ⟨o190_3, List.forall_mem_cons.mpr ⟨o190_4, List.forall_mem_cons.mpr ⟨o190_6, List.forall_mem_cons.mpr ⟨o190_8, List.forall_mem_cons.mpr ⟨o190_10, List.forall_mem_cons.mpr ⟨o190_12, List.forall_mem_cons.mpr ⟨o190_15, List.forall_mem_cons.mpr ⟨o190_17, List.forall_mem_cons.mpr ⟨o190_18, List.forall_mem_cons.mpr ⟨o190_19, List.forall_mem_cons.mpr ⟨o190_22, List.forall_mem_cons.mpr ⟨o190_23, List.forall_mem_cons.mpr ⟨o190_25, List.forall_mem_cons.mpr ⟨o190_27, List.forall_mem_cons.mpr ⟨o190_29, List.forall_mem_cons.mpr ⟨o190_32, List.forall_mem_cons.mpr ⟨o190_33, List.forall_mem_cons.mpr ⟨o190_34, List.forall_mem_cons.mpr ⟨o190_35, List.forall_mem_cons.mpr ⟨o190_36, List.forall_mem_cons.mpr ⟨o190_38, List.forall_mem_cons.mpr ⟨o190_40, List.forall_mem_cons.mpr ⟨o190_41, List.forall_mem_cons.mpr ⟨o190_43, List.forall_mem_cons.mpr ⟨o190_45, List.forall_mem_cons.mpr ⟨o190_47, List.forall_mem_cons.mpr ⟨o190_48, List.forall_mem_cons.mpr ⟨o190_50, List.forall_mem_cons.mpr ⟨o190_53, List.forall_mem_cons.mpr ⟨o190_55, List.forall_mem_cons.mpr ⟨o190_56, List.forall_mem_cons.mpr ⟨o190_58, List.forall_mem_cons.mpr ⟨o190_60, List.forall_mem_cons.mpr ⟨o190_61, List.forall_mem_cons.mpr ⟨o190_64, List.forall_mem_cons.mpr ⟨o190_66, List.forall_mem_cons.mpr ⟨o190_69, List.forall_mem_cons.mpr ⟨o190_70, List.forall_mem_cons.mpr ⟨o190_73, List.forall_mem_cons.mpr ⟨o190_76, List.forall_mem_cons.mpr ⟨o190_78, List.forall_mem_cons.mpr ⟨o190_80, List.forall_mem_cons.mpr ⟨o190_81, List.forall_mem_cons.mpr ⟨o190_84, List.forall_mem_cons.mpr ⟨o190_86, List.forall_mem_cons.mpr ⟨o190_89, List.forall_mem_cons.mpr ⟨o190_91, List.forall_mem_cons.mpr ⟨o190_93, List.forall_mem_cons.mpr ⟨o190_94, List.forall_mem_cons.mpr ⟨o190_95, List.forall_mem_cons.mpr ⟨o190_96, List.forall_mem_cons.mpr ⟨o190_97, List.forall_mem_cons.mpr ⟨o190_99, List.forall_mem_cons.mpr ⟨o190_101, List.forall_mem_cons.mpr ⟨o190_103, List.forall_mem_cons.mpr ⟨o190_104, List.forall_mem_cons.mpr ⟨o190_106, List.forall_mem_cons.mpr ⟨o190_108, List.forall_mem_cons.mpr ⟨o190_109, List.forall_mem_cons.mpr ⟨o190_111, List.forall_mem_cons.mpr ⟨o190_114, List.forall_mem_cons.mpr ⟨o190_116, List.forall_mem_cons.mpr ⟨o190_117, List.forall_mem_cons.mpr ⟨o190_119, List.forall_mem_cons.mpr ⟨o190_121, List.forall_mem_cons.mpr ⟨o190_122, List.forall_mem_cons.mpr ⟨o190_125, List.forall_mem_cons.mpr ⟨o190_127, List.forall_mem_cons.mpr ⟨o190_129, List.forall_mem_cons.mpr ⟨o190_130, List.forall_mem_cons.mpr ⟨o190_133, List.forall_mem_cons.mpr ⟨o190_134, List.forall_mem_cons.mpr ⟨o190_137, List.forall_mem_cons.mpr ⟨o190_140, List.forall_mem_cons.mpr ⟨o190_142, List.forall_mem_cons.mpr ⟨o190_144, List.forall_mem_cons.mpr ⟨o190_145, List.forall_mem_cons.mpr ⟨o190_148, List.forall_mem_cons.mpr ⟨o190_150, List.forall_mem_cons.mpr ⟨o190_153, List.forall_mem_cons.mpr ⟨o190_155, List.forall_mem_cons.mpr ⟨o190_157, List.forall_mem_cons.mpr ⟨o190_160, List.forall_mem_cons.mpr ⟨o190_163, List.forall_mem_cons.mpr ⟨o190_165, fun _ h => absurd h List.not_mem_nil⟩⟩⟩⟩⟩⟩⟩⟩⟩⟩⟩⟩⟩⟩⟩⟩⟩⟩⟩⟩⟩⟩⟩⟩⟩⟩⟩⟩⟩⟩⟩⟩⟩⟩⟩⟩⟩⟩⟩⟩⟩⟩⟩⟩⟩⟩⟩⟩⟩⟩⟩⟩⟩⟩⟩⟩⟩⟩⟩⟩⟩⟩⟩⟩⟩⟩⟩⟩⟩⟩⟩⟩⟩⟩⟩⟩⟩⟩⟩⟩⟩⟩⟩⟩⟩⟩⟩⟩
theorem o191_0 : OkE cX9_layVan RX9 "layVan" 12 3 false (0, .iconst 0, 1, []) := (r_iconst dX9_layVan_0 rfl).row
theorem o191_1 : OkE cX9_layVan RX9 "layVan" 12 3 false (1, .istore 6, 3, []) := (r_istore dX9_layVan_1).row
theorem o191_3 : OkE cX9_layVan RX9 "layVan" 12 3 false (3, .iload 6, 5, []) := (r_iload dX9_layVan_3).row
theorem o191_5 : OkE cX9_layVan RX9 "layVan" 12 3 false (5, .iconst 2197, 8, []) := (r_sipush dX9_layVan_5 rfl).row
theorem o191_8 : OkE cX9_layVan RX9 "layVan" 12 3 false (8, .if_icmp .ge 25, 11, []) := (r_icmp_ge dX9_layVan_8 rfl).row
theorem o191_11 : OkE cX9_layVan RX9 "layVan" 12 3 false (11, .aload 0, 12, []) := (r_aload_n dX9_layVan_11 rfl).row
theorem o191_12 : OkE cX9_layVan RX9 "layVan" 12 3 false (12, .invokeinterface 9 13, 15, []) := (r_get (C := RX9) (T := TX9) (N := 45) (ci := 9) (j := 13) (ref := RX9) dX9_layVan_12 rfl inX9 (by decide) wd_1013 rfl).row
theorem o191_15 : OkE cX9_layVan RX9 "layVan" 12 3 false (15, .iload 6, 17, []) := (r_iload dX9_layVan_15).row
theorem o191_17 : OkE cX9_layVan RX9 "layVan" 12 3 false (17, .sipush 0, 18, []) := (r_lconst dX9_layVan_17 rfl).row
theorem o191_18 : OkE cX9_layVan RX9 "layVan" 12 3 false (18, .lastore, 19, []) := r_last dX9_layVan_18
theorem o191_19 : OkE cX9_layVan RX9 "layVan" 12 3 false (19, .iinc 6 1, 22, []) := (r_iinc dX9_layVan_19 rfl).row
theorem o191_22 : OkE cX9_layVan RX9 "layVan" 12 3 false (22, .goto 3, 25, []) := (r_goto dX9_layVan_22 rfl).row
theorem o191_25 : OkE cX9_layVan RX9 "layVan" 12 3 false (25, .sipush 1, 26, []) := (r_lconst dX9_layVan_25 rfl).row
theorem o191_26 : OkE cX9_layVan RX9 "layVan" 12 3 false (26, .lstore 6, 28, []) := (r_lstore dX9_layVan_26).row
theorem o191_28 : OkE cX9_layVan RX9 "layVan" 12 3 false (28, .iconst 0, 29, []) := (r_iconst dX9_layVan_28 rfl).row
theorem o191_29 : OkE cX9_layVan RX9 "layVan" 12 3 false (29, .istore 8, 31, []) := (r_istore dX9_layVan_29).row
theorem o191_31 : OkE cX9_layVan RX9 "layVan" 12 3 false (31, .iload 8, 33, [9, 10, 11]) := (r_iload dX9_layVan_31).row
theorem o191_33 : OkE cX9_layVan RX9 "layVan" 12 3 false (33, .iload 5, 35, []) := (r_iload dX9_layVan_33).row
theorem o191_35 : OkE cX9_layVan RX9 "layVan" 12 3 false (35, .if_icmp .ge 169, 38, []) := (r_icmp_ge dX9_layVan_35 rfl).row
theorem o191_38 : OkE cX9_layVan RX9 "layVan" 12 3 false (38, .iconst 0, 39, []) := (r_iconst dX9_layVan_38 rfl).row
theorem o191_39 : OkE cX9_layVan RX9 "layVan" 12 3 false (39, .istore 9, 41, []) := (r_istore dX9_layVan_39).row
theorem o191_41 : OkE cX9_layVan RX9 "layVan" 12 3 false (41, .iload 9, 43, [10, 11]) := (r_iload dX9_layVan_41).row
theorem o191_43 : OkE cX9_layVan RX9 "layVan" 12 3 false (43, .iload 4, 45, []) := (r_iload dX9_layVan_43).row
theorem o191_45 : OkE cX9_layVan RX9 "layVan" 12 3 false (45, .if_icmp .gt 124, 48, []) := (r_icmp_gt dX9_layVan_45 rfl).row
theorem o191_48 : OkE cX9_layVan RX9 "layVan" 12 3 false (48, .iconst 0, 49, []) := (r_iconst dX9_layVan_48 rfl).row
theorem o191_49 : OkE cX9_layVan RX9 "layVan" 12 3 false (49, .istore 10, 51, []) := (r_istore dX9_layVan_49).row
theorem o191_51 : OkE cX9_layVan RX9 "layVan" 12 3 false (51, .iload 9, 53, [11]) := (r_iload dX9_layVan_51).row
theorem o191_53 : OkE cX9_layVan RX9 "layVan" 12 3 false (53, .iload 10, 55, []) := (r_iload dX9_layVan_53).row
theorem o191_55 : OkE cX9_layVan RX9 "layVan" 12 3 false (55, .iadd, 56, []) := (r_iadd dX9_layVan_55).row
theorem o191_56 : OkE cX9_layVan RX9 "layVan" 12 3 false (56, .iload 4, 58, []) := (r_iload dX9_layVan_56).row
theorem o191_58 : OkE cX9_layVan RX9 "layVan" 12 3 false (58, .if_icmp .gt 118, 61, []) := (r_icmp_gt dX9_layVan_58 rfl).row
theorem o191_61 : OkE cX9_layVan RX9 "layVan" 12 3 false (61, .iconst 0, 62, []) := (r_iconst dX9_layVan_61 rfl).row
theorem o191_62 : OkE cX9_layVan RX9 "layVan" 12 3 false (62, .istore 11, 64, []) := (r_istore dX9_layVan_62).row
theorem o191_64 : OkE cX9_layVan RX9 "layVan" 12 3 false (64, .iload 9, 66, []) := (r_iload dX9_layVan_64).row
theorem o191_66 : OkE cX9_layVan RX9 "layVan" 12 3 false (66, .iload 10, 68, []) := (r_iload dX9_layVan_66).row
theorem o191_68 : OkE cX9_layVan RX9 "layVan" 12 3 false (68, .iadd, 69, []) := (r_iadd dX9_layVan_68).row
theorem o191_69 : OkE cX9_layVan RX9 "layVan" 12 3 false (69, .iload 11, 71, []) := (r_iload dX9_layVan_69).row
theorem o191_71 : OkE cX9_layVan RX9 "layVan" 12 3 false (71, .iadd, 72, []) := (r_iadd dX9_layVan_71).row
theorem o191_72 : OkE cX9_layVan RX9 "layVan" 12 3 false (72, .iload 4, 74, []) := (r_iload dX9_layVan_72).row
theorem o191_74 : OkE cX9_layVan RX9 "layVan" 12 3 false (74, .if_icmp .gt 112, 77, []) := (r_icmp_gt dX9_layVan_74 rfl).row
theorem o191_77 : OkE cX9_layVan RX9 "layVan" 12 3 false (77, .aload 0, 78, []) := (r_aload_n dX9_layVan_77 rfl).row
theorem o191_78 : OkE cX9_layVan RX9 "layVan" 12 3 false (78, .invokeinterface 9 12, 81, []) := (r_get (C := RX9) (T := TX9) (N := 45) (ci := 9) (j := 12) (ref := RX9) dX9_layVan_78 rfl inX9 (by decide) wd_1012 rfl).row
theorem o191_81 : OkE cX9_layVan RX9 "layVan" 12 3 false (81, .iload 9, 83, []) := (r_iload dX9_layVan_81).row
theorem o191_83 : OkE cX9_layVan RX9 "layVan" 12 3 false (83, .iload 10, 85, []) := (r_iload dX9_layVan_83).row
theorem o191_85 : OkE cX9_layVan RX9 "layVan" 12 3 false (85, .iload 11, 87, []) := (r_iload dX9_layVan_85).row
theorem o191_87 : OkE cX9_layVan RX9 "layVan" 12 3 false (87, .invokestatic 187, 90, []) := ⟨rfl, c_S dX9_layVan_87 wd_1287 wd_1288 wd_74 wd_1289 nmh_9⟩
theorem o191_90 : OkE cX9_layVan RX9 "layVan" 12 3 false (90, .aload 0, 91, []) := (r_aload_n dX9_layVan_90 rfl).row
theorem o191_91 : OkE cX9_layVan RX9 "layVan" 12 3 false (91, .iload 1, 92, []) := (r_iload_n dX9_layVan_91 rfl).row
theorem o191_92 : OkE cX9_layVan RX9 "layVan" 12 3 false (92, .iload 2, 93, []) := (r_iload_n dX9_layVan_92 rfl).row
theorem o191_93 : OkE cX9_layVan RX9 "layVan" 12 3 false (93, .iload 3, 94, []) := (r_iload_n dX9_layVan_93 rfl).row
theorem o191_94 : OkE cX9_layVan RX9 "layVan" 12 3 false (94, .iload 9, 96, []) := (r_iload dX9_layVan_94).row
theorem o191_96 : OkE cX9_layVan RX9 "layVan" 12 3 false (96, .iload 10, 98, []) := (r_iload dX9_layVan_96).row
theorem o191_98 : OkE cX9_layVan RX9 "layVan" 12 3 false (98, .iload 11, 100, []) := (r_iload dX9_layVan_98).row
theorem o191_100 : OkE cX9_layVan RX9 "layVan" 12 3 false (100, .lload 6, 102, []) := (r_lload dX9_layVan_100).row
theorem o191_102 : OkE cX9_layVan RX9 "layVan" 12 3 false (102, .invokevirtual 190, 105, []) := ⟨rfl, c_V dX9_layVan_102 wd_1290 wd_1292 wd_52 wd_74 wd_1293 nmh_9⟩
theorem o191_105 : OkE cX9_layVan RX9 "layVan" 12 3 false (105, .lastore, 106, []) := r_last dX9_layVan_105
theorem o191_106 : OkE cX9_layVan RX9 "layVan" 12 3 false (106, .iinc 11 1, 109, []) := (r_iinc dX9_layVan_106 rfl).row
theorem o191_109 : OkE cX9_layVan RX9 "layVan" 12 3 false (109, .goto 64, 112, []) := (r_goto dX9_layVan_109 rfl).row
theorem o191_112 : OkE cX9_layVan RX9 "layVan" 12 3 false (112, .iinc 10 1, 115, []) := (r_iinc dX9_layVan_112 rfl).row
theorem o191_115 : OkE cX9_layVan RX9 "layVan" 12 3 false (115, .goto 51, 118, []) := (r_goto dX9_layVan_115 rfl).row
theorem o191_118 : OkE cX9_layVan RX9 "layVan" 12 3 false (118, .iinc 9 1, 121, []) := (r_iinc dX9_layVan_118 rfl).row
theorem o191_121 : OkE cX9_layVan RX9 "layVan" 12 3 false (121, .goto 41, 124, []) := (r_goto dX9_layVan_121 rfl).row
theorem o191_124 : OkE cX9_layVan RX9 "layVan" 12 3 false (124, .iconst 0, 125, []) := (r_iconst dX9_layVan_124 rfl).row
theorem o191_125 : OkE cX9_layVan RX9 "layVan" 12 3 false (125, .istore 9, 127, []) := (r_istore dX9_layVan_125).row
theorem o191_127 : OkE cX9_layVan RX9 "layVan" 12 3 false (127, .iload 9, 129, [10, 11]) := (r_iload dX9_layVan_127).row
theorem o191_129 : OkE cX9_layVan RX9 "layVan" 12 3 false (129, .iconst 2197, 132, []) := (r_sipush dX9_layVan_129 rfl).row
theorem o191_132 : OkE cX9_layVan RX9 "layVan" 12 3 false (132, .if_icmp .ge 155, 135, []) := (r_icmp_ge dX9_layVan_132 rfl).row
theorem o191_135 : OkE cX9_layVan RX9 "layVan" 12 3 false (135, .aload 0, 136, []) := (r_aload_n dX9_layVan_135 rfl).row
theorem o191_136 : OkE cX9_layVan RX9 "layVan" 12 3 false (136, .invokeinterface 9 13, 139, []) := (r_get (C := RX9) (T := TX9) (N := 45) (ci := 9) (j := 13) (ref := RX9) dX9_layVan_136 rfl inX9 (by decide) wd_1013 rfl).row
theorem o191_139 : OkE cX9_layVan RX9 "layVan" 12 3 false (139, .iload 9, 141, []) := (r_iload dX9_layVan_139).row
theorem o191_141 : OkE cX9_layVan RX9 "layVan" 12 3 false (141, .aload 0, 142, []) := (r_aload_n dX9_layVan_141 rfl).row
theorem o191_142 : OkE cX9_layVan RX9 "layVan" 12 3 false (142, .invokeinterface 9 12, 145, []) := (r_get (C := RX9) (T := TX9) (N := 45) (ci := 9) (j := 12) (ref := RX9) dX9_layVan_142 rfl inX9 (by decide) wd_1012 rfl).row
theorem o191_145 : OkE cX9_layVan RX9 "layVan" 12 3 false (145, .iload 9, 147, []) := (r_iload dX9_layVan_145).row
theorem o191_147 : OkE cX9_layVan RX9 "layVan" 12 3 false (147, .laload, 148, []) := (r_lald dX9_layVan_147).row
theorem o191_148 : OkE cX9_layVan RX9 "layVan" 12 3 false (148, .lastore, 149, []) := r_last dX9_layVan_148
theorem o191_149 : OkE cX9_layVan RX9 "layVan" 12 3 false (149, .iinc 9 1, 152, []) := (r_iinc dX9_layVan_149 rfl).row
theorem o191_152 : OkE cX9_layVan RX9 "layVan" 12 3 false (152, .goto 127, 155, []) := (r_goto dX9_layVan_152 rfl).row
theorem o191_155 : OkE cX9_layVan RX9 "layVan" 12 3 false (155, .lload 6, 157, []) := (r_lload dX9_layVan_155).row
theorem o191_157 : OkE cX9_layVan RX9 "layVan" 12 3 false (157, .sipush 100, 160, []) := (r_ldc2 wd_1301 dX9_layVan_157 rfl).row
theorem o191_160 : OkE cX9_layVan RX9 "layVan" 12 3 false (160, .lmul, 161, []) := (r_lmul dX9_layVan_160).row
theorem o191_161 : OkE cX9_layVan RX9 "layVan" 12 3 false (161, .lstore 6, 163, []) := (r_lstore dX9_layVan_161).row
theorem o191_163 : OkE cX9_layVan RX9 "layVan" 12 3 false (163, .iinc 8 1, 166, []) := (r_iinc dX9_layVan_163 rfl).row
theorem o191_166 : OkE cX9_layVan RX9 "layVan" 12 3 false (166, .goto 31, 169, []) := (r_goto dX9_layVan_166 rfl).row
theorem o191_169 : OkE cX9_layVan RX9 "layVan" 12 3 false (169, .lload 6, 171, []) := (r_lload dX9_layVan_169).row
theorem o191_171 : OkE cX9_layVan RX9 "layVan" 12 3 false (171, .lreturn, 172, []) := dX9_layVan_171
theorem ok191 : ∀ x ∈ k191, OkE cX9_layVan RX9 "layVan" 12 3 false x := List.forall_mem_cons.mpr ⟨o191_0, List.forall_mem_cons.mpr ⟨o191_1, List.forall_mem_cons.mpr ⟨o191_3, List.forall_mem_cons.mpr ⟨o191_5, List.forall_mem_cons.mpr ⟨o191_8, List.forall_mem_cons.mpr ⟨o191_11, List.forall_mem_cons.mpr ⟨o191_12, List.forall_mem_cons.mpr ⟨o191_15, List.forall_mem_cons.mpr ⟨o191_17, List.forall_mem_cons.mpr ⟨o191_18, List.forall_mem_cons.mpr ⟨o191_19, List.forall_mem_cons.mpr ⟨o191_22, List.forall_mem_cons.mpr ⟨o191_25, List.forall_mem_cons.mpr ⟨o191_26, List.forall_mem_cons.mpr ⟨o191_28, List.forall_mem_cons.mpr ⟨o191_29, List.forall_mem_cons.mpr ⟨o191_31, List.forall_mem_cons.mpr ⟨o191_33, List.forall_mem_cons.mpr ⟨o191_35, List.forall_mem_cons.mpr ⟨o191_38, List.forall_mem_cons.mpr ⟨o191_39, List.forall_mem_cons.mpr ⟨o191_41, List.forall_mem_cons.mpr ⟨o191_43, List.forall_mem_cons.mpr ⟨o191_45, List.forall_mem_cons.mpr ⟨o191_48, List.forall_mem_cons.mpr ⟨o191_49, List.forall_mem_cons.mpr ⟨o191_51, List.forall_mem_cons.mpr ⟨o191_53, List.forall_mem_cons.mpr ⟨o191_55, List.forall_mem_cons.mpr ⟨o191_56, List.forall_mem_cons.mpr ⟨o191_58, List.forall_mem_cons.mpr ⟨o191_61, List.forall_mem_cons.mpr ⟨o191_62, List.forall_mem_cons.mpr ⟨o191_64, List.forall_mem_cons.mpr ⟨o191_66, List.forall_mem_cons.mpr ⟨o191_68, List.forall_mem_cons.mpr ⟨o191_69, List.forall_mem_cons.mpr ⟨o191_71, List.forall_mem_cons.mpr ⟨o191_72, List.forall_mem_cons.mpr ⟨o191_74, List.forall_mem_cons.mpr ⟨o191_77, List.forall_mem_cons.mpr ⟨o191_78, List.forall_mem_cons.mpr ⟨o191_81, List.forall_mem_cons.mpr ⟨o191_83, List.forall_mem_cons.mpr ⟨o191_85, List.forall_mem_cons.mpr ⟨o191_87, List.forall_mem_cons.mpr ⟨o191_90, List.forall_mem_cons.mpr ⟨o191_91, List.forall_mem_cons.mpr ⟨o191_92, List.forall_mem_cons.mpr ⟨o191_93, List.forall_mem_cons.mpr ⟨o191_94, List.forall_mem_cons.mpr ⟨o191_96, List.forall_mem_cons.mpr ⟨o191_98, List.forall_mem_cons.mpr ⟨o191_100, List.forall_mem_cons.mpr ⟨o191_102, List.forall_mem_cons.mpr ⟨o191_105, List.forall_mem_cons.mpr ⟨o191_106, List.forall_mem_cons.mpr ⟨o191_109, List.forall_mem_cons.mpr ⟨o191_112, List.forall_mem_cons.mpr ⟨o191_115, List.forall_mem_cons.mpr ⟨o191_118, List.forall_mem_cons.mpr ⟨o191_121, List.forall_mem_cons.mpr ⟨o191_124, List.forall_mem_cons.mpr ⟨o191_125, List.forall_mem_cons.mpr ⟨o191_127, List.forall_mem_cons.mpr ⟨o191_129, List.forall_mem_cons.mpr ⟨o191_132, List.forall_mem_cons.mpr ⟨o191_135, List.forall_mem_cons.mpr ⟨o191_136, List.forall_mem_cons.mpr ⟨o191_139, List.forall_mem_cons.mpr ⟨o191_141, List.forall_mem_cons.mpr ⟨o191_142, List.forall_mem_cons.mpr ⟨o191_145, List.forall_mem_cons.mpr ⟨o191_147, List.forall_mem_cons.mpr ⟨o191_148, List.forall_mem_cons.mpr ⟨o191_149, List.forall_mem_cons.mpr ⟨o191_152, List.forall_mem_cons.mpr ⟨o191_155, List.forall_mem_cons.mpr ⟨o191_157, List.forall_mem_cons.mpr ⟨o191_160, List.forall_mem_cons.mpr ⟨o191_161, List.forall_mem_cons.mpr ⟨o191_163, List.forall_mem_cons.mpr ⟨o191_166, List.forall_mem_cons.mpr ⟨o191_169, List.forall_mem_cons.mpr ⟨o191_171, fun _ h => absurd h List.not_mem_nil⟩⟩⟩⟩⟩⟩⟩⟩⟩⟩⟩⟩⟩⟩⟩⟩⟩⟩⟩⟩⟩⟩⟩⟩⟩⟩⟩⟩⟩⟩⟩⟩⟩⟩⟩⟩⟩⟩⟩⟩⟩⟩⟩⟩⟩⟩⟩⟩⟩⟩⟩⟩⟩⟩⟩⟩⟩⟩⟩⟩⟩⟩⟩⟩⟩⟩⟩⟩⟩⟩⟩⟩⟩⟩⟩⟩⟩⟩⟩⟩⟩⟩⟩⟩⟩
theorem o192_0 : OkE cX9_mayVan RX9 "mayVan" 9 2 false (0, .aload 0, 1, []) := (r_aload_n dX9_mayVan_0 rfl).row
theorem o192_1 : OkE cX9_mayVan RX9 "mayVan" 9 2 false (1, .iload 1, 2, []) := (r_iload_n dX9_mayVan_1 rfl).row
theorem o192_2 : OkE cX9_mayVan RX9 "mayVan" 9 2 false (2, .invokevirtual 163, 5, []) := ⟨rfl, c_V dX9_mayVan_2 wd_1175 wd_1177 wd_41 wd_74 wd_1178 nmh_9⟩
theorem o192_5 : OkE cX9_mayVan RX9 "mayVan" 9 2 false (5, .ifCond .eq 23, 8, []) := (r_if_eq dX9_mayVan_5 rfl).row
theorem o192_8 : OkE cX9_mayVan RX9 "mayVan" 9 2 false (8, .aload 0, 9, []) := (r_aload_n dX9_mayVan_8 rfl).row
theorem o192_9 : OkE cX9_mayVan RX9 "mayVan" 9 2 false (9, .iload 2, 10, []) := (r_iload_n dX9_mayVan_9 rfl).row
theorem o192_10 : OkE cX9_mayVan RX9 "mayVan" 9 2 false (10, .invokevirtual 163, 13, []) := ⟨rfl, c_V dX9_mayVan_10 wd_1175 wd_1177 wd_41 wd_74 wd_1178 nmh_9⟩
theorem o192_13 : OkE cX9_mayVan RX9 "mayVan" 9 2 false (13, .ifCond .eq 23, 16, []) := (r_if_eq dX9_mayVan_13 rfl).row
theorem o192_16 : OkE cX9_mayVan RX9 "mayVan" 9 2 false (16, .iload 3, 17, []) := (r_iload_n dX9_mayVan_16 rfl).row
theorem o192_17 : OkE cX9_mayVan RX9 "mayVan" 9 2 false (17, .invokestatic 164, 20, []) := ⟨rfl, c_S dX9_mayVan_17 wd_1179 wd_1180 wd_74 wd_1181 nmh_9⟩
theorem o192_20 : OkE cX9_mayVan RX9 "mayVan" 9 2 false (20, .ifCond .ne 25, 23, []) := (r_if_ne dX9_mayVan_20 rfl).row
theorem o192_23 : OkE cX9_mayVan RX9 "mayVan" 9 2 false (23, .iconst (-1), 24, [0, 1, 2, 3, 4, 5, 6, 7, 8]) := (r_iconst dX9_mayVan_23 rfl).row
theorem o192_24 : OkE cX9_mayVan RX9 "mayVan" 9 2 false (24, .ireturn, 25, []) := dX9_mayVan_24
theorem o192_25 : OkE cX9_mayVan RX9 "mayVan" 9 2 false (25, .iload 4, 27, []) := (r_iload dX9_mayVan_25).row
theorem o192_27 : OkE cX9_mayVan RX9 "mayVan" 9 2 false (27, .i2l, 28, []) := (r_i2l dX9_mayVan_27).row
theorem o192_28 : OkE cX9_mayVan RX9 "mayVan" 9 2 false (28, .sipush 0, 29, []) := (r_lconst dX9_mayVan_28 rfl).row
theorem o192_29 : OkE cX9_mayVan RX9 "mayVan" 9 2 false (29, .sipush 12, 32, []) := (r_ldc2 wd_1282 dX9_mayVan_29 rfl).row
theorem o192_32 : OkE cX9_mayVan RX9 "mayVan" 9 2 false (32, .invokestatic 152, 35, []) := ⟨rfl, c_S dX9_mayVan_32 wd_993 wd_994 wd_74 wd_995 nmh_9⟩
theorem o192_35 : OkE cX9_mayVan RX9 "mayVan" 9 2 false (35, .ifCond .eq 92, 38, []) := (r_if_eq dX9_mayVan_35 rfl).row
theorem o192_38 : OkE cX9_mayVan RX9 "mayVan" 9 2 false (38, .iload 5, 40, []) := (r_iload dX9_mayVan_38).row
theorem o192_40 : OkE cX9_mayVan RX9 "mayVan" 9 2 false (40, .i2l, 41, []) := (r_i2l dX9_mayVan_40).row
theorem o192_41 : OkE cX9_mayVan RX9 "mayVan" 9 2 false (41, .sipush 0, 42, []) := (r_lconst dX9_mayVan_41 rfl).row
theorem o192_42 : OkE cX9_mayVan RX9 "mayVan" 9 2 false (42, .sipush 12, 45, []) := (r_ldc2 wd_1282 dX9_mayVan_42 rfl).row
theorem o192_45 : OkE cX9_mayVan RX9 "mayVan" 9 2 false (45, .invokestatic 152, 48, []) := ⟨rfl, c_S dX9_mayVan_45 wd_993 wd_994 wd_74 wd_995 nmh_9⟩
theorem o192_48 : OkE cX9_mayVan RX9 "mayVan" 9 2 false (48, .ifCond .eq 92, 51, []) := (r_if_eq dX9_mayVan_48 rfl).row
theorem o192_51 : OkE cX9_mayVan RX9 "mayVan" 9 2 false (51, .iload 6, 53, []) := (r_iload dX9_mayVan_51).row
theorem o192_53 : OkE cX9_mayVan RX9 "mayVan" 9 2 false (53, .i2l, 54, []) := (r_i2l dX9_mayVan_53).row
theorem o192_54 : OkE cX9_mayVan RX9 "mayVan" 9 2 false (54, .sipush 0, 55, []) := (r_lconst dX9_mayVan_54 rfl).row
theorem o192_55 : OkE cX9_mayVan RX9 "mayVan" 9 2 false (55, .sipush 12, 58, []) := (r_ldc2 wd_1282 dX9_mayVan_55 rfl).row
theorem o192_58 : OkE cX9_mayVan RX9 "mayVan" 9 2 false (58, .invokestatic 152, 61, []) := ⟨rfl, c_S dX9_mayVan_58 wd_993 wd_994 wd_74 wd_995 nmh_9⟩
theorem o192_61 : OkE cX9_mayVan RX9 "mayVan" 9 2 false (61, .ifCond .eq 92, 64, []) := (r_if_eq dX9_mayVan_61 rfl).row
theorem o192_64 : OkE cX9_mayVan RX9 "mayVan" 9 2 false (64, .iload 4, 66, []) := (r_iload dX9_mayVan_64).row
theorem o192_66 : OkE cX9_mayVan RX9 "mayVan" 9 2 false (66, .iload 5, 68, []) := (r_iload dX9_mayVan_66).row
theorem o192_68 : OkE cX9_mayVan RX9 "mayVan" 9 2 false (68, .iadd, 69, []) := (r_iadd dX9_mayVan_68).row
theorem o192_69 : OkE cX9_mayVan RX9 "mayVan" 9 2 false (69, .iload 6, 71, []) := (r_iload dX9_mayVan_69).row
theorem o192_71 : OkE cX9_mayVan RX9 "mayVan" 9 2 false (71, .iadd, 72, []) := (r_iadd dX9_mayVan_71).row
theorem o192_72 : OkE cX9_mayVan RX9 "mayVan" 9 2 false (72, .iconst 12, 74, []) := (r_bipush dX9_mayVan_72 rfl).row
theorem o192_74 : OkE cX9_mayVan RX9 "mayVan" 9 2 false (74, .if_icmp .gt 92, 77, []) := (r_icmp_gt dX9_mayVan_74 rfl).row
theorem o192_77 : OkE cX9_mayVan RX9 "mayVan" 9 2 false (77, .iload 7, 79, []) := (r_iload dX9_mayVan_77).row
theorem o192_79 : OkE cX9_mayVan RX9 "mayVan" 9 2 false (79, .i2l, 80, []) := (r_i2l dX9_mayVan_79).row
theorem o192_80 : OkE cX9_mayVan RX9 "mayVan" 9 2 false (80, .iload 8, 82, []) := (r_iload dX9_mayVan_80).row
theorem o192_82 : OkE cX9_mayVan RX9 "mayVan" 9 2 false (82, .i2l, 83, []) := (r_i2l dX9_mayVan_82).row
theorem o192_83 : OkE cX9_mayVan RX9 "mayVan" 9 2 false (83, .sipush 6, 86, []) := (r_ldc2 wd_1201 dX9_mayVan_83 rfl).row
theorem o192_86 : OkE cX9_mayVan RX9 "mayVan" 9 2 false (86, .invokestatic 152, 89, []) := ⟨rfl, c_S dX9_mayVan_86 wd_993 wd_994 wd_74 wd_995 nmh_9⟩
theorem o192_89 : OkE cX9_mayVan RX9 "mayVan" 9 2 false (89, .ifCond .ne 95, 92, []) := (r_if_ne dX9_mayVan_89 rfl).row
theorem o192_92 : OkE cX9_mayVan RX9 "mayVan" 9 2 false (92, .iconst (-2), 94, [0, 1, 2, 3, 4, 5, 6, 7, 8]) := (r_bipush dX9_mayVan_92 rfl).row
theorem o192_94 : OkE cX9_mayVan RX9 "mayVan" 9 2 false (94, .ireturn, 95, []) := dX9_mayVan_94
theorem o192_95 : OkE cX9_mayVan RX9 "mayVan" 9 2 false (95, .iload 1, 96, []) := (r_iload_n dX9_mayVan_95 rfl).row
theorem o192_96 : OkE cX9_mayVan RX9 "mayVan" 9 2 false (96, .iload 2, 97, []) := (r_iload_n dX9_mayVan_96 rfl).row
theorem o192_97 : OkE cX9_mayVan RX9 "mayVan" 9 2 false (97, .if_icmp .ne 105, 100, []) := (r_icmp_ne dX9_mayVan_97 rfl).row
theorem o192_100 : OkE cX9_mayVan RX9 "mayVan" 9 2 false (100, .iconst (-3), 102, []) := (r_bipush dX9_mayVan_100 rfl).row
theorem o192_102 : OkE cX9_mayVan RX9 "mayVan" 9 2 false (102, .goto 106, 105, []) := (r_goto dX9_mayVan_102 rfl).row
theorem o192_105 : OkE cX9_mayVan RX9 "mayVan" 9 2 false (105, .iconst 0, 106, []) := (r_iconst dX9_mayVan_105 rfl).row
theorem o192_106 : OkE cX9_mayVan RX9 "mayVan" 9 2 false (106, .ireturn, 107, [0, 1, 2, 3, 4, 5, 6, 7, 8]) := dX9_mayVan_106
theorem ok192 : ∀ x ∈ k192, OkE cX9_mayVan RX9 "mayVan" 9 2 false x := List.forall_mem_cons.mpr ⟨o192_0, List.forall_mem_cons.mpr ⟨o192_1, List.forall_mem_cons.mpr ⟨o192_2, List.forall_mem_cons.mpr ⟨o192_5, List.forall_mem_cons.mpr ⟨o192_8, List.forall_mem_cons.mpr ⟨o192_9, List.forall_mem_cons.mpr ⟨o192_10, List.forall_mem_cons.mpr ⟨o192_13, List.forall_mem_cons.mpr ⟨o192_16, List.forall_mem_cons.mpr ⟨o192_17, List.forall_mem_cons.mpr ⟨o192_20, List.forall_mem_cons.mpr ⟨o192_23, List.forall_mem_cons.mpr ⟨o192_24, List.forall_mem_cons.mpr ⟨o192_25, List.forall_mem_cons.mpr ⟨o192_27, List.forall_mem_cons.mpr ⟨o192_28, List.forall_mem_cons.mpr ⟨o192_29, List.forall_mem_cons.mpr ⟨o192_32, List.forall_mem_cons.mpr ⟨o192_35, List.forall_mem_cons.mpr ⟨o192_38, List.forall_mem_cons.mpr ⟨o192_40, List.forall_mem_cons.mpr ⟨o192_41, List.forall_mem_cons.mpr ⟨o192_42, List.forall_mem_cons.mpr ⟨o192_45, List.forall_mem_cons.mpr ⟨o192_48, List.forall_mem_cons.mpr ⟨o192_51, List.forall_mem_cons.mpr ⟨o192_53, List.forall_mem_cons.mpr ⟨o192_54, List.forall_mem_cons.mpr ⟨o192_55, List.forall_mem_cons.mpr ⟨o192_58, List.forall_mem_cons.mpr ⟨o192_61, List.forall_mem_cons.mpr ⟨o192_64, List.forall_mem_cons.mpr ⟨o192_66, List.forall_mem_cons.mpr ⟨o192_68, List.forall_mem_cons.mpr ⟨o192_69, List.forall_mem_cons.mpr ⟨o192_71, List.forall_mem_cons.mpr ⟨o192_72, List.forall_mem_cons.mpr ⟨o192_74, List.forall_mem_cons.mpr ⟨o192_77, List.forall_mem_cons.mpr ⟨o192_79, List.forall_mem_cons.mpr ⟨o192_80, List.forall_mem_cons.mpr ⟨o192_82, List.forall_mem_cons.mpr ⟨o192_83, List.forall_mem_cons.mpr ⟨o192_86, List.forall_mem_cons.mpr ⟨o192_89, List.forall_mem_cons.mpr ⟨o192_92, List.forall_mem_cons.mpr ⟨o192_94, List.forall_mem_cons.mpr ⟨o192_95, List.forall_mem_cons.mpr ⟨o192_96, List.forall_mem_cons.mpr ⟨o192_97, List.forall_mem_cons.mpr ⟨o192_100, List.forall_mem_cons.mpr ⟨o192_102, List.forall_mem_cons.mpr ⟨o192_105, List.forall_mem_cons.mpr ⟨o192_106, fun _ h => absurd h List.not_mem_nil⟩⟩⟩⟩⟩⟩⟩⟩⟩⟩⟩⟩⟩⟩⟩⟩⟩⟩⟩⟩⟩⟩⟩⟩⟩⟩⟩⟩⟩⟩⟩⟩⟩⟩⟩⟩⟩⟩⟩⟩⟩⟩⟩⟩⟩⟩⟩⟩⟩⟩⟩⟩⟩⟩
theorem o193_0 : OkE cX9_best RX9 "best" 14 4 false (0, .iload 1, 1, []) := (r_iload_n dX9_best_0 rfl).row
theorem o193_1 : OkE cX9_best RX9 "best" 14 4 false (1, .iconst 10, 3, []) := (r_bipush dX9_best_1 rfl).row
theorem o193_3 : OkE cX9_best RX9 "best" 14 4 false (3, .idiv, 4, []) := (r_idiv dX9_best_3).row
theorem o193_4 : OkE cX9_best RX9 "best" 14 4 false (4, .istore 7, 6, []) := (r_istore dX9_best_4).row
theorem o193_6 : OkE cX9_best RX9 "best" 14 4 false (6, .iload 1, 7, []) := (r_iload_n dX9_best_6 rfl).row
theorem o193_7 : OkE cX9_best RX9 "best" 14 4 false (7, .iconst 10, 9, []) := (r_bipush dX9_best_7 rfl).row
theorem o193_9 : OkE cX9_best RX9 "best" 14 4 false (9, .irem, 10, []) := (r_irem dX9_best_9).row
theorem o193_10 : OkE cX9_best RX9 "best" 14 4 false (10, .istore 8, 12, []) := (r_istore dX9_best_10).row
theorem o193_12 : OkE cX9_best RX9 "best" 14 4 false (12, .iload 3, 13, []) := (r_iload_n dX9_best_12 rfl).row
theorem o193_13 : OkE cX9_best RX9 "best" 14 4 false (13, .iconst 100, 15, []) := (r_bipush dX9_best_13 rfl).row
theorem o193_15 : OkE cX9_best RX9 "best" 14 4 false (15, .idiv, 16, []) := (r_idiv dX9_best_15).row
theorem o193_16 : OkE cX9_best RX9 "best" 14 4 false (16, .istore 9, 18, []) := (r_istore dX9_best_16).row
theorem o193_18 : OkE cX9_best RX9 "best" 14 4 false (18, .iload 3, 19, []) := (r_iload_n dX9_best_18 rfl).row
theorem o193_19 : OkE cX9_best RX9 "best" 14 4 false (19, .iconst 100, 21, []) := (r_bipush dX9_best_19 rfl).row
theorem o193_21 : OkE cX9_best RX9 "best" 14 4 false (21, .irem, 22, []) := (r_irem dX9_best_21).row
theorem o193_22 : OkE cX9_best RX9 "best" 14 4 false (22, .istore 10, 24, []) := (r_istore dX9_best_22).row
theorem o193_24 : OkE cX9_best RX9 "best" 14 4 false (24, .aload 0, 25, []) := (r_aload_n dX9_best_24 rfl).row
theorem o193_25 : OkE cX9_best RX9 "best" 14 4 false (25, .iload 7, 27, []) := (r_iload dX9_best_25).row
theorem o193_27 : OkE cX9_best RX9 "best" 14 4 false (27, .iload 8, 29, []) := (r_iload dX9_best_27).row
theorem o193_29 : OkE cX9_best RX9 "best" 14 4 false (29, .iload 2, 30, []) := (r_iload_n dX9_best_29 rfl).row
theorem o193_30 : OkE cX9_best RX9 "best" 14 4 false (30, .iload 9, 32, []) := (r_iload dX9_best_30).row
theorem o193_32 : OkE cX9_best RX9 "best" 14 4 false (32, .iload 10, 34, []) := (r_iload dX9_best_32).row
theorem o193_34 : OkE cX9_best RX9 "best" 14 4 false (34, .iload 4, 36, []) := (r_iload dX9_best_34).row
theorem o193_36 : OkE cX9_best RX9 "best" 14 4 false (36, .iload 5, 38, []) := (r_iload dX9_best_36).row
theorem o193_38 : OkE cX9_best RX9 "best" 14 4 false (38, .iconst 0, 39, []) := (r_iconst dX9_best_38 rfl).row
theorem o193_39 : OkE cX9_best RX9 "best" 14 4 false (39, .invokevirtual 192, 42, []) := ⟨rfl, c_V dX9_best_39 wd_1278 wd_1280 wd_50 wd_74 wd_1281 nmh_9⟩
theorem o193_42 : OkE cX9_best RX9 "best" 14 4 false (42, .istore 11, 44, []) := (r_istore dX9_best_42).row
theorem o193_44 : OkE cX9_best RX9 "best" 14 4 false (44, .iload 11, 46, []) := (r_iload dX9_best_44).row
theorem o193_46 : OkE cX9_best RX9 "best" 14 4 false (46, .ifCond .ge 53, 49, []) := (r_if_ge dX9_best_46 rfl).row
theorem o193_49 : OkE cX9_best RX9 "best" 14 4 false (49, .iload 11, 51, []) := (r_iload dX9_best_49).row
theorem o193_51 : OkE cX9_best RX9 "best" 14 4 false (51, .i2l, 52, []) := (r_i2l dX9_best_51).row
theorem o193_52 : OkE cX9_best RX9 "best" 14 4 false (52, .lreturn, 53, []) := dX9_best_52
theorem o193_53 : OkE cX9_best RX9 "best" 14 4 false (53, .aload 0, 54, []) := (r_aload_n dX9_best_53 rfl).row
theorem o193_54 : OkE cX9_best RX9 "best" 14 4 false (54, .iload 7, 56, []) := (r_iload dX9_best_54).row
theorem o193_56 : OkE cX9_best RX9 "best" 14 4 false (56, .iload 8, 58, []) := (r_iload dX9_best_56).row
theorem o193_58 : OkE cX9_best RX9 "best" 14 4 false (58, .iload 2, 59, []) := (r_iload_n dX9_best_58 rfl).row
theorem o193_59 : OkE cX9_best RX9 "best" 14 4 false (59, .iload 9, 61, []) := (r_iload dX9_best_59).row
theorem o193_61 : OkE cX9_best RX9 "best" 14 4 false (61, .iload 10, 63, []) := (r_iload dX9_best_61).row
theorem o193_63 : OkE cX9_best RX9 "best" 14 4 false (63, .iadd, 64, []) := (r_iadd dX9_best_63).row
theorem o193_64 : OkE cX9_best RX9 "best" 14 4 false (64, .iload 4, 66, []) := (r_iload dX9_best_64).row
theorem o193_66 : OkE cX9_best RX9 "best" 14 4 false (66, .iadd, 67, []) := (r_iadd dX9_best_66).row
theorem o193_67 : OkE cX9_best RX9 "best" 14 4 false (67, .iload 5, 69, []) := (r_iload dX9_best_67).row
theorem o193_69 : OkE cX9_best RX9 "best" 14 4 false (69, .invokevirtual 191, 72, []) := ⟨rfl, c_V dX9_best_69 wd_1283 wd_1285 wd_51 wd_74 wd_1286 nmh_9⟩
theorem o193_72 : OkE cX9_best RX9 "best" 14 4 false (72, .lstore 12, 74, []) := (r_lstore dX9_best_72).row
theorem o193_74 : OkE cX9_best RX9 "best" 14 4 false (74, .aload 0, 75, []) := (r_aload_n dX9_best_74 rfl).row
theorem o193_75 : OkE cX9_best RX9 "best" 14 4 false (75, .invokeinterface 9 13, 78, []) := (r_get (C := RX9) (T := TX9) (N := 45) (ci := 9) (j := 13) (ref := RX9) dX9_best_75 rfl inX9 (by decide) wd_1013 rfl).row
theorem o193_78 : OkE cX9_best RX9 "best" 14 4 false (78, .iload 9, 80, []) := (r_iload dX9_best_78).row
theorem o193_80 : OkE cX9_best RX9 "best" 14 4 false (80, .iload 10, 82, []) := (r_iload dX9_best_80).row
theorem o193_82 : OkE cX9_best RX9 "best" 14 4 false (82, .iload 4, 84, []) := (r_iload dX9_best_82).row
theorem o193_84 : OkE cX9_best RX9 "best" 14 4 false (84, .invokestatic 187, 87, []) := ⟨rfl, c_S dX9_best_84 wd_1287 wd_1288 wd_74 wd_1289 nmh_9⟩
theorem o193_87 : OkE cX9_best RX9 "best" 14 4 false (87, .laload, 88, []) := (r_lald dX9_best_87).row
theorem o193_88 : OkE cX9_best RX9 "best" 14 4 false (88, .lload 12, 90, []) := (r_lload dX9_best_88).row
theorem o193_90 : OkE cX9_best RX9 "best" 14 4 false (90, .iload 6, 92, []) := (r_iload dX9_best_90).row
theorem o193_92 : OkE cX9_best RX9 "best" 14 4 false (92, .invokestatic 170, 95, []) := ⟨rfl, c_S dX9_best_92 wd_1209 wd_1210 wd_74 wd_1211 nmh_9⟩
theorem o193_95 : OkE cX9_best RX9 "best" 14 4 false (95, .lreturn, 96, []) := dX9_best_95
theorem ok193 : ∀ x ∈ k193, OkE cX9_best RX9 "best" 14 4 false x := List.forall_mem_cons.mpr ⟨o193_0, List.forall_mem_cons.mpr ⟨o193_1, List.forall_mem_cons.mpr ⟨o193_3, List.forall_mem_cons.mpr ⟨o193_4, List.forall_mem_cons.mpr ⟨o193_6, List.forall_mem_cons.mpr ⟨o193_7, List.forall_mem_cons.mpr ⟨o193_9, List.forall_mem_cons.mpr ⟨o193_10, List.forall_mem_cons.mpr ⟨o193_12, List.forall_mem_cons.mpr ⟨o193_13, List.forall_mem_cons.mpr ⟨o193_15, List.forall_mem_cons.mpr ⟨o193_16, List.forall_mem_cons.mpr ⟨o193_18, List.forall_mem_cons.mpr ⟨o193_19, List.forall_mem_cons.mpr ⟨o193_21, List.forall_mem_cons.mpr ⟨o193_22, List.forall_mem_cons.mpr ⟨o193_24, List.forall_mem_cons.mpr ⟨o193_25, List.forall_mem_cons.mpr ⟨o193_27, List.forall_mem_cons.mpr ⟨o193_29, List.forall_mem_cons.mpr ⟨o193_30, List.forall_mem_cons.mpr ⟨o193_32, List.forall_mem_cons.mpr ⟨o193_34, List.forall_mem_cons.mpr ⟨o193_36, List.forall_mem_cons.mpr ⟨o193_38, List.forall_mem_cons.mpr ⟨o193_39, List.forall_mem_cons.mpr ⟨o193_42, List.forall_mem_cons.mpr ⟨o193_44, List.forall_mem_cons.mpr ⟨o193_46, List.forall_mem_cons.mpr ⟨o193_49, List.forall_mem_cons.mpr ⟨o193_51, List.forall_mem_cons.mpr ⟨o193_52, List.forall_mem_cons.mpr ⟨o193_53, List.forall_mem_cons.mpr ⟨o193_54, List.forall_mem_cons.mpr ⟨o193_56, List.forall_mem_cons.mpr ⟨o193_58, List.forall_mem_cons.mpr ⟨o193_59, List.forall_mem_cons.mpr ⟨o193_61, List.forall_mem_cons.mpr ⟨o193_63, List.forall_mem_cons.mpr ⟨o193_64, List.forall_mem_cons.mpr ⟨o193_66, List.forall_mem_cons.mpr ⟨o193_67, List.forall_mem_cons.mpr ⟨o193_69, List.forall_mem_cons.mpr ⟨o193_72, List.forall_mem_cons.mpr ⟨o193_74, List.forall_mem_cons.mpr ⟨o193_75, List.forall_mem_cons.mpr ⟨o193_78, List.forall_mem_cons.mpr ⟨o193_80, List.forall_mem_cons.mpr ⟨o193_82, List.forall_mem_cons.mpr ⟨o193_84, List.forall_mem_cons.mpr ⟨o193_87, List.forall_mem_cons.mpr ⟨o193_88, List.forall_mem_cons.mpr ⟨o193_90, List.forall_mem_cons.mpr ⟨o193_92, List.forall_mem_cons.mpr ⟨o193_95, fun _ h => absurd h List.not_mem_nil⟩⟩⟩⟩⟩⟩⟩⟩⟩⟩⟩⟩⟩⟩⟩⟩⟩⟩⟩⟩⟩⟩⟩⟩⟩⟩⟩⟩⟩⟩⟩⟩⟩⟩⟩⟩⟩⟩⟩⟩⟩⟩⟩⟩⟩⟩⟩⟩⟩⟩⟩⟩⟩⟩⟩
theorem o194_0 : OkE cX9_now RX9 "now" 13 4 false (0, .iload 1, 1, []) := (r_iload_n dX9_now_0 rfl).row
theorem o194_1 : OkE cX9_now RX9 "now" 13 4 false (1, .iconst 10, 3, []) := (r_bipush dX9_now_1 rfl).row
theorem o194_3 : OkE cX9_now RX9 "now" 13 4 false (3, .idiv, 4, []) := (r_idiv dX9_now_3).row
theorem o194_4 : OkE cX9_now RX9 "now" 13 4 false (4, .istore 6, 6, []) := (r_istore dX9_now_4).row
theorem o194_6 : OkE cX9_now RX9 "now" 13 4 false (6, .iload 1, 7, []) := (r_iload_n dX9_now_6 rfl).row
theorem o194_7 : OkE cX9_now RX9 "now" 13 4 false (7, .iconst 10, 9, []) := (r_bipush dX9_now_7 rfl).row
theorem o194_9 : OkE cX9_now RX9 "now" 13 4 false (9, .irem, 10, []) := (r_irem dX9_now_9).row
theorem o194_10 : OkE cX9_now RX9 "now" 13 4 false (10, .istore 7, 12, []) := (r_istore dX9_now_10).row
theorem o194_12 : OkE cX9_now RX9 "now" 13 4 false (12, .iload 3, 13, []) := (r_iload_n dX9_now_12 rfl).row
theorem o194_13 : OkE cX9_now RX9 "now" 13 4 false (13, .iconst 100, 15, []) := (r_bipush dX9_now_13 rfl).row
theorem o194_15 : OkE cX9_now RX9 "now" 13 4 false (15, .idiv, 16, []) := (r_idiv dX9_now_15).row
theorem o194_16 : OkE cX9_now RX9 "now" 13 4 false (16, .istore 8, 18, []) := (r_istore dX9_now_16).row
theorem o194_18 : OkE cX9_now RX9 "now" 13 4 false (18, .iload 3, 19, []) := (r_iload_n dX9_now_18 rfl).row
theorem o194_19 : OkE cX9_now RX9 "now" 13 4 false (19, .iconst 100, 21, []) := (r_bipush dX9_now_19 rfl).row
theorem o194_21 : OkE cX9_now RX9 "now" 13 4 false (21, .irem, 22, []) := (r_irem dX9_now_21).row
theorem o194_22 : OkE cX9_now RX9 "now" 13 4 false (22, .istore 9, 24, []) := (r_istore dX9_now_22).row
theorem o194_24 : OkE cX9_now RX9 "now" 13 4 false (24, .aload 0, 25, []) := (r_aload_n dX9_now_24 rfl).row
theorem o194_25 : OkE cX9_now RX9 "now" 13 4 false (25, .iload 6, 27, []) := (r_iload dX9_now_25).row
theorem o194_27 : OkE cX9_now RX9 "now" 13 4 false (27, .iload 7, 29, []) := (r_iload dX9_now_27).row
theorem o194_29 : OkE cX9_now RX9 "now" 13 4 false (29, .iload 2, 30, []) := (r_iload_n dX9_now_29 rfl).row
theorem o194_30 : OkE cX9_now RX9 "now" 13 4 false (30, .iload 8, 32, []) := (r_iload dX9_now_30).row
theorem o194_32 : OkE cX9_now RX9 "now" 13 4 false (32, .iload 9, 34, []) := (r_iload dX9_now_32).row
theorem o194_34 : OkE cX9_now RX9 "now" 13 4 false (34, .iload 4, 36, []) := (r_iload dX9_now_34).row
theorem o194_36 : OkE cX9_now RX9 "now" 13 4 false (36, .iload 5, 38, []) := (r_iload dX9_now_36).row
theorem o194_38 : OkE cX9_now RX9 "now" 13 4 false (38, .iconst 1, 39, []) := (r_iconst dX9_now_38 rfl).row
theorem o194_39 : OkE cX9_now RX9 "now" 13 4 false (39, .invokevirtual 192, 42, []) := ⟨rfl, c_V dX9_now_39 wd_1278 wd_1280 wd_50 wd_74 wd_1281 nmh_9⟩
theorem o194_42 : OkE cX9_now RX9 "now" 13 4 false (42, .istore 10, 44, []) := (r_istore dX9_now_42).row
theorem o194_44 : OkE cX9_now RX9 "now" 13 4 false (44, .iload 10, 46, []) := (r_iload dX9_now_44).row
theorem o194_46 : OkE cX9_now RX9 "now" 13 4 false (46, .ifCond .ge 52, 49, []) := (r_if_ge dX9_now_46 rfl).row
theorem o194_49 : OkE cX9_now RX9 "now" 13 4 false (49, .iload 10, 51, []) := (r_iload dX9_now_49).row
theorem o194_51 : OkE cX9_now RX9 "now" 13 4 false (51, .ireturn, 52, []) := dX9_now_51
theorem o194_52 : OkE cX9_now RX9 "now" 13 4 false (52, .aload 0, 53, []) := (r_aload_n dX9_now_52 rfl).row
theorem o194_53 : OkE cX9_now RX9 "now" 13 4 false (53, .iload 6, 55, []) := (r_iload dX9_now_53).row
theorem o194_55 : OkE cX9_now RX9 "now" 13 4 false (55, .iload 7, 57, []) := (r_iload dX9_now_55).row
theorem o194_57 : OkE cX9_now RX9 "now" 13 4 false (57, .iload 2, 58, []) := (r_iload_n dX9_now_57 rfl).row
theorem o194_58 : OkE cX9_now RX9 "now" 13 4 false (58, .iload 8, 60, []) := (r_iload dX9_now_58).row
theorem o194_60 : OkE cX9_now RX9 "now" 13 4 false (60, .iload 9, 62, []) := (r_iload dX9_now_60).row
theorem o194_62 : OkE cX9_now RX9 "now" 13 4 false (62, .iadd, 63, []) := (r_iadd dX9_now_62).row
theorem o194_63 : OkE cX9_now RX9 "now" 13 4 false (63, .iload 4, 65, []) := (r_iload dX9_now_63).row
theorem o194_65 : OkE cX9_now RX9 "now" 13 4 false (65, .iadd, 66, []) := (r_iadd dX9_now_65).row
theorem o194_66 : OkE cX9_now RX9 "now" 13 4 false (66, .iload 5, 68, []) := (r_iload dX9_now_66).row
theorem o194_68 : OkE cX9_now RX9 "now" 13 4 false (68, .iconst 1, 69, []) := (r_iconst dX9_now_68 rfl).row
theorem o194_69 : OkE cX9_now RX9 "now" 13 4 false (69, .isub, 70, []) := (r_isub dX9_now_69).row
theorem o194_70 : OkE cX9_now RX9 "now" 13 4 false (70, .invokevirtual 191, 73, []) := ⟨rfl, c_V dX9_now_70 wd_1283 wd_1285 wd_51 wd_74 wd_1286 nmh_9⟩
theorem o194_73 : OkE cX9_now RX9 "now" 13 4 false (73, .lstore 11, 75, []) := (r_lstore dX9_now_73).row
theorem o194_75 : OkE cX9_now RX9 "now" 13 4 false (75, .aload 0, 76, []) := (r_aload_n dX9_now_75 rfl).row
theorem o194_76 : OkE cX9_now RX9 "now" 13 4 false (76, .iload 6, 78, []) := (r_iload dX9_now_76).row
theorem o194_78 : OkE cX9_now RX9 "now" 13 4 false (78, .iload 7, 80, []) := (r_iload dX9_now_78).row
theorem o194_80 : OkE cX9_now RX9 "now" 13 4 false (80, .iload 2, 81, []) := (r_iload_n dX9_now_80 rfl).row
theorem o194_81 : OkE cX9_now RX9 "now" 13 4 false (81, .iload 8, 83, []) := (r_iload dX9_now_81).row
theorem o194_83 : OkE cX9_now RX9 "now" 13 4 false (83, .iload 9, 85, []) := (r_iload dX9_now_83).row
theorem o194_85 : OkE cX9_now RX9 "now" 13 4 false (85, .iload 4, 87, []) := (r_iload dX9_now_85).row
theorem o194_87 : OkE cX9_now RX9 "now" 13 4 false (87, .lload 11, 89, []) := (r_lload dX9_now_87).row
theorem o194_89 : OkE cX9_now RX9 "now" 13 4 false (89, .invokevirtual 190, 92, []) := ⟨rfl, c_V dX9_now_89 wd_1290 wd_1292 wd_52 wd_74 wd_1293 nmh_9⟩
theorem o194_92 : OkE cX9_now RX9 "now" 13 4 false (92, .pop2, 93, []) := (r_pop2 dX9_now_92).row
theorem o194_93 : OkE cX9_now RX9 "now" 13 4 false (93, .aload 0, 94, []) := (r_aload_n dX9_now_93 rfl).row
theorem o194_94 : OkE cX9_now RX9 "now" 13 4 false (94, .invokeinterface 9 14, 97, []) := (r_get (C := RX9) (T := TX9) (N := 45) (ci := 9) (j := 14) (ref := RX9) dX9_now_94 rfl inX9 (by decide) wd_1014 rfl).row
theorem o194_97 : OkE cX9_now RX9 "now" 13 4 false (97, .ireturn, 98, []) := dX9_now_97
theorem ok194 : ∀ x ∈ k194, OkE cX9_now RX9 "now" 13 4 false x := List.forall_mem_cons.mpr ⟨o194_0, List.forall_mem_cons.mpr ⟨o194_1, List.forall_mem_cons.mpr ⟨o194_3, List.forall_mem_cons.mpr ⟨o194_4, List.forall_mem_cons.mpr ⟨o194_6, List.forall_mem_cons.mpr ⟨o194_7, List.forall_mem_cons.mpr ⟨o194_9, List.forall_mem_cons.mpr ⟨o194_10, List.forall_mem_cons.mpr ⟨o194_12, List.forall_mem_cons.mpr ⟨o194_13, List.forall_mem_cons.mpr ⟨o194_15, List.forall_mem_cons.mpr ⟨o194_16, List.forall_mem_cons.mpr ⟨o194_18, List.forall_mem_cons.mpr ⟨o194_19, List.forall_mem_cons.mpr ⟨o194_21, List.forall_mem_cons.mpr ⟨o194_22, List.forall_mem_cons.mpr ⟨o194_24, List.forall_mem_cons.mpr ⟨o194_25, List.forall_mem_cons.mpr ⟨o194_27, List.forall_mem_cons.mpr ⟨o194_29, List.forall_mem_cons.mpr ⟨o194_30, List.forall_mem_cons.mpr ⟨o194_32, List.forall_mem_cons.mpr ⟨o194_34, List.forall_mem_cons.mpr ⟨o194_36, List.forall_mem_cons.mpr ⟨o194_38, List.forall_mem_cons.mpr ⟨o194_39, List.forall_mem_cons.mpr ⟨o194_42, List.forall_mem_cons.mpr ⟨o194_44, List.forall_mem_cons.mpr ⟨o194_46, List.forall_mem_cons.mpr ⟨o194_49, List.forall_mem_cons.mpr ⟨o194_51, List.forall_mem_cons.mpr ⟨o194_52, List.forall_mem_cons.mpr ⟨o194_53, List.forall_mem_cons.mpr ⟨o194_55, List.forall_mem_cons.mpr ⟨o194_57, List.forall_mem_cons.mpr ⟨o194_58, List.forall_mem_cons.mpr ⟨o194_60, List.forall_mem_cons.mpr ⟨o194_62, List.forall_mem_cons.mpr ⟨o194_63, List.forall_mem_cons.mpr ⟨o194_65, List.forall_mem_cons.mpr ⟨o194_66, List.forall_mem_cons.mpr ⟨o194_68, List.forall_mem_cons.mpr ⟨o194_69, List.forall_mem_cons.mpr ⟨o194_70, List.forall_mem_cons.mpr ⟨o194_73, List.forall_mem_cons.mpr ⟨o194_75, List.forall_mem_cons.mpr ⟨o194_76, List.forall_mem_cons.mpr ⟨o194_78, List.forall_mem_cons.mpr ⟨o194_80, List.forall_mem_cons.mpr ⟨o194_81, List.forall_mem_cons.mpr ⟨o194_83, List.forall_mem_cons.mpr ⟨o194_85, List.forall_mem_cons.mpr ⟨o194_87, List.forall_mem_cons.mpr ⟨o194_89, List.forall_mem_cons.mpr ⟨o194_92, List.forall_mem_cons.mpr ⟨o194_93, List.forall_mem_cons.mpr ⟨o194_94, List.forall_mem_cons.mpr ⟨o194_97, fun _ h => absurd h List.not_mem_nil⟩⟩⟩⟩⟩⟩⟩⟩⟩⟩⟩⟩⟩⟩⟩⟩⟩⟩⟩⟩⟩⟩⟩⟩⟩⟩⟩⟩⟩⟩⟩⟩⟩⟩⟩⟩⟩⟩⟩⟩⟩⟩⟩⟩⟩⟩⟩⟩⟩⟩⟩⟩⟩⟩⟩⟩⟩⟩
theorem o195_0 : OkE cX9_isHour RX9 "isHour" 1 1 false (0, .iload 0, 1, []) := (r_iload_n dX9_isHour_0 rfl).row
theorem o195_1 : OkE cX9_isHour RX9 "isHour" 1 1 false (1, .i2l, 2, []) := (r_i2l dX9_isHour_1).row
theorem o195_2 : OkE cX9_isHour RX9 "isHour" 1 1 false (2, .sipush 0, 3, []) := (r_lconst dX9_isHour_2 rfl).row
theorem o195_3 : OkE cX9_isHour RX9 "isHour" 1 1 false (3, .sipush 5, 6, []) := (r_ldc2 wd_1323 dX9_isHour_3 rfl).row
theorem o195_6 : OkE cX9_isHour RX9 "isHour" 1 1 false (6, .invokestatic 152, 9, []) := ⟨rfl, c_S dX9_isHour_6 wd_993 wd_994 wd_74 wd_995 nmh_9⟩
theorem o195_9 : OkE cX9_isHour RX9 "isHour" 1 1 false (9, .ireturn, 10, []) := dX9_isHour_9
theorem ok195 : ∀ x ∈ k195, OkE cX9_isHour RX9 "isHour" 1 1 false x := List.forall_mem_cons.mpr ⟨o195_0, List.forall_mem_cons.mpr ⟨o195_1, List.forall_mem_cons.mpr ⟨o195_2, List.forall_mem_cons.mpr ⟨o195_3, List.forall_mem_cons.mpr ⟨o195_6, List.forall_mem_cons.mpr ⟨o195_9, fun _ h => absurd h List.not_mem_nil⟩⟩⟩⟩⟩⟩
theorem o196_0 : OkE cX9_day RX9 "day" 3 2 false (0, .iload 1, 1, []) := (r_iload_n dX9_day_0 rfl).row
theorem o196_1 : OkE cX9_day RX9 "day" 3 2 false (1, .invokestatic 164, 4, []) := ⟨rfl, c_S dX9_day_1 wd_1179 wd_1180 wd_74 wd_1181 nmh_9⟩
theorem o196_4 : OkE cX9_day RX9 "day" 3 2 false (4, .ifCond .ne 9, 7, []) := (r_if_ne dX9_day_4 rfl).row
theorem o196_7 : OkE cX9_day RX9 "day" 3 2 false (7, .iconst (-1), 8, []) := (r_iconst dX9_day_7 rfl).row
theorem o196_8 : OkE cX9_day RX9 "day" 3 2 false (8, .ireturn, 9, []) := dX9_day_8
theorem o196_9 : OkE cX9_day RX9 "day" 3 2 false (9, .aload 0, 10, []) := (r_aload_n dX9_day_9 rfl).row
theorem o196_10 : OkE cX9_day RX9 "day" 3 2 false (10, .invokeinterface 9 15, 13, []) := (r_get (C := RX9) (T := TX9) (N := 45) (ci := 9) (j := 15) (ref := RX9) dX9_day_10 rfl inX9 (by decide) wd_1015 rfl).row
theorem o196_13 : OkE cX9_day RX9 "day" 3 2 false (13, .istore 2, 14, []) := (r_istore_n dX9_day_13 rfl).row
theorem o196_14 : OkE cX9_day RX9 "day" 3 2 false (14, .aload 0, 15, []) := (r_aload_n dX9_day_14 rfl).row
theorem o196_15 : OkE cX9_day RX9 "day" 3 2 false (15, .iload 1, 16, []) := (r_iload_n dX9_day_15 rfl).row
theorem o196_16 : OkE cX9_day RX9 "day" 3 2 false (16, .multianewarray 9 15, 19, []) := r_putI (C := RX9) (T := TX9) (N := 45) (ci := 9) (j := 15) (ref := RX9) dX9_day_16 rfl inX9 tyX9 tyX9_ok nmX9 (by decide) wd_1015 rfl rfl (tyX9_ok 15 (by decide)) rfl
theorem o196_19 : OkE cX9_day RX9 "day" 3 2 false (19, .iload 2, 20, []) := (r_iload_n dX9_day_19 rfl).row
theorem o196_20 : OkE cX9_day RX9 "day" 3 2 false (20, .ireturn, 21, []) := dX9_day_20
theorem ok196 : ∀ x ∈ k196, OkE cX9_day RX9 "day" 3 2 false x := List.forall_mem_cons.mpr ⟨o196_0, List.forall_mem_cons.mpr ⟨o196_1, List.forall_mem_cons.mpr ⟨o196_4, List.forall_mem_cons.mpr ⟨o196_7, List.forall_mem_cons.mpr ⟨o196_8, List.forall_mem_cons.mpr ⟨o196_9, List.forall_mem_cons.mpr ⟨o196_10, List.forall_mem_cons.mpr ⟨o196_13, List.forall_mem_cons.mpr ⟨o196_14, List.forall_mem_cons.mpr ⟨o196_15, List.forall_mem_cons.mpr ⟨o196_16, List.forall_mem_cons.mpr ⟨o196_19, List.forall_mem_cons.mpr ⟨o196_20, fun _ h => absurd h List.not_mem_nil⟩⟩⟩⟩⟩⟩⟩⟩⟩⟩⟩⟩⟩
theorem o197_0 : OkE cX9_gives RX9 "gives" 4 2 false (0, .aload 0, 1, []) := (r_aload_n dX9_gives_0 rfl).row
theorem o197_1 : OkE cX9_gives RX9 "gives" 4 2 false (1, .iload 1, 2, []) := (r_iload_n dX9_gives_1 rfl).row
theorem o197_2 : OkE cX9_gives RX9 "gives" 4 2 false (2, .invokevirtual 163, 5, []) := ⟨rfl, c_V dX9_gives_2 wd_1175 wd_1177 wd_41 wd_74 wd_1178 nmh_9⟩
theorem o197_5 : OkE cX9_gives RX9 "gives" 4 2 false (5, .ifCond .ne 10, 8, []) := (r_if_ne dX9_gives_5 rfl).row
theorem o197_8 : OkE cX9_gives RX9 "gives" 4 2 false (8, .iconst (-1), 9, []) := (r_iconst dX9_gives_8 rfl).row
theorem o197_9 : OkE cX9_gives RX9 "gives" 4 2 false (9, .ireturn, 10, []) := dX9_gives_9
theorem o197_10 : OkE cX9_gives RX9 "gives" 4 2 false (10, .iload 2, 11, []) := (r_iload_n dX9_gives_10 rfl).row
theorem o197_11 : OkE cX9_gives RX9 "gives" 4 2 false (11, .i2l, 12, []) := (r_i2l dX9_gives_11).row
theorem o197_12 : OkE cX9_gives RX9 "gives" 4 2 false (12, .sipush 0, 13, []) := (r_lconst dX9_gives_12 rfl).row
theorem o197_13 : OkE cX9_gives RX9 "gives" 4 2 false (13, .sipush 60, 16, []) := (r_ldc2 wd_1192 dX9_gives_13 rfl).row
theorem o197_16 : OkE cX9_gives RX9 "gives" 4 2 false (16, .invokestatic 152, 19, []) := ⟨rfl, c_S dX9_gives_16 wd_993 wd_994 wd_74 wd_995 nmh_9⟩
theorem o197_19 : OkE cX9_gives RX9 "gives" 4 2 false (19, .ifCond .ne 25, 22, []) := (r_if_ne dX9_gives_19 rfl).row
theorem o197_22 : OkE cX9_gives RX9 "gives" 4 2 false (22, .iconst (-2), 24, []) := (r_bipush dX9_gives_22 rfl).row
theorem o197_24 : OkE cX9_gives RX9 "gives" 4 2 false (24, .ireturn, 25, []) := dX9_gives_24
theorem o197_25 : OkE cX9_gives RX9 "gives" 4 2 false (25, .aload 0, 26, []) := (r_aload_n dX9_gives_25 rfl).row
theorem o197_26 : OkE cX9_gives RX9 "gives" 4 2 false (26, .invokeinterface 9 16, 29, []) := (r_get (C := RX9) (T := TX9) (N := 45) (ci := 9) (j := 16) (ref := RX9) dX9_gives_26 rfl inX9 (by decide) wd_1016 rfl).row
theorem o197_29 : OkE cX9_gives RX9 "gives" 4 2 false (29, .iload 1, 30, []) := (r_iload_n dX9_gives_29 rfl).row
theorem o197_30 : OkE cX9_gives RX9 "gives" 4 2 false (30, .iaload, 31, []) := (r_iald dX9_gives_30).row
theorem o197_31 : OkE cX9_gives RX9 "gives" 4 2 false (31, .istore 3, 32, []) := (r_istore_n dX9_gives_31 rfl).row
theorem o197_32 : OkE cX9_gives RX9 "gives" 4 2 false (32, .aload 0, 33, []) := (r_aload_n dX9_gives_32 rfl).row
theorem o197_33 : OkE cX9_gives RX9 "gives" 4 2 false (33, .invokeinterface 9 16, 36, []) := (r_get (C := RX9) (T := TX9) (N := 45) (ci := 9) (j := 16) (ref := RX9) dX9_gives_33 rfl inX9 (by decide) wd_1016 rfl).row
theorem o197_36 : OkE cX9_gives RX9 "gives" 4 2 false (36, .iload 1, 37, []) := (r_iload_n dX9_gives_36 rfl).row
theorem o197_37 : OkE cX9_gives RX9 "gives" 4 2 false (37, .iload 2, 38, []) := (r_iload_n dX9_gives_37 rfl).row
theorem o197_38 : OkE cX9_gives RX9 "gives" 4 2 false (38, .iastore, 39, []) := r_iast dX9_gives_38
theorem o197_39 : OkE cX9_gives RX9 "gives" 4 2 false (39, .iload 3, 40, []) := (r_iload_n dX9_gives_39 rfl).row
theorem o197_40 : OkE cX9_gives RX9 "gives" 4 2 false (40, .ireturn, 41, []) := dX9_gives_40
theorem ok197 : ∀ x ∈ k197, OkE cX9_gives RX9 "gives" 4 2 false x := List.forall_mem_cons.mpr ⟨o197_0, List.forall_mem_cons.mpr ⟨o197_1, List.forall_mem_cons.mpr ⟨o197_2, List.forall_mem_cons.mpr ⟨o197_5, List.forall_mem_cons.mpr ⟨o197_8, List.forall_mem_cons.mpr ⟨o197_9, List.forall_mem_cons.mpr ⟨o197_10, List.forall_mem_cons.mpr ⟨o197_11, List.forall_mem_cons.mpr ⟨o197_12, List.forall_mem_cons.mpr ⟨o197_13, List.forall_mem_cons.mpr ⟨o197_16, List.forall_mem_cons.mpr ⟨o197_19, List.forall_mem_cons.mpr ⟨o197_22, List.forall_mem_cons.mpr ⟨o197_24, List.forall_mem_cons.mpr ⟨o197_25, List.forall_mem_cons.mpr ⟨o197_26, List.forall_mem_cons.mpr ⟨o197_29, List.forall_mem_cons.mpr ⟨o197_30, List.forall_mem_cons.mpr ⟨o197_31, List.forall_mem_cons.mpr ⟨o197_32, List.forall_mem_cons.mpr ⟨o197_33, List.forall_mem_cons.mpr ⟨o197_36, List.forall_mem_cons.mpr ⟨o197_37, List.forall_mem_cons.mpr ⟨o197_38, List.forall_mem_cons.mpr ⟨o197_39, List.forall_mem_cons.mpr ⟨o197_40, fun _ h => absurd h List.not_mem_nil⟩⟩⟩⟩⟩⟩⟩⟩⟩⟩⟩⟩⟩⟩⟩⟩⟩⟩⟩⟩⟩⟩⟩⟩⟩⟩
theorem o198_0 : OkE cX9_more RX9 "more" 4 2 false (0, .aload 0, 1, []) := (r_aload_n dX9_more_0 rfl).row
theorem o198_1 : OkE cX9_more RX9 "more" 4 2 false (1, .iload 1, 2, []) := (r_iload_n dX9_more_1 rfl).row
theorem o198_2 : OkE cX9_more RX9 "more" 4 2 false (2, .invokevirtual 163, 5, []) := ⟨rfl, c_V dX9_more_2 wd_1175 wd_1177 wd_41 wd_74 wd_1178 nmh_9⟩
theorem o198_5 : OkE cX9_more RX9 "more" 4 2 false (5, .ifCond .ne 10, 8, []) := (r_if_ne dX9_more_5 rfl).row
theorem o198_8 : OkE cX9_more RX9 "more" 4 2 false (8, .iconst (-1), 9, []) := (r_iconst dX9_more_8 rfl).row
theorem o198_9 : OkE cX9_more RX9 "more" 4 2 false (9, .ireturn, 10, []) := dX9_more_9
theorem o198_10 : OkE cX9_more RX9 "more" 4 2 false (10, .iload 2, 11, []) := (r_iload_n dX9_more_10 rfl).row
theorem o198_11 : OkE cX9_more RX9 "more" 4 2 false (11, .i2l, 12, []) := (r_i2l dX9_more_11).row
theorem o198_12 : OkE cX9_more RX9 "more" 4 2 false (12, .sipush 0, 13, []) := (r_lconst dX9_more_12 rfl).row
theorem o198_13 : OkE cX9_more RX9 "more" 4 2 false (13, .sipush 63, 16, []) := (r_ldc2 wd_1318 dX9_more_13 rfl).row
theorem o198_16 : OkE cX9_more RX9 "more" 4 2 false (16, .invokestatic 152, 19, []) := ⟨rfl, c_S dX9_more_16 wd_993 wd_994 wd_74 wd_995 nmh_9⟩
theorem o198_19 : OkE cX9_more RX9 "more" 4 2 false (19, .ifCond .ne 25, 22, []) := (r_if_ne dX9_more_19 rfl).row
theorem o198_22 : OkE cX9_more RX9 "more" 4 2 false (22, .iconst (-2), 24, []) := (r_bipush dX9_more_22 rfl).row
theorem o198_24 : OkE cX9_more RX9 "more" 4 2 false (24, .ireturn, 25, []) := dX9_more_24
theorem o198_25 : OkE cX9_more RX9 "more" 4 2 false (25, .aload 0, 26, []) := (r_aload_n dX9_more_25 rfl).row
theorem o198_26 : OkE cX9_more RX9 "more" 4 2 false (26, .invokeinterface 9 17, 29, []) := (r_get (C := RX9) (T := TX9) (N := 45) (ci := 9) (j := 17) (ref := RX9) dX9_more_26 rfl inX9 (by decide) wd_1017 rfl).row
theorem o198_29 : OkE cX9_more RX9 "more" 4 2 false (29, .iload 1, 30, []) := (r_iload_n dX9_more_29 rfl).row
theorem o198_30 : OkE cX9_more RX9 "more" 4 2 false (30, .iaload, 31, []) := (r_iald dX9_more_30).row
theorem o198_31 : OkE cX9_more RX9 "more" 4 2 false (31, .istore 3, 32, []) := (r_istore_n dX9_more_31 rfl).row
theorem o198_32 : OkE cX9_more RX9 "more" 4 2 false (32, .aload 0, 33, []) := (r_aload_n dX9_more_32 rfl).row
theorem o198_33 : OkE cX9_more RX9 "more" 4 2 false (33, .invokeinterface 9 17, 36, []) := (r_get (C := RX9) (T := TX9) (N := 45) (ci := 9) (j := 17) (ref := RX9) dX9_more_33 rfl inX9 (by decide) wd_1017 rfl).row
theorem o198_36 : OkE cX9_more RX9 "more" 4 2 false (36, .iload 1, 37, []) := (r_iload_n dX9_more_36 rfl).row
theorem o198_37 : OkE cX9_more RX9 "more" 4 2 false (37, .iload 2, 38, []) := (r_iload_n dX9_more_37 rfl).row
theorem o198_38 : OkE cX9_more RX9 "more" 4 2 false (38, .iastore, 39, []) := r_iast dX9_more_38
theorem o198_39 : OkE cX9_more RX9 "more" 4 2 false (39, .iload 3, 40, []) := (r_iload_n dX9_more_39 rfl).row
theorem o198_40 : OkE cX9_more RX9 "more" 4 2 false (40, .ireturn, 41, []) := dX9_more_40
theorem ok198 : ∀ x ∈ k198, OkE cX9_more RX9 "more" 4 2 false x := List.forall_mem_cons.mpr ⟨o198_0, List.forall_mem_cons.mpr ⟨o198_1, List.forall_mem_cons.mpr ⟨o198_2, List.forall_mem_cons.mpr ⟨o198_5, List.forall_mem_cons.mpr ⟨o198_8, List.forall_mem_cons.mpr ⟨o198_9, List.forall_mem_cons.mpr ⟨o198_10, List.forall_mem_cons.mpr ⟨o198_11, List.forall_mem_cons.mpr ⟨o198_12, List.forall_mem_cons.mpr ⟨o198_13, List.forall_mem_cons.mpr ⟨o198_16, List.forall_mem_cons.mpr ⟨o198_19, List.forall_mem_cons.mpr ⟨o198_22, List.forall_mem_cons.mpr ⟨o198_24, List.forall_mem_cons.mpr ⟨o198_25, List.forall_mem_cons.mpr ⟨o198_26, List.forall_mem_cons.mpr ⟨o198_29, List.forall_mem_cons.mpr ⟨o198_30, List.forall_mem_cons.mpr ⟨o198_31, List.forall_mem_cons.mpr ⟨o198_32, List.forall_mem_cons.mpr ⟨o198_33, List.forall_mem_cons.mpr ⟨o198_36, List.forall_mem_cons.mpr ⟨o198_37, List.forall_mem_cons.mpr ⟨o198_38, List.forall_mem_cons.mpr ⟨o198_39, List.forall_mem_cons.mpr ⟨o198_40, fun _ h => absurd h List.not_mem_nil⟩⟩⟩⟩⟩⟩⟩⟩⟩⟩⟩⟩⟩⟩⟩⟩⟩⟩⟩⟩⟩⟩⟩⟩⟩⟩
theorem o199_0 : OkE cX9_van RX9 "van" 5 1 false (0, .iload 1, 1, []) := (r_iload_n dX9_van_0 rfl).row
theorem o199_1 : OkE cX9_van RX9 "van" 5 1 false (1, .i2l, 2, []) := (r_i2l dX9_van_1).row
theorem o199_2 : OkE cX9_van RX9 "van" 5 1 false (2, .sipush 0, 3, []) := (r_lconst dX9_van_2 rfl).row
theorem o199_3 : OkE cX9_van RX9 "van" 5 1 false (3, .sipush 60, 6, []) := (r_ldc2 wd_1192 dX9_van_3 rfl).row
theorem o199_6 : OkE cX9_van RX9 "van" 5 1 false (6, .invokestatic 152, 9, []) := ⟨rfl, c_S dX9_van_6 wd_993 wd_994 wd_74 wd_995 nmh_9⟩
theorem o199_9 : OkE cX9_van RX9 "van" 5 1 false (9, .ifCond .eq 65, 12, []) := (r_if_eq dX9_van_9 rfl).row
theorem o199_12 : OkE cX9_van RX9 "van" 5 1 false (12, .iload 2, 13, []) := (r_iload_n dX9_van_12 rfl).row
theorem o199_13 : OkE cX9_van RX9 "van" 5 1 false (13, .i2l, 14, []) := (r_i2l dX9_van_13).row
theorem o199_14 : OkE cX9_van RX9 "van" 5 1 false (14, .sipush 0, 15, []) := (r_lconst dX9_van_14 rfl).row
theorem o199_15 : OkE cX9_van RX9 "van" 5 1 false (15, .sipush 2, 18, []) := (r_ldc2 wd_1182 dX9_van_15 rfl).row
theorem o199_18 : OkE cX9_van RX9 "van" 5 1 false (18, .invokestatic 152, 21, []) := ⟨rfl, c_S dX9_van_18 wd_993 wd_994 wd_74 wd_995 nmh_9⟩
theorem o199_21 : OkE cX9_van RX9 "van" 5 1 false (21, .ifCond .eq 65, 24, []) := (r_if_eq dX9_van_21 rfl).row
theorem o199_24 : OkE cX9_van RX9 "van" 5 1 false (24, .iload 2, 25, []) := (r_iload_n dX9_van_24 rfl).row
theorem o199_25 : OkE cX9_van RX9 "van" 5 1 false (25, .iconst 1, 26, []) := (r_iconst dX9_van_25 rfl).row
theorem o199_26 : OkE cX9_van RX9 "van" 5 1 false (26, .if_icmp .ne 44, 29, []) := (r_icmp_ne dX9_van_26 rfl).row
theorem o199_29 : OkE cX9_van RX9 "van" 5 1 false (29, .iload 3, 30, []) := (r_iload_n dX9_van_29 rfl).row
theorem o199_30 : OkE cX9_van RX9 "van" 5 1 false (30, .i2l, 31, []) := (r_i2l dX9_van_30).row
theorem o199_31 : OkE cX9_van RX9 "van" 5 1 false (31, .sipush 1, 32, []) := (r_lconst dX9_van_31 rfl).row
theorem o199_32 : OkE cX9_van RX9 "van" 5 1 false (32, .sipush 20, 35, []) := (r_ldc2 wd_1202 dX9_van_32 rfl).row
theorem o199_35 : OkE cX9_van RX9 "van" 5 1 false (35, .invokestatic 152, 38, []) := ⟨rfl, c_S dX9_van_35 wd_993 wd_994 wd_74 wd_995 nmh_9⟩
theorem o199_38 : OkE cX9_van RX9 "van" 5 1 false (38, .ifCond .eq 65, 41, []) := (r_if_eq dX9_van_38 rfl).row
theorem o199_41 : OkE cX9_van RX9 "van" 5 1 false (41, .goto 68, 44, []) := (r_goto dX9_van_41 rfl).row
theorem o199_44 : OkE cX9_van RX9 "van" 5 1 false (44, .iload 3, 45, []) := (r_iload_n dX9_van_44 rfl).row
theorem o199_45 : OkE cX9_van RX9 "van" 5 1 false (45, .i2l, 46, []) := (r_i2l dX9_van_45).row
theorem o199_46 : OkE cX9_van RX9 "van" 5 1 false (46, .sipush 0, 47, []) := (r_lconst dX9_van_46 rfl).row
theorem o199_47 : OkE cX9_van RX9 "van" 5 1 false (47, .iload 2, 48, []) := (r_iload_n dX9_van_47 rfl).row
theorem o199_48 : OkE cX9_van RX9 "van" 5 1 false (48, .iconst 2, 49, []) := (r_iconst dX9_van_48 rfl).row
theorem o199_49 : OkE cX9_van RX9 "van" 5 1 false (49, .if_icmp .ne 58, 52, []) := (r_icmp_ne dX9_van_49 rfl).row
theorem o199_52 : OkE cX9_van RX9 "van" 5 1 false (52, .sipush 5, 55, []) := (r_ldc2 wd_1323 dX9_van_52 rfl).row
theorem o199_55 : OkE cX9_van RX9 "van" 5 1 false (55, .goto 59, 58, []) := (r_goto dX9_van_55 rfl).row
theorem o199_58 : OkE cX9_van RX9 "van" 5 1 false (58, .sipush 0, 59, []) := (r_lconst dX9_van_58 rfl).row
theorem o199_59 : OkE cX9_van RX9 "van" 5 1 false (59, .invokestatic 152, 62, []) := ⟨rfl, c_S dX9_van_59 wd_993 wd_994 wd_74 wd_995 nmh_9⟩
theorem o199_62 : OkE cX9_van RX9 "van" 5 1 false (62, .ifCond .ne 68, 65, []) := (r_if_ne dX9_van_62 rfl).row
theorem o199_65 : OkE cX9_van RX9 "van" 5 1 false (65, .iconst (-2), 67, [0, 1, 2, 3]) := (r_bipush dX9_van_65 rfl).row
theorem o199_67 : OkE cX9_van RX9 "van" 5 1 false (67, .ireturn, 68, []) := dX9_van_67
theorem o199_68 : OkE cX9_van RX9 "van" 5 1 false (68, .aload 0, 69, []) := (r_aload_n dX9_van_68 rfl).row
theorem o199_69 : OkE cX9_van RX9 "van" 5 1 false (69, .invokeinterface 9 19, 72, []) := (r_get (C := RX9) (T := TX9) (N := 45) (ci := 9) (j := 19) (ref := RX9) dX9_van_69 rfl inX9 (by decide) wd_1019 rfl).row
theorem o199_72 : OkE cX9_van RX9 "van" 5 1 false (72, .istore 4, 74, []) := (r_istore dX9_van_72).row
theorem o199_74 : OkE cX9_van RX9 "van" 5 1 false (74, .aload 0, 75, []) := (r_aload_n dX9_van_74 rfl).row
theorem o199_75 : OkE cX9_van RX9 "van" 5 1 false (75, .iload 1, 76, []) := (r_iload_n dX9_van_75 rfl).row
theorem o199_76 : OkE cX9_van RX9 "van" 5 1 false (76, .multianewarray 9 19, 79, []) := r_putI (C := RX9) (T := TX9) (N := 45) (ci := 9) (j := 19) (ref := RX9) dX9_van_76 rfl inX9 tyX9 tyX9_ok nmX9 (by decide) wd_1019 rfl rfl (tyX9_ok 19 (by decide)) rfl
theorem o199_79 : OkE cX9_van RX9 "van" 5 1 false (79, .aload 0, 80, []) := (r_aload_n dX9_van_79 rfl).row
theorem o199_80 : OkE cX9_van RX9 "van" 5 1 false (80, .iload 2, 81, []) := (r_iload_n dX9_van_80 rfl).row
theorem o199_81 : OkE cX9_van RX9 "van" 5 1 false (81, .multianewarray 9 20, 84, []) := r_putI (C := RX9) (T := TX9) (N := 45) (ci := 9) (j := 20) (ref := RX9) dX9_van_81 rfl inX9 tyX9 tyX9_ok nmX9 (by decide) wd_1020 rfl rfl (tyX9_ok 20 (by decide)) rfl
theorem o199_84 : OkE cX9_van RX9 "van" 5 1 false (84, .aload 0, 85, []) := (r_aload_n dX9_van_84 rfl).row
theorem o199_85 : OkE cX9_van RX9 "van" 5 1 false (85, .iload 3, 86, []) := (r_iload_n dX9_van_85 rfl).row
theorem o199_86 : OkE cX9_van RX9 "van" 5 1 false (86, .multianewarray 9 21, 89, []) := r_putI (C := RX9) (T := TX9) (N := 45) (ci := 9) (j := 21) (ref := RX9) dX9_van_86 rfl inX9 tyX9 tyX9_ok nmX9 (by decide) wd_1021 rfl rfl (tyX9_ok 21 (by decide)) rfl
theorem o199_89 : OkE cX9_van RX9 "van" 5 1 false (89, .iload 4, 91, []) := (r_iload dX9_van_89).row
theorem o199_91 : OkE cX9_van RX9 "van" 5 1 false (91, .ireturn, 92, []) := dX9_van_91
theorem ok199 : ∀ x ∈ k199, OkE cX9_van RX9 "van" 5 1 false x := List.forall_mem_cons.mpr ⟨o199_0, List.forall_mem_cons.mpr ⟨o199_1, List.forall_mem_cons.mpr ⟨o199_2, List.forall_mem_cons.mpr ⟨o199_3, List.forall_mem_cons.mpr ⟨o199_6, List.forall_mem_cons.mpr ⟨o199_9, List.forall_mem_cons.mpr ⟨o199_12, List.forall_mem_cons.mpr ⟨o199_13, List.forall_mem_cons.mpr ⟨o199_14, List.forall_mem_cons.mpr ⟨o199_15, List.forall_mem_cons.mpr ⟨o199_18, List.forall_mem_cons.mpr ⟨o199_21, List.forall_mem_cons.mpr ⟨o199_24, List.forall_mem_cons.mpr ⟨o199_25, List.forall_mem_cons.mpr ⟨o199_26, List.forall_mem_cons.mpr ⟨o199_29, List.forall_mem_cons.mpr ⟨o199_30, List.forall_mem_cons.mpr ⟨o199_31, List.forall_mem_cons.mpr ⟨o199_32, List.forall_mem_cons.mpr ⟨o199_35, List.forall_mem_cons.mpr ⟨o199_38, List.forall_mem_cons.mpr ⟨o199_41, List.forall_mem_cons.mpr ⟨o199_44, List.forall_mem_cons.mpr ⟨o199_45, List.forall_mem_cons.mpr ⟨o199_46, List.forall_mem_cons.mpr ⟨o199_47, List.forall_mem_cons.mpr ⟨o199_48, List.forall_mem_cons.mpr ⟨o199_49, List.forall_mem_cons.mpr ⟨o199_52, List.forall_mem_cons.mpr ⟨o199_55, List.forall_mem_cons.mpr ⟨o199_58, List.forall_mem_cons.mpr ⟨o199_59, List.forall_mem_cons.mpr ⟨o199_62, List.forall_mem_cons.mpr ⟨o199_65, List.forall_mem_cons.mpr ⟨o199_67, List.forall_mem_cons.mpr ⟨o199_68, List.forall_mem_cons.mpr ⟨o199_69, List.forall_mem_cons.mpr ⟨o199_72, List.forall_mem_cons.mpr ⟨o199_74, List.forall_mem_cons.mpr ⟨o199_75, List.forall_mem_cons.mpr ⟨o199_76, List.forall_mem_cons.mpr ⟨o199_79, List.forall_mem_cons.mpr ⟨o199_80, List.forall_mem_cons.mpr ⟨o199_81, List.forall_mem_cons.mpr ⟨o199_84, List.forall_mem_cons.mpr ⟨o199_85, List.forall_mem_cons.mpr ⟨o199_86, List.forall_mem_cons.mpr ⟨o199_89, List.forall_mem_cons.mpr ⟨o199_91, fun _ h => absurd h List.not_mem_nil⟩⟩⟩⟩⟩⟩⟩⟩⟩⟩⟩⟩⟩⟩⟩⟩⟩⟩⟩⟩⟩⟩⟩⟩⟩⟩⟩⟩⟩⟩⟩⟩⟩⟩⟩⟩⟩⟩⟩⟩⟩⟩⟩⟩⟩⟩⟩⟩⟩
theorem o200_0 : OkE cX9_order RX9 "order" 4 2 false (0, .iload 1, 1, []) := (r_iload_n dX9_order_0 rfl).row
theorem o200_1 : OkE cX9_order RX9 "order" 4 2 false (1, .invokestatic 195, 4, []) := ⟨rfl, c_S dX9_order_1 wd_1328 wd_1329 wd_74 wd_1330 nmh_9⟩
theorem o200_4 : OkE cX9_order RX9 "order" 4 2 false (4, .ifCond .eq 15, 7, []) := (r_if_eq dX9_order_4 rfl).row
theorem o200_7 : OkE cX9_order RX9 "order" 4 2 false (7, .aload 0, 8, []) := (r_aload_n dX9_order_7 rfl).row
theorem o200_8 : OkE cX9_order RX9 "order" 4 2 false (8, .iload 2, 9, []) := (r_iload_n dX9_order_8 rfl).row
theorem o200_9 : OkE cX9_order RX9 "order" 4 2 false (9, .invokevirtual 163, 12, []) := ⟨rfl, c_V dX9_order_9 wd_1175 wd_1177 wd_41 wd_74 wd_1178 nmh_9⟩
theorem o200_12 : OkE cX9_order RX9 "order" 4 2 false (12, .ifCond .ne 17, 15, []) := (r_if_ne dX9_order_12 rfl).row
theorem o200_15 : OkE cX9_order RX9 "order" 4 2 false (15, .iconst (-1), 16, [0, 1, 2, 3]) := (r_iconst dX9_order_15 rfl).row
theorem o200_16 : OkE cX9_order RX9 "order" 4 2 false (16, .ireturn, 17, []) := dX9_order_16
theorem o200_17 : OkE cX9_order RX9 "order" 4 2 false (17, .iload 3, 18, []) := (r_iload_n dX9_order_17 rfl).row
theorem o200_18 : OkE cX9_order RX9 "order" 4 2 false (18, .i2l, 19, []) := (r_i2l dX9_order_18).row
theorem o200_19 : OkE cX9_order RX9 "order" 4 2 false (19, .sipush 1, 20, []) := (r_lconst dX9_order_19 rfl).row
theorem o200_20 : OkE cX9_order RX9 "order" 4 2 false (20, .sipush 20, 23, []) := (r_ldc2 wd_1202 dX9_order_20 rfl).row
theorem o200_23 : OkE cX9_order RX9 "order" 4 2 false (23, .invokestatic 152, 26, []) := ⟨rfl, c_S dX9_order_23 wd_993 wd_994 wd_74 wd_995 nmh_9⟩
theorem o200_26 : OkE cX9_order RX9 "order" 4 2 false (26, .ifCond .ne 32, 29, []) := (r_if_ne dX9_order_26 rfl).row
theorem o200_29 : OkE cX9_order RX9 "order" 4 2 false (29, .iconst (-2), 31, []) := (r_bipush dX9_order_29 rfl).row
theorem o200_31 : OkE cX9_order RX9 "order" 4 2 false (31, .ireturn, 32, []) := dX9_order_31
theorem o200_32 : OkE cX9_order RX9 "order" 4 2 false (32, .aload 0, 33, []) := (r_aload_n dX9_order_32 rfl).row
theorem o200_33 : OkE cX9_order RX9 "order" 4 2 false (33, .invokeinterface 9 22, 36, []) := (r_get (C := RX9) (T := TX9) (N := 45) (ci := 9) (j := 22) (ref := RX9) dX9_order_33 rfl inX9 (by decide) wd_1022 rfl).row
theorem o200_36 : OkE cX9_order RX9 "order" 4 2 false (36, .iconst 6, 38, []) := (r_bipush dX9_order_36 rfl).row
theorem o200_38 : OkE cX9_order RX9 "order" 4 2 false (38, .if_icmp .ne 44, 41, []) := (r_icmp_ne dX9_order_38 rfl).row
theorem o200_41 : OkE cX9_order RX9 "order" 4 2 false (41, .iconst (-4), 43, []) := (r_bipush dX9_order_41 rfl).row
theorem o200_43 : OkE cX9_order RX9 "order" 4 2 false (43, .ireturn, 44, []) := dX9_order_43
theorem o200_44 : OkE cX9_order RX9 "order" 4 2 false (44, .aload 0, 45, []) := (r_aload_n dX9_order_44 rfl).row
theorem o200_45 : OkE cX9_order RX9 "order" 4 2 false (45, .invokeinterface 9 23, 48, []) := (r_get (C := RX9) (T := TX9) (N := 45) (ci := 9) (j := 23) (ref := RX9) dX9_order_45 rfl inX9 (by decide) wd_1023 rfl).row
theorem o200_48 : OkE cX9_order RX9 "order" 4 2 false (48, .aload 0, 49, []) := (r_aload_n dX9_order_48 rfl).row
theorem o200_49 : OkE cX9_order RX9 "order" 4 2 false (49, .invokeinterface 9 22, 52, []) := (r_get (C := RX9) (T := TX9) (N := 45) (ci := 9) (j := 22) (ref := RX9) dX9_order_49 rfl inX9 (by decide) wd_1022 rfl).row
theorem o200_52 : OkE cX9_order RX9 "order" 4 2 false (52, .iload 1, 53, []) := (r_iload_n dX9_order_52 rfl).row
theorem o200_53 : OkE cX9_order RX9 "order" 4 2 false (53, .iastore, 54, []) := r_iast dX9_order_53
theorem o200_54 : OkE cX9_order RX9 "order" 4 2 false (54, .aload 0, 55, []) := (r_aload_n dX9_order_54 rfl).row
theorem o200_55 : OkE cX9_order RX9 "order" 4 2 false (55, .invokeinterface 9 24, 58, []) := (r_get (C := RX9) (T := TX9) (N := 45) (ci := 9) (j := 24) (ref := RX9) dX9_order_55 rfl inX9 (by decide) wd_1024 rfl).row
theorem o200_58 : OkE cX9_order RX9 "order" 4 2 false (58, .aload 0, 59, []) := (r_aload_n dX9_order_58 rfl).row
theorem o200_59 : OkE cX9_order RX9 "order" 4 2 false (59, .invokeinterface 9 22, 62, []) := (r_get (C := RX9) (T := TX9) (N := 45) (ci := 9) (j := 22) (ref := RX9) dX9_order_59 rfl inX9 (by decide) wd_1022 rfl).row
theorem o200_62 : OkE cX9_order RX9 "order" 4 2 false (62, .iload 2, 63, []) := (r_iload_n dX9_order_62 rfl).row
theorem o200_63 : OkE cX9_order RX9 "order" 4 2 false (63, .iastore, 64, []) := r_iast dX9_order_63
theorem o200_64 : OkE cX9_order RX9 "order" 4 2 false (64, .aload 0, 65, []) := (r_aload_n dX9_order_64 rfl).row
theorem o200_65 : OkE cX9_order RX9 "order" 4 2 false (65, .invokeinterface 9 25, 68, []) := (r_get (C := RX9) (T := TX9) (N := 45) (ci := 9) (j := 25) (ref := RX9) dX9_order_65 rfl inX9 (by decide) wd_1025 rfl).row
theorem o200_68 : OkE cX9_order RX9 "order" 4 2 false (68, .aload 0, 69, []) := (r_aload_n dX9_order_68 rfl).row
theorem o200_69 : OkE cX9_order RX9 "order" 4 2 false (69, .invokeinterface 9 22, 72, []) := (r_get (C := RX9) (T := TX9) (N := 45) (ci := 9) (j := 22) (ref := RX9) dX9_order_69 rfl inX9 (by decide) wd_1022 rfl).row
theorem o200_72 : OkE cX9_order RX9 "order" 4 2 false (72, .iload 3, 73, []) := (r_iload_n dX9_order_72 rfl).row
theorem o200_73 : OkE cX9_order RX9 "order" 4 2 false (73, .iastore, 74, []) := r_iast dX9_order_73
theorem o200_74 : OkE cX9_order RX9 "order" 4 2 false (74, .aload 0, 75, []) := (r_aload_n dX9_order_74 rfl).row
theorem o200_75 : OkE cX9_order RX9 "order" 4 2 false (75, .dup, 76, []) := (r_dup dX9_order_75).row
theorem o200_76 : OkE cX9_order RX9 "order" 4 2 false (76, .invokeinterface 9 22, 79, []) := (r_get (C := RX9) (T := TX9) (N := 45) (ci := 9) (j := 22) (ref := RX9) dX9_order_76 rfl inX9 (by decide) wd_1022 rfl).row
theorem o200_79 : OkE cX9_order RX9 "order" 4 2 false (79, .iconst 1, 80, []) := (r_iconst dX9_order_79 rfl).row
theorem o200_80 : OkE cX9_order RX9 "order" 4 2 false (80, .iadd, 81, []) := (r_iadd dX9_order_80).row
theorem o200_81 : OkE cX9_order RX9 "order" 4 2 false (81, .multianewarray 9 22, 84, []) := r_putI (C := RX9) (T := TX9) (N := 45) (ci := 9) (j := 22) (ref := RX9) dX9_order_81 rfl inX9 tyX9 tyX9_ok nmX9 (by decide) wd_1022 rfl rfl (tyX9_ok 22 (by decide)) rfl
theorem o200_84 : OkE cX9_order RX9 "order" 4 2 false (84, .aload 0, 85, []) := (r_aload_n dX9_order_84 rfl).row
theorem o200_85 : OkE cX9_order RX9 "order" 4 2 false (85, .invokeinterface 9 22, 88, []) := (r_get (C := RX9) (T := TX9) (N := 45) (ci := 9) (j := 22) (ref := RX9) dX9_order_85 rfl inX9 (by decide) wd_1022 rfl).row
theorem o200_88 : OkE cX9_order RX9 "order" 4 2 false (88, .iconst 1, 89, []) := (r_iconst dX9_order_88 rfl).row
theorem o200_89 : OkE cX9_order RX9 "order" 4 2 false (89, .isub, 90, []) := (r_isub dX9_order_89).row
theorem o200_90 : OkE cX9_order RX9 "order" 4 2 false (90, .ireturn, 91, []) := dX9_order_90
theorem ok200 : ∀ x ∈ k200, OkE cX9_order RX9 "order" 4 2 false x := List.forall_mem_cons.mpr ⟨o200_0, List.forall_mem_cons.mpr ⟨o200_1, List.forall_mem_cons.mpr ⟨o200_4, List.forall_mem_cons.mpr ⟨o200_7, List.forall_mem_cons.mpr ⟨o200_8, List.forall_mem_cons.mpr ⟨o200_9, List.forall_mem_cons.mpr ⟨o200_12, List.forall_mem_cons.mpr ⟨o200_15, List.forall_mem_cons.mpr ⟨o200_16, List.forall_mem_cons.mpr ⟨o200_17, List.forall_mem_cons.mpr ⟨o200_18, List.forall_mem_cons.mpr ⟨o200_19, List.forall_mem_cons.mpr ⟨o200_20, List.forall_mem_cons.mpr ⟨o200_23, List.forall_mem_cons.mpr ⟨o200_26, List.forall_mem_cons.mpr ⟨o200_29, List.forall_mem_cons.mpr ⟨o200_31, List.forall_mem_cons.mpr ⟨o200_32, List.forall_mem_cons.mpr ⟨o200_33, List.forall_mem_cons.mpr ⟨o200_36, List.forall_mem_cons.mpr ⟨o200_38, List.forall_mem_cons.mpr ⟨o200_41, List.forall_mem_cons.mpr ⟨o200_43, List.forall_mem_cons.mpr ⟨o200_44, List.forall_mem_cons.mpr ⟨o200_45, List.forall_mem_cons.mpr ⟨o200_48, List.forall_mem_cons.mpr ⟨o200_49, List.forall_mem_cons.mpr ⟨o200_52, List.forall_mem_cons.mpr ⟨o200_53, List.forall_mem_cons.mpr ⟨o200_54, List.forall_mem_cons.mpr ⟨o200_55, List.forall_mem_cons.mpr ⟨o200_58, List.forall_mem_cons.mpr ⟨o200_59, List.forall_mem_cons.mpr ⟨o200_62, List.forall_mem_cons.mpr ⟨o200_63, List.forall_mem_cons.mpr ⟨o200_64, List.forall_mem_cons.mpr ⟨o200_65, List.forall_mem_cons.mpr ⟨o200_68, List.forall_mem_cons.mpr ⟨o200_69, List.forall_mem_cons.mpr ⟨o200_72, List.forall_mem_cons.mpr ⟨o200_73, List.forall_mem_cons.mpr ⟨o200_74, List.forall_mem_cons.mpr ⟨o200_75, List.forall_mem_cons.mpr ⟨o200_76, List.forall_mem_cons.mpr ⟨o200_79, List.forall_mem_cons.mpr ⟨o200_80, List.forall_mem_cons.mpr ⟨o200_81, List.forall_mem_cons.mpr ⟨o200_84, List.forall_mem_cons.mpr ⟨o200_85, List.forall_mem_cons.mpr ⟨o200_88, List.forall_mem_cons.mpr ⟨o200_89, List.forall_mem_cons.mpr ⟨o200_90, fun _ h => absurd h List.not_mem_nil⟩⟩⟩⟩⟩⟩⟩⟩⟩⟩⟩⟩⟩⟩⟩⟩⟩⟩⟩⟩⟩⟩⟩⟩⟩⟩⟩⟩⟩⟩⟩⟩⟩⟩⟩⟩⟩⟩⟩⟩⟩⟩⟩⟩⟩⟩⟩⟩⟩⟩⟩⟩
theorem o201_0 : OkE cX9_unorder RX9 "unorder" 2 0 false (0, .aload 0, 1, []) := (r_aload_n dX9_unorder_0 rfl).row
theorem o201_1 : OkE cX9_unorder RX9 "unorder" 2 0 false (1, .invokeinterface 9 22, 4, []) := (r_get (C := RX9) (T := TX9) (N := 45) (ci := 9) (j := 22) (ref := RX9) dX9_unorder_1 rfl inX9 (by decide) wd_1022 rfl).row
theorem o201_4 : OkE cX9_unorder RX9 "unorder" 2 0 false (4, .istore 1, 5, []) := (r_istore_n dX9_unorder_4 rfl).row
theorem o201_5 : OkE cX9_unorder RX9 "unorder" 2 0 false (5, .aload 0, 6, []) := (r_aload_n dX9_unorder_5 rfl).row
theorem o201_6 : OkE cX9_unorder RX9 "unorder" 2 0 false (6, .iconst 0, 7, []) := (r_iconst dX9_unorder_6 rfl).row
theorem o201_7 : OkE cX9_unorder RX9 "unorder" 2 0 false (7, .multianewarray 9 22, 10, []) := r_putI (C := RX9) (T := TX9) (N := 45) (ci := 9) (j := 22) (ref := RX9) dX9_unorder_7 rfl inX9 tyX9 tyX9_ok nmX9 (by decide) wd_1022 rfl rfl (tyX9_ok 22 (by decide)) rfl
theorem o201_10 : OkE cX9_unorder RX9 "unorder" 2 0 false (10, .iload 1, 11, []) := (r_iload_n dX9_unorder_10 rfl).row
theorem o201_11 : OkE cX9_unorder RX9 "unorder" 2 0 false (11, .ireturn, 12, []) := dX9_unorder_11
theorem ok201 : ∀ x ∈ k201, OkE cX9_unorder RX9 "unorder" 2 0 false x := List.forall_mem_cons.mpr ⟨o201_0, List.forall_mem_cons.mpr ⟨o201_1, List.forall_mem_cons.mpr ⟨o201_4, List.forall_mem_cons.mpr ⟨o201_5, List.forall_mem_cons.mpr ⟨o201_6, List.forall_mem_cons.mpr ⟨o201_7, List.forall_mem_cons.mpr ⟨o201_10, List.forall_mem_cons.mpr ⟨o201_11, fun _ h => absurd h List.not_mem_nil⟩⟩⟩⟩⟩⟩⟩⟩
theorem o202_0 : OkE cX9_hand RX9 "hand" 4 1 false (0, .iload 2, 1, []) := (r_iload_n dX9_hand_0 rfl).row
theorem o202_1 : OkE cX9_hand RX9 "hand" 4 1 false (1, .aload 0, 2, []) := (r_aload_n dX9_hand_1 rfl).row
theorem o202_2 : OkE cX9_hand RX9 "hand" 4 1 false (2, .invokeinterface 9 33, 5, []) := (r_get (C := RX9) (T := TX9) (N := 45) (ci := 9) (j := 33) (ref := RX9) dX9_hand_2 rfl inX9 (by decide) wd_1033 rfl).row
theorem o202_5 : OkE cX9_hand RX9 "hand" 4 1 false (5, .invokestatic 188, 8, []) := ⟨rfl, c_S dX9_hand_5 wd_1298 wd_1299 wd_74 wd_1300 nmh_9⟩
theorem o202_8 : OkE cX9_hand RX9 "hand" 4 1 false (8, .istore 3, 9, []) := (r_istore_n dX9_hand_8 rfl).row
theorem o202_9 : OkE cX9_hand RX9 "hand" 4 1 false (9, .aload 0, 10, []) := (r_aload_n dX9_hand_9 rfl).row
theorem o202_10 : OkE cX9_hand RX9 "hand" 4 1 false (10, .invokeinterface 9 30, 13, []) := (r_get (C := RX9) (T := TX9) (N := 45) (ci := 9) (j := 30) (ref := RX9) dX9_hand_10 rfl inX9 (by decide) wd_1030 rfl).row
theorem o202_13 : OkE cX9_hand RX9 "hand" 4 1 false (13, .iload 1, 14, []) := (r_iload_n dX9_hand_13 rfl).row
theorem o202_14 : OkE cX9_hand RX9 "hand" 4 1 false (14, .dup2, 15, []) := (r_dup2 dX9_hand_14).row
theorem o202_15 : OkE cX9_hand RX9 "hand" 4 1 false (15, .iaload, 16, []) := (r_iald dX9_hand_15).row
theorem o202_16 : OkE cX9_hand RX9 "hand" 4 1 false (16, .iload 3, 17, []) := (r_iload_n dX9_hand_16 rfl).row
theorem o202_17 : OkE cX9_hand RX9 "hand" 4 1 false (17, .iadd, 18, []) := (r_iadd dX9_hand_17).row
theorem o202_18 : OkE cX9_hand RX9 "hand" 4 1 false (18, .iastore, 19, []) := r_iast dX9_hand_18
theorem o202_19 : OkE cX9_hand RX9 "hand" 4 1 false (19, .aload 0, 20, []) := (r_aload_n dX9_hand_19 rfl).row
theorem o202_20 : OkE cX9_hand RX9 "hand" 4 1 false (20, .dup, 21, []) := (r_dup dX9_hand_20).row
theorem o202_21 : OkE cX9_hand RX9 "hand" 4 1 false (21, .invokeinterface 9 33, 24, []) := (r_get (C := RX9) (T := TX9) (N := 45) (ci := 9) (j := 33) (ref := RX9) dX9_hand_21 rfl inX9 (by decide) wd_1033 rfl).row
theorem o202_24 : OkE cX9_hand RX9 "hand" 4 1 false (24, .iload 3, 25, []) := (r_iload_n dX9_hand_24 rfl).row
theorem o202_25 : OkE cX9_hand RX9 "hand" 4 1 false (25, .isub, 26, []) := (r_isub dX9_hand_25).row
theorem o202_26 : OkE cX9_hand RX9 "hand" 4 1 false (26, .multianewarray 9 33, 29, []) := r_putI (C := RX9) (T := TX9) (N := 45) (ci := 9) (j := 33) (ref := RX9) dX9_hand_26 rfl inX9 tyX9 tyX9_ok nmX9 (by decide) wd_1033 rfl rfl (tyX9_ok 33 (by decide)) rfl
theorem o202_29 : OkE cX9_hand RX9 "hand" 4 1 false (29, .return_, 30, []) := dX9_hand_29
theorem ok202 : ∀ x ∈ k202, OkE cX9_hand RX9 "hand" 4 1 false x := List.forall_mem_cons.mpr ⟨o202_0, List.forall_mem_cons.mpr ⟨o202_1, List.forall_mem_cons.mpr ⟨o202_2, List.forall_mem_cons.mpr ⟨o202_5, List.forall_mem_cons.mpr ⟨o202_8, List.forall_mem_cons.mpr ⟨o202_9, List.forall_mem_cons.mpr ⟨o202_10, List.forall_mem_cons.mpr ⟨o202_13, List.forall_mem_cons.mpr ⟨o202_14, List.forall_mem_cons.mpr ⟨o202_15, List.forall_mem_cons.mpr ⟨o202_16, List.forall_mem_cons.mpr ⟨o202_17, List.forall_mem_cons.mpr ⟨o202_18, List.forall_mem_cons.mpr ⟨o202_19, List.forall_mem_cons.mpr ⟨o202_20, List.forall_mem_cons.mpr ⟨o202_21, List.forall_mem_cons.mpr ⟨o202_24, List.forall_mem_cons.mpr ⟨o202_25, List.forall_mem_cons.mpr ⟨o202_26, List.forall_mem_cons.mpr ⟨o202_29, fun _ h => absurd h List.not_mem_nil⟩⟩⟩⟩⟩⟩⟩⟩⟩⟩⟩⟩⟩⟩⟩⟩⟩⟩⟩⟩
theorem o203_0 : OkE cX9_vanGives RX9 "vanGives" 3 2 false (0, .iconst 0, 1, []) := (r_iconst dX9_vanGives_0 rfl).row
theorem o203_1 : OkE cX9_vanGives RX9 "vanGives" 3 2 false (1, .istore 2, 2, []) := (r_istore_n dX9_vanGives_1 rfl).row
theorem o203_2 : OkE cX9_vanGives RX9 "vanGives" 3 2 false (2, .iload 2, 3, []) := (r_iload_n dX9_vanGives_2 rfl).row
theorem o203_3 : OkE cX9_vanGives RX9 "vanGives" 3 2 false (3, .aload 0, 4, []) := (r_aload_n dX9_vanGives_3 rfl).row
theorem o203_4 : OkE cX9_vanGives RX9 "vanGives" 3 2 false (4, .invokeinterface 9 22, 7, []) := (r_get (C := RX9) (T := TX9) (N := 45) (ci := 9) (j := 22) (ref := RX9) dX9_vanGives_4 rfl inX9 (by decide) wd_1022 rfl).row
theorem o203_7 : OkE cX9_vanGives RX9 "vanGives" 3 2 false (7, .if_icmp .ge 42, 10, []) := (r_icmp_ge dX9_vanGives_7 rfl).row
theorem o203_10 : OkE cX9_vanGives RX9 "vanGives" 3 2 false (10, .aload 0, 11, []) := (r_aload_n dX9_vanGives_10 rfl).row
theorem o203_11 : OkE cX9_vanGives RX9 "vanGives" 3 2 false (11, .invokeinterface 9 23, 14, []) := (r_get (C := RX9) (T := TX9) (N := 45) (ci := 9) (j := 23) (ref := RX9) dX9_vanGives_11 rfl inX9 (by decide) wd_1023 rfl).row
theorem o203_14 : OkE cX9_vanGives RX9 "vanGives" 3 2 false (14, .iload 2, 15, []) := (r_iload_n dX9_vanGives_14 rfl).row
theorem o203_15 : OkE cX9_vanGives RX9 "vanGives" 3 2 false (15, .iaload, 16, []) := (r_iald dX9_vanGives_15).row
theorem o203_16 : OkE cX9_vanGives RX9 "vanGives" 3 2 false (16, .iload 1, 17, []) := (r_iload_n dX9_vanGives_16 rfl).row
theorem o203_17 : OkE cX9_vanGives RX9 "vanGives" 3 2 false (17, .if_icmp .ne 36, 20, []) := (r_icmp_ne dX9_vanGives_17 rfl).row
theorem o203_20 : OkE cX9_vanGives RX9 "vanGives" 3 2 false (20, .aload 0, 21, []) := (r_aload_n dX9_vanGives_20 rfl).row
theorem o203_21 : OkE cX9_vanGives RX9 "vanGives" 3 2 false (21, .aload 0, 22, []) := (r_aload_n dX9_vanGives_21 rfl).row
theorem o203_22 : OkE cX9_vanGives RX9 "vanGives" 3 2 false (22, .invokeinterface 9 24, 25, []) := (r_get (C := RX9) (T := TX9) (N := 45) (ci := 9) (j := 24) (ref := RX9) dX9_vanGives_22 rfl inX9 (by decide) wd_1024 rfl).row
theorem o203_25 : OkE cX9_vanGives RX9 "vanGives" 3 2 false (25, .iload 2, 26, []) := (r_iload_n dX9_vanGives_25 rfl).row
theorem o203_26 : OkE cX9_vanGives RX9 "vanGives" 3 2 false (26, .iaload, 27, []) := (r_iald dX9_vanGives_26).row
theorem o203_27 : OkE cX9_vanGives RX9 "vanGives" 3 2 false (27, .aload 0, 28, []) := (r_aload_n dX9_vanGives_27 rfl).row
theorem o203_28 : OkE cX9_vanGives RX9 "vanGives" 3 2 false (28, .invokeinterface 9 25, 31, []) := (r_get (C := RX9) (T := TX9) (N := 45) (ci := 9) (j := 25) (ref := RX9) dX9_vanGives_28 rfl inX9 (by decide) wd_1025 rfl).row
theorem o203_31 : OkE cX9_vanGives RX9 "vanGives" 3 2 false (31, .iload 2, 32, []) := (r_iload_n dX9_vanGives_31 rfl).row
theorem o203_32 : OkE cX9_vanGives RX9 "vanGives" 3 2 false (32, .iaload, 33, []) := (r_iald dX9_vanGives_32).row
theorem o203_33 : OkE cX9_vanGives RX9 "vanGives" 3 2 false (33, .invokevirtual 202, 36, []) := ⟨rfl, c_V dX9_vanGives_33 wd_1351 wd_1353 wd_57 wd_74 wd_1354 nmh_9⟩
theorem o203_36 : OkE cX9_vanGives RX9 "vanGives" 3 2 false (36, .iinc 2 1, 39, []) := (r_iinc dX9_vanGives_36 rfl).row
theorem o203_39 : OkE cX9_vanGives RX9 "vanGives" 3 2 false (39, .goto 2, 42, []) := (r_goto dX9_vanGives_39 rfl).row
theorem o203_42 : OkE cX9_vanGives RX9 "vanGives" 3 2 false (42, .iconst 0, 43, []) := (r_iconst dX9_vanGives_42 rfl).row
theorem o203_43 : OkE cX9_vanGives RX9 "vanGives" 3 2 false (43, .istore 2, 44, []) := (r_istore_n dX9_vanGives_43 rfl).row
theorem o203_44 : OkE cX9_vanGives RX9 "vanGives" 3 2 false (44, .iload 2, 45, []) := (r_iload_n dX9_vanGives_44 rfl).row
theorem o203_45 : OkE cX9_vanGives RX9 "vanGives" 3 2 false (45, .aload 0, 46, []) := (r_aload_n dX9_vanGives_45 rfl).row
theorem o203_46 : OkE cX9_vanGives RX9 "vanGives" 3 2 false (46, .invokeinterface 9 1, 49, []) := (r_get (C := RX9) (T := TX9) (N := 45) (ci := 9) (j := 1) (ref := RX9) dX9_vanGives_46 rfl inX9 (by decide) wd_1001 rfl).row
theorem o203_49 : OkE cX9_vanGives RX9 "vanGives" 3 2 false (49, .iconst 0, 50, []) := (r_iconst dX9_vanGives_49 rfl).row
theorem o203_50 : OkE cX9_vanGives RX9 "vanGives" 3 2 false (50, .iaload, 51, []) := (r_iald dX9_vanGives_50).row
theorem o203_51 : OkE cX9_vanGives RX9 "vanGives" 3 2 false (51, .if_icmp .ge 90, 54, []) := (r_icmp_ge dX9_vanGives_51 rfl).row
theorem o203_54 : OkE cX9_vanGives RX9 "vanGives" 3 2 false (54, .aload 0, 55, []) := (r_aload_n dX9_vanGives_54 rfl).row
theorem o203_55 : OkE cX9_vanGives RX9 "vanGives" 3 2 false (55, .invokeinterface 9 20, 58, []) := (r_get (C := RX9) (T := TX9) (N := 45) (ci := 9) (j := 20) (ref := RX9) dX9_vanGives_55 rfl inX9 (by decide) wd_1020 rfl).row
theorem o203_58 : OkE cX9_vanGives RX9 "vanGives" 3 2 false (58, .iconst 1, 59, []) := (r_iconst dX9_vanGives_58 rfl).row
theorem o203_59 : OkE cX9_vanGives RX9 "vanGives" 3 2 false (59, .if_icmp .ne 90, 62, []) := (r_icmp_ne dX9_vanGives_59 rfl).row
theorem o203_62 : OkE cX9_vanGives RX9 "vanGives" 3 2 false (62, .iload 1, 63, []) := (r_iload_n dX9_vanGives_62 rfl).row
theorem o203_63 : OkE cX9_vanGives RX9 "vanGives" 3 2 false (63, .ifCond .le 90, 66, []) := (r_if_le dX9_vanGives_63 rfl).row
theorem o203_66 : OkE cX9_vanGives RX9 "vanGives" 3 2 false (66, .aload 0, 67, []) := (r_aload_n dX9_vanGives_66 rfl).row
theorem o203_67 : OkE cX9_vanGives RX9 "vanGives" 3 2 false (67, .invokeinterface 9 30, 70, []) := (r_get (C := RX9) (T := TX9) (N := 45) (ci := 9) (j := 30) (ref := RX9) dX9_vanGives_67 rfl inX9 (by decide) wd_1030 rfl).row
theorem o203_70 : OkE cX9_vanGives RX9 "vanGives" 3 2 false (70, .iload 2, 71, []) := (r_iload_n dX9_vanGives_70 rfl).row
theorem o203_71 : OkE cX9_vanGives RX9 "vanGives" 3 2 false (71, .iaload, 72, []) := (r_iald dX9_vanGives_71).row
theorem o203_72 : OkE cX9_vanGives RX9 "vanGives" 3 2 false (72, .ifCond .ne 84, 75, []) := (r_if_ne dX9_vanGives_72 rfl).row
theorem o203_75 : OkE cX9_vanGives RX9 "vanGives" 3 2 false (75, .aload 0, 76, []) := (r_aload_n dX9_vanGives_75 rfl).row
theorem o203_76 : OkE cX9_vanGives RX9 "vanGives" 3 2 false (76, .iload 2, 77, []) := (r_iload_n dX9_vanGives_76 rfl).row
theorem o203_77 : OkE cX9_vanGives RX9 "vanGives" 3 2 false (77, .aload 0, 78, []) := (r_aload_n dX9_vanGives_77 rfl).row
theorem o203_78 : OkE cX9_vanGives RX9 "vanGives" 3 2 false (78, .invokeinterface 9 21, 81, []) := (r_get (C := RX9) (T := TX9) (N := 45) (ci := 9) (j := 21) (ref := RX9) dX9_vanGives_78 rfl inX9 (by decide) wd_1021 rfl).row
theorem o203_81 : OkE cX9_vanGives RX9 "vanGives" 3 2 false (81, .invokevirtual 202, 84, []) := ⟨rfl, c_V dX9_vanGives_81 wd_1351 wd_1353 wd_57 wd_74 wd_1354 nmh_9⟩
theorem o203_84 : OkE cX9_vanGives RX9 "vanGives" 3 2 false (84, .iinc 2 1, 87, []) := (r_iinc dX9_vanGives_84 rfl).row
theorem o203_87 : OkE cX9_vanGives RX9 "vanGives" 3 2 false (87, .goto 44, 90, []) := (r_goto dX9_vanGives_87 rfl).row
theorem o203_90 : OkE cX9_vanGives RX9 "vanGives" 3 2 false (90, .iconst 0, 91, [2]) := (r_iconst dX9_vanGives_90 rfl).row
theorem o203_91 : OkE cX9_vanGives RX9 "vanGives" 3 2 false (91, .istore 2, 92, []) := (r_istore_n dX9_vanGives_91 rfl).row
theorem o203_92 : OkE cX9_vanGives RX9 "vanGives" 3 2 false (92, .aload 0, 93, []) := (r_aload_n dX9_vanGives_92 rfl).row
theorem o203_93 : OkE cX9_vanGives RX9 "vanGives" 3 2 false (93, .invokeinterface 9 20, 96, []) := (r_get (C := RX9) (T := TX9) (N := 45) (ci := 9) (j := 20) (ref := RX9) dX9_vanGives_93 rfl inX9 (by decide) wd_1020 rfl).row
theorem o203_96 : OkE cX9_vanGives RX9 "vanGives" 3 2 false (96, .iconst 2, 97, []) := (r_iconst dX9_vanGives_96 rfl).row
theorem o203_97 : OkE cX9_vanGives RX9 "vanGives" 3 2 false (97, .if_icmp .ne 135, 100, []) := (r_icmp_ne dX9_vanGives_97 rfl).row
theorem o203_100 : OkE cX9_vanGives RX9 "vanGives" 3 2 false (100, .iload 1, 101, []) := (r_iload_n dX9_vanGives_100 rfl).row
theorem o203_101 : OkE cX9_vanGives RX9 "vanGives" 3 2 false (101, .aload 0, 102, []) := (r_aload_n dX9_vanGives_101 rfl).row
theorem o203_102 : OkE cX9_vanGives RX9 "vanGives" 3 2 false (102, .invokeinterface 9 21, 105, []) := (r_get (C := RX9) (T := TX9) (N := 45) (ci := 9) (j := 21) (ref := RX9) dX9_vanGives_102 rfl inX9 (by decide) wd_1021 rfl).row
theorem o203_105 : OkE cX9_vanGives RX9 "vanGives" 3 2 false (105, .if_icmp .ne 135, 108, []) := (r_icmp_ne dX9_vanGives_105 rfl).row
theorem o203_108 : OkE cX9_vanGives RX9 "vanGives" 3 2 false (108, .aload 0, 109, []) := (r_aload_n dX9_vanGives_108 rfl).row
theorem o203_109 : OkE cX9_vanGives RX9 "vanGives" 3 2 false (109, .invokeinterface 9 33, 112, []) := (r_get (C := RX9) (T := TX9) (N := 45) (ci := 9) (j := 33) (ref := RX9) dX9_vanGives_109 rfl inX9 (by decide) wd_1033 rfl).row
theorem o203_112 : OkE cX9_vanGives RX9 "vanGives" 3 2 false (112, .ifCond .le 135, 115, []) := (r_if_le dX9_vanGives_112 rfl).row
theorem o203_115 : OkE cX9_vanGives RX9 "vanGives" 3 2 false (115, .aload 0, 116, []) := (r_aload_n dX9_vanGives_115 rfl).row
theorem o203_116 : OkE cX9_vanGives RX9 "vanGives" 3 2 false (116, .iload 2, 117, []) := (r_iload_n dX9_vanGives_116 rfl).row
theorem o203_117 : OkE cX9_vanGives RX9 "vanGives" 3 2 false (117, .iconst 1, 118, []) := (r_iconst dX9_vanGives_117 rfl).row
theorem o203_118 : OkE cX9_vanGives RX9 "vanGives" 3 2 false (118, .invokevirtual 202, 121, []) := ⟨rfl, c_V dX9_vanGives_118 wd_1351 wd_1353 wd_57 wd_74 wd_1354 nmh_9⟩
theorem o203_121 : OkE cX9_vanGives RX9 "vanGives" 3 2 false (121, .iload 2, 122, []) := (r_iload_n dX9_vanGives_121 rfl).row
theorem o203_122 : OkE cX9_vanGives RX9 "vanGives" 3 2 false (122, .iconst 1, 123, []) := (r_iconst dX9_vanGives_122 rfl).row
theorem o203_123 : OkE cX9_vanGives RX9 "vanGives" 3 2 false (123, .iadd, 124, []) := (r_iadd dX9_vanGives_123).row
theorem o203_124 : OkE cX9_vanGives RX9 "vanGives" 3 2 false (124, .aload 0, 125, []) := (r_aload_n dX9_vanGives_124 rfl).row
theorem o203_125 : OkE cX9_vanGives RX9 "vanGives" 3 2 false (125, .invokeinterface 9 1, 128, []) := (r_get (C := RX9) (T := TX9) (N := 45) (ci := 9) (j := 1) (ref := RX9) dX9_vanGives_125 rfl inX9 (by decide) wd_1001 rfl).row
theorem o203_128 : OkE cX9_vanGives RX9 "vanGives" 3 2 false (128, .iconst 0, 129, []) := (r_iconst dX9_vanGives_128 rfl).row
theorem o203_129 : OkE cX9_vanGives RX9 "vanGives" 3 2 false (129, .iaload, 130, []) := (r_iald dX9_vanGives_129).row
theorem o203_130 : OkE cX9_vanGives RX9 "vanGives" 3 2 false (130, .irem, 131, []) := (r_irem dX9_vanGives_130).row
theorem o203_131 : OkE cX9_vanGives RX9 "vanGives" 3 2 false (131, .istore 2, 132, []) := (r_istore_n dX9_vanGives_131 rfl).row
theorem o203_132 : OkE cX9_vanGives RX9 "vanGives" 3 2 false (132, .goto 92, 135, []) := (r_goto dX9_vanGives_132 rfl).row
theorem o203_135 : OkE cX9_vanGives RX9 "vanGives" 3 2 false (135, .return_, 136, [0, 1, 2]) := dX9_vanGives_135
theorem ok203 : ∀ x ∈ k203, OkE cX9_vanGives RX9 "vanGives" 3 2 false x := List.forall_mem_cons.mpr ⟨o203_0, List.forall_mem_cons.mpr ⟨o203_1, List.forall_mem_cons.mpr ⟨o203_2, List.forall_mem_cons.mpr ⟨o203_3, List.forall_mem_cons.mpr ⟨o203_4, List.forall_mem_cons.mpr ⟨o203_7, List.forall_mem_cons.mpr ⟨o203_10, List.forall_mem_cons.mpr ⟨o203_11, List.forall_mem_cons.mpr ⟨o203_14, List.forall_mem_cons.mpr ⟨o203_15, List.forall_mem_cons.mpr ⟨o203_16, List.forall_mem_cons.mpr ⟨o203_17, List.forall_mem_cons.mpr ⟨o203_20, List.forall_mem_cons.mpr ⟨o203_21, List.forall_mem_cons.mpr ⟨o203_22, List.forall_mem_cons.mpr ⟨o203_25, List.forall_mem_cons.mpr ⟨o203_26, List.forall_mem_cons.mpr ⟨o203_27, List.forall_mem_cons.mpr ⟨o203_28, List.forall_mem_cons.mpr ⟨o203_31, List.forall_mem_cons.mpr ⟨o203_32, List.forall_mem_cons.mpr ⟨o203_33, List.forall_mem_cons.mpr ⟨o203_36, List.forall_mem_cons.mpr ⟨o203_39, List.forall_mem_cons.mpr ⟨o203_42, List.forall_mem_cons.mpr ⟨o203_43, List.forall_mem_cons.mpr ⟨o203_44, List.forall_mem_cons.mpr ⟨o203_45, List.forall_mem_cons.mpr ⟨o203_46, List.forall_mem_cons.mpr ⟨o203_49, List.forall_mem_cons.mpr ⟨o203_50, List.forall_mem_cons.mpr ⟨o203_51, List.forall_mem_cons.mpr ⟨o203_54, List.forall_mem_cons.mpr ⟨o203_55, List.forall_mem_cons.mpr ⟨o203_58, List.forall_mem_cons.mpr ⟨o203_59, List.forall_mem_cons.mpr ⟨o203_62, List.forall_mem_cons.mpr ⟨o203_63, List.forall_mem_cons.mpr ⟨o203_66, List.forall_mem_cons.mpr ⟨o203_67, List.forall_mem_cons.mpr ⟨o203_70, List.forall_mem_cons.mpr ⟨o203_71, List.forall_mem_cons.mpr ⟨o203_72, List.forall_mem_cons.mpr ⟨o203_75, List.forall_mem_cons.mpr ⟨o203_76, List.forall_mem_cons.mpr ⟨o203_77, List.forall_mem_cons.mpr ⟨o203_78, List.forall_mem_cons.mpr ⟨o203_81, List.forall_mem_cons.mpr ⟨o203_84, List.forall_mem_cons.mpr ⟨o203_87, List.forall_mem_cons.mpr ⟨o203_90, List.forall_mem_cons.mpr ⟨o203_91, List.forall_mem_cons.mpr ⟨o203_92, List.forall_mem_cons.mpr ⟨o203_93, List.forall_mem_cons.mpr ⟨o203_96, List.forall_mem_cons.mpr ⟨o203_97, List.forall_mem_cons.mpr ⟨o203_100, List.forall_mem_cons.mpr ⟨o203_101, List.forall_mem_cons.mpr ⟨o203_102, List.forall_mem_cons.mpr ⟨o203_105, List.forall_mem_cons.mpr ⟨o203_108, List.forall_mem_cons.mpr ⟨o203_109, List.forall_mem_cons.mpr ⟨o203_112, List.forall_mem_cons.mpr ⟨o203_115, List.forall_mem_cons.mpr ⟨o203_116, List.forall_mem_cons.mpr ⟨o203_117, List.forall_mem_cons.mpr ⟨o203_118, List.forall_mem_cons.mpr ⟨o203_121, List.forall_mem_cons.mpr ⟨o203_122, List.forall_mem_cons.mpr ⟨o203_123, List.forall_mem_cons.mpr ⟨o203_124, List.forall_mem_cons.mpr ⟨o203_125, List.forall_mem_cons.mpr ⟨o203_128, List.forall_mem_cons.mpr ⟨o203_129, List.forall_mem_cons.mpr ⟨o203_130, List.forall_mem_cons.mpr ⟨o203_131, List.forall_mem_cons.mpr ⟨o203_132, List.forall_mem_cons.mpr ⟨o203_135, fun _ h => absurd h List.not_mem_nil⟩⟩⟩⟩⟩⟩⟩⟩⟩⟩⟩⟩⟩⟩⟩⟩⟩⟩⟩⟩⟩⟩⟩⟩⟩⟩⟩⟩⟩⟩⟩⟩⟩⟩⟩⟩⟩⟩⟩⟩⟩⟩⟩⟩⟩⟩⟩⟩⟩⟩⟩⟩⟩⟩⟩⟩⟩⟩⟩⟩⟩⟩⟩⟩⟩⟩⟩⟩⟩⟩⟩⟩⟩⟩⟩⟩⟩⟩
theorem o204_0 : OkE cX9_comeTo RX9 "comeTo" 8 1 false (0, .aload 0, 1, []) := (r_aload_n dX9_comeTo_0 rfl).row
theorem o204_1 : OkE cX9_comeTo RX9 "comeTo" 8 1 false (1, .invokeinterface 9 1, 4, []) := (r_get (C := RX9) (T := TX9) (N := 45) (ci := 9) (j := 1) (ref := RX9) dX9_comeTo_1 rfl inX9 (by decide) wd_1001 rfl).row
theorem o204_4 : OkE cX9_comeTo RX9 "comeTo" 8 1 false (4, .iconst 10, 6, []) := (r_bipush dX9_comeTo_4 rfl).row
theorem o204_6 : OkE cX9_comeTo RX9 "comeTo" 8 1 false (6, .iconst 3, 7, []) := (r_iconst dX9_comeTo_6 rfl).row
theorem o204_7 : OkE cX9_comeTo RX9 "comeTo" 8 1 false (7, .iload 1, 8, []) := (r_iload_n dX9_comeTo_7 rfl).row
theorem o204_8 : OkE cX9_comeTo RX9 "comeTo" 8 1 false (8, .imul, 9, []) := (r_imul dX9_comeTo_8).row
theorem o204_9 : OkE cX9_comeTo RX9 "comeTo" 8 1 false (9, .iadd, 10, []) := (r_iadd dX9_comeTo_9).row
theorem o204_10 : OkE cX9_comeTo RX9 "comeTo" 8 1 false (10, .aload 0, 11, []) := (r_aload_n dX9_comeTo_10 rfl).row
theorem o204_11 : OkE cX9_comeTo RX9 "comeTo" 8 1 false (11, .invokeinterface 9 15, 14, []) := (r_get (C := RX9) (T := TX9) (N := 45) (ci := 9) (j := 15) (ref := RX9) dX9_comeTo_11 rfl inX9 (by decide) wd_1015 rfl).row
theorem o204_14 : OkE cX9_comeTo RX9 "comeTo" 8 1 false (14, .iadd, 15, []) := (r_iadd dX9_comeTo_14).row
theorem o204_15 : OkE cX9_comeTo RX9 "comeTo" 8 1 false (15, .iaload, 16, []) := (r_iald dX9_comeTo_15).row
theorem o204_16 : OkE cX9_comeTo RX9 "comeTo" 8 1 false (16, .istore 3, 17, []) := (r_istore_n dX9_comeTo_16 rfl).row
theorem o204_17 : OkE cX9_comeTo RX9 "comeTo" 8 1 false (17, .iload 3, 18, []) := (r_iload_n dX9_comeTo_17 rfl).row
theorem o204_18 : OkE cX9_comeTo RX9 "comeTo" 8 1 false (18, .aload 0, 19, []) := (r_aload_n dX9_comeTo_18 rfl).row
theorem o204_19 : OkE cX9_comeTo RX9 "comeTo" 8 1 false (19, .invokeinterface 9 18, 22, []) := (r_get (C := RX9) (T := TX9) (N := 45) (ci := 9) (j := 18) (ref := RX9) dX9_comeTo_19 rfl inX9 (by decide) wd_1018 rfl).row
theorem o204_22 : OkE cX9_comeTo RX9 "comeTo" 8 1 false (22, .iload 1, 23, []) := (r_iload_n dX9_comeTo_22 rfl).row
theorem o204_23 : OkE cX9_comeTo RX9 "comeTo" 8 1 false (23, .iaload, 24, []) := (r_iald dX9_comeTo_23).row
theorem o204_24 : OkE cX9_comeTo RX9 "comeTo" 8 1 false (24, .iconst 7, 26, []) := (r_bipush dX9_comeTo_24 rfl).row
theorem o204_26 : OkE cX9_comeTo RX9 "comeTo" 8 1 false (26, .if_icmp .le 33, 29, []) := (r_icmp_le dX9_comeTo_26 rfl).row
theorem o204_29 : OkE cX9_comeTo RX9 "comeTo" 8 1 false (29, .iconst 1, 30, []) := (r_iconst dX9_comeTo_29 rfl).row
theorem o204_30 : OkE cX9_comeTo RX9 "comeTo" 8 1 false (30, .goto 52, 33, []) := (r_goto dX9_comeTo_30 rfl).row
theorem o204_33 : OkE cX9_comeTo RX9 "comeTo" 8 1 false (33, .aload 0, 34, []) := (r_aload_n dX9_comeTo_33 rfl).row
theorem o204_34 : OkE cX9_comeTo RX9 "comeTo" 8 1 false (34, .invokeinterface 9 18, 37, []) := (r_get (C := RX9) (T := TX9) (N := 45) (ci := 9) (j := 18) (ref := RX9) dX9_comeTo_34 rfl inX9 (by decide) wd_1018 rfl).row
theorem o204_37 : OkE cX9_comeTo RX9 "comeTo" 8 1 false (37, .iload 1, 38, []) := (r_iload_n dX9_comeTo_37 rfl).row
theorem o204_38 : OkE cX9_comeTo RX9 "comeTo" 8 1 false (38, .iaload, 39, []) := (r_iald dX9_comeTo_38).row
theorem o204_39 : OkE cX9_comeTo RX9 "comeTo" 8 1 false (39, .iconst 3, 40, []) := (r_iconst dX9_comeTo_39 rfl).row
theorem o204_40 : OkE cX9_comeTo RX9 "comeTo" 8 1 false (40, .if_icmp .ge 51, 43, []) := (r_icmp_ge dX9_comeTo_40 rfl).row
theorem o204_43 : OkE cX9_comeTo RX9 "comeTo" 8 1 false (43, .iload 3, 44, []) := (r_iload_n dX9_comeTo_43 rfl).row
theorem o204_44 : OkE cX9_comeTo RX9 "comeTo" 8 1 false (44, .ifCond .le 51, 47, []) := (r_if_le dX9_comeTo_44 rfl).row
theorem o204_47 : OkE cX9_comeTo RX9 "comeTo" 8 1 false (47, .iconst (-1), 48, []) := (r_iconst dX9_comeTo_47 rfl).row
theorem o204_48 : OkE cX9_comeTo RX9 "comeTo" 8 1 false (48, .goto 52, 51, []) := (r_goto dX9_comeTo_48 rfl).row
theorem o204_51 : OkE cX9_comeTo RX9 "comeTo" 8 1 false (51, .iconst 0, 52, [3]) := (r_iconst dX9_comeTo_51 rfl).row
theorem o204_52 : OkE cX9_comeTo RX9 "comeTo" 8 1 false (52, .iadd, 53, [3]) := (r_iadd dX9_comeTo_52).row
theorem o204_53 : OkE cX9_comeTo RX9 "comeTo" 8 1 false (53, .istore 3, 54, []) := (r_istore_n dX9_comeTo_53 rfl).row
theorem o204_54 : OkE cX9_comeTo RX9 "comeTo" 8 1 false (54, .iload 3, 55, []) := (r_iload_n dX9_comeTo_54 rfl).row
theorem o204_55 : OkE cX9_comeTo RX9 "comeTo" 8 1 false (55, .iload 1, 56, []) := (r_iload_n dX9_comeTo_55 rfl).row
theorem o204_56 : OkE cX9_comeTo RX9 "comeTo" 8 1 false (56, .aload 0, 57, []) := (r_aload_n dX9_comeTo_56 rfl).row
theorem o204_57 : OkE cX9_comeTo RX9 "comeTo" 8 1 false (57, .invokeinterface 9 38, 60, []) := (r_get (C := RX9) (T := TX9) (N := 45) (ci := 9) (j := 38) (ref := RX9) dX9_comeTo_57 rfl inX9 (by decide) wd_1038 rfl).row
theorem o204_60 : OkE cX9_comeTo RX9 "comeTo" 8 1 false (60, .if_icmp .ne 67, 63, []) := (r_icmp_ne dX9_comeTo_60 rfl).row
theorem o204_63 : OkE cX9_comeTo RX9 "comeTo" 8 1 false (63, .iconst 1, 64, []) := (r_iconst dX9_comeTo_63 rfl).row
theorem o204_64 : OkE cX9_comeTo RX9 "comeTo" 8 1 false (64, .goto 77, 67, []) := (r_goto dX9_comeTo_64 rfl).row
theorem o204_67 : OkE cX9_comeTo RX9 "comeTo" 8 1 false (67, .aload 0, 68, []) := (r_aload_n dX9_comeTo_67 rfl).row
theorem o204_68 : OkE cX9_comeTo RX9 "comeTo" 8 1 false (68, .invokeinterface 9 17, 71, []) := (r_get (C := RX9) (T := TX9) (N := 45) (ci := 9) (j := 17) (ref := RX9) dX9_comeTo_68 rfl inX9 (by decide) wd_1017 rfl).row
theorem o204_71 : OkE cX9_comeTo RX9 "comeTo" 8 1 false (71, .iload 1, 72, []) := (r_iload_n dX9_comeTo_71 rfl).row
theorem o204_72 : OkE cX9_comeTo RX9 "comeTo" 8 1 false (72, .iaload, 73, []) := (r_iald dX9_comeTo_72).row
theorem o204_73 : OkE cX9_comeTo RX9 "comeTo" 8 1 false (73, .iload 2, 74, []) := (r_iload_n dX9_comeTo_73 rfl).row
theorem o204_74 : OkE cX9_comeTo RX9 "comeTo" 8 1 false (74, .ishr, 75, []) := (r_ishr dX9_comeTo_74).row
theorem o204_75 : OkE cX9_comeTo RX9 "comeTo" 8 1 false (75, .iconst 1, 76, []) := (r_iconst dX9_comeTo_75 rfl).row
theorem o204_76 : OkE cX9_comeTo RX9 "comeTo" 8 1 false (76, .iand, 77, []) := (r_iand dX9_comeTo_76).row
theorem o204_77 : OkE cX9_comeTo RX9 "comeTo" 8 1 false (77, .iadd, 78, [3]) := (r_iadd dX9_comeTo_77).row
theorem o204_78 : OkE cX9_comeTo RX9 "comeTo" 8 1 false (78, .aload 0, 79, []) := (r_aload_n dX9_comeTo_78 rfl).row
theorem o204_79 : OkE cX9_comeTo RX9 "comeTo" 8 1 false (79, .invokeinterface 9 31, 82, []) := (r_get (C := RX9) (T := TX9) (N := 45) (ci := 9) (j := 31) (ref := RX9) dX9_comeTo_79 rfl inX9 (by decide) wd_1031 rfl).row
theorem o204_82 : OkE cX9_comeTo RX9 "comeTo" 8 1 false (82, .iload 1, 83, []) := (r_iload_n dX9_comeTo_82 rfl).row
theorem o204_83 : OkE cX9_comeTo RX9 "comeTo" 8 1 false (83, .iaload, 84, []) := (r_iald dX9_comeTo_83).row
theorem o204_84 : OkE cX9_comeTo RX9 "comeTo" 8 1 false (84, .iadd, 85, []) := (r_iadd dX9_comeTo_84).row
theorem o204_85 : OkE cX9_comeTo RX9 "comeTo" 8 1 false (85, .istore 4, 87, []) := (r_istore dX9_comeTo_85).row
theorem o204_87 : OkE cX9_comeTo RX9 "comeTo" 8 1 false (87, .iload 4, 89, []) := (r_iload dX9_comeTo_87).row
theorem o204_89 : OkE cX9_comeTo RX9 "comeTo" 8 1 false (89, .aload 0, 90, []) := (r_aload_n dX9_comeTo_89 rfl).row
theorem o204_90 : OkE cX9_comeTo RX9 "comeTo" 8 1 false (90, .invokeinterface 9 30, 93, []) := (r_get (C := RX9) (T := TX9) (N := 45) (ci := 9) (j := 30) (ref := RX9) dX9_comeTo_90 rfl inX9 (by decide) wd_1030 rfl).row
theorem o204_93 : OkE cX9_comeTo RX9 "comeTo" 8 1 false (93, .iload 1, 94, []) := (r_iload_n dX9_comeTo_93 rfl).row
theorem o204_94 : OkE cX9_comeTo RX9 "comeTo" 8 1 false (94, .iaload, 95, []) := (r_iald dX9_comeTo_94).row
theorem o204_95 : OkE cX9_comeTo RX9 "comeTo" 8 1 false (95, .invokestatic 188, 98, []) := ⟨rfl, c_S dX9_comeTo_95 wd_1298 wd_1299 wd_74 wd_1300 nmh_9⟩
theorem o204_98 : OkE cX9_comeTo RX9 "comeTo" 8 1 false (98, .istore 5, 100, []) := (r_istore dX9_comeTo_98).row
theorem o204_100 : OkE cX9_comeTo RX9 "comeTo" 8 1 false (100, .iload 4, 102, []) := (r_iload dX9_comeTo_100).row
theorem o204_102 : OkE cX9_comeTo RX9 "comeTo" 8 1 false (102, .iload 5, 104, []) := (r_iload dX9_comeTo_102).row
theorem o204_104 : OkE cX9_comeTo RX9 "comeTo" 8 1 false (104, .isub, 105, []) := (r_isub dX9_comeTo_104).row
theorem o204_105 : OkE cX9_comeTo RX9 "comeTo" 8 1 false (105, .istore 6, 107, []) := (r_istore dX9_comeTo_105).row
theorem o204_107 : OkE cX9_comeTo RX9 "comeTo" 8 1 false (107, .aload 0, 108, []) := (r_aload_n dX9_comeTo_107 rfl).row
theorem o204_108 : OkE cX9_comeTo RX9 "comeTo" 8 1 false (108, .invokeinterface 9 30, 111, []) := (r_get (C := RX9) (T := TX9) (N := 45) (ci := 9) (j := 30) (ref := RX9) dX9_comeTo_108 rfl inX9 (by decide) wd_1030 rfl).row
theorem o204_111 : OkE cX9_comeTo RX9 "comeTo" 8 1 false (111, .iload 1, 112, []) := (r_iload_n dX9_comeTo_111 rfl).row
theorem o204_112 : OkE cX9_comeTo RX9 "comeTo" 8 1 false (112, .dup2, 113, []) := (r_dup2 dX9_comeTo_112).row
theorem o204_113 : OkE cX9_comeTo RX9 "comeTo" 8 1 false (113, .iaload, 114, []) := (r_iald dX9_comeTo_113).row
theorem o204_114 : OkE cX9_comeTo RX9 "comeTo" 8 1 false (114, .iload 5, 116, []) := (r_iload dX9_comeTo_114).row
theorem o204_116 : OkE cX9_comeTo RX9 "comeTo" 8 1 false (116, .isub, 117, []) := (r_isub dX9_comeTo_116).row
theorem o204_117 : OkE cX9_comeTo RX9 "comeTo" 8 1 false (117, .iastore, 118, []) := r_iast dX9_comeTo_117
theorem o204_118 : OkE cX9_comeTo RX9 "comeTo" 8 1 false (118, .aload 0, 119, []) := (r_aload_n dX9_comeTo_118 rfl).row
theorem o204_119 : OkE cX9_comeTo RX9 "comeTo" 8 1 false (119, .invokeinterface 9 26, 122, []) := (r_get (C := RX9) (T := TX9) (N := 45) (ci := 9) (j := 26) (ref := RX9) dX9_comeTo_119 rfl inX9 (by decide) wd_1026 rfl).row
theorem o204_122 : OkE cX9_comeTo RX9 "comeTo" 8 1 false (122, .iconst 6, 124, []) := (r_bipush dX9_comeTo_122 rfl).row
theorem o204_124 : OkE cX9_comeTo RX9 "comeTo" 8 1 false (124, .iload 1, 125, []) := (r_iload_n dX9_comeTo_124 rfl).row
theorem o204_125 : OkE cX9_comeTo RX9 "comeTo" 8 1 false (125, .imul, 126, []) := (r_imul dX9_comeTo_125).row
theorem o204_126 : OkE cX9_comeTo RX9 "comeTo" 8 1 false (126, .iload 2, 127, []) := (r_iload_n dX9_comeTo_126 rfl).row
theorem o204_127 : OkE cX9_comeTo RX9 "comeTo" 8 1 false (127, .iadd, 128, []) := (r_iadd dX9_comeTo_127).row
theorem o204_128 : OkE cX9_comeTo RX9 "comeTo" 8 1 false (128, .aload 0, 129, []) := (r_aload_n dX9_comeTo_128 rfl).row
theorem o204_129 : OkE cX9_comeTo RX9 "comeTo" 8 1 false (129, .invokeinterface 9 30, 132, []) := (r_get (C := RX9) (T := TX9) (N := 45) (ci := 9) (j := 30) (ref := RX9) dX9_comeTo_129 rfl inX9 (by decide) wd_1030 rfl).row
theorem o204_132 : OkE cX9_comeTo RX9 "comeTo" 8 1 false (132, .iload 1, 133, []) := (r_iload_n dX9_comeTo_132 rfl).row
theorem o204_133 : OkE cX9_comeTo RX9 "comeTo" 8 1 false (133, .iaload, 134, []) := (r_iald dX9_comeTo_133).row
theorem o204_134 : OkE cX9_comeTo RX9 "comeTo" 8 1 false (134, .iastore, 135, []) := r_iast dX9_comeTo_134
theorem o204_135 : OkE cX9_comeTo RX9 "comeTo" 8 1 false (135, .aload 0, 136, []) := (r_aload_n dX9_comeTo_135 rfl).row
theorem o204_136 : OkE cX9_comeTo RX9 "comeTo" 8 1 false (136, .invokeinterface 9 27, 139, []) := (r_get (C := RX9) (T := TX9) (N := 45) (ci := 9) (j := 27) (ref := RX9) dX9_comeTo_136 rfl inX9 (by decide) wd_1027 rfl).row
theorem o204_139 : OkE cX9_comeTo RX9 "comeTo" 8 1 false (139, .iconst 6, 141, []) := (r_bipush dX9_comeTo_139 rfl).row
theorem o204_141 : OkE cX9_comeTo RX9 "comeTo" 8 1 false (141, .iload 1, 142, []) := (r_iload_n dX9_comeTo_141 rfl).row
theorem o204_142 : OkE cX9_comeTo RX9 "comeTo" 8 1 false (142, .imul, 143, []) := (r_imul dX9_comeTo_142).row
theorem o204_143 : OkE cX9_comeTo RX9 "comeTo" 8 1 false (143, .iload 2, 144, []) := (r_iload_n dX9_comeTo_143 rfl).row
theorem o204_144 : OkE cX9_comeTo RX9 "comeTo" 8 1 false (144, .iadd, 145, []) := (r_iadd dX9_comeTo_144).row
theorem o204_145 : OkE cX9_comeTo RX9 "comeTo" 8 1 false (145, .iload 5, 147, []) := (r_iload dX9_comeTo_145).row
theorem o204_147 : OkE cX9_comeTo RX9 "comeTo" 8 1 false (147, .iload 2, 148, []) := (r_iload_n dX9_comeTo_147 rfl).row
theorem o204_148 : OkE cX9_comeTo RX9 "comeTo" 8 1 false (148, .ifCond .le 167, 151, []) := (r_if_le dX9_comeTo_148 rfl).row
theorem o204_151 : OkE cX9_comeTo RX9 "comeTo" 8 1 false (151, .aload 0, 152, []) := (r_aload_n dX9_comeTo_151 rfl).row
theorem o204_152 : OkE cX9_comeTo RX9 "comeTo" 8 1 false (152, .invokeinterface 9 27, 155, []) := (r_get (C := RX9) (T := TX9) (N := 45) (ci := 9) (j := 27) (ref := RX9) dX9_comeTo_152 rfl inX9 (by decide) wd_1027 rfl).row
theorem o204_155 : OkE cX9_comeTo RX9 "comeTo" 8 1 false (155, .iconst 6, 157, []) := (r_bipush dX9_comeTo_155 rfl).row
theorem o204_157 : OkE cX9_comeTo RX9 "comeTo" 8 1 false (157, .iload 1, 158, []) := (r_iload_n dX9_comeTo_157 rfl).row
theorem o204_158 : OkE cX9_comeTo RX9 "comeTo" 8 1 false (158, .imul, 159, []) := (r_imul dX9_comeTo_158).row
theorem o204_159 : OkE cX9_comeTo RX9 "comeTo" 8 1 false (159, .iload 2, 160, []) := (r_iload_n dX9_comeTo_159 rfl).row
theorem o204_160 : OkE cX9_comeTo RX9 "comeTo" 8 1 false (160, .iadd, 161, []) := (r_iadd dX9_comeTo_160).row
theorem o204_161 : OkE cX9_comeTo RX9 "comeTo" 8 1 false (161, .iconst 1, 162, []) := (r_iconst dX9_comeTo_161 rfl).row
theorem o204_162 : OkE cX9_comeTo RX9 "comeTo" 8 1 false (162, .isub, 163, []) := (r_isub dX9_comeTo_162).row
theorem o204_163 : OkE cX9_comeTo RX9 "comeTo" 8 1 false (163, .iaload, 164, []) := (r_iald dX9_comeTo_163).row
theorem o204_164 : OkE cX9_comeTo RX9 "comeTo" 8 1 false (164, .goto 168, 167, []) := (r_goto dX9_comeTo_164 rfl).row
theorem o204_167 : OkE cX9_comeTo RX9 "comeTo" 8 1 false (167, .iconst 0, 168, []) := (r_iconst dX9_comeTo_167 rfl).row
theorem o204_168 : OkE cX9_comeTo RX9 "comeTo" 8 1 false (168, .iadd, 169, [3, 5]) := (r_iadd dX9_comeTo_168).row
theorem o204_169 : OkE cX9_comeTo RX9 "comeTo" 8 1 false (169, .iastore, 170, []) := r_iast dX9_comeTo_169
theorem o204_170 : OkE cX9_comeTo RX9 "comeTo" 8 1 false (170, .aload 0, 171, []) := (r_aload_n dX9_comeTo_170 rfl).row
theorem o204_171 : OkE cX9_comeTo RX9 "comeTo" 8 1 false (171, .invokeinterface 9 28, 174, []) := (r_get (C := RX9) (T := TX9) (N := 45) (ci := 9) (j := 28) (ref := RX9) dX9_comeTo_171 rfl inX9 (by decide) wd_1028 rfl).row
theorem o204_174 : OkE cX9_comeTo RX9 "comeTo" 8 1 false (174, .iconst 6, 176, []) := (r_bipush dX9_comeTo_174 rfl).row
theorem o204_176 : OkE cX9_comeTo RX9 "comeTo" 8 1 false (176, .iload 1, 177, []) := (r_iload_n dX9_comeTo_176 rfl).row
theorem o204_177 : OkE cX9_comeTo RX9 "comeTo" 8 1 false (177, .imul, 178, []) := (r_imul dX9_comeTo_177).row
theorem o204_178 : OkE cX9_comeTo RX9 "comeTo" 8 1 false (178, .iload 2, 179, []) := (r_iload_n dX9_comeTo_178 rfl).row
theorem o204_179 : OkE cX9_comeTo RX9 "comeTo" 8 1 false (179, .iadd, 180, []) := (r_iadd dX9_comeTo_179).row
theorem o204_180 : OkE cX9_comeTo RX9 "comeTo" 8 1 false (180, .iload 4, 182, []) := (r_iload dX9_comeTo_180).row
theorem o204_182 : OkE cX9_comeTo RX9 "comeTo" 8 1 false (182, .iastore, 183, []) := r_iast dX9_comeTo_182
theorem o204_183 : OkE cX9_comeTo RX9 "comeTo" 8 1 false (183, .aload 0, 184, []) := (r_aload_n dX9_comeTo_183 rfl).row
theorem o204_184 : OkE cX9_comeTo RX9 "comeTo" 8 1 false (184, .invokeinterface 9 29, 187, []) := (r_get (C := RX9) (T := TX9) (N := 45) (ci := 9) (j := 29) (ref := RX9) dX9_comeTo_184 rfl inX9 (by decide) wd_1029 rfl).row
theorem o204_187 : OkE cX9_comeTo RX9 "comeTo" 8 1 false (187, .iconst 6, 189, []) := (r_bipush dX9_comeTo_187 rfl).row
theorem o204_189 : OkE cX9_comeTo RX9 "comeTo" 8 1 false (189, .iload 1, 190, []) := (r_iload_n dX9_comeTo_189 rfl).row
theorem o204_190 : OkE cX9_comeTo RX9 "comeTo" 8 1 false (190, .imul, 191, []) := (r_imul dX9_comeTo_190).row
theorem o204_191 : OkE cX9_comeTo RX9 "comeTo" 8 1 false (191, .iload 2, 192, []) := (r_iload_n dX9_comeTo_191 rfl).row
theorem o204_192 : OkE cX9_comeTo RX9 "comeTo" 8 1 false (192, .iadd, 193, []) := (r_iadd dX9_comeTo_192).row
theorem o204_193 : OkE cX9_comeTo RX9 "comeTo" 8 1 false (193, .iload 6, 195, []) := (r_iload dX9_comeTo_193).row
theorem o204_195 : OkE cX9_comeTo RX9 "comeTo" 8 1 false (195, .iastore, 196, []) := r_iast dX9_comeTo_195
theorem o204_196 : OkE cX9_comeTo RX9 "comeTo" 8 1 false (196, .aload 0, 197, []) := (r_aload_n dX9_comeTo_196 rfl).row
theorem o204_197 : OkE cX9_comeTo RX9 "comeTo" 8 1 false (197, .invokeinterface 9 1, 200, []) := (r_get (C := RX9) (T := TX9) (N := 45) (ci := 9) (j := 1) (ref := RX9) dX9_comeTo_197 rfl inX9 (by decide) wd_1001 rfl).row
theorem o204_200 : OkE cX9_comeTo RX9 "comeTo" 8 1 false (200, .iconst 7, 202, []) := (r_bipush dX9_comeTo_200 rfl).row
theorem o204_202 : OkE cX9_comeTo RX9 "comeTo" 8 1 false (202, .iload 1, 203, []) := (r_iload_n dX9_comeTo_202 rfl).row
theorem o204_203 : OkE cX9_comeTo RX9 "comeTo" 8 1 false (203, .iadd, 204, []) := (r_iadd dX9_comeTo_203).row
theorem o204_204 : OkE cX9_comeTo RX9 "comeTo" 8 1 false (204, .iaload, 205, []) := (r_iald dX9_comeTo_204).row
theorem o204_205 : OkE cX9_comeTo RX9 "comeTo" 8 1 false (205, .istore 7, 207, []) := (r_istore dX9_comeTo_205).row
theorem o204_207 : OkE cX9_comeTo RX9 "comeTo" 8 1 false (207, .iload 7, 209, []) := (r_iload dX9_comeTo_207).row
theorem o204_209 : OkE cX9_comeTo RX9 "comeTo" 8 1 false (209, .iconst (-9), 211, []) := (r_bipush dX9_comeTo_209 rfl).row
theorem o204_211 : OkE cX9_comeTo RX9 "comeTo" 8 1 false (211, .if_icmp .eq 219, 214, []) := (r_icmp_eq dX9_comeTo_211 rfl).row
theorem o204_214 : OkE cX9_comeTo RX9 "comeTo" 8 1 false (214, .iload 2, 215, []) := (r_iload_n dX9_comeTo_214 rfl).row
theorem o204_215 : OkE cX9_comeTo RX9 "comeTo" 8 1 false (215, .iconst 5, 216, []) := (r_iconst dX9_comeTo_215 rfl).row
theorem o204_216 : OkE cX9_comeTo RX9 "comeTo" 8 1 false (216, .if_icmp .ne 233, 219, []) := (r_icmp_ne dX9_comeTo_216 rfl).row
theorem o204_219 : OkE cX9_comeTo RX9 "comeTo" 8 1 false (219, .aload 0, 220, [1, 2, 3, 4, 5, 7]) := (r_aload_n dX9_comeTo_219 rfl).row
theorem o204_220 : OkE cX9_comeTo RX9 "comeTo" 8 1 false (220, .dup, 221, []) := (r_dup dX9_comeTo_220).row
theorem o204_221 : OkE cX9_comeTo RX9 "comeTo" 8 1 false (221, .invokeinterface 9 34, 224, []) := (r_get (C := RX9) (T := TX9) (N := 45) (ci := 9) (j := 34) (ref := RX9) dX9_comeTo_221 rfl inX9 (by decide) wd_1034 rfl).row
theorem o204_224 : OkE cX9_comeTo RX9 "comeTo" 8 1 false (224, .iload 6, 226, []) := (r_iload dX9_comeTo_224).row
theorem o204_226 : OkE cX9_comeTo RX9 "comeTo" 8 1 false (226, .iadd, 227, []) := (r_iadd dX9_comeTo_226).row
theorem o204_227 : OkE cX9_comeTo RX9 "comeTo" 8 1 false (227, .multianewarray 9 34, 230, []) := r_putI (C := RX9) (T := TX9) (N := 45) (ci := 9) (j := 34) (ref := RX9) dX9_comeTo_227 rfl inX9 tyX9 tyX9_ok nmX9 (by decide) wd_1034 rfl rfl (tyX9_ok 34 (by decide)) rfl
theorem o204_230 : OkE cX9_comeTo RX9 "comeTo" 8 1 false (230, .goto 245, 233, []) := (r_goto dX9_comeTo_230 rfl).row
theorem o204_233 : OkE cX9_comeTo RX9 "comeTo" 8 1 false (233, .aload 0, 234, []) := (r_aload_n dX9_comeTo_233 rfl).row
theorem o204_234 : OkE cX9_comeTo RX9 "comeTo" 8 1 false (234, .invokeinterface 9 32, 237, []) := (r_get (C := RX9) (T := TX9) (N := 45) (ci := 9) (j := 32) (ref := RX9) dX9_comeTo_234 rfl inX9 (by decide) wd_1032 rfl).row
theorem o204_237 : OkE cX9_comeTo RX9 "comeTo" 8 1 false (237, .iload 7, 239, []) := (r_iload dX9_comeTo_237).row
theorem o204_239 : OkE cX9_comeTo RX9 "comeTo" 8 1 false (239, .dup2, 240, []) := (r_dup2 dX9_comeTo_239).row
theorem o204_240 : OkE cX9_comeTo RX9 "comeTo" 8 1 false (240, .iaload, 241, []) := (r_iald dX9_comeTo_240).row
theorem o204_241 : OkE cX9_comeTo RX9 "comeTo" 8 1 false (241, .iload 6, 243, []) := (r_iload dX9_comeTo_241).row
theorem o204_243 : OkE cX9_comeTo RX9 "comeTo" 8 1 false (243, .iadd, 244, []) := (r_iadd dX9_comeTo_243).row
theorem o204_244 : OkE cX9_comeTo RX9 "comeTo" 8 1 false (244, .iastore, 245, []) := r_iast dX9_comeTo_244
theorem o204_245 : OkE cX9_comeTo RX9 "comeTo" 8 1 false (245, .return_, 246, [0, 1, 2, 3, 4, 5, 6, 7]) := dX9_comeTo_245
theorem ok204_0 : ∀ x ∈ k204_0, OkE cX9_comeTo RX9 "comeTo" 8 1 false x := List.forall_mem_cons.mpr ⟨o204_0, List.forall_mem_cons.mpr ⟨o204_1, List.forall_mem_cons.mpr ⟨o204_4, List.forall_mem_cons.mpr ⟨o204_6, List.forall_mem_cons.mpr ⟨o204_7, List.forall_mem_cons.mpr ⟨o204_8, List.forall_mem_cons.mpr ⟨o204_9, List.forall_mem_cons.mpr ⟨o204_10, List.forall_mem_cons.mpr ⟨o204_11, List.forall_mem_cons.mpr ⟨o204_14, List.forall_mem_cons.mpr ⟨o204_15, List.forall_mem_cons.mpr ⟨o204_16, List.forall_mem_cons.mpr ⟨o204_17, List.forall_mem_cons.mpr ⟨o204_18, List.forall_mem_cons.mpr ⟨o204_19, List.forall_mem_cons.mpr ⟨o204_22, List.forall_mem_cons.mpr ⟨o204_23, List.forall_mem_cons.mpr ⟨o204_24, List.forall_mem_cons.mpr ⟨o204_26, List.forall_mem_cons.mpr ⟨o204_29, List.forall_mem_cons.mpr ⟨o204_30, List.forall_mem_cons.mpr ⟨o204_33, List.forall_mem_cons.mpr ⟨o204_34, List.forall_mem_cons.mpr ⟨o204_37, List.forall_mem_cons.mpr ⟨o204_38, List.forall_mem_cons.mpr ⟨o204_39, List.forall_mem_cons.mpr ⟨o204_40, List.forall_mem_cons.mpr ⟨o204_43, List.forall_mem_cons.mpr ⟨o204_44, List.forall_mem_cons.mpr ⟨o204_47, List.forall_mem_cons.mpr ⟨o204_48, List.forall_mem_cons.mpr ⟨o204_51, List.forall_mem_cons.mpr ⟨o204_52, List.forall_mem_cons.mpr ⟨o204_53, List.forall_mem_cons.mpr ⟨o204_54, List.forall_mem_cons.mpr ⟨o204_55, List.forall_mem_cons.mpr ⟨o204_56, List.forall_mem_cons.mpr ⟨o204_57, List.forall_mem_cons.mpr ⟨o204_60, List.forall_mem_cons.mpr ⟨o204_63, List.forall_mem_cons.mpr ⟨o204_64, List.forall_mem_cons.mpr ⟨o204_67, List.forall_mem_cons.mpr ⟨o204_68, List.forall_mem_cons.mpr ⟨o204_71, List.forall_mem_cons.mpr ⟨o204_72, List.forall_mem_cons.mpr ⟨o204_73, List.forall_mem_cons.mpr ⟨o204_74, List.forall_mem_cons.mpr ⟨o204_75, List.forall_mem_cons.mpr ⟨o204_76, List.forall_mem_cons.mpr ⟨o204_77, List.forall_mem_cons.mpr ⟨o204_78, List.forall_mem_cons.mpr ⟨o204_79, List.forall_mem_cons.mpr ⟨o204_82, List.forall_mem_cons.mpr ⟨o204_83, List.forall_mem_cons.mpr ⟨o204_84, List.forall_mem_cons.mpr ⟨o204_85, List.forall_mem_cons.mpr ⟨o204_87, List.forall_mem_cons.mpr ⟨o204_89, List.forall_mem_cons.mpr ⟨o204_90, List.forall_mem_cons.mpr ⟨o204_93, List.forall_mem_cons.mpr ⟨o204_94, List.forall_mem_cons.mpr ⟨o204_95, List.forall_mem_cons.mpr ⟨o204_98, List.forall_mem_cons.mpr ⟨o204_100, List.forall_mem_cons.mpr ⟨o204_102, List.forall_mem_cons.mpr ⟨o204_104, List.forall_mem_cons.mpr ⟨o204_105, List.forall_mem_cons.mpr ⟨o204_107, List.forall_mem_cons.mpr ⟨o204_108, List.forall_mem_cons.mpr ⟨o204_111, List.forall_mem_cons.mpr ⟨o204_112, List.forall_mem_cons.mpr ⟨o204_113, List.forall_mem_cons.mpr ⟨o204_114, List.forall_mem_cons.mpr ⟨o204_116, List.forall_mem_cons.mpr ⟨o204_117, List.forall_mem_cons.mpr ⟨o204_118, List.forall_mem_cons.mpr ⟨o204_119, List.forall_mem_cons.mpr ⟨o204_122, List.forall_mem_cons.mpr ⟨o204_124, List.forall_mem_cons.mpr ⟨o204_125, fun _ h => absurd h List.not_mem_nil⟩⟩⟩⟩⟩⟩⟩⟩⟩⟩⟩⟩⟩⟩⟩⟩⟩⟩⟩⟩⟩⟩⟩⟩⟩⟩⟩⟩⟩⟩⟩⟩⟩⟩⟩⟩⟩⟩⟩⟩⟩⟩⟩⟩⟩⟩⟩⟩⟩⟩⟩⟩⟩⟩⟩⟩⟩⟩⟩⟩⟩⟩⟩⟩⟩⟩⟩⟩⟩⟩⟩⟩⟩⟩⟩⟩⟩⟩⟩⟩
theorem ok204_1 : ∀ x ∈ k204_1, OkE cX9_comeTo RX9 "comeTo" 8 1 false x := List.forall_mem_cons.mpr ⟨o204_126, List.forall_mem_cons.mpr ⟨o204_127, List.forall_mem_cons.mpr ⟨o204_128, List.forall_mem_cons.mpr ⟨o204_129, List.forall_mem_cons.mpr ⟨o204_132, List.forall_mem_cons.mpr ⟨o204_133, List.forall_mem_cons.mpr ⟨o204_134, List.forall_mem_cons.mpr ⟨o204_135, List.forall_mem_cons.mpr ⟨o204_136, List.forall_mem_cons.mpr ⟨o204_139, List.forall_mem_cons.mpr ⟨o204_141, List.forall_mem_cons.mpr ⟨o204_142, List.forall_mem_cons.mpr ⟨o204_143, List.forall_mem_cons.mpr ⟨o204_144, List.forall_mem_cons.mpr ⟨o204_145, List.forall_mem_cons.mpr ⟨o204_147, List.forall_mem_cons.mpr ⟨o204_148, List.forall_mem_cons.mpr ⟨o204_151, List.forall_mem_cons.mpr ⟨o204_152, List.forall_mem_cons.mpr ⟨o204_155, List.forall_mem_cons.mpr ⟨o204_157, List.forall_mem_cons.mpr ⟨o204_158, List.forall_mem_cons.mpr ⟨o204_159, List.forall_mem_cons.mpr ⟨o204_160, List.forall_mem_cons.mpr ⟨o204_161, List.forall_mem_cons.mpr ⟨o204_162, List.forall_mem_cons.mpr ⟨o204_163, List.forall_mem_cons.mpr ⟨o204_164, List.forall_mem_cons.mpr ⟨o204_167, List.forall_mem_cons.mpr ⟨o204_168, List.forall_mem_cons.mpr ⟨o204_169, List.forall_mem_cons.mpr ⟨o204_170, List.forall_mem_cons.mpr ⟨o204_171, List.forall_mem_cons.mpr ⟨o204_174, List.forall_mem_cons.mpr ⟨o204_176, List.forall_mem_cons.mpr ⟨o204_177, List.forall_mem_cons.mpr ⟨o204_178, List.forall_mem_cons.mpr ⟨o204_179, List.forall_mem_cons.mpr ⟨o204_180, List.forall_mem_cons.mpr ⟨o204_182, List.forall_mem_cons.mpr ⟨o204_183, List.forall_mem_cons.mpr ⟨o204_184, List.forall_mem_cons.mpr ⟨o204_187, List.forall_mem_cons.mpr ⟨o204_189, List.forall_mem_cons.mpr ⟨o204_190, List.forall_mem_cons.mpr ⟨o204_191, List.forall_mem_cons.mpr ⟨o204_192, List.forall_mem_cons.mpr ⟨o204_193, List.forall_mem_cons.mpr ⟨o204_195, List.forall_mem_cons.mpr ⟨o204_196, List.forall_mem_cons.mpr ⟨o204_197, List.forall_mem_cons.mpr ⟨o204_200, List.forall_mem_cons.mpr ⟨o204_202, List.forall_mem_cons.mpr ⟨o204_203, List.forall_mem_cons.mpr ⟨o204_204, List.forall_mem_cons.mpr ⟨o204_205, List.forall_mem_cons.mpr ⟨o204_207, List.forall_mem_cons.mpr ⟨o204_209, List.forall_mem_cons.mpr ⟨o204_211, List.forall_mem_cons.mpr ⟨o204_214, List.forall_mem_cons.mpr ⟨o204_215, List.forall_mem_cons.mpr ⟨o204_216, List.forall_mem_cons.mpr ⟨o204_219, List.forall_mem_cons.mpr ⟨o204_220, List.forall_mem_cons.mpr ⟨o204_221, List.forall_mem_cons.mpr ⟨o204_224, List.forall_mem_cons.mpr ⟨o204_226, List.forall_mem_cons.mpr ⟨o204_227, List.forall_mem_cons.mpr ⟨o204_230, List.forall_mem_cons.mpr ⟨o204_233, List.forall_mem_cons.mpr ⟨o204_234, List.forall_mem_cons.mpr ⟨o204_237, List.forall_mem_cons.mpr ⟨o204_239, List.forall_mem_cons.mpr ⟨o204_240, List.forall_mem_cons.mpr ⟨o204_241, List.forall_mem_cons.mpr ⟨o204_243, List.forall_mem_cons.mpr ⟨o204_244, List.forall_mem_cons.mpr ⟨o204_245, fun _ h => absurd h List.not_mem_nil⟩⟩⟩⟩⟩⟩⟩⟩⟩⟩⟩⟩⟩⟩⟩⟩⟩⟩⟩⟩⟩⟩⟩⟩⟩⟩⟩⟩⟩⟩⟩⟩⟩⟩⟩⟩⟩⟩⟩⟩⟩⟩⟩⟩⟩⟩⟩⟩⟩⟩⟩⟩⟩⟩⟩⟩⟩⟩⟩⟩⟩⟩⟩⟩⟩⟩⟩⟩⟩⟩⟩⟩⟩⟩⟩⟩⟩⟩
theorem ok204 : ∀ x ∈ k204, OkE cX9_comeTo RX9 "comeTo" 8 1 false x := List.forall_mem_append.mpr ⟨ok204_0, ok204_1⟩
theorem o205_0 : OkE cX9_layMorning RX9 "layMorning" 3 3 false (0, .aload 0, 1, []) := (r_aload_n dX9_layMorning_0 rfl).row
theorem o205_1 : OkE cX9_layMorning RX9 "layMorning" 3 3 false (1, .aload 0, 2, []) := (r_aload_n dX9_layMorning_1 rfl).row
theorem o205_2 : OkE cX9_layMorning RX9 "layMorning" 3 3 false (2, .invokeinterface 9 19, 5, []) := (r_get (C := RX9) (T := TX9) (N := 45) (ci := 9) (j := 19) (ref := RX9) dX9_layMorning_2 rfl inX9 (by decide) wd_1019 rfl).row
theorem o205_5 : OkE cX9_layMorning RX9 "layMorning" 3 3 false (5, .multianewarray 9 33, 8, []) := r_putI (C := RX9) (T := TX9) (N := 45) (ci := 9) (j := 33) (ref := RX9) dX9_layMorning_5 rfl inX9 tyX9 tyX9_ok nmX9 (by decide) wd_1033 rfl rfl (tyX9_ok 33 (by decide)) rfl
theorem o205_8 : OkE cX9_layMorning RX9 "layMorning" 3 3 false (8, .aload 0, 9, []) := (r_aload_n dX9_layMorning_8 rfl).row
theorem o205_9 : OkE cX9_layMorning RX9 "layMorning" 3 3 false (9, .iconst 0, 10, []) := (r_iconst dX9_layMorning_9 rfl).row
theorem o205_10 : OkE cX9_layMorning RX9 "layMorning" 3 3 false (10, .multianewarray 9 34, 13, []) := r_putI (C := RX9) (T := TX9) (N := 45) (ci := 9) (j := 34) (ref := RX9) dX9_layMorning_10 rfl inX9 tyX9 tyX9_ok nmX9 (by decide) wd_1034 rfl rfl (tyX9_ok 34 (by decide)) rfl
theorem o205_13 : OkE cX9_layMorning RX9 "layMorning" 3 3 false (13, .iconst 0, 14, []) := (r_iconst dX9_layMorning_13 rfl).row
theorem o205_14 : OkE cX9_layMorning RX9 "layMorning" 3 3 false (14, .istore 1, 15, []) := (r_istore_n dX9_layMorning_14 rfl).row
theorem o205_15 : OkE cX9_layMorning RX9 "layMorning" 3 3 false (15, .iload 1, 16, []) := (r_iload_n dX9_layMorning_15 rfl).row
theorem o205_16 : OkE cX9_layMorning RX9 "layMorning" 3 3 false (16, .iconst 3, 17, []) := (r_iconst dX9_layMorning_16 rfl).row
theorem o205_17 : OkE cX9_layMorning RX9 "layMorning" 3 3 false (17, .if_icmp .ge 45, 20, []) := (r_icmp_ge dX9_layMorning_17 rfl).row
theorem o205_20 : OkE cX9_layMorning RX9 "layMorning" 3 3 false (20, .aload 0, 21, []) := (r_aload_n dX9_layMorning_20 rfl).row
theorem o205_21 : OkE cX9_layMorning RX9 "layMorning" 3 3 false (21, .invokeinterface 9 30, 24, []) := (r_get (C := RX9) (T := TX9) (N := 45) (ci := 9) (j := 30) (ref := RX9) dX9_layMorning_21 rfl inX9 (by decide) wd_1030 rfl).row
theorem o205_24 : OkE cX9_layMorning RX9 "layMorning" 3 3 false (24, .iload 1, 25, []) := (r_iload_n dX9_layMorning_24 rfl).row
theorem o205_25 : OkE cX9_layMorning RX9 "layMorning" 3 3 false (25, .aload 0, 26, []) := (r_aload_n dX9_layMorning_25 rfl).row
theorem o205_26 : OkE cX9_layMorning RX9 "layMorning" 3 3 false (26, .invokeinterface 9 16, 29, []) := (r_get (C := RX9) (T := TX9) (N := 45) (ci := 9) (j := 16) (ref := RX9) dX9_layMorning_26 rfl inX9 (by decide) wd_1016 rfl).row
theorem o205_29 : OkE cX9_layMorning RX9 "layMorning" 3 3 false (29, .iload 1, 30, []) := (r_iload_n dX9_layMorning_29 rfl).row
theorem o205_30 : OkE cX9_layMorning RX9 "layMorning" 3 3 false (30, .iaload, 31, []) := (r_iald dX9_layMorning_30).row
theorem o205_31 : OkE cX9_layMorning RX9 "layMorning" 3 3 false (31, .iastore, 32, []) := r_iast dX9_layMorning_31
theorem o205_32 : OkE cX9_layMorning RX9 "layMorning" 3 3 false (32, .aload 0, 33, []) := (r_aload_n dX9_layMorning_32 rfl).row
theorem o205_33 : OkE cX9_layMorning RX9 "layMorning" 3 3 false (33, .invokeinterface 9 31, 36, []) := (r_get (C := RX9) (T := TX9) (N := 45) (ci := 9) (j := 31) (ref := RX9) dX9_layMorning_33 rfl inX9 (by decide) wd_1031 rfl).row
theorem o205_36 : OkE cX9_layMorning RX9 "layMorning" 3 3 false (36, .iload 1, 37, []) := (r_iload_n dX9_layMorning_36 rfl).row
theorem o205_37 : OkE cX9_layMorning RX9 "layMorning" 3 3 false (37, .iconst 0, 38, []) := (r_iconst dX9_layMorning_37 rfl).row
theorem o205_38 : OkE cX9_layMorning RX9 "layMorning" 3 3 false (38, .iastore, 39, []) := r_iast dX9_layMorning_38
theorem o205_39 : OkE cX9_layMorning RX9 "layMorning" 3 3 false (39, .iinc 1 1, 42, []) := (r_iinc dX9_layMorning_39 rfl).row
theorem o205_42 : OkE cX9_layMorning RX9 "layMorning" 3 3 false (42, .goto 15, 45, []) := (r_goto dX9_layMorning_42 rfl).row
theorem o205_45 : OkE cX9_layMorning RX9 "layMorning" 3 3 false (45, .iconst 0, 46, []) := (r_iconst dX9_layMorning_45 rfl).row
theorem o205_46 : OkE cX9_layMorning RX9 "layMorning" 3 3 false (46, .istore 1, 47, []) := (r_istore_n dX9_layMorning_46 rfl).row
theorem o205_47 : OkE cX9_layMorning RX9 "layMorning" 3 3 false (47, .iload 1, 48, [2]) := (r_iload_n dX9_layMorning_47 rfl).row
theorem o205_48 : OkE cX9_layMorning RX9 "layMorning" 3 3 false (48, .iconst 6, 50, []) := (r_bipush dX9_layMorning_48 rfl).row
theorem o205_50 : OkE cX9_layMorning RX9 "layMorning" 3 3 false (50, .if_icmp .ge 161, 53, []) := (r_icmp_ge dX9_layMorning_50 rfl).row
theorem o205_53 : OkE cX9_layMorning RX9 "layMorning" 3 3 false (53, .aload 0, 54, []) := (r_aload_n dX9_layMorning_53 rfl).row
theorem o205_54 : OkE cX9_layMorning RX9 "layMorning" 3 3 false (54, .iload 1, 55, []) := (r_iload_n dX9_layMorning_54 rfl).row
theorem o205_55 : OkE cX9_layMorning RX9 "layMorning" 3 3 false (55, .invokevirtual 203, 58, []) := ⟨rfl, c_V dX9_layMorning_55 wd_1347 wd_1349 wd_56 wd_74 wd_1350 nmh_9⟩
theorem o205_58 : OkE cX9_layMorning RX9 "layMorning" 3 3 false (58, .aload 0, 59, []) := (r_aload_n dX9_layMorning_58 rfl).row
theorem o205_59 : OkE cX9_layMorning RX9 "layMorning" 3 3 false (59, .invokeinterface 9 30, 62, []) := (r_get (C := RX9) (T := TX9) (N := 45) (ci := 9) (j := 30) (ref := RX9) dX9_layMorning_59 rfl inX9 (by decide) wd_1030 rfl).row
theorem o205_62 : OkE cX9_layMorning RX9 "layMorning" 3 3 false (62, .aload 0, 63, []) := (r_aload_n dX9_layMorning_62 rfl).row
theorem o205_63 : OkE cX9_layMorning RX9 "layMorning" 3 3 false (63, .invokeinterface 9 36, 66, []) := (r_get (C := RX9) (T := TX9) (N := 45) (ci := 9) (j := 36) (ref := RX9) dX9_layMorning_63 rfl inX9 (by decide) wd_1036 rfl).row
theorem o205_66 : OkE cX9_layMorning RX9 "layMorning" 3 3 false (66, .dup2, 67, []) := (r_dup2 dX9_layMorning_66).row
theorem o205_67 : OkE cX9_layMorning RX9 "layMorning" 3 3 false (67, .iaload, 68, []) := (r_iald dX9_layMorning_67).row
theorem o205_68 : OkE cX9_layMorning RX9 "layMorning" 3 3 false (68, .iload 1, 69, []) := (r_iload_n dX9_layMorning_68 rfl).row
theorem o205_69 : OkE cX9_layMorning RX9 "layMorning" 3 3 false (69, .aload 0, 70, []) := (r_aload_n dX9_layMorning_69 rfl).row
theorem o205_70 : OkE cX9_layMorning RX9 "layMorning" 3 3 false (70, .invokeinterface 9 35, 73, []) := (r_get (C := RX9) (T := TX9) (N := 45) (ci := 9) (j := 35) (ref := RX9) dX9_layMorning_70 rfl inX9 (by decide) wd_1035 rfl).row
theorem o205_73 : OkE cX9_layMorning RX9 "layMorning" 3 3 false (73, .if_icmp .ne 83, 76, []) := (r_icmp_ne dX9_layMorning_73 rfl).row
theorem o205_76 : OkE cX9_layMorning RX9 "layMorning" 3 3 false (76, .aload 0, 77, []) := (r_aload_n dX9_layMorning_76 rfl).row
theorem o205_77 : OkE cX9_layMorning RX9 "layMorning" 3 3 false (77, .invokeinterface 9 37, 80, []) := (r_get (C := RX9) (T := TX9) (N := 45) (ci := 9) (j := 37) (ref := RX9) dX9_layMorning_77 rfl inX9 (by decide) wd_1037 rfl).row
theorem o205_80 : OkE cX9_layMorning RX9 "layMorning" 3 3 false (80, .goto 84, 83, []) := (r_goto dX9_layMorning_80 rfl).row
theorem o205_83 : OkE cX9_layMorning RX9 "layMorning" 3 3 false (83, .iconst 0, 84, []) := (r_iconst dX9_layMorning_83 rfl).row
theorem o205_84 : OkE cX9_layMorning RX9 "layMorning" 3 3 false (84, .iadd, 85, [2]) := (r_iadd dX9_layMorning_84).row
theorem o205_85 : OkE cX9_layMorning RX9 "layMorning" 3 3 false (85, .iastore, 86, []) := r_iast dX9_layMorning_85
theorem o205_86 : OkE cX9_layMorning RX9 "layMorning" 3 3 false (86, .iconst 0, 87, []) := (r_iconst dX9_layMorning_86 rfl).row
theorem o205_87 : OkE cX9_layMorning RX9 "layMorning" 3 3 false (87, .istore 2, 88, []) := (r_istore_n dX9_layMorning_87 rfl).row
theorem o205_88 : OkE cX9_layMorning RX9 "layMorning" 3 3 false (88, .iload 2, 89, []) := (r_iload_n dX9_layMorning_88 rfl).row
theorem o205_89 : OkE cX9_layMorning RX9 "layMorning" 3 3 false (89, .iconst 3, 90, []) := (r_iconst dX9_layMorning_89 rfl).row
theorem o205_90 : OkE cX9_layMorning RX9 "layMorning" 3 3 false (90, .if_icmp .ge 106, 93, []) := (r_icmp_ge dX9_layMorning_90 rfl).row
theorem o205_93 : OkE cX9_layMorning RX9 "layMorning" 3 3 false (93, .aload 0, 94, []) := (r_aload_n dX9_layMorning_93 rfl).row
theorem o205_94 : OkE cX9_layMorning RX9 "layMorning" 3 3 false (94, .invokeinterface 9 32, 97, []) := (r_get (C := RX9) (T := TX9) (N := 45) (ci := 9) (j := 32) (ref := RX9) dX9_layMorning_94 rfl inX9 (by decide) wd_1032 rfl).row
theorem o205_97 : OkE cX9_layMorning RX9 "layMorning" 3 3 false (97, .iload 2, 98, []) := (r_iload_n dX9_layMorning_97 rfl).row
theorem o205_98 : OkE cX9_layMorning RX9 "layMorning" 3 3 false (98, .iconst 0, 99, []) := (r_iconst dX9_layMorning_98 rfl).row
theorem o205_99 : OkE cX9_layMorning RX9 "layMorning" 3 3 false (99, .iastore, 100, []) := r_iast dX9_layMorning_99
theorem o205_100 : OkE cX9_layMorning RX9 "layMorning" 3 3 false (100, .iinc 2 1, 103, []) := (r_iinc dX9_layMorning_100 rfl).row
theorem o205_103 : OkE cX9_layMorning RX9 "layMorning" 3 3 false (103, .goto 88, 106, []) := (r_goto dX9_layMorning_103 rfl).row
theorem o205_106 : OkE cX9_layMorning RX9 "layMorning" 3 3 false (106, .iconst 0, 107, []) := (r_iconst dX9_layMorning_106 rfl).row
theorem o205_107 : OkE cX9_layMorning RX9 "layMorning" 3 3 false (107, .istore 2, 108, []) := (r_istore_n dX9_layMorning_107 rfl).row
theorem o205_108 : OkE cX9_layMorning RX9 "layMorning" 3 3 false (108, .iload 2, 109, []) := (r_iload_n dX9_layMorning_108 rfl).row
theorem o205_109 : OkE cX9_layMorning RX9 "layMorning" 3 3 false (109, .aload 0, 110, []) := (r_aload_n dX9_layMorning_109 rfl).row
theorem o205_110 : OkE cX9_layMorning RX9 "layMorning" 3 3 false (110, .invokeinterface 9 1, 113, []) := (r_get (C := RX9) (T := TX9) (N := 45) (ci := 9) (j := 1) (ref := RX9) dX9_layMorning_110 rfl inX9 (by decide) wd_1001 rfl).row
theorem o205_113 : OkE cX9_layMorning RX9 "layMorning" 3 3 false (113, .iconst 0, 114, []) := (r_iconst dX9_layMorning_113 rfl).row
theorem o205_114 : OkE cX9_layMorning RX9 "layMorning" 3 3 false (114, .iaload, 115, []) := (r_iald dX9_layMorning_114).row
theorem o205_115 : OkE cX9_layMorning RX9 "layMorning" 3 3 false (115, .if_icmp .ge 130, 118, []) := (r_icmp_ge dX9_layMorning_115 rfl).row
theorem o205_118 : OkE cX9_layMorning RX9 "layMorning" 3 3 false (118, .aload 0, 119, []) := (r_aload_n dX9_layMorning_118 rfl).row
theorem o205_119 : OkE cX9_layMorning RX9 "layMorning" 3 3 false (119, .iload 2, 120, []) := (r_iload_n dX9_layMorning_119 rfl).row
theorem o205_120 : OkE cX9_layMorning RX9 "layMorning" 3 3 false (120, .iload 1, 121, []) := (r_iload_n dX9_layMorning_120 rfl).row
theorem o205_121 : OkE cX9_layMorning RX9 "layMorning" 3 3 false (121, .invokevirtual 204, 124, []) := ⟨rfl, c_V dX9_layMorning_121 wd_1355 wd_1357 wd_58 wd_74 wd_1358 nmh_9⟩
theorem o205_124 : OkE cX9_layMorning RX9 "layMorning" 3 3 false (124, .iinc 2 1, 127, []) := (r_iinc dX9_layMorning_124 rfl).row
theorem o205_127 : OkE cX9_layMorning RX9 "layMorning" 3 3 false (127, .goto 108, 130, []) := (r_goto dX9_layMorning_127 rfl).row
theorem o205_130 : OkE cX9_layMorning RX9 "layMorning" 3 3 false (130, .iconst 0, 131, []) := (r_iconst dX9_layMorning_130 rfl).row
theorem o205_131 : OkE cX9_layMorning RX9 "layMorning" 3 3 false (131, .istore 2, 132, []) := (r_istore_n dX9_layMorning_131 rfl).row
theorem o205_132 : OkE cX9_layMorning RX9 "layMorning" 3 3 false (132, .iload 2, 133, []) := (r_iload_n dX9_layMorning_132 rfl).row
theorem o205_133 : OkE cX9_layMorning RX9 "layMorning" 3 3 false (133, .iconst 3, 134, []) := (r_iconst dX9_layMorning_133 rfl).row
theorem o205_134 : OkE cX9_layMorning RX9 "layMorning" 3 3 false (134, .if_icmp .ge 155, 137, []) := (r_icmp_ge dX9_layMorning_134 rfl).row
theorem o205_137 : OkE cX9_layMorning RX9 "layMorning" 3 3 false (137, .aload 0, 138, []) := (r_aload_n dX9_layMorning_137 rfl).row
theorem o205_138 : OkE cX9_layMorning RX9 "layMorning" 3 3 false (138, .invokeinterface 9 31, 141, []) := (r_get (C := RX9) (T := TX9) (N := 45) (ci := 9) (j := 31) (ref := RX9) dX9_layMorning_138 rfl inX9 (by decide) wd_1031 rfl).row
theorem o205_141 : OkE cX9_layMorning RX9 "layMorning" 3 3 false (141, .iload 2, 142, []) := (r_iload_n dX9_layMorning_141 rfl).row
theorem o205_142 : OkE cX9_layMorning RX9 "layMorning" 3 3 false (142, .aload 0, 143, []) := (r_aload_n dX9_layMorning_142 rfl).row
theorem o205_143 : OkE cX9_layMorning RX9 "layMorning" 3 3 false (143, .invokeinterface 9 32, 146, []) := (r_get (C := RX9) (T := TX9) (N := 45) (ci := 9) (j := 32) (ref := RX9) dX9_layMorning_143 rfl inX9 (by decide) wd_1032 rfl).row
theorem o205_146 : OkE cX9_layMorning RX9 "layMorning" 3 3 false (146, .iload 2, 147, []) := (r_iload_n dX9_layMorning_146 rfl).row
theorem o205_147 : OkE cX9_layMorning RX9 "layMorning" 3 3 false (147, .iaload, 148, []) := (r_iald dX9_layMorning_147).row
theorem o205_148 : OkE cX9_layMorning RX9 "layMorning" 3 3 false (148, .iastore, 149, []) := r_iast dX9_layMorning_148
theorem o205_149 : OkE cX9_layMorning RX9 "layMorning" 3 3 false (149, .iinc 2 1, 152, []) := (r_iinc dX9_layMorning_149 rfl).row
theorem o205_152 : OkE cX9_layMorning RX9 "layMorning" 3 3 false (152, .goto 132, 155, []) := (r_goto dX9_layMorning_152 rfl).row
theorem o205_155 : OkE cX9_layMorning RX9 "layMorning" 3 3 false (155, .iinc 1 1, 158, []) := (r_iinc dX9_layMorning_155 rfl).row
theorem o205_158 : OkE cX9_layMorning RX9 "layMorning" 3 3 false (158, .goto 47, 161, []) := (r_goto dX9_layMorning_158 rfl).row
theorem o205_161 : OkE cX9_layMorning RX9 "layMorning" 3 3 false (161, .return_, 162, []) := dX9_layMorning_161
theorem ok205 : ∀ x ∈ k205, OkE cX9_layMorning RX9 "layMorning" 3 3 false x := List.forall_mem_cons.mpr ⟨o205_0, List.forall_mem_cons.mpr ⟨o205_1, List.forall_mem_cons.mpr ⟨o205_2, List.forall_mem_cons.mpr ⟨o205_5, List.forall_mem_cons.mpr ⟨o205_8, List.forall_mem_cons.mpr ⟨o205_9, List.forall_mem_cons.mpr ⟨o205_10, List.forall_mem_cons.mpr ⟨o205_13, List.forall_mem_cons.mpr ⟨o205_14, List.forall_mem_cons.mpr ⟨o205_15, List.forall_mem_cons.mpr ⟨o205_16, List.forall_mem_cons.mpr ⟨o205_17, List.forall_mem_cons.mpr ⟨o205_20, List.forall_mem_cons.mpr ⟨o205_21, List.forall_mem_cons.mpr ⟨o205_24, List.forall_mem_cons.mpr ⟨o205_25, List.forall_mem_cons.mpr ⟨o205_26, List.forall_mem_cons.mpr ⟨o205_29, List.forall_mem_cons.mpr ⟨o205_30, List.forall_mem_cons.mpr ⟨o205_31, List.forall_mem_cons.mpr ⟨o205_32, List.forall_mem_cons.mpr ⟨o205_33, List.forall_mem_cons.mpr ⟨o205_36, List.forall_mem_cons.mpr ⟨o205_37, List.forall_mem_cons.mpr ⟨o205_38, List.forall_mem_cons.mpr ⟨o205_39, List.forall_mem_cons.mpr ⟨o205_42, List.forall_mem_cons.mpr ⟨o205_45, List.forall_mem_cons.mpr ⟨o205_46, List.forall_mem_cons.mpr ⟨o205_47, List.forall_mem_cons.mpr ⟨o205_48, List.forall_mem_cons.mpr ⟨o205_50, List.forall_mem_cons.mpr ⟨o205_53, List.forall_mem_cons.mpr ⟨o205_54, List.forall_mem_cons.mpr ⟨o205_55, List.forall_mem_cons.mpr ⟨o205_58, List.forall_mem_cons.mpr ⟨o205_59, List.forall_mem_cons.mpr ⟨o205_62, List.forall_mem_cons.mpr ⟨o205_63, List.forall_mem_cons.mpr ⟨o205_66, List.forall_mem_cons.mpr ⟨o205_67, List.forall_mem_cons.mpr ⟨o205_68, List.forall_mem_cons.mpr ⟨o205_69, List.forall_mem_cons.mpr ⟨o205_70, List.forall_mem_cons.mpr ⟨o205_73, List.forall_mem_cons.mpr ⟨o205_76, List.forall_mem_cons.mpr ⟨o205_77, List.forall_mem_cons.mpr ⟨o205_80, List.forall_mem_cons.mpr ⟨o205_83, List.forall_mem_cons.mpr ⟨o205_84, List.forall_mem_cons.mpr ⟨o205_85, List.forall_mem_cons.mpr ⟨o205_86, List.forall_mem_cons.mpr ⟨o205_87, List.forall_mem_cons.mpr ⟨o205_88, List.forall_mem_cons.mpr ⟨o205_89, List.forall_mem_cons.mpr ⟨o205_90, List.forall_mem_cons.mpr ⟨o205_93, List.forall_mem_cons.mpr ⟨o205_94, List.forall_mem_cons.mpr ⟨o205_97, List.forall_mem_cons.mpr ⟨o205_98, List.forall_mem_cons.mpr ⟨o205_99, List.forall_mem_cons.mpr ⟨o205_100, List.forall_mem_cons.mpr ⟨o205_103, List.forall_mem_cons.mpr ⟨o205_106, List.forall_mem_cons.mpr ⟨o205_107, List.forall_mem_cons.mpr ⟨o205_108, List.forall_mem_cons.mpr ⟨o205_109, List.forall_mem_cons.mpr ⟨o205_110, List.forall_mem_cons.mpr ⟨o205_113, List.forall_mem_cons.mpr ⟨o205_114, List.forall_mem_cons.mpr ⟨o205_115, List.forall_mem_cons.mpr ⟨o205_118, List.forall_mem_cons.mpr ⟨o205_119, List.forall_mem_cons.mpr ⟨o205_120, List.forall_mem_cons.mpr ⟨o205_121, List.forall_mem_cons.mpr ⟨o205_124, List.forall_mem_cons.mpr ⟨o205_127, List.forall_mem_cons.mpr ⟨o205_130, List.forall_mem_cons.mpr ⟨o205_131, List.forall_mem_cons.mpr ⟨o205_132, List.forall_mem_cons.mpr ⟨o205_133, List.forall_mem_cons.mpr ⟨o205_134, List.forall_mem_cons.mpr ⟨o205_137, List.forall_mem_cons.mpr ⟨o205_138, List.forall_mem_cons.mpr ⟨o205_141, List.forall_mem_cons.mpr ⟨o205_142, List.forall_mem_cons.mpr ⟨o205_143, List.forall_mem_cons.mpr ⟨o205_146, List.forall_mem_cons.mpr ⟨o205_147, List.forall_mem_cons.mpr ⟨o205_148, List.forall_mem_cons.mpr ⟨o205_149, List.forall_mem_cons.mpr ⟨o205_152, List.forall_mem_cons.mpr ⟨o205_155, List.forall_mem_cons.mpr ⟨o205_158, List.forall_mem_cons.mpr ⟨o205_161, fun _ h => absurd h List.not_mem_nil⟩⟩⟩⟩⟩⟩⟩⟩⟩⟩⟩⟩⟩⟩⟩⟩⟩⟩⟩⟩⟩⟩⟩⟩⟩⟩⟩⟩⟩⟩⟩⟩⟩⟩⟩⟩⟩⟩⟩⟩⟩⟩⟩⟩⟩⟩⟩⟩⟩⟩⟩⟩⟩⟩⟩⟩⟩⟩⟩⟩⟩⟩⟩⟩⟩⟩⟩⟩⟩⟩⟩⟩⟩⟩⟩⟩⟩⟩⟩⟩⟩⟩⟩⟩⟩⟩⟩⟩⟩⟩⟩⟩⟩⟩⟩
theorem o206_0 : OkE cX9_layPlain RX9 "layPlain" 1 4 false (0, .aload 0, 1, []) := (r_aload_n dX9_layPlain_0 rfl).row
theorem o206_1 : OkE cX9_layPlain RX9 "layPlain" 1 4 false (1, .iconst 0, 2, []) := (r_iconst dX9_layPlain_1 rfl).row
theorem o206_2 : OkE cX9_layPlain RX9 "layPlain" 1 4 false (2, .multianewarray 9 37, 5, []) := r_putI (C := RX9) (T := TX9) (N := 45) (ci := 9) (j := 37) (ref := RX9) dX9_layPlain_2 rfl inX9 tyX9 tyX9_ok nmX9 (by decide) wd_1037 rfl rfl (tyX9_ok 37 (by decide)) rfl
theorem o206_5 : OkE cX9_layPlain RX9 "layPlain" 1 4 false (5, .aload 0, 6, []) := (r_aload_n dX9_layPlain_5 rfl).row
theorem o206_6 : OkE cX9_layPlain RX9 "layPlain" 1 4 false (6, .iconst 0, 7, []) := (r_iconst dX9_layPlain_6 rfl).row
theorem o206_7 : OkE cX9_layPlain RX9 "layPlain" 1 4 false (7, .multianewarray 9 36, 10, []) := r_putI (C := RX9) (T := TX9) (N := 45) (ci := 9) (j := 36) (ref := RX9) dX9_layPlain_7 rfl inX9 tyX9 tyX9_ok nmX9 (by decide) wd_1036 rfl rfl (tyX9_ok 36 (by decide)) rfl
theorem o206_10 : OkE cX9_layPlain RX9 "layPlain" 1 4 false (10, .aload 0, 11, []) := (r_aload_n dX9_layPlain_10 rfl).row
theorem o206_11 : OkE cX9_layPlain RX9 "layPlain" 1 4 false (11, .iconst (-1), 12, []) := (r_iconst dX9_layPlain_11 rfl).row
theorem o206_12 : OkE cX9_layPlain RX9 "layPlain" 1 4 false (12, .multianewarray 9 38, 15, []) := r_putI (C := RX9) (T := TX9) (N := 45) (ci := 9) (j := 38) (ref := RX9) dX9_layPlain_12 rfl inX9 tyX9 tyX9_ok nmX9 (by decide) wd_1038 rfl rfl (tyX9_ok 38 (by decide)) rfl
theorem o206_15 : OkE cX9_layPlain RX9 "layPlain" 1 4 false (15, .aload 0, 16, []) := (r_aload_n dX9_layPlain_15 rfl).row
theorem o206_16 : OkE cX9_layPlain RX9 "layPlain" 1 4 false (16, .invokevirtual 205, 19, []) := ⟨rfl, c_V dX9_layPlain_16 wd_1343 wd_1345 wd_55 wd_74 wd_1346 nmh_9⟩
theorem o206_19 : OkE cX9_layPlain RX9 "layPlain" 1 4 false (19, .return_, 20, []) := dX9_layPlain_19
theorem ok206 : ∀ x ∈ k206, OkE cX9_layPlain RX9 "layPlain" 1 4 false x := List.forall_mem_cons.mpr ⟨o206_0, List.forall_mem_cons.mpr ⟨o206_1, List.forall_mem_cons.mpr ⟨o206_2, List.forall_mem_cons.mpr ⟨o206_5, List.forall_mem_cons.mpr ⟨o206_6, List.forall_mem_cons.mpr ⟨o206_7, List.forall_mem_cons.mpr ⟨o206_10, List.forall_mem_cons.mpr ⟨o206_11, List.forall_mem_cons.mpr ⟨o206_12, List.forall_mem_cons.mpr ⟨o206_15, List.forall_mem_cons.mpr ⟨o206_16, List.forall_mem_cons.mpr ⟨o206_19, fun _ h => absurd h List.not_mem_nil⟩⟩⟩⟩⟩⟩⟩⟩⟩⟩⟩⟩
theorem o207_0 : OkE cX9_morning RX9 "morning" 5 5 false (0, .aload 0, 1, []) := (r_aload_n dX9_morning_0 rfl).row
theorem o207_1 : OkE cX9_morning RX9 "morning" 5 5 false (1, .iload 1, 2, []) := (r_iload_n dX9_morning_1 rfl).row
theorem o207_2 : OkE cX9_morning RX9 "morning" 5 5 false (2, .invokevirtual 163, 5, []) := ⟨rfl, c_V dX9_morning_2 wd_1175 wd_1177 wd_41 wd_74 wd_1178 nmh_9⟩
theorem o207_5 : OkE cX9_morning RX9 "morning" 5 5 false (5, .ifCond .eq 15, 8, []) := (r_if_eq dX9_morning_5 rfl).row
theorem o207_8 : OkE cX9_morning RX9 "morning" 5 5 false (8, .iload 2, 9, []) := (r_iload_n dX9_morning_8 rfl).row
theorem o207_9 : OkE cX9_morning RX9 "morning" 5 5 false (9, .invokestatic 195, 12, []) := ⟨rfl, c_S dX9_morning_9 wd_1328 wd_1329 wd_74 wd_1330 nmh_9⟩
theorem o207_12 : OkE cX9_morning RX9 "morning" 5 5 false (12, .ifCond .ne 17, 15, []) := (r_if_ne dX9_morning_12 rfl).row
theorem o207_15 : OkE cX9_morning RX9 "morning" 5 5 false (15, .iconst (-1), 16, [0, 1, 2, 3]) := (r_iconst dX9_morning_15 rfl).row
theorem o207_16 : OkE cX9_morning RX9 "morning" 5 5 false (16, .ireturn, 17, []) := dX9_morning_16
theorem o207_17 : OkE cX9_morning RX9 "morning" 5 5 false (17, .aload 0, 18, []) := (r_aload_n dX9_morning_17 rfl).row
theorem o207_18 : OkE cX9_morning RX9 "morning" 5 5 false (18, .invokevirtual 206, 21, []) := ⟨rfl, c_V dX9_morning_18 wd_1339 wd_1341 wd_54 wd_74 wd_1342 nmh_9⟩
theorem o207_21 : OkE cX9_morning RX9 "morning" 5 5 false (21, .iconst 6, 23, []) := (r_bipush dX9_morning_21 rfl).row
theorem o207_23 : OkE cX9_morning RX9 "morning" 5 5 false (23, .iload 1, 24, []) := (r_iload_n dX9_morning_23 rfl).row
theorem o207_24 : OkE cX9_morning RX9 "morning" 5 5 false (24, .imul, 25, []) := (r_imul dX9_morning_24).row
theorem o207_25 : OkE cX9_morning RX9 "morning" 5 5 false (25, .iload 2, 26, []) := (r_iload_n dX9_morning_25 rfl).row
theorem o207_26 : OkE cX9_morning RX9 "morning" 5 5 false (26, .iadd, 27, []) := (r_iadd dX9_morning_26).row
theorem o207_27 : OkE cX9_morning RX9 "morning" 5 5 false (27, .istore 4, 29, []) := (r_istore dX9_morning_27).row
theorem o207_29 : OkE cX9_morning RX9 "morning" 5 5 false (29, .iload 3, 30, []) := (r_iload_n dX9_morning_29 rfl).row
theorem o207_30 : OkE cX9_morning RX9 "morning" 5 5 false (30, .ifCond .ne 43, 33, []) := (r_if_ne dX9_morning_30 rfl).row
theorem o207_33 : OkE cX9_morning RX9 "morning" 5 5 false (33, .aload 0, 34, []) := (r_aload_n dX9_morning_33 rfl).row
theorem o207_34 : OkE cX9_morning RX9 "morning" 5 5 false (34, .invokeinterface 9 26, 37, []) := (r_get (C := RX9) (T := TX9) (N := 45) (ci := 9) (j := 26) (ref := RX9) dX9_morning_34 rfl inX9 (by decide) wd_1026 rfl).row
theorem o207_37 : OkE cX9_morning RX9 "morning" 5 5 false (37, .iload 4, 39, []) := (r_iload dX9_morning_37).row
theorem o207_39 : OkE cX9_morning RX9 "morning" 5 5 false (39, .iaload, 40, []) := (r_iald dX9_morning_39).row
theorem o207_40 : OkE cX9_morning RX9 "morning" 5 5 false (40, .goto 90, 43, []) := (r_goto dX9_morning_40 rfl).row
theorem o207_43 : OkE cX9_morning RX9 "morning" 5 5 false (43, .iload 3, 44, []) := (r_iload_n dX9_morning_43 rfl).row
theorem o207_44 : OkE cX9_morning RX9 "morning" 5 5 false (44, .iconst 1, 45, []) := (r_iconst dX9_morning_44 rfl).row
theorem o207_45 : OkE cX9_morning RX9 "morning" 5 5 false (45, .if_icmp .ne 58, 48, []) := (r_icmp_ne dX9_morning_45 rfl).row
theorem o207_48 : OkE cX9_morning RX9 "morning" 5 5 false (48, .aload 0, 49, []) := (r_aload_n dX9_morning_48 rfl).row
theorem o207_49 : OkE cX9_morning RX9 "morning" 5 5 false (49, .invokeinterface 9 27, 52, []) := (r_get (C := RX9) (T := TX9) (N := 45) (ci := 9) (j := 27) (ref := RX9) dX9_morning_49 rfl inX9 (by decide) wd_1027 rfl).row
theorem o207_52 : OkE cX9_morning RX9 "morning" 5 5 false (52, .iload 4, 54, []) := (r_iload dX9_morning_52).row
theorem o207_54 : OkE cX9_morning RX9 "morning" 5 5 false (54, .iaload, 55, []) := (r_iald dX9_morning_54).row
theorem o207_55 : OkE cX9_morning RX9 "morning" 5 5 false (55, .goto 90, 58, []) := (r_goto dX9_morning_55 rfl).row
theorem o207_58 : OkE cX9_morning RX9 "morning" 5 5 false (58, .iload 3, 59, []) := (r_iload_n dX9_morning_58 rfl).row
theorem o207_59 : OkE cX9_morning RX9 "morning" 5 5 false (59, .iconst 2, 60, []) := (r_iconst dX9_morning_59 rfl).row
theorem o207_60 : OkE cX9_morning RX9 "morning" 5 5 false (60, .if_icmp .ne 73, 63, []) := (r_icmp_ne dX9_morning_60 rfl).row
theorem o207_63 : OkE cX9_morning RX9 "morning" 5 5 false (63, .aload 0, 64, []) := (r_aload_n dX9_morning_63 rfl).row
theorem o207_64 : OkE cX9_morning RX9 "morning" 5 5 false (64, .invokeinterface 9 28, 67, []) := (r_get (C := RX9) (T := TX9) (N := 45) (ci := 9) (j := 28) (ref := RX9) dX9_morning_64 rfl inX9 (by decide) wd_1028 rfl).row
theorem o207_67 : OkE cX9_morning RX9 "morning" 5 5 false (67, .iload 4, 69, []) := (r_iload dX9_morning_67).row
theorem o207_69 : OkE cX9_morning RX9 "morning" 5 5 false (69, .iaload, 70, []) := (r_iald dX9_morning_69).row
theorem o207_70 : OkE cX9_morning RX9 "morning" 5 5 false (70, .goto 90, 73, []) := (r_goto dX9_morning_70 rfl).row
theorem o207_73 : OkE cX9_morning RX9 "morning" 5 5 false (73, .iload 3, 74, []) := (r_iload_n dX9_morning_73 rfl).row
theorem o207_74 : OkE cX9_morning RX9 "morning" 5 5 false (74, .iconst 3, 75, []) := (r_iconst dX9_morning_74 rfl).row
theorem o207_75 : OkE cX9_morning RX9 "morning" 5 5 false (75, .if_icmp .ne 88, 78, []) := (r_icmp_ne dX9_morning_75 rfl).row
theorem o207_78 : OkE cX9_morning RX9 "morning" 5 5 false (78, .aload 0, 79, []) := (r_aload_n dX9_morning_78 rfl).row
theorem o207_79 : OkE cX9_morning RX9 "morning" 5 5 false (79, .invokeinterface 9 29, 82, []) := (r_get (C := RX9) (T := TX9) (N := 45) (ci := 9) (j := 29) (ref := RX9) dX9_morning_79 rfl inX9 (by decide) wd_1029 rfl).row
theorem o207_82 : OkE cX9_morning RX9 "morning" 5 5 false (82, .iload 4, 84, []) := (r_iload dX9_morning_82).row
theorem o207_84 : OkE cX9_morning RX9 "morning" 5 5 false (84, .iaload, 85, []) := (r_iald dX9_morning_84).row
theorem o207_85 : OkE cX9_morning RX9 "morning" 5 5 false (85, .goto 90, 88, []) := (r_goto dX9_morning_85 rfl).row
theorem o207_88 : OkE cX9_morning RX9 "morning" 5 5 false (88, .iconst (-2), 90, []) := (r_bipush dX9_morning_88 rfl).row
theorem o207_90 : OkE cX9_morning RX9 "morning" 5 5 false (90, .ireturn, 91, [0, 1, 2, 3, 4]) := dX9_morning_90
theorem ok207 : ∀ x ∈ k207, OkE cX9_morning RX9 "morning" 5 5 false x := List.forall_mem_cons.mpr ⟨o207_0, List.forall_mem_cons.mpr ⟨o207_1, List.forall_mem_cons.mpr ⟨o207_2, List.forall_mem_cons.mpr ⟨o207_5, List.forall_mem_cons.mpr ⟨o207_8, List.forall_mem_cons.mpr ⟨o207_9, List.forall_mem_cons.mpr ⟨o207_12, List.forall_mem_cons.mpr ⟨o207_15, List.forall_mem_cons.mpr ⟨o207_16, List.forall_mem_cons.mpr ⟨o207_17, List.forall_mem_cons.mpr ⟨o207_18, List.forall_mem_cons.mpr ⟨o207_21, List.forall_mem_cons.mpr ⟨o207_23, List.forall_mem_cons.mpr ⟨o207_24, List.forall_mem_cons.mpr ⟨o207_25, List.forall_mem_cons.mpr ⟨o207_26, List.forall_mem_cons.mpr ⟨o207_27, List.forall_mem_cons.mpr ⟨o207_29, List.forall_mem_cons.mpr ⟨o207_30, List.forall_mem_cons.mpr ⟨o207_33, List.forall_mem_cons.mpr ⟨o207_34, List.forall_mem_cons.mpr ⟨o207_37, List.forall_mem_cons.mpr ⟨o207_39, List.forall_mem_cons.mpr ⟨o207_40, List.forall_mem_cons.mpr ⟨o207_43, List.forall_mem_cons.mpr ⟨o207_44, List.forall_mem_cons.mpr ⟨o207_45, List.forall_mem_cons.mpr ⟨o207_48, List.forall_mem_cons.mpr ⟨o207_49, List.forall_mem_cons.mpr ⟨o207_52, List.forall_mem_cons.mpr ⟨o207_54, List.forall_mem_cons.mpr ⟨o207_55, List.forall_mem_cons.mpr ⟨o207_58, List.forall_mem_cons.mpr ⟨o207_59, List.forall_mem_cons.mpr ⟨o207_60, List.forall_mem_cons.mpr ⟨o207_63, List.forall_mem_cons.mpr ⟨o207_64, List.forall_mem_cons.mpr ⟨o207_67, List.forall_mem_cons.mpr ⟨o207_69, List.forall_mem_cons.mpr ⟨o207_70, List.forall_mem_cons.mpr ⟨o207_73, List.forall_mem_cons.mpr ⟨o207_74, List.forall_mem_cons.mpr ⟨o207_75, List.forall_mem_cons.mpr ⟨o207_78, List.forall_mem_cons.mpr ⟨o207_79, List.forall_mem_cons.mpr ⟨o207_82, List.forall_mem_cons.mpr ⟨o207_84, List.forall_mem_cons.mpr ⟨o207_85, List.forall_mem_cons.mpr ⟨o207_88, List.forall_mem_cons.mpr ⟨o207_90, fun _ h => absurd h List.not_mem_nil⟩⟩⟩⟩⟩⟩⟩⟩⟩⟩⟩⟩⟩⟩⟩⟩⟩⟩⟩⟩⟩⟩⟩⟩⟩⟩⟩⟩⟩⟩⟩⟩⟩⟩⟩⟩⟩⟩⟩⟩⟩⟩⟩⟩⟩⟩⟩⟩⟩⟩
theorem o208_0 : OkE cX9_allSold RX9 "allSold" 3 0 false (0, .iconst 0, 1, []) := (r_iconst dX9_allSold_0 rfl).row
theorem o208_1 : OkE cX9_allSold RX9 "allSold" 3 0 false (1, .istore 1, 2, []) := (r_istore_n dX9_allSold_1 rfl).row
theorem o208_2 : OkE cX9_allSold RX9 "allSold" 3 0 false (2, .iconst 0, 3, []) := (r_iconst dX9_allSold_2 rfl).row
theorem o208_3 : OkE cX9_allSold RX9 "allSold" 3 0 false (3, .istore 2, 4, []) := (r_istore_n dX9_allSold_3 rfl).row
theorem o208_4 : OkE cX9_allSold RX9 "allSold" 3 0 false (4, .iload 2, 5, []) := (r_iload_n dX9_allSold_4 rfl).row
theorem o208_5 : OkE cX9_allSold RX9 "allSold" 3 0 false (5, .aload 0, 6, []) := (r_aload_n dX9_allSold_5 rfl).row
theorem o208_6 : OkE cX9_allSold RX9 "allSold" 3 0 false (6, .invokeinterface 9 1, 9, []) := (r_get (C := RX9) (T := TX9) (N := 45) (ci := 9) (j := 1) (ref := RX9) dX9_allSold_6 rfl inX9 (by decide) wd_1001 rfl).row
theorem o208_9 : OkE cX9_allSold RX9 "allSold" 3 0 false (9, .iconst 0, 10, []) := (r_iconst dX9_allSold_9 rfl).row
theorem o208_10 : OkE cX9_allSold RX9 "allSold" 3 0 false (10, .iaload, 11, []) := (r_iald dX9_allSold_10).row
theorem o208_11 : OkE cX9_allSold RX9 "allSold" 3 0 false (11, .if_icmp .ge 34, 14, []) := (r_icmp_ge dX9_allSold_11 rfl).row
theorem o208_14 : OkE cX9_allSold RX9 "allSold" 3 0 false (14, .iload 1, 15, []) := (r_iload_n dX9_allSold_14 rfl).row
theorem o208_15 : OkE cX9_allSold RX9 "allSold" 3 0 false (15, .aload 0, 16, []) := (r_aload_n dX9_allSold_15 rfl).row
theorem o208_16 : OkE cX9_allSold RX9 "allSold" 3 0 false (16, .invokeinterface 9 27, 19, []) := (r_get (C := RX9) (T := TX9) (N := 45) (ci := 9) (j := 27) (ref := RX9) dX9_allSold_16 rfl inX9 (by decide) wd_1027 rfl).row
theorem o208_19 : OkE cX9_allSold RX9 "allSold" 3 0 false (19, .iconst 6, 21, []) := (r_bipush dX9_allSold_19 rfl).row
theorem o208_21 : OkE cX9_allSold RX9 "allSold" 3 0 false (21, .iload 2, 22, []) := (r_iload_n dX9_allSold_21 rfl).row
theorem o208_22 : OkE cX9_allSold RX9 "allSold" 3 0 false (22, .imul, 23, []) := (r_imul dX9_allSold_22).row
theorem o208_23 : OkE cX9_allSold RX9 "allSold" 3 0 false (23, .iconst 5, 24, []) := (r_iconst dX9_allSold_23 rfl).row
theorem o208_24 : OkE cX9_allSold RX9 "allSold" 3 0 false (24, .iadd, 25, []) := (r_iadd dX9_allSold_24).row
theorem o208_25 : OkE cX9_allSold RX9 "allSold" 3 0 false (25, .iaload, 26, []) := (r_iald dX9_allSold_25).row
theorem o208_26 : OkE cX9_allSold RX9 "allSold" 3 0 false (26, .iadd, 27, []) := (r_iadd dX9_allSold_26).row
theorem o208_27 : OkE cX9_allSold RX9 "allSold" 3 0 false (27, .istore 1, 28, []) := (r_istore_n dX9_allSold_27 rfl).row
theorem o208_28 : OkE cX9_allSold RX9 "allSold" 3 0 false (28, .iinc 2 1, 31, []) := (r_iinc dX9_allSold_28 rfl).row
theorem o208_31 : OkE cX9_allSold RX9 "allSold" 3 0 false (31, .goto 4, 34, []) := (r_goto dX9_allSold_31 rfl).row
theorem o208_34 : OkE cX9_allSold RX9 "allSold" 3 0 false (34, .iload 1, 35, []) := (r_iload_n dX9_allSold_34 rfl).row
theorem o208_35 : OkE cX9_allSold RX9 "allSold" 3 0 false (35, .ireturn, 36, []) := dX9_allSold_35
theorem ok208 : ∀ x ∈ k208, OkE cX9_allSold RX9 "allSold" 3 0 false x := List.forall_mem_cons.mpr ⟨o208_0, List.forall_mem_cons.mpr ⟨o208_1, List.forall_mem_cons.mpr ⟨o208_2, List.forall_mem_cons.mpr ⟨o208_3, List.forall_mem_cons.mpr ⟨o208_4, List.forall_mem_cons.mpr ⟨o208_5, List.forall_mem_cons.mpr ⟨o208_6, List.forall_mem_cons.mpr ⟨o208_9, List.forall_mem_cons.mpr ⟨o208_10, List.forall_mem_cons.mpr ⟨o208_11, List.forall_mem_cons.mpr ⟨o208_14, List.forall_mem_cons.mpr ⟨o208_15, List.forall_mem_cons.mpr ⟨o208_16, List.forall_mem_cons.mpr ⟨o208_19, List.forall_mem_cons.mpr ⟨o208_21, List.forall_mem_cons.mpr ⟨o208_22, List.forall_mem_cons.mpr ⟨o208_23, List.forall_mem_cons.mpr ⟨o208_24, List.forall_mem_cons.mpr ⟨o208_25, List.forall_mem_cons.mpr ⟨o208_26, List.forall_mem_cons.mpr ⟨o208_27, List.forall_mem_cons.mpr ⟨o208_28, List.forall_mem_cons.mpr ⟨o208_31, List.forall_mem_cons.mpr ⟨o208_34, List.forall_mem_cons.mpr ⟨o208_35, fun _ h => absurd h List.not_mem_nil⟩⟩⟩⟩⟩⟩⟩⟩⟩⟩⟩⟩⟩⟩⟩⟩⟩⟩⟩⟩⟩⟩⟩⟩⟩
theorem o209_0 : OkE cX9_allGiven RX9 "allGiven" 1 0 false (0, .aload 0, 1, []) := (r_aload_n dX9_allGiven_0 rfl).row
theorem o209_1 : OkE cX9_allGiven RX9 "allGiven" 1 0 false (1, .invokeinterface 9 16, 4, []) := (r_get (C := RX9) (T := TX9) (N := 45) (ci := 9) (j := 16) (ref := RX9) dX9_allGiven_1 rfl inX9 (by decide) wd_1016 rfl).row
theorem o209_4 : OkE cX9_allGiven RX9 "allGiven" 1 0 false (4, .iconst 0, 5, []) := (r_iconst dX9_allGiven_4 rfl).row
theorem o209_5 : OkE cX9_allGiven RX9 "allGiven" 1 0 false (5, .iaload, 6, []) := (r_iald dX9_allGiven_5).row
theorem o209_6 : OkE cX9_allGiven RX9 "allGiven" 1 0 false (6, .aload 0, 7, []) := (r_aload_n dX9_allGiven_6 rfl).row
theorem o209_7 : OkE cX9_allGiven RX9 "allGiven" 1 0 false (7, .invokeinterface 9 16, 10, []) := (r_get (C := RX9) (T := TX9) (N := 45) (ci := 9) (j := 16) (ref := RX9) dX9_allGiven_7 rfl inX9 (by decide) wd_1016 rfl).row
theorem o209_10 : OkE cX9_allGiven RX9 "allGiven" 1 0 false (10, .iconst 1, 11, []) := (r_iconst dX9_allGiven_10 rfl).row
theorem o209_11 : OkE cX9_allGiven RX9 "allGiven" 1 0 false (11, .iaload, 12, []) := (r_iald dX9_allGiven_11).row
theorem o209_12 : OkE cX9_allGiven RX9 "allGiven" 1 0 false (12, .iadd, 13, []) := (r_iadd dX9_allGiven_12).row
theorem o209_13 : OkE cX9_allGiven RX9 "allGiven" 1 0 false (13, .aload 0, 14, []) := (r_aload_n dX9_allGiven_13 rfl).row
theorem o209_14 : OkE cX9_allGiven RX9 "allGiven" 1 0 false (14, .invokeinterface 9 16, 17, []) := (r_get (C := RX9) (T := TX9) (N := 45) (ci := 9) (j := 16) (ref := RX9) dX9_allGiven_14 rfl inX9 (by decide) wd_1016 rfl).row
theorem o209_17 : OkE cX9_allGiven RX9 "allGiven" 1 0 false (17, .iconst 2, 18, []) := (r_iconst dX9_allGiven_17 rfl).row
theorem o209_18 : OkE cX9_allGiven RX9 "allGiven" 1 0 false (18, .iaload, 19, []) := (r_iald dX9_allGiven_18).row
theorem o209_19 : OkE cX9_allGiven RX9 "allGiven" 1 0 false (19, .iadd, 20, []) := (r_iadd dX9_allGiven_19).row
theorem o209_20 : OkE cX9_allGiven RX9 "allGiven" 1 0 false (20, .ireturn, 21, []) := dX9_allGiven_20
theorem ok209 : ∀ x ∈ k209, OkE cX9_allGiven RX9 "allGiven" 1 0 false x := List.forall_mem_cons.mpr ⟨o209_0, List.forall_mem_cons.mpr ⟨o209_1, List.forall_mem_cons.mpr ⟨o209_4, List.forall_mem_cons.mpr ⟨o209_5, List.forall_mem_cons.mpr ⟨o209_6, List.forall_mem_cons.mpr ⟨o209_7, List.forall_mem_cons.mpr ⟨o209_10, List.forall_mem_cons.mpr ⟨o209_11, List.forall_mem_cons.mpr ⟨o209_12, List.forall_mem_cons.mpr ⟨o209_13, List.forall_mem_cons.mpr ⟨o209_14, List.forall_mem_cons.mpr ⟨o209_17, List.forall_mem_cons.mpr ⟨o209_18, List.forall_mem_cons.mpr ⟨o209_19, List.forall_mem_cons.mpr ⟨o209_20, fun _ h => absurd h List.not_mem_nil⟩⟩⟩⟩⟩⟩⟩⟩⟩⟩⟩⟩⟩⟩⟩
theorem o210_0 : OkE cX9_ended RX9 "ended" 4 5 false (0, .aload 0, 1, []) := (r_aload_n dX9_ended_0 rfl).row
theorem o210_1 : OkE cX9_ended RX9 "ended" 4 5 false (1, .invokevirtual 206, 4, []) := ⟨rfl, c_V dX9_ended_1 wd_1339 wd_1341 wd_54 wd_74 wd_1342 nmh_9⟩
theorem o210_4 : OkE cX9_ended RX9 "ended" 4 5 false (4, .iconst 0, 5, []) := (r_iconst dX9_ended_4 rfl).row
theorem o210_5 : OkE cX9_ended RX9 "ended" 4 5 false (5, .istore 2, 6, []) := (r_istore_n dX9_ended_5 rfl).row
theorem o210_6 : OkE cX9_ended RX9 "ended" 4 5 false (6, .iconst 0, 7, []) := (r_iconst dX9_ended_6 rfl).row
theorem o210_7 : OkE cX9_ended RX9 "ended" 4 5 false (7, .istore 3, 8, []) := (r_istore_n dX9_ended_7 rfl).row
theorem o210_8 : OkE cX9_ended RX9 "ended" 4 5 false (8, .iload 3, 9, []) := (r_iload_n dX9_ended_8 rfl).row
theorem o210_9 : OkE cX9_ended RX9 "ended" 4 5 false (9, .aload 0, 10, []) := (r_aload_n dX9_ended_9 rfl).row
theorem o210_10 : OkE cX9_ended RX9 "ended" 4 5 false (10, .invokeinterface 9 1, 13, []) := (r_get (C := RX9) (T := TX9) (N := 45) (ci := 9) (j := 1) (ref := RX9) dX9_ended_10 rfl inX9 (by decide) wd_1001 rfl).row
theorem o210_13 : OkE cX9_ended RX9 "ended" 4 5 false (13, .iconst 0, 14, []) := (r_iconst dX9_ended_13 rfl).row
theorem o210_14 : OkE cX9_ended RX9 "ended" 4 5 false (14, .iaload, 15, []) := (r_iald dX9_ended_14).row
theorem o210_15 : OkE cX9_ended RX9 "ended" 4 5 false (15, .if_icmp .ge 38, 18, []) := (r_icmp_ge dX9_ended_15 rfl).row
theorem o210_18 : OkE cX9_ended RX9 "ended" 4 5 false (18, .iload 2, 19, []) := (r_iload_n dX9_ended_18 rfl).row
theorem o210_19 : OkE cX9_ended RX9 "ended" 4 5 false (19, .aload 0, 20, []) := (r_aload_n dX9_ended_19 rfl).row
theorem o210_20 : OkE cX9_ended RX9 "ended" 4 5 false (20, .invokeinterface 9 26, 23, []) := (r_get (C := RX9) (T := TX9) (N := 45) (ci := 9) (j := 26) (ref := RX9) dX9_ended_20 rfl inX9 (by decide) wd_1026 rfl).row
theorem o210_23 : OkE cX9_ended RX9 "ended" 4 5 false (23, .iconst 6, 25, []) := (r_bipush dX9_ended_23 rfl).row
theorem o210_25 : OkE cX9_ended RX9 "ended" 4 5 false (25, .iload 3, 26, []) := (r_iload_n dX9_ended_25 rfl).row
theorem o210_26 : OkE cX9_ended RX9 "ended" 4 5 false (26, .imul, 27, []) := (r_imul dX9_ended_26).row
theorem o210_27 : OkE cX9_ended RX9 "ended" 4 5 false (27, .iconst 5, 28, []) := (r_iconst dX9_ended_27 rfl).row
theorem o210_28 : OkE cX9_ended RX9 "ended" 4 5 false (28, .iadd, 29, []) := (r_iadd dX9_ended_28).row
theorem o210_29 : OkE cX9_ended RX9 "ended" 4 5 false (29, .iaload, 30, []) := (r_iald dX9_ended_29).row
theorem o210_30 : OkE cX9_ended RX9 "ended" 4 5 false (30, .iadd, 31, []) := (r_iadd dX9_ended_30).row
theorem o210_31 : OkE cX9_ended RX9 "ended" 4 5 false (31, .istore 2, 32, []) := (r_istore_n dX9_ended_31 rfl).row
theorem o210_32 : OkE cX9_ended RX9 "ended" 4 5 false (32, .iinc 3 1, 35, []) := (r_iinc dX9_ended_32 rfl).row
theorem o210_35 : OkE cX9_ended RX9 "ended" 4 5 false (35, .goto 8, 38, []) := (r_goto dX9_ended_35 rfl).row
theorem o210_38 : OkE cX9_ended RX9 "ended" 4 5 false (38, .iconst 100000, 41, []) := (r_ldcw wd_1363 dX9_ended_38 rfl).row
theorem o210_41 : OkE cX9_ended RX9 "ended" 4 5 false (41, .aload 0, 42, []) := (r_aload_n dX9_ended_41 rfl).row
theorem o210_42 : OkE cX9_ended RX9 "ended" 4 5 false (42, .invokevirtual 208, 45, []) := ⟨rfl, c_V dX9_ended_42 wd_1364 wd_1366 wd_59 wd_74 wd_1367 nmh_9⟩
theorem o210_45 : OkE cX9_ended RX9 "ended" 4 5 false (45, .aload 0, 46, []) := (r_aload_n dX9_ended_45 rfl).row
theorem o210_46 : OkE cX9_ended RX9 "ended" 4 5 false (46, .invokeinterface 9 1, 49, []) := (r_get (C := RX9) (T := TX9) (N := 45) (ci := 9) (j := 1) (ref := RX9) dX9_ended_46 rfl inX9 (by decide) wd_1001 rfl).row
theorem o210_49 : OkE cX9_ended RX9 "ended" 4 5 false (49, .iconst 5, 50, []) := (r_iconst dX9_ended_49 rfl).row
theorem o210_50 : OkE cX9_ended RX9 "ended" 4 5 false (50, .iaload, 51, []) := (r_iald dX9_ended_50).row
theorem o210_51 : OkE cX9_ended RX9 "ended" 4 5 false (51, .imul, 52, []) := (r_imul dX9_ended_51).row
theorem o210_52 : OkE cX9_ended RX9 "ended" 4 5 false (52, .iadd, 53, []) := (r_iadd dX9_ended_52).row
theorem o210_53 : OkE cX9_ended RX9 "ended" 4 5 false (53, .iload 2, 54, []) := (r_iload_n dX9_ended_53 rfl).row
theorem o210_54 : OkE cX9_ended RX9 "ended" 4 5 false (54, .aload 0, 55, []) := (r_aload_n dX9_ended_54 rfl).row
theorem o210_55 : OkE cX9_ended RX9 "ended" 4 5 false (55, .invokeinterface 9 33, 58, []) := (r_get (C := RX9) (T := TX9) (N := 45) (ci := 9) (j := 33) (ref := RX9) dX9_ended_55 rfl inX9 (by decide) wd_1033 rfl).row
theorem o210_58 : OkE cX9_ended RX9 "ended" 4 5 false (58, .iadd, 59, []) := (r_iadd dX9_ended_58).row
theorem o210_59 : OkE cX9_ended RX9 "ended" 4 5 false (59, .aload 0, 60, []) := (r_aload_n dX9_ended_59 rfl).row
theorem o210_60 : OkE cX9_ended RX9 "ended" 4 5 false (60, .invokeinterface 9 1, 63, []) := (r_get (C := RX9) (T := TX9) (N := 45) (ci := 9) (j := 1) (ref := RX9) dX9_ended_60 rfl inX9 (by decide) wd_1001 rfl).row
theorem o210_63 : OkE cX9_ended RX9 "ended" 4 5 false (63, .iconst 6, 65, []) := (r_bipush dX9_ended_63 rfl).row
theorem o210_65 : OkE cX9_ended RX9 "ended" 4 5 false (65, .iaload, 66, []) := (r_iald dX9_ended_65).row
theorem o210_66 : OkE cX9_ended RX9 "ended" 4 5 false (66, .imul, 67, []) := (r_imul dX9_ended_66).row
theorem o210_67 : OkE cX9_ended RX9 "ended" 4 5 false (67, .iadd, 68, []) := (r_iadd dX9_ended_67).row
theorem o210_68 : OkE cX9_ended RX9 "ended" 4 5 false (68, .aload 0, 69, []) := (r_aload_n dX9_ended_68 rfl).row
theorem o210_69 : OkE cX9_ended RX9 "ended" 4 5 false (69, .invokevirtual 209, 72, []) := ⟨rfl, c_V dX9_ended_69 wd_1368 wd_1370 wd_60 wd_74 wd_1371 nmh_9⟩
theorem o210_72 : OkE cX9_ended RX9 "ended" 4 5 false (72, .aload 0, 73, []) := (r_aload_n dX9_ended_72 rfl).row
theorem o210_73 : OkE cX9_ended RX9 "ended" 4 5 false (73, .invokeinterface 9 19, 76, []) := (r_get (C := RX9) (T := TX9) (N := 45) (ci := 9) (j := 19) (ref := RX9) dX9_ended_73 rfl inX9 (by decide) wd_1019 rfl).row
theorem o210_76 : OkE cX9_ended RX9 "ended" 4 5 false (76, .iadd, 77, []) := (r_iadd dX9_ended_76).row
theorem o210_77 : OkE cX9_ended RX9 "ended" 4 5 false (77, .aload 0, 78, []) := (r_aload_n dX9_ended_77 rfl).row
theorem o210_78 : OkE cX9_ended RX9 "ended" 4 5 false (78, .invokeinterface 9 1, 81, []) := (r_get (C := RX9) (T := TX9) (N := 45) (ci := 9) (j := 1) (ref := RX9) dX9_ended_78 rfl inX9 (by decide) wd_1001 rfl).row
theorem o210_81 : OkE cX9_ended RX9 "ended" 4 5 false (81, .iconst 4, 82, []) := (r_iconst dX9_ended_81 rfl).row
theorem o210_82 : OkE cX9_ended RX9 "ended" 4 5 false (82, .iaload, 83, []) := (r_iald dX9_ended_82).row
theorem o210_83 : OkE cX9_ended RX9 "ended" 4 5 false (83, .imul, 84, []) := (r_imul dX9_ended_83).row
theorem o210_84 : OkE cX9_ended RX9 "ended" 4 5 false (84, .isub, 85, []) := (r_isub dX9_ended_84).row
theorem o210_85 : OkE cX9_ended RX9 "ended" 4 5 false (85, .istore 3, 86, []) := (r_istore_n dX9_ended_85 rfl).row
theorem o210_86 : OkE cX9_ended RX9 "ended" 4 5 false (86, .iload 1, 87, []) := (r_iload_n dX9_ended_86 rfl).row
theorem o210_87 : OkE cX9_ended RX9 "ended" 4 5 false (87, .tableswitch 139 0 4 #[120, 125, 127, 132, 137], 120, []) := (r_tsw dX9_ended_87 rfl rfl rfl (by decide) rfl).row
theorem o210_120 : OkE cX9_ended RX9 "ended" 4 5 false (120, .aload 0, 121, []) := (r_aload_n dX9_ended_120 rfl).row
theorem o210_121 : OkE cX9_ended RX9 "ended" 4 5 false (121, .invokevirtual 208, 124, []) := ⟨rfl, c_V dX9_ended_121 wd_1364 wd_1366 wd_59 wd_74 wd_1367 nmh_9⟩
theorem o210_124 : OkE cX9_ended RX9 "ended" 4 5 false (124, .ireturn, 125, []) := dX9_ended_124
theorem o210_125 : OkE cX9_ended RX9 "ended" 4 5 false (125, .iload 2, 126, []) := (r_iload_n dX9_ended_125 rfl).row
theorem o210_126 : OkE cX9_ended RX9 "ended" 4 5 false (126, .ireturn, 127, []) := dX9_ended_126
theorem o210_127 : OkE cX9_ended RX9 "ended" 4 5 false (127, .aload 0, 128, []) := (r_aload_n dX9_ended_127 rfl).row
theorem o210_128 : OkE cX9_ended RX9 "ended" 4 5 false (128, .invokeinterface 9 33, 131, []) := (r_get (C := RX9) (T := TX9) (N := 45) (ci := 9) (j := 33) (ref := RX9) dX9_ended_128 rfl inX9 (by decide) wd_1033 rfl).row
theorem o210_131 : OkE cX9_ended RX9 "ended" 4 5 false (131, .ireturn, 132, []) := dX9_ended_131
theorem o210_132 : OkE cX9_ended RX9 "ended" 4 5 false (132, .aload 0, 133, []) := (r_aload_n dX9_ended_132 rfl).row
theorem o210_133 : OkE cX9_ended RX9 "ended" 4 5 false (133, .invokeinterface 9 34, 136, []) := (r_get (C := RX9) (T := TX9) (N := 45) (ci := 9) (j := 34) (ref := RX9) dX9_ended_133 rfl inX9 (by decide) wd_1034 rfl).row
theorem o210_136 : OkE cX9_ended RX9 "ended" 4 5 false (136, .ireturn, 137, []) := dX9_ended_136
theorem o210_137 : OkE cX9_ended RX9 "ended" 4 5 false (137, .iload 3, 138, []) := (r_iload_n dX9_ended_137 rfl).row
theorem o210_138 : OkE cX9_ended RX9 "ended" 4 5 false (138, .ireturn, 139, []) := dX9_ended_138
theorem o210_139 : OkE cX9_ended RX9 "ended" 4 5 false (139, .iconst (-2), 141, []) := (r_bipush dX9_ended_139 rfl).row
theorem o210_141 : OkE cX9_ended RX9 "ended" 4 5 false (141, .ireturn, 142, []) := dX9_ended_141
theorem ok210 : ∀ x ∈ k210, OkE cX9_ended RX9 "ended" 4 5 false x := List.forall_mem_cons.mpr ⟨o210_0, List.forall_mem_cons.mpr ⟨o210_1, List.forall_mem_cons.mpr ⟨o210_4, List.forall_mem_cons.mpr ⟨o210_5, List.forall_mem_cons.mpr ⟨o210_6, List.forall_mem_cons.mpr ⟨o210_7, List.forall_mem_cons.mpr ⟨o210_8, List.forall_mem_cons.mpr ⟨o210_9, List.forall_mem_cons.mpr ⟨o210_10, List.forall_mem_cons.mpr ⟨o210_13, List.forall_mem_cons.mpr ⟨o210_14, List.forall_mem_cons.mpr ⟨o210_15, List.forall_mem_cons.mpr ⟨o210_18, List.forall_mem_cons.mpr ⟨o210_19, List.forall_mem_cons.mpr ⟨o210_20, List.forall_mem_cons.mpr ⟨o210_23, List.forall_mem_cons.mpr ⟨o210_25, List.forall_mem_cons.mpr ⟨o210_26, List.forall_mem_cons.mpr ⟨o210_27, List.forall_mem_cons.mpr ⟨o210_28, List.forall_mem_cons.mpr ⟨o210_29, List.forall_mem_cons.mpr ⟨o210_30, List.forall_mem_cons.mpr ⟨o210_31, List.forall_mem_cons.mpr ⟨o210_32, List.forall_mem_cons.mpr ⟨o210_35, List.forall_mem_cons.mpr ⟨o210_38, List.forall_mem_cons.mpr ⟨o210_41, List.forall_mem_cons.mpr ⟨o210_42, List.forall_mem_cons.mpr ⟨o210_45, List.forall_mem_cons.mpr ⟨o210_46, List.forall_mem_cons.mpr ⟨o210_49, List.forall_mem_cons.mpr ⟨o210_50, List.forall_mem_cons.mpr ⟨o210_51, List.forall_mem_cons.mpr ⟨o210_52, List.forall_mem_cons.mpr ⟨o210_53, List.forall_mem_cons.mpr ⟨o210_54, List.forall_mem_cons.mpr ⟨o210_55, List.forall_mem_cons.mpr ⟨o210_58, List.forall_mem_cons.mpr ⟨o210_59, List.forall_mem_cons.mpr ⟨o210_60, List.forall_mem_cons.mpr ⟨o210_63, List.forall_mem_cons.mpr ⟨o210_65, List.forall_mem_cons.mpr ⟨o210_66, List.forall_mem_cons.mpr ⟨o210_67, List.forall_mem_cons.mpr ⟨o210_68, List.forall_mem_cons.mpr ⟨o210_69, List.forall_mem_cons.mpr ⟨o210_72, List.forall_mem_cons.mpr ⟨o210_73, List.forall_mem_cons.mpr ⟨o210_76, List.forall_mem_cons.mpr ⟨o210_77, List.forall_mem_cons.mpr ⟨o210_78, List.forall_mem_cons.mpr ⟨o210_81, List.forall_mem_cons.mpr ⟨o210_82, List.forall_mem_cons.mpr ⟨o210_83, List.forall_mem_cons.mpr ⟨o210_84, List.forall_mem_cons.mpr ⟨o210_85, List.forall_mem_cons.mpr ⟨o210_86, List.forall_mem_cons.mpr ⟨o210_87, List.forall_mem_cons.mpr ⟨o210_120, List.forall_mem_cons.mpr ⟨o210_121, List.forall_mem_cons.mpr ⟨o210_124, List.forall_mem_cons.mpr ⟨o210_125, List.forall_mem_cons.mpr ⟨o210_126, List.forall_mem_cons.mpr ⟨o210_127, List.forall_mem_cons.mpr ⟨o210_128, List.forall_mem_cons.mpr ⟨o210_131, List.forall_mem_cons.mpr ⟨o210_132, List.forall_mem_cons.mpr ⟨o210_133, List.forall_mem_cons.mpr ⟨o210_136, List.forall_mem_cons.mpr ⟨o210_137, List.forall_mem_cons.mpr ⟨o210_138, List.forall_mem_cons.mpr ⟨o210_139, List.forall_mem_cons.mpr ⟨o210_141, fun _ h => absurd h List.not_mem_nil⟩⟩⟩⟩⟩⟩⟩⟩⟩⟩⟩⟩⟩⟩⟩⟩⟩⟩⟩⟩⟩⟩⟩⟩⟩⟩⟩⟩⟩⟩⟩⟩⟩⟩⟩⟩⟩⟩⟩⟩⟩⟩⟩⟩⟩⟩⟩⟩⟩⟩⟩⟩⟩⟩⟩⟩⟩⟩⟩⟩⟩⟩⟩⟩⟩⟩⟩⟩⟩⟩⟩⟩⟩
theorem o211_0 : OkE cX9_firstOut RX9 "firstOut" 3 0 false (0, .iconst 0, 1, []) := (r_iconst dX9_firstOut_0 rfl).row
theorem o211_1 : OkE cX9_firstOut RX9 "firstOut" 3 0 false (1, .istore 2, 2, []) := (r_istore_n dX9_firstOut_1 rfl).row
theorem o211_2 : OkE cX9_firstOut RX9 "firstOut" 3 0 false (2, .iload 2, 3, []) := (r_iload_n dX9_firstOut_2 rfl).row
theorem o211_3 : OkE cX9_firstOut RX9 "firstOut" 3 0 false (3, .iconst 6, 5, []) := (r_bipush dX9_firstOut_3 rfl).row
theorem o211_5 : OkE cX9_firstOut RX9 "firstOut" 3 0 false (5, .if_icmp .ge 30, 8, []) := (r_icmp_ge dX9_firstOut_5 rfl).row
theorem o211_8 : OkE cX9_firstOut RX9 "firstOut" 3 0 false (8, .aload 0, 9, []) := (r_aload_n dX9_firstOut_8 rfl).row
theorem o211_9 : OkE cX9_firstOut RX9 "firstOut" 3 0 false (9, .invokeinterface 9 29, 12, []) := (r_get (C := RX9) (T := TX9) (N := 45) (ci := 9) (j := 29) (ref := RX9) dX9_firstOut_9 rfl inX9 (by decide) wd_1029 rfl).row
theorem o211_12 : OkE cX9_firstOut RX9 "firstOut" 3 0 false (12, .iconst 6, 14, []) := (r_bipush dX9_firstOut_12 rfl).row
theorem o211_14 : OkE cX9_firstOut RX9 "firstOut" 3 0 false (14, .iload 1, 15, []) := (r_iload_n dX9_firstOut_14 rfl).row
theorem o211_15 : OkE cX9_firstOut RX9 "firstOut" 3 0 false (15, .imul, 16, []) := (r_imul dX9_firstOut_15).row
theorem o211_16 : OkE cX9_firstOut RX9 "firstOut" 3 0 false (16, .iload 2, 17, []) := (r_iload_n dX9_firstOut_16 rfl).row
theorem o211_17 : OkE cX9_firstOut RX9 "firstOut" 3 0 false (17, .iadd, 18, []) := (r_iadd dX9_firstOut_17).row
theorem o211_18 : OkE cX9_firstOut RX9 "firstOut" 3 0 false (18, .iaload, 19, []) := (r_iald dX9_firstOut_18).row
theorem o211_19 : OkE cX9_firstOut RX9 "firstOut" 3 0 false (19, .ifCond .le 24, 22, []) := (r_if_le dX9_firstOut_19 rfl).row
theorem o211_22 : OkE cX9_firstOut RX9 "firstOut" 3 0 false (22, .iload 2, 23, []) := (r_iload_n dX9_firstOut_22 rfl).row
theorem o211_23 : OkE cX9_firstOut RX9 "firstOut" 3 0 false (23, .ireturn, 24, []) := dX9_firstOut_23
theorem o211_24 : OkE cX9_firstOut RX9 "firstOut" 3 0 false (24, .iinc 2 1, 27, []) := (r_iinc dX9_firstOut_24 rfl).row
theorem o211_27 : OkE cX9_firstOut RX9 "firstOut" 3 0 false (27, .goto 2, 30, []) := (r_goto dX9_firstOut_27 rfl).row
theorem o211_30 : OkE cX9_firstOut RX9 "firstOut" 3 0 false (30, .iconst (-9), 32, []) := (r_bipush dX9_firstOut_30 rfl).row
theorem o211_32 : OkE cX9_firstOut RX9 "firstOut" 3 0 false (32, .ireturn, 33, []) := dX9_firstOut_32
theorem ok211 : ∀ x ∈ k211, OkE cX9_firstOut RX9 "firstOut" 3 0 false x := List.forall_mem_cons.mpr ⟨o211_0, List.forall_mem_cons.mpr ⟨o211_1, List.forall_mem_cons.mpr ⟨o211_2, List.forall_mem_cons.mpr ⟨o211_3, List.forall_mem_cons.mpr ⟨o211_5, List.forall_mem_cons.mpr ⟨o211_8, List.forall_mem_cons.mpr ⟨o211_9, List.forall_mem_cons.mpr ⟨o211_12, List.forall_mem_cons.mpr ⟨o211_14, List.forall_mem_cons.mpr ⟨o211_15, List.forall_mem_cons.mpr ⟨o211_16, List.forall_mem_cons.mpr ⟨o211_17, List.forall_mem_cons.mpr ⟨o211_18, List.forall_mem_cons.mpr ⟨o211_19, List.forall_mem_cons.mpr ⟨o211_22, List.forall_mem_cons.mpr ⟨o211_23, List.forall_mem_cons.mpr ⟨o211_24, List.forall_mem_cons.mpr ⟨o211_27, List.forall_mem_cons.mpr ⟨o211_30, List.forall_mem_cons.mpr ⟨o211_32, fun _ h => absurd h List.not_mem_nil⟩⟩⟩⟩⟩⟩⟩⟩⟩⟩⟩⟩⟩⟩⟩⟩⟩⟩⟩⟩
theorem o212_0 : OkE cX9_ranOut RX9 "ranOut" 2 5 false (0, .aload 0, 1, []) := (r_aload_n dX9_ranOut_0 rfl).row
theorem o212_1 : OkE cX9_ranOut RX9 "ranOut" 2 5 false (1, .iload 1, 2, []) := (r_iload_n dX9_ranOut_1 rfl).row
theorem o212_2 : OkE cX9_ranOut RX9 "ranOut" 2 5 false (2, .invokevirtual 163, 5, []) := ⟨rfl, c_V dX9_ranOut_2 wd_1175 wd_1177 wd_41 wd_74 wd_1178 nmh_9⟩
theorem o212_5 : OkE cX9_ranOut RX9 "ranOut" 2 5 false (5, .ifCond .ne 10, 8, []) := (r_if_ne dX9_ranOut_5 rfl).row
theorem o212_8 : OkE cX9_ranOut RX9 "ranOut" 2 5 false (8, .iconst (-1), 9, []) := (r_iconst dX9_ranOut_8 rfl).row
theorem o212_9 : OkE cX9_ranOut RX9 "ranOut" 2 5 false (9, .ireturn, 10, []) := dX9_ranOut_9
theorem o212_10 : OkE cX9_ranOut RX9 "ranOut" 2 5 false (10, .aload 0, 11, []) := (r_aload_n dX9_ranOut_10 rfl).row
theorem o212_11 : OkE cX9_ranOut RX9 "ranOut" 2 5 false (11, .invokevirtual 206, 14, []) := ⟨rfl, c_V dX9_ranOut_11 wd_1339 wd_1341 wd_54 wd_74 wd_1342 nmh_9⟩
theorem o212_14 : OkE cX9_ranOut RX9 "ranOut" 2 5 false (14, .aload 0, 15, []) := (r_aload_n dX9_ranOut_14 rfl).row
theorem o212_15 : OkE cX9_ranOut RX9 "ranOut" 2 5 false (15, .iload 1, 16, []) := (r_iload_n dX9_ranOut_15 rfl).row
theorem o212_16 : OkE cX9_ranOut RX9 "ranOut" 2 5 false (16, .invokevirtual 211, 19, []) := ⟨rfl, c_V dX9_ranOut_16 wd_1376 wd_1378 wd_61 wd_74 wd_1379 nmh_9⟩
theorem o212_19 : OkE cX9_ranOut RX9 "ranOut" 2 5 false (19, .ireturn, 20, []) := dX9_ranOut_19
theorem ok212 : ∀ x ∈ k212, OkE cX9_ranOut RX9 "ranOut" 2 5 false x := List.forall_mem_cons.mpr ⟨o212_0, List.forall_mem_cons.mpr ⟨o212_1, List.forall_mem_cons.mpr ⟨o212_2, List.forall_mem_cons.mpr ⟨o212_5, List.forall_mem_cons.mpr ⟨o212_8, List.forall_mem_cons.mpr ⟨o212_9, List.forall_mem_cons.mpr ⟨o212_10, List.forall_mem_cons.mpr ⟨o212_11, List.forall_mem_cons.mpr ⟨o212_14, List.forall_mem_cons.mpr ⟨o212_15, List.forall_mem_cons.mpr ⟨o212_16, List.forall_mem_cons.mpr ⟨o212_19, fun _ h => absurd h List.not_mem_nil⟩⟩⟩⟩⟩⟩⟩⟩⟩⟩⟩⟩
theorem o213_0 : OkE cX9_habit RX9 "habit" 2 2 false (0, .aload 0, 1, []) := (r_aload_n dX9_habit_0 rfl).row
theorem o213_1 : OkE cX9_habit RX9 "habit" 2 2 false (1, .iload 1, 2, []) := (r_iload_n dX9_habit_1 rfl).row
theorem o213_2 : OkE cX9_habit RX9 "habit" 2 2 false (2, .invokevirtual 163, 5, []) := ⟨rfl, c_V dX9_habit_2 wd_1175 wd_1177 wd_41 wd_74 wd_1178 nmh_9⟩
theorem o213_5 : OkE cX9_habit RX9 "habit" 2 2 false (5, .ifCond .eq 17, 8, []) := (r_if_eq dX9_habit_5 rfl).row
theorem o213_8 : OkE cX9_habit RX9 "habit" 2 2 false (8, .aload 0, 9, []) := (r_aload_n dX9_habit_8 rfl).row
theorem o213_9 : OkE cX9_habit RX9 "habit" 2 2 false (9, .invokeinterface 9 18, 12, []) := (r_get (C := RX9) (T := TX9) (N := 45) (ci := 9) (j := 18) (ref := RX9) dX9_habit_9 rfl inX9 (by decide) wd_1018 rfl).row
theorem o213_12 : OkE cX9_habit RX9 "habit" 2 2 false (12, .iload 1, 13, []) := (r_iload_n dX9_habit_12 rfl).row
theorem o213_13 : OkE cX9_habit RX9 "habit" 2 2 false (13, .iaload, 14, []) := (r_iald dX9_habit_13).row
theorem o213_14 : OkE cX9_habit RX9 "habit" 2 2 false (14, .goto 18, 17, []) := (r_goto dX9_habit_14 rfl).row
theorem o213_17 : OkE cX9_habit RX9 "habit" 2 2 false (17, .iconst (-1), 18, []) := (r_iconst dX9_habit_17 rfl).row
theorem o213_18 : OkE cX9_habit RX9 "habit" 2 2 false (18, .ireturn, 19, [0, 1]) := dX9_habit_18
theorem ok213 : ∀ x ∈ k213, OkE cX9_habit RX9 "habit" 2 2 false x := List.forall_mem_cons.mpr ⟨o213_0, List.forall_mem_cons.mpr ⟨o213_1, List.forall_mem_cons.mpr ⟨o213_2, List.forall_mem_cons.mpr ⟨o213_5, List.forall_mem_cons.mpr ⟨o213_8, List.forall_mem_cons.mpr ⟨o213_9, List.forall_mem_cons.mpr ⟨o213_12, List.forall_mem_cons.mpr ⟨o213_13, List.forall_mem_cons.mpr ⟨o213_14, List.forall_mem_cons.mpr ⟨o213_17, List.forall_mem_cons.mpr ⟨o213_18, fun _ h => absurd h List.not_mem_nil⟩⟩⟩⟩⟩⟩⟩⟩⟩⟩⟩
theorem o214_0 : OkE cX9_days RX9 "days" 7 5 false (0, .iload 1, 1, []) := (r_iload_n dX9_days_0 rfl).row
theorem o214_1 : OkE cX9_days RX9 "days" 7 5 false (1, .i2l, 2, []) := (r_i2l dX9_days_1).row
theorem o214_2 : OkE cX9_days RX9 "days" 7 5 false (2, .sipush 1, 3, []) := (r_lconst dX9_days_2 rfl).row
theorem o214_3 : OkE cX9_days RX9 "days" 7 5 false (3, .sipush 30, 6, []) := (r_ldc2 wd_1388 dX9_days_3 rfl).row
theorem o214_6 : OkE cX9_days RX9 "days" 7 5 false (6, .invokestatic 152, 9, []) := ⟨rfl, c_S dX9_days_6 wd_993 wd_994 wd_74 wd_995 nmh_9⟩
theorem o214_9 : OkE cX9_days RX9 "days" 7 5 false (9, .ifCond .ne 15, 12, []) := (r_if_ne dX9_days_9 rfl).row
theorem o214_12 : OkE cX9_days RX9 "days" 7 5 false (12, .iconst (-2), 14, []) := (r_bipush dX9_days_12 rfl).row
theorem o214_14 : OkE cX9_days RX9 "days" 7 5 false (14, .ireturn, 15, []) := dX9_days_14
theorem o214_15 : OkE cX9_days RX9 "days" 7 5 false (15, .iconst 0, 16, []) := (r_iconst dX9_days_15 rfl).row
theorem o214_16 : OkE cX9_days RX9 "days" 7 5 false (16, .istore 2, 17, []) := (r_istore_n dX9_days_16 rfl).row
theorem o214_17 : OkE cX9_days RX9 "days" 7 5 false (17, .iconst 0, 18, []) := (r_iconst dX9_days_17 rfl).row
theorem o214_18 : OkE cX9_days RX9 "days" 7 5 false (18, .istore 3, 19, []) := (r_istore_n dX9_days_18 rfl).row
theorem o214_19 : OkE cX9_days RX9 "days" 7 5 false (19, .iload 3, 20, [4, 5, 6]) := (r_iload_n dX9_days_19 rfl).row
theorem o214_20 : OkE cX9_days RX9 "days" 7 5 false (20, .iload 1, 21, []) := (r_iload_n dX9_days_20 rfl).row
theorem o214_21 : OkE cX9_days RX9 "days" 7 5 false (21, .if_icmp .ge 147, 24, []) := (r_icmp_ge dX9_days_21 rfl).row
theorem o214_24 : OkE cX9_days RX9 "days" 7 5 false (24, .aload 0, 25, []) := (r_aload_n dX9_days_24 rfl).row
theorem o214_25 : OkE cX9_days RX9 "days" 7 5 false (25, .invokevirtual 206, 28, []) := ⟨rfl, c_V dX9_days_25 wd_1339 wd_1341 wd_54 wd_74 wd_1342 nmh_9⟩
theorem o214_28 : OkE cX9_days RX9 "days" 7 5 false (28, .iconst 0, 29, []) := (r_iconst dX9_days_28 rfl).row
theorem o214_29 : OkE cX9_days RX9 "days" 7 5 false (29, .istore 2, 30, []) := (r_istore_n dX9_days_29 rfl).row
theorem o214_30 : OkE cX9_days RX9 "days" 7 5 false (30, .iconst 0, 31, []) := (r_iconst dX9_days_30 rfl).row
theorem o214_31 : OkE cX9_days RX9 "days" 7 5 false (31, .istore 4, 33, []) := (r_istore dX9_days_31).row
theorem o214_33 : OkE cX9_days RX9 "days" 7 5 false (33, .iload 4, 35, [5, 6]) := (r_iload dX9_days_33).row
theorem o214_35 : OkE cX9_days RX9 "days" 7 5 false (35, .aload 0, 36, []) := (r_aload_n dX9_days_35 rfl).row
theorem o214_36 : OkE cX9_days RX9 "days" 7 5 false (36, .invokeinterface 9 1, 39, []) := (r_get (C := RX9) (T := TX9) (N := 45) (ci := 9) (j := 1) (ref := RX9) dX9_days_36 rfl inX9 (by decide) wd_1001 rfl).row
theorem o214_39 : OkE cX9_days RX9 "days" 7 5 false (39, .iconst 0, 40, []) := (r_iconst dX9_days_39 rfl).row
theorem o214_40 : OkE cX9_days RX9 "days" 7 5 false (40, .iaload, 41, []) := (r_iald dX9_days_40).row
theorem o214_41 : OkE cX9_days RX9 "days" 7 5 false (41, .if_icmp .ge 141, 44, []) := (r_icmp_ge dX9_days_41 rfl).row
theorem o214_44 : OkE cX9_days RX9 "days" 7 5 false (44, .aload 0, 45, []) := (r_aload_n dX9_days_44 rfl).row
theorem o214_45 : OkE cX9_days RX9 "days" 7 5 false (45, .invokeinterface 9 18, 48, []) := (r_get (C := RX9) (T := TX9) (N := 45) (ci := 9) (j := 18) (ref := RX9) dX9_days_45 rfl inX9 (by decide) wd_1018 rfl).row
theorem o214_48 : OkE cX9_days RX9 "days" 7 5 false (48, .iload 4, 50, []) := (r_iload dX9_days_48).row
theorem o214_50 : OkE cX9_days RX9 "days" 7 5 false (50, .iaload, 51, []) := (r_iald dX9_days_50).row
theorem o214_51 : OkE cX9_days RX9 "days" 7 5 false (51, .istore 5, 53, []) := (r_istore dX9_days_51).row
theorem o214_53 : OkE cX9_days RX9 "days" 7 5 false (53, .aload 0, 54, []) := (r_aload_n dX9_days_53 rfl).row
theorem o214_54 : OkE cX9_days RX9 "days" 7 5 false (54, .iload 4, 56, []) := (r_iload dX9_days_54).row
theorem o214_56 : OkE cX9_days RX9 "days" 7 5 false (56, .invokevirtual 211, 59, []) := ⟨rfl, c_V dX9_days_56 wd_1376 wd_1378 wd_61 wd_74 wd_1379 nmh_9⟩
theorem o214_59 : OkE cX9_days RX9 "days" 7 5 false (59, .iconst (-9), 61, []) := (r_bipush dX9_days_59 rfl).row
theorem o214_61 : OkE cX9_days RX9 "days" 7 5 false (61, .if_icmp .eq 68, 64, []) := (r_icmp_eq dX9_days_61 rfl).row
theorem o214_64 : OkE cX9_days RX9 "days" 7 5 false (64, .iconst 1, 65, []) := (r_iconst dX9_days_64 rfl).row
theorem o214_65 : OkE cX9_days RX9 "days" 7 5 false (65, .goto 69, 68, []) := (r_goto dX9_days_65 rfl).row
theorem o214_68 : OkE cX9_days RX9 "days" 7 5 false (68, .iconst 0, 69, []) := (r_iconst dX9_days_68 rfl).row
theorem o214_69 : OkE cX9_days RX9 "days" 7 5 false (69, .istore 6, 71, [6]) := (r_istore dX9_days_69).row
theorem o214_71 : OkE cX9_days RX9 "days" 7 5 false (71, .aload 0, 72, []) := (r_aload_n dX9_days_71 rfl).row
theorem o214_72 : OkE cX9_days RX9 "days" 7 5 false (72, .invokeinterface 9 18, 75, []) := (r_get (C := RX9) (T := TX9) (N := 45) (ci := 9) (j := 18) (ref := RX9) dX9_days_72 rfl inX9 (by decide) wd_1018 rfl).row
theorem o214_75 : OkE cX9_days RX9 "days" 7 5 false (75, .iload 4, 77, []) := (r_iload dX9_days_75).row
theorem o214_77 : OkE cX9_days RX9 "days" 7 5 false (77, .iload 6, 79, []) := (r_iload dX9_days_77).row
theorem o214_79 : OkE cX9_days RX9 "days" 7 5 false (79, .ifCond .eq 98, 82, []) := (r_if_eq dX9_days_79 rfl).row
theorem o214_82 : OkE cX9_days RX9 "days" 7 5 false (82, .iload 5, 84, []) := (r_iload dX9_days_82).row
theorem o214_84 : OkE cX9_days RX9 "days" 7 5 false (84, .ifCond .le 94, 87, []) := (r_if_le dX9_days_84 rfl).row
theorem o214_87 : OkE cX9_days RX9 "days" 7 5 false (87, .iload 5, 89, []) := (r_iload dX9_days_87).row
theorem o214_89 : OkE cX9_days RX9 "days" 7 5 false (89, .iconst 1, 90, []) := (r_iconst dX9_days_89 rfl).row
theorem o214_90 : OkE cX9_days RX9 "days" 7 5 false (90, .isub, 91, []) := (r_isub dX9_days_90).row
theorem o214_91 : OkE cX9_days RX9 "days" 7 5 false (91, .goto 114, 94, []) := (r_goto dX9_days_91 rfl).row
theorem o214_94 : OkE cX9_days RX9 "days" 7 5 false (94, .iconst 0, 95, []) := (r_iconst dX9_days_94 rfl).row
theorem o214_95 : OkE cX9_days RX9 "days" 7 5 false (95, .goto 114, 98, []) := (r_goto dX9_days_95 rfl).row
theorem o214_98 : OkE cX9_days RX9 "days" 7 5 false (98, .iload 5, 100, []) := (r_iload dX9_days_98).row
theorem o214_100 : OkE cX9_days RX9 "days" 7 5 false (100, .iconst 9, 102, []) := (r_bipush dX9_days_100 rfl).row
theorem o214_102 : OkE cX9_days RX9 "days" 7 5 false (102, .if_icmp .ge 112, 105, []) := (r_icmp_ge dX9_days_102 rfl).row
theorem o214_105 : OkE cX9_days RX9 "days" 7 5 false (105, .iload 5, 107, []) := (r_iload dX9_days_105).row
theorem o214_107 : OkE cX9_days RX9 "days" 7 5 false (107, .iconst 1, 108, []) := (r_iconst dX9_days_107 rfl).row
theorem o214_108 : OkE cX9_days RX9 "days" 7 5 false (108, .iadd, 109, []) := (r_iadd dX9_days_108).row
theorem o214_109 : OkE cX9_days RX9 "days" 7 5 false (109, .goto 114, 112, []) := (r_goto dX9_days_109 rfl).row
theorem o214_112 : OkE cX9_days RX9 "days" 7 5 false (112, .iconst 9, 114, []) := (r_bipush dX9_days_112 rfl).row
theorem o214_114 : OkE cX9_days RX9 "days" 7 5 false (114, .iastore, 115, [6]) := r_iast dX9_days_114
theorem o214_115 : OkE cX9_days RX9 "days" 7 5 false (115, .iload 2, 116, []) := (r_iload_n dX9_days_115 rfl).row
theorem o214_116 : OkE cX9_days RX9 "days" 7 5 false (116, .aload 0, 117, []) := (r_aload_n dX9_days_116 rfl).row
theorem o214_117 : OkE cX9_days RX9 "days" 7 5 false (117, .invokeinterface 9 18, 120, []) := (r_get (C := RX9) (T := TX9) (N := 45) (ci := 9) (j := 18) (ref := RX9) dX9_days_117 rfl inX9 (by decide) wd_1018 rfl).row
theorem o214_120 : OkE cX9_days RX9 "days" 7 5 false (120, .iload 4, 122, []) := (r_iload dX9_days_120).row
theorem o214_122 : OkE cX9_days RX9 "days" 7 5 false (122, .iaload, 123, []) := (r_iald dX9_days_122).row
theorem o214_123 : OkE cX9_days RX9 "days" 7 5 false (123, .iload 5, 125, []) := (r_iload dX9_days_123).row
theorem o214_125 : OkE cX9_days RX9 "days" 7 5 false (125, .if_icmp .ge 132, 128, []) := (r_icmp_ge dX9_days_125 rfl).row
theorem o214_128 : OkE cX9_days RX9 "days" 7 5 false (128, .iconst 1, 129, []) := (r_iconst dX9_days_128 rfl).row
theorem o214_129 : OkE cX9_days RX9 "days" 7 5 false (129, .goto 133, 132, []) := (r_goto dX9_days_129 rfl).row
theorem o214_132 : OkE cX9_days RX9 "days" 7 5 false (132, .iconst 0, 133, []) := (r_iconst dX9_days_132 rfl).row
theorem o214_133 : OkE cX9_days RX9 "days" 7 5 false (133, .iadd, 134, [2, 5, 6]) := (r_iadd dX9_days_133).row
theorem o214_134 : OkE cX9_days RX9 "days" 7 5 false (134, .istore 2, 135, []) := (r_istore_n dX9_days_134 rfl).row
theorem o214_135 : OkE cX9_days RX9 "days" 7 5 false (135, .iinc 4 1, 138, []) := (r_iinc dX9_days_135 rfl).row
theorem o214_138 : OkE cX9_days RX9 "days" 7 5 false (138, .goto 33, 141, []) := (r_goto dX9_days_138 rfl).row
theorem o214_141 : OkE cX9_days RX9 "days" 7 5 false (141, .iinc 3 1, 144, []) := (r_iinc dX9_days_141 rfl).row
theorem o214_144 : OkE cX9_days RX9 "days" 7 5 false (144, .goto 19, 147, []) := (r_goto dX9_days_144 rfl).row
theorem o214_147 : OkE cX9_days RX9 "days" 7 5 false (147, .iload 2, 148, []) := (r_iload_n dX9_days_147 rfl).row
theorem o214_148 : OkE cX9_days RX9 "days" 7 5 false (148, .ireturn, 149, []) := dX9_days_148
theorem ok214 : ∀ x ∈ k214, OkE cX9_days RX9 "days" 7 5 false x := List.forall_mem_cons.mpr ⟨o214_0, List.forall_mem_cons.mpr ⟨o214_1, List.forall_mem_cons.mpr ⟨o214_2, List.forall_mem_cons.mpr ⟨o214_3, List.forall_mem_cons.mpr ⟨o214_6, List.forall_mem_cons.mpr ⟨o214_9, List.forall_mem_cons.mpr ⟨o214_12, List.forall_mem_cons.mpr ⟨o214_14, List.forall_mem_cons.mpr ⟨o214_15, List.forall_mem_cons.mpr ⟨o214_16, List.forall_mem_cons.mpr ⟨o214_17, List.forall_mem_cons.mpr ⟨o214_18, List.forall_mem_cons.mpr ⟨o214_19, List.forall_mem_cons.mpr ⟨o214_20, List.forall_mem_cons.mpr ⟨o214_21, List.forall_mem_cons.mpr ⟨o214_24, List.forall_mem_cons.mpr ⟨o214_25, List.forall_mem_cons.mpr ⟨o214_28, List.forall_mem_cons.mpr ⟨o214_29, List.forall_mem_cons.mpr ⟨o214_30, List.forall_mem_cons.mpr ⟨o214_31, List.forall_mem_cons.mpr ⟨o214_33, List.forall_mem_cons.mpr ⟨o214_35, List.forall_mem_cons.mpr ⟨o214_36, List.forall_mem_cons.mpr ⟨o214_39, List.forall_mem_cons.mpr ⟨o214_40, List.forall_mem_cons.mpr ⟨o214_41, List.forall_mem_cons.mpr ⟨o214_44, List.forall_mem_cons.mpr ⟨o214_45, List.forall_mem_cons.mpr ⟨o214_48, List.forall_mem_cons.mpr ⟨o214_50, List.forall_mem_cons.mpr ⟨o214_51, List.forall_mem_cons.mpr ⟨o214_53, List.forall_mem_cons.mpr ⟨o214_54, List.forall_mem_cons.mpr ⟨o214_56, List.forall_mem_cons.mpr ⟨o214_59, List.forall_mem_cons.mpr ⟨o214_61, List.forall_mem_cons.mpr ⟨o214_64, List.forall_mem_cons.mpr ⟨o214_65, List.forall_mem_cons.mpr ⟨o214_68, List.forall_mem_cons.mpr ⟨o214_69, List.forall_mem_cons.mpr ⟨o214_71, List.forall_mem_cons.mpr ⟨o214_72, List.forall_mem_cons.mpr ⟨o214_75, List.forall_mem_cons.mpr ⟨o214_77, List.forall_mem_cons.mpr ⟨o214_79, List.forall_mem_cons.mpr ⟨o214_82, List.forall_mem_cons.mpr ⟨o214_84, List.forall_mem_cons.mpr ⟨o214_87, List.forall_mem_cons.mpr ⟨o214_89, List.forall_mem_cons.mpr ⟨o214_90, List.forall_mem_cons.mpr ⟨o214_91, List.forall_mem_cons.mpr ⟨o214_94, List.forall_mem_cons.mpr ⟨o214_95, List.forall_mem_cons.mpr ⟨o214_98, List.forall_mem_cons.mpr ⟨o214_100, List.forall_mem_cons.mpr ⟨o214_102, List.forall_mem_cons.mpr ⟨o214_105, List.forall_mem_cons.mpr ⟨o214_107, List.forall_mem_cons.mpr ⟨o214_108, List.forall_mem_cons.mpr ⟨o214_109, List.forall_mem_cons.mpr ⟨o214_112, List.forall_mem_cons.mpr ⟨o214_114, List.forall_mem_cons.mpr ⟨o214_115, List.forall_mem_cons.mpr ⟨o214_116, List.forall_mem_cons.mpr ⟨o214_117, List.forall_mem_cons.mpr ⟨o214_120, List.forall_mem_cons.mpr ⟨o214_122, List.forall_mem_cons.mpr ⟨o214_123, List.forall_mem_cons.mpr ⟨o214_125, List.forall_mem_cons.mpr ⟨o214_128, List.forall_mem_cons.mpr ⟨o214_129, List.forall_mem_cons.mpr ⟨o214_132, List.forall_mem_cons.mpr ⟨o214_133, List.forall_mem_cons.mpr ⟨o214_134, List.forall_mem_cons.mpr ⟨o214_135, List.forall_mem_cons.mpr ⟨o214_138, List.forall_mem_cons.mpr ⟨o214_141, List.forall_mem_cons.mpr ⟨o214_144, List.forall_mem_cons.mpr ⟨o214_147, List.forall_mem_cons.mpr ⟨o214_148, fun _ h => absurd h List.not_mem_nil⟩⟩⟩⟩⟩⟩⟩⟩⟩⟩⟩⟩⟩⟩⟩⟩⟩⟩⟩⟩⟩⟩⟩⟩⟩⟩⟩⟩⟩⟩⟩⟩⟩⟩⟩⟩⟩⟩⟩⟩⟩⟩⟩⟩⟩⟩⟩⟩⟩⟩⟩⟩⟩⟩⟩⟩⟩⟩⟩⟩⟩⟩⟩⟩⟩⟩⟩⟩⟩⟩⟩⟩⟩⟩⟩⟩⟩⟩⟩⟩⟩
theorem o215_0 : OkE cX9_second RX9 "second" 7 5 false (0, .aload 0, 1, []) := (r_aload_n dX9_second_0 rfl).row
theorem o215_1 : OkE cX9_second RX9 "second" 7 5 false (1, .iload 1, 2, []) := (r_iload_n dX9_second_1 rfl).row
theorem o215_2 : OkE cX9_second RX9 "second" 7 5 false (2, .invokevirtual 163, 5, []) := ⟨rfl, c_V dX9_second_2 wd_1175 wd_1177 wd_41 wd_74 wd_1178 nmh_9⟩
theorem o215_5 : OkE cX9_second RX9 "second" 7 5 false (5, .ifCond .eq 15, 8, []) := (r_if_eq dX9_second_5 rfl).row
theorem o215_8 : OkE cX9_second RX9 "second" 7 5 false (8, .iload 2, 9, []) := (r_iload_n dX9_second_8 rfl).row
theorem o215_9 : OkE cX9_second RX9 "second" 7 5 false (9, .invokestatic 195, 12, []) := ⟨rfl, c_S dX9_second_9 wd_1328 wd_1329 wd_74 wd_1330 nmh_9⟩
theorem o215_12 : OkE cX9_second RX9 "second" 7 5 false (12, .ifCond .ne 17, 15, []) := (r_if_ne dX9_second_12 rfl).row
theorem o215_15 : OkE cX9_second RX9 "second" 7 5 false (15, .iconst (-1), 16, [0, 1, 2, 3, 4]) := (r_iconst dX9_second_15 rfl).row
theorem o215_16 : OkE cX9_second RX9 "second" 7 5 false (16, .ireturn, 17, []) := dX9_second_16
theorem o215_17 : OkE cX9_second RX9 "second" 7 5 false (17, .iload 3, 18, []) := (r_iload_n dX9_second_17 rfl).row
theorem o215_18 : OkE cX9_second RX9 "second" 7 5 false (18, .i2l, 19, []) := (r_i2l dX9_second_18).row
theorem o215_19 : OkE cX9_second RX9 "second" 7 5 false (19, .sipush 1, 20, []) := (r_lconst dX9_second_19 rfl).row
theorem o215_20 : OkE cX9_second RX9 "second" 7 5 false (20, .sipush 60, 23, []) := (r_ldc2 wd_1192 dX9_second_20 rfl).row
theorem o215_23 : OkE cX9_second RX9 "second" 7 5 false (23, .invokestatic 152, 26, []) := ⟨rfl, c_S dX9_second_23 wd_993 wd_994 wd_74 wd_995 nmh_9⟩
theorem o215_26 : OkE cX9_second RX9 "second" 7 5 false (26, .ifCond .eq 42, 29, []) := (r_if_eq dX9_second_26 rfl).row
theorem o215_29 : OkE cX9_second RX9 "second" 7 5 false (29, .iload 4, 31, []) := (r_iload dX9_second_29).row
theorem o215_31 : OkE cX9_second RX9 "second" 7 5 false (31, .i2l, 32, []) := (r_i2l dX9_second_31).row
theorem o215_32 : OkE cX9_second RX9 "second" 7 5 false (32, .sipush 0, 33, []) := (r_lconst dX9_second_32 rfl).row
theorem o215_33 : OkE cX9_second RX9 "second" 7 5 false (33, .sipush 20, 36, []) := (r_ldc2 wd_1202 dX9_second_33 rfl).row
theorem o215_36 : OkE cX9_second RX9 "second" 7 5 false (36, .invokestatic 152, 39, []) := ⟨rfl, c_S dX9_second_36 wd_993 wd_994 wd_74 wd_995 nmh_9⟩
theorem o215_39 : OkE cX9_second RX9 "second" 7 5 false (39, .ifCond .ne 45, 42, []) := (r_if_ne dX9_second_39 rfl).row
theorem o215_42 : OkE cX9_second RX9 "second" 7 5 false (42, .iconst (-2), 44, [0, 1, 2, 3, 4]) := (r_bipush dX9_second_42 rfl).row
theorem o215_44 : OkE cX9_second RX9 "second" 7 5 false (44, .ireturn, 45, []) := dX9_second_44
theorem o215_45 : OkE cX9_second RX9 "second" 7 5 false (45, .aload 0, 46, []) := (r_aload_n dX9_second_45 rfl).row
theorem o215_46 : OkE cX9_second RX9 "second" 7 5 false (46, .invokevirtual 206, 49, []) := ⟨rfl, c_V dX9_second_46 wd_1339 wd_1341 wd_54 wd_74 wd_1342 nmh_9⟩
theorem o215_49 : OkE cX9_second RX9 "second" 7 5 false (49, .aload 0, 50, []) := (r_aload_n dX9_second_49 rfl).row
theorem o215_50 : OkE cX9_second RX9 "second" 7 5 false (50, .invokevirtual 208, 53, []) := ⟨rfl, c_V dX9_second_50 wd_1364 wd_1366 wd_59 wd_74 wd_1367 nmh_9⟩
theorem o215_53 : OkE cX9_second RX9 "second" 7 5 false (53, .istore 5, 55, []) := (r_istore dX9_second_53).row
theorem o215_55 : OkE cX9_second RX9 "second" 7 5 false (55, .aload 0, 56, []) := (r_aload_n dX9_second_55 rfl).row
theorem o215_56 : OkE cX9_second RX9 "second" 7 5 false (56, .iload 3, 57, []) := (r_iload_n dX9_second_56 rfl).row
theorem o215_57 : OkE cX9_second RX9 "second" 7 5 false (57, .multianewarray 9 37, 60, []) := r_putI (C := RX9) (T := TX9) (N := 45) (ci := 9) (j := 37) (ref := RX9) dX9_second_57 rfl inX9 tyX9 tyX9_ok nmX9 (by decide) wd_1037 rfl rfl (tyX9_ok 37 (by decide)) rfl
theorem o215_60 : OkE cX9_second RX9 "second" 7 5 false (60, .aload 0, 61, []) := (r_aload_n dX9_second_60 rfl).row
theorem o215_61 : OkE cX9_second RX9 "second" 7 5 false (61, .iload 1, 62, []) := (r_iload_n dX9_second_61 rfl).row
theorem o215_62 : OkE cX9_second RX9 "second" 7 5 false (62, .multianewarray 9 36, 65, []) := r_putI (C := RX9) (T := TX9) (N := 45) (ci := 9) (j := 36) (ref := RX9) dX9_second_62 rfl inX9 tyX9 tyX9_ok nmX9 (by decide) wd_1036 rfl rfl (tyX9_ok 36 (by decide)) rfl
theorem o215_65 : OkE cX9_second RX9 "second" 7 5 false (65, .aload 0, 66, []) := (r_aload_n dX9_second_65 rfl).row
theorem o215_66 : OkE cX9_second RX9 "second" 7 5 false (66, .iload 2, 67, []) := (r_iload_n dX9_second_66 rfl).row
theorem o215_67 : OkE cX9_second RX9 "second" 7 5 false (67, .multianewarray 9 35, 70, []) := r_putI (C := RX9) (T := TX9) (N := 45) (ci := 9) (j := 35) (ref := RX9) dX9_second_67 rfl inX9 tyX9 tyX9_ok nmX9 (by decide) wd_1035 rfl rfl (tyX9_ok 35 (by decide)) rfl
theorem o215_70 : OkE cX9_second RX9 "second" 7 5 false (70, .aload 0, 71, []) := (r_aload_n dX9_second_70 rfl).row
theorem o215_71 : OkE cX9_second RX9 "second" 7 5 false (71, .invokevirtual 205, 74, []) := ⟨rfl, c_V dX9_second_71 wd_1343 wd_1345 wd_55 wd_74 wd_1346 nmh_9⟩
theorem o215_74 : OkE cX9_second RX9 "second" 7 5 false (74, .aload 0, 75, []) := (r_aload_n dX9_second_74 rfl).row
theorem o215_75 : OkE cX9_second RX9 "second" 7 5 false (75, .invokevirtual 208, 78, []) := ⟨rfl, c_V dX9_second_75 wd_1364 wd_1366 wd_59 wd_74 wd_1367 nmh_9⟩
theorem o215_78 : OkE cX9_second RX9 "second" 7 5 false (78, .iload 5, 80, []) := (r_iload dX9_second_78).row
theorem o215_80 : OkE cX9_second RX9 "second" 7 5 false (80, .isub, 81, []) := (r_isub dX9_second_80).row
theorem o215_81 : OkE cX9_second RX9 "second" 7 5 false (81, .istore 6, 83, []) := (r_istore dX9_second_81).row
theorem o215_83 : OkE cX9_second RX9 "second" 7 5 false (83, .iconst 100000, 86, []) := (r_ldcw wd_1363 dX9_second_83 rfl).row
theorem o215_86 : OkE cX9_second RX9 "second" 7 5 false (86, .iload 6, 88, []) := (r_iload dX9_second_86).row
theorem o215_88 : OkE cX9_second RX9 "second" 7 5 false (88, .aload 0, 89, []) := (r_aload_n dX9_second_88 rfl).row
theorem o215_89 : OkE cX9_second RX9 "second" 7 5 false (89, .invokeinterface 9 1, 92, []) := (r_get (C := RX9) (T := TX9) (N := 45) (ci := 9) (j := 1) (ref := RX9) dX9_second_89 rfl inX9 (by decide) wd_1001 rfl).row
theorem o215_92 : OkE cX9_second RX9 "second" 7 5 false (92, .iconst 5, 93, []) := (r_iconst dX9_second_92 rfl).row
theorem o215_93 : OkE cX9_second RX9 "second" 7 5 false (93, .iaload, 94, []) := (r_iald dX9_second_93).row
theorem o215_94 : OkE cX9_second RX9 "second" 7 5 false (94, .imul, 95, []) := (r_imul dX9_second_94).row
theorem o215_95 : OkE cX9_second RX9 "second" 7 5 false (95, .iadd, 96, []) := (r_iadd dX9_second_95).row
theorem o215_96 : OkE cX9_second RX9 "second" 7 5 false (96, .iload 3, 97, []) := (r_iload_n dX9_second_96 rfl).row
theorem o215_97 : OkE cX9_second RX9 "second" 7 5 false (97, .iload 6, 99, []) := (r_iload dX9_second_97).row
theorem o215_99 : OkE cX9_second RX9 "second" 7 5 false (99, .isub, 100, []) := (r_isub dX9_second_99).row
theorem o215_100 : OkE cX9_second RX9 "second" 7 5 false (100, .aload 0, 101, []) := (r_aload_n dX9_second_100 rfl).row
theorem o215_101 : OkE cX9_second RX9 "second" 7 5 false (101, .invokeinterface 9 1, 104, []) := (r_get (C := RX9) (T := TX9) (N := 45) (ci := 9) (j := 1) (ref := RX9) dX9_second_101 rfl inX9 (by decide) wd_1001 rfl).row
theorem o215_104 : OkE cX9_second RX9 "second" 7 5 false (104, .iconst 6, 106, []) := (r_bipush dX9_second_104 rfl).row
theorem o215_106 : OkE cX9_second RX9 "second" 7 5 false (106, .iaload, 107, []) := (r_iald dX9_second_106).row
theorem o215_107 : OkE cX9_second RX9 "second" 7 5 false (107, .imul, 108, []) := (r_imul dX9_second_107).row
theorem o215_108 : OkE cX9_second RX9 "second" 7 5 false (108, .iadd, 109, []) := (r_iadd dX9_second_108).row
theorem o215_109 : OkE cX9_second RX9 "second" 7 5 false (109, .iload 3, 110, []) := (r_iload_n dX9_second_109 rfl).row
theorem o215_110 : OkE cX9_second RX9 "second" 7 5 false (110, .aload 0, 111, []) := (r_aload_n dX9_second_110 rfl).row
theorem o215_111 : OkE cX9_second RX9 "second" 7 5 false (111, .invokeinterface 9 1, 114, []) := (r_get (C := RX9) (T := TX9) (N := 45) (ci := 9) (j := 1) (ref := RX9) dX9_second_111 rfl inX9 (by decide) wd_1001 rfl).row
theorem o215_114 : OkE cX9_second RX9 "second" 7 5 false (114, .iconst 4, 115, []) := (r_iconst dX9_second_114 rfl).row
theorem o215_115 : OkE cX9_second RX9 "second" 7 5 false (115, .iaload, 116, []) := (r_iald dX9_second_115).row
theorem o215_116 : OkE cX9_second RX9 "second" 7 5 false (116, .iload 4, 118, []) := (r_iload dX9_second_116).row
theorem o215_118 : OkE cX9_second RX9 "second" 7 5 false (118, .iadd, 119, []) := (r_iadd dX9_second_118).row
theorem o215_119 : OkE cX9_second RX9 "second" 7 5 false (119, .imul, 120, []) := (r_imul dX9_second_119).row
theorem o215_120 : OkE cX9_second RX9 "second" 7 5 false (120, .isub, 121, []) := (r_isub dX9_second_120).row
theorem o215_121 : OkE cX9_second RX9 "second" 7 5 false (121, .ireturn, 122, []) := dX9_second_121
theorem ok215 : ∀ x ∈ k215, OkE cX9_second RX9 "second" 7 5 false x := List.forall_mem_cons.mpr ⟨o215_0, List.forall_mem_cons.mpr ⟨o215_1, List.forall_mem_cons.mpr ⟨o215_2, List.forall_mem_cons.mpr ⟨o215_5, List.forall_mem_cons.mpr ⟨o215_8, List.forall_mem_cons.mpr ⟨o215_9, List.forall_mem_cons.mpr ⟨o215_12, List.forall_mem_cons.mpr ⟨o215_15, List.forall_mem_cons.mpr ⟨o215_16, List.forall_mem_cons.mpr ⟨o215_17, List.forall_mem_cons.mpr ⟨o215_18, List.forall_mem_cons.mpr ⟨o215_19, List.forall_mem_cons.mpr ⟨o215_20, List.forall_mem_cons.mpr ⟨o215_23, List.forall_mem_cons.mpr ⟨o215_26, List.forall_mem_cons.mpr ⟨o215_29, List.forall_mem_cons.mpr ⟨o215_31, List.forall_mem_cons.mpr ⟨o215_32, List.forall_mem_cons.mpr ⟨o215_33, List.forall_mem_cons.mpr ⟨o215_36, List.forall_mem_cons.mpr ⟨o215_39, List.forall_mem_cons.mpr ⟨o215_42, List.forall_mem_cons.mpr ⟨o215_44, List.forall_mem_cons.mpr ⟨o215_45, List.forall_mem_cons.mpr ⟨o215_46, List.forall_mem_cons.mpr ⟨o215_49, List.forall_mem_cons.mpr ⟨o215_50, List.forall_mem_cons.mpr ⟨o215_53, List.forall_mem_cons.mpr ⟨o215_55, List.forall_mem_cons.mpr ⟨o215_56, List.forall_mem_cons.mpr ⟨o215_57, List.forall_mem_cons.mpr ⟨o215_60, List.forall_mem_cons.mpr ⟨o215_61, List.forall_mem_cons.mpr ⟨o215_62, List.forall_mem_cons.mpr ⟨o215_65, List.forall_mem_cons.mpr ⟨o215_66, List.forall_mem_cons.mpr ⟨o215_67, List.forall_mem_cons.mpr ⟨o215_70, List.forall_mem_cons.mpr ⟨o215_71, List.forall_mem_cons.mpr ⟨o215_74, List.forall_mem_cons.mpr ⟨o215_75, List.forall_mem_cons.mpr ⟨o215_78, List.forall_mem_cons.mpr ⟨o215_80, List.forall_mem_cons.mpr ⟨o215_81, List.forall_mem_cons.mpr ⟨o215_83, List.forall_mem_cons.mpr ⟨o215_86, List.forall_mem_cons.mpr ⟨o215_88, List.forall_mem_cons.mpr ⟨o215_89, List.forall_mem_cons.mpr ⟨o215_92, List.forall_mem_cons.mpr ⟨o215_93, List.forall_mem_cons.mpr ⟨o215_94, List.forall_mem_cons.mpr ⟨o215_95, List.forall_mem_cons.mpr ⟨o215_96, List.forall_mem_cons.mpr ⟨o215_97, List.forall_mem_cons.mpr ⟨o215_99, List.forall_mem_cons.mpr ⟨o215_100, List.forall_mem_cons.mpr ⟨o215_101, List.forall_mem_cons.mpr ⟨o215_104, List.forall_mem_cons.mpr ⟨o215_106, List.forall_mem_cons.mpr ⟨o215_107, List.forall_mem_cons.mpr ⟨o215_108, List.forall_mem_cons.mpr ⟨o215_109, List.forall_mem_cons.mpr ⟨o215_110, List.forall_mem_cons.mpr ⟨o215_111, List.forall_mem_cons.mpr ⟨o215_114, List.forall_mem_cons.mpr ⟨o215_115, List.forall_mem_cons.mpr ⟨o215_116, List.forall_mem_cons.mpr ⟨o215_118, List.forall_mem_cons.mpr ⟨o215_119, List.forall_mem_cons.mpr ⟨o215_120, List.forall_mem_cons.mpr ⟨o215_121, fun _ h => absurd h List.not_mem_nil⟩⟩⟩⟩⟩⟩⟩⟩⟩⟩⟩⟩⟩⟩⟩⟩⟩⟩⟩⟩⟩⟩⟩⟩⟩⟩⟩⟩⟩⟩⟩⟩⟩⟩⟩⟩⟩⟩⟩⟩⟩⟩⟩⟩⟩⟩⟩⟩⟩⟩⟩⟩⟩⟩⟩⟩⟩⟩⟩⟩⟩⟩⟩⟩⟩⟩⟩⟩⟩⟩⟩
theorem o216_0 : OkE cX9_paidOf RX9 "paidOf" 4 4 false (0, .aload 0, 1, []) := (r_aload_n dX9_paidOf_0 rfl).row
theorem o216_1 : OkE cX9_paidOf RX9 "paidOf" 4 4 false (1, .iconst 0, 2, []) := (r_iconst dX9_paidOf_1 rfl).row
theorem o216_2 : OkE cX9_paidOf RX9 "paidOf" 4 4 false (2, .multianewarray 9 37, 5, []) := r_putI (C := RX9) (T := TX9) (N := 45) (ci := 9) (j := 37) (ref := RX9) dX9_paidOf_2 rfl inX9 tyX9 tyX9_ok nmX9 (by decide) wd_1037 rfl rfl (tyX9_ok 37 (by decide)) rfl
theorem o216_5 : OkE cX9_paidOf RX9 "paidOf" 4 4 false (5, .aload 0, 6, []) := (r_aload_n dX9_paidOf_5 rfl).row
theorem o216_6 : OkE cX9_paidOf RX9 "paidOf" 4 4 false (6, .iconst 0, 7, []) := (r_iconst dX9_paidOf_6 rfl).row
theorem o216_7 : OkE cX9_paidOf RX9 "paidOf" 4 4 false (7, .multianewarray 9 36, 10, []) := r_putI (C := RX9) (T := TX9) (N := 45) (ci := 9) (j := 36) (ref := RX9) dX9_paidOf_7 rfl inX9 tyX9 tyX9_ok nmX9 (by decide) wd_1036 rfl rfl (tyX9_ok 36 (by decide)) rfl
theorem o216_10 : OkE cX9_paidOf RX9 "paidOf" 4 4 false (10, .aload 0, 11, []) := (r_aload_n dX9_paidOf_10 rfl).row
theorem o216_11 : OkE cX9_paidOf RX9 "paidOf" 4 4 false (11, .iload 2, 12, []) := (r_iload_n dX9_paidOf_11 rfl).row
theorem o216_12 : OkE cX9_paidOf RX9 "paidOf" 4 4 false (12, .iload 3, 13, []) := (r_iload_n dX9_paidOf_12 rfl).row
theorem o216_13 : OkE cX9_paidOf RX9 "paidOf" 4 4 false (13, .if_icmp .lt 20, 16, []) := (r_icmp_lt dX9_paidOf_13 rfl).row
theorem o216_16 : OkE cX9_paidOf RX9 "paidOf" 4 4 false (16, .iload 1, 17, []) := (r_iload_n dX9_paidOf_16 rfl).row
theorem o216_17 : OkE cX9_paidOf RX9 "paidOf" 4 4 false (17, .goto 21, 20, []) := (r_goto dX9_paidOf_17 rfl).row
theorem o216_20 : OkE cX9_paidOf RX9 "paidOf" 4 4 false (20, .iconst (-1), 21, []) := (r_iconst dX9_paidOf_20 rfl).row
theorem o216_21 : OkE cX9_paidOf RX9 "paidOf" 4 4 false (21, .multianewarray 9 38, 24, [3]) := r_putI (C := RX9) (T := TX9) (N := 45) (ci := 9) (j := 38) (ref := RX9) dX9_paidOf_21 rfl inX9 tyX9 tyX9_ok nmX9 (by decide) wd_1038 rfl rfl (tyX9_ok 38 (by decide)) rfl
theorem o216_24 : OkE cX9_paidOf RX9 "paidOf" 4 4 false (24, .aload 0, 25, []) := (r_aload_n dX9_paidOf_24 rfl).row
theorem o216_25 : OkE cX9_paidOf RX9 "paidOf" 4 4 false (25, .invokevirtual 205, 28, []) := ⟨rfl, c_V dX9_paidOf_25 wd_1343 wd_1345 wd_55 wd_74 wd_1346 nmh_9⟩
theorem o216_28 : OkE cX9_paidOf RX9 "paidOf" 4 4 false (28, .iload 2, 29, []) := (r_iload_n dX9_paidOf_28 rfl).row
theorem o216_29 : OkE cX9_paidOf RX9 "paidOf" 4 4 false (29, .aload 0, 30, []) := (r_aload_n dX9_paidOf_29 rfl).row
theorem o216_30 : OkE cX9_paidOf RX9 "paidOf" 4 4 false (30, .invokeinterface 9 27, 33, []) := (r_get (C := RX9) (T := TX9) (N := 45) (ci := 9) (j := 27) (ref := RX9) dX9_paidOf_30 rfl inX9 (by decide) wd_1027 rfl).row
theorem o216_33 : OkE cX9_paidOf RX9 "paidOf" 4 4 false (33, .iconst 6, 35, []) := (r_bipush dX9_paidOf_33 rfl).row
theorem o216_35 : OkE cX9_paidOf RX9 "paidOf" 4 4 false (35, .iload 1, 36, []) := (r_iload_n dX9_paidOf_35 rfl).row
theorem o216_36 : OkE cX9_paidOf RX9 "paidOf" 4 4 false (36, .imul, 37, []) := (r_imul dX9_paidOf_36).row
theorem o216_37 : OkE cX9_paidOf RX9 "paidOf" 4 4 false (37, .iconst 5, 38, []) := (r_iconst dX9_paidOf_37 rfl).row
theorem o216_38 : OkE cX9_paidOf RX9 "paidOf" 4 4 false (38, .iadd, 39, []) := (r_iadd dX9_paidOf_38).row
theorem o216_39 : OkE cX9_paidOf RX9 "paidOf" 4 4 false (39, .iaload, 40, []) := (r_iald dX9_paidOf_39).row
theorem o216_40 : OkE cX9_paidOf RX9 "paidOf" 4 4 false (40, .imul, 41, []) := (r_imul dX9_paidOf_40).row
theorem o216_41 : OkE cX9_paidOf RX9 "paidOf" 4 4 false (41, .ireturn, 42, []) := dX9_paidOf_41
theorem ok216 : ∀ x ∈ k216, OkE cX9_paidOf RX9 "paidOf" 4 4 false x := List.forall_mem_cons.mpr ⟨o216_0, List.forall_mem_cons.mpr ⟨o216_1, List.forall_mem_cons.mpr ⟨o216_2, List.forall_mem_cons.mpr ⟨o216_5, List.forall_mem_cons.mpr ⟨o216_6, List.forall_mem_cons.mpr ⟨o216_7, List.forall_mem_cons.mpr ⟨o216_10, List.forall_mem_cons.mpr ⟨o216_11, List.forall_mem_cons.mpr ⟨o216_12, List.forall_mem_cons.mpr ⟨o216_13, List.forall_mem_cons.mpr ⟨o216_16, List.forall_mem_cons.mpr ⟨o216_17, List.forall_mem_cons.mpr ⟨o216_20, List.forall_mem_cons.mpr ⟨o216_21, List.forall_mem_cons.mpr ⟨o216_24, List.forall_mem_cons.mpr ⟨o216_25, List.forall_mem_cons.mpr ⟨o216_28, List.forall_mem_cons.mpr ⟨o216_29, List.forall_mem_cons.mpr ⟨o216_30, List.forall_mem_cons.mpr ⟨o216_33, List.forall_mem_cons.mpr ⟨o216_35, List.forall_mem_cons.mpr ⟨o216_36, List.forall_mem_cons.mpr ⟨o216_37, List.forall_mem_cons.mpr ⟨o216_38, List.forall_mem_cons.mpr ⟨o216_39, List.forall_mem_cons.mpr ⟨o216_40, List.forall_mem_cons.mpr ⟨o216_41, fun _ h => absurd h List.not_mem_nil⟩⟩⟩⟩⟩⟩⟩⟩⟩⟩⟩⟩⟩⟩⟩⟩⟩⟩⟩⟩⟩⟩⟩⟩⟩⟩⟩
theorem o217_0 : OkE cX9_paid RX9 "paid" 4 5 false (0, .aload 0, 1, []) := (r_aload_n dX9_paid_0 rfl).row
theorem o217_1 : OkE cX9_paid RX9 "paid" 4 5 false (1, .iload 1, 2, []) := (r_iload_n dX9_paid_1 rfl).row
theorem o217_2 : OkE cX9_paid RX9 "paid" 4 5 false (2, .invokevirtual 163, 5, []) := ⟨rfl, c_V dX9_paid_2 wd_1175 wd_1177 wd_41 wd_74 wd_1178 nmh_9⟩
theorem o217_5 : OkE cX9_paid RX9 "paid" 4 5 false (5, .ifCond .ne 10, 8, []) := (r_if_ne dX9_paid_5 rfl).row
theorem o217_8 : OkE cX9_paid RX9 "paid" 4 5 false (8, .iconst (-1), 9, []) := (r_iconst dX9_paid_8 rfl).row
theorem o217_9 : OkE cX9_paid RX9 "paid" 4 5 false (9, .ireturn, 10, []) := dX9_paid_9
theorem o217_10 : OkE cX9_paid RX9 "paid" 4 5 false (10, .iload 2, 11, []) := (r_iload_n dX9_paid_10 rfl).row
theorem o217_11 : OkE cX9_paid RX9 "paid" 4 5 false (11, .i2l, 12, []) := (r_i2l dX9_paid_11).row
theorem o217_12 : OkE cX9_paid RX9 "paid" 4 5 false (12, .sipush 0, 13, []) := (r_lconst dX9_paid_12 rfl).row
theorem o217_13 : OkE cX9_paid RX9 "paid" 4 5 false (13, .sipush 20, 16, []) := (r_ldc2 wd_1202 dX9_paid_13 rfl).row
theorem o217_16 : OkE cX9_paid RX9 "paid" 4 5 false (16, .invokestatic 152, 19, []) := ⟨rfl, c_S dX9_paid_16 wd_993 wd_994 wd_74 wd_995 nmh_9⟩
theorem o217_19 : OkE cX9_paid RX9 "paid" 4 5 false (19, .ifCond .eq 44, 22, []) := (r_if_eq dX9_paid_19 rfl).row
theorem o217_22 : OkE cX9_paid RX9 "paid" 4 5 false (22, .iload 3, 23, []) := (r_iload_n dX9_paid_22 rfl).row
theorem o217_23 : OkE cX9_paid RX9 "paid" 4 5 false (23, .i2l, 24, []) := (r_i2l dX9_paid_23).row
theorem o217_24 : OkE cX9_paid RX9 "paid" 4 5 false (24, .sipush 0, 25, []) := (r_lconst dX9_paid_24 rfl).row
theorem o217_25 : OkE cX9_paid RX9 "paid" 4 5 false (25, .sipush 21, 28, []) := (r_ldc2 wd_1397 dX9_paid_25 rfl).row
theorem o217_28 : OkE cX9_paid RX9 "paid" 4 5 false (28, .invokestatic 152, 31, []) := ⟨rfl, c_S dX9_paid_28 wd_993 wd_994 wd_74 wd_995 nmh_9⟩
theorem o217_31 : OkE cX9_paid RX9 "paid" 4 5 false (31, .ifCond .eq 44, 34, []) := (r_if_eq dX9_paid_31 rfl).row
theorem o217_34 : OkE cX9_paid RX9 "paid" 4 5 false (34, .aload 0, 35, []) := (r_aload_n dX9_paid_34 rfl).row
theorem o217_35 : OkE cX9_paid RX9 "paid" 4 5 false (35, .iload 1, 36, []) := (r_iload_n dX9_paid_35 rfl).row
theorem o217_36 : OkE cX9_paid RX9 "paid" 4 5 false (36, .iload 2, 37, []) := (r_iload_n dX9_paid_36 rfl).row
theorem o217_37 : OkE cX9_paid RX9 "paid" 4 5 false (37, .iload 3, 38, []) := (r_iload_n dX9_paid_37 rfl).row
theorem o217_38 : OkE cX9_paid RX9 "paid" 4 5 false (38, .invokevirtual 216, 41, []) := ⟨rfl, c_V dX9_paid_38 wd_1398 wd_1400 wd_62 wd_74 wd_1401 nmh_9⟩
theorem o217_41 : OkE cX9_paid RX9 "paid" 4 5 false (41, .goto 46, 44, []) := (r_goto dX9_paid_41 rfl).row
theorem o217_44 : OkE cX9_paid RX9 "paid" 4 5 false (44, .iconst (-2), 46, [0, 1, 2, 3]) := (r_bipush dX9_paid_44 rfl).row
theorem o217_46 : OkE cX9_paid RX9 "paid" 4 5 false (46, .ireturn, 47, [0, 1, 2, 3]) := dX9_paid_46
theorem ok217 : ∀ x ∈ k217, OkE cX9_paid RX9 "paid" 4 5 false x := List.forall_mem_cons.mpr ⟨o217_0, List.forall_mem_cons.mpr ⟨o217_1, List.forall_mem_cons.mpr ⟨o217_2, List.forall_mem_cons.mpr ⟨o217_5, List.forall_mem_cons.mpr ⟨o217_8, List.forall_mem_cons.mpr ⟨o217_9, List.forall_mem_cons.mpr ⟨o217_10, List.forall_mem_cons.mpr ⟨o217_11, List.forall_mem_cons.mpr ⟨o217_12, List.forall_mem_cons.mpr ⟨o217_13, List.forall_mem_cons.mpr ⟨o217_16, List.forall_mem_cons.mpr ⟨o217_19, List.forall_mem_cons.mpr ⟨o217_22, List.forall_mem_cons.mpr ⟨o217_23, List.forall_mem_cons.mpr ⟨o217_24, List.forall_mem_cons.mpr ⟨o217_25, List.forall_mem_cons.mpr ⟨o217_28, List.forall_mem_cons.mpr ⟨o217_31, List.forall_mem_cons.mpr ⟨o217_34, List.forall_mem_cons.mpr ⟨o217_35, List.forall_mem_cons.mpr ⟨o217_36, List.forall_mem_cons.mpr ⟨o217_37, List.forall_mem_cons.mpr ⟨o217_38, List.forall_mem_cons.mpr ⟨o217_41, List.forall_mem_cons.mpr ⟨o217_44, List.forall_mem_cons.mpr ⟨o217_46, fun _ h => absurd h List.not_mem_nil⟩⟩⟩⟩⟩⟩⟩⟩⟩⟩⟩⟩⟩⟩⟩⟩⟩⟩⟩⟩⟩⟩⟩⟩⟩⟩
theorem o218_0 : OkE cX9_leastPay RX9 "leastPay" 5 5 false (0, .aload 0, 1, []) := (r_aload_n dX9_leastPay_0 rfl).row
theorem o218_1 : OkE cX9_leastPay RX9 "leastPay" 5 5 false (1, .iload 1, 2, []) := (r_iload_n dX9_leastPay_1 rfl).row
theorem o218_2 : OkE cX9_leastPay RX9 "leastPay" 5 5 false (2, .invokevirtual 163, 5, []) := ⟨rfl, c_V dX9_leastPay_2 wd_1175 wd_1177 wd_41 wd_74 wd_1178 nmh_9⟩
theorem o218_5 : OkE cX9_leastPay RX9 "leastPay" 5 5 false (5, .ifCond .ne 10, 8, []) := (r_if_ne dX9_leastPay_5 rfl).row
theorem o218_8 : OkE cX9_leastPay RX9 "leastPay" 5 5 false (8, .iconst (-1), 9, []) := (r_iconst dX9_leastPay_8 rfl).row
theorem o218_9 : OkE cX9_leastPay RX9 "leastPay" 5 5 false (9, .ireturn, 10, []) := dX9_leastPay_9
theorem o218_10 : OkE cX9_leastPay RX9 "leastPay" 5 5 false (10, .iload 2, 11, []) := (r_iload_n dX9_leastPay_10 rfl).row
theorem o218_11 : OkE cX9_leastPay RX9 "leastPay" 5 5 false (11, .i2l, 12, []) := (r_i2l dX9_leastPay_11).row
theorem o218_12 : OkE cX9_leastPay RX9 "leastPay" 5 5 false (12, .sipush 0, 13, []) := (r_lconst dX9_leastPay_12 rfl).row
theorem o218_13 : OkE cX9_leastPay RX9 "leastPay" 5 5 false (13, .sipush 21, 16, []) := (r_ldc2 wd_1397 dX9_leastPay_13 rfl).row
theorem o218_16 : OkE cX9_leastPay RX9 "leastPay" 5 5 false (16, .invokestatic 152, 19, []) := ⟨rfl, c_S dX9_leastPay_16 wd_993 wd_994 wd_74 wd_995 nmh_9⟩
theorem o218_19 : OkE cX9_leastPay RX9 "leastPay" 5 5 false (19, .ifCond .eq 34, 22, []) := (r_if_eq dX9_leastPay_19 rfl).row
theorem o218_22 : OkE cX9_leastPay RX9 "leastPay" 5 5 false (22, .iload 3, 23, []) := (r_iload_n dX9_leastPay_22 rfl).row
theorem o218_23 : OkE cX9_leastPay RX9 "leastPay" 5 5 false (23, .i2l, 24, []) := (r_i2l dX9_leastPay_23).row
theorem o218_24 : OkE cX9_leastPay RX9 "leastPay" 5 5 false (24, .sipush 0, 25, []) := (r_lconst dX9_leastPay_24 rfl).row
theorem o218_25 : OkE cX9_leastPay RX9 "leastPay" 5 5 false (25, .sipush 999, 28, []) := (r_ldc2 wd_1406 dX9_leastPay_25 rfl).row
theorem o218_28 : OkE cX9_leastPay RX9 "leastPay" 5 5 false (28, .invokestatic 152, 31, []) := ⟨rfl, c_S dX9_leastPay_28 wd_993 wd_994 wd_74 wd_995 nmh_9⟩
theorem o218_31 : OkE cX9_leastPay RX9 "leastPay" 5 5 false (31, .ifCond .ne 37, 34, []) := (r_if_ne dX9_leastPay_31 rfl).row
theorem o218_34 : OkE cX9_leastPay RX9 "leastPay" 5 5 false (34, .iconst (-2), 36, [0, 1, 2, 3]) := (r_bipush dX9_leastPay_34 rfl).row
theorem o218_36 : OkE cX9_leastPay RX9 "leastPay" 5 5 false (36, .ireturn, 37, []) := dX9_leastPay_36
theorem o218_37 : OkE cX9_leastPay RX9 "leastPay" 5 5 false (37, .iconst 0, 38, []) := (r_iconst dX9_leastPay_37 rfl).row
theorem o218_38 : OkE cX9_leastPay RX9 "leastPay" 5 5 false (38, .istore 4, 40, []) := (r_istore dX9_leastPay_38).row
theorem o218_40 : OkE cX9_leastPay RX9 "leastPay" 5 5 false (40, .iload 4, 42, []) := (r_iload dX9_leastPay_40).row
theorem o218_42 : OkE cX9_leastPay RX9 "leastPay" 5 5 false (42, .iconst 21, 44, []) := (r_bipush dX9_leastPay_42 rfl).row
theorem o218_44 : OkE cX9_leastPay RX9 "leastPay" 5 5 false (44, .if_icmp .ge 68, 47, []) := (r_icmp_ge dX9_leastPay_44 rfl).row
theorem o218_47 : OkE cX9_leastPay RX9 "leastPay" 5 5 false (47, .aload 0, 48, []) := (r_aload_n dX9_leastPay_47 rfl).row
theorem o218_48 : OkE cX9_leastPay RX9 "leastPay" 5 5 false (48, .iload 1, 49, []) := (r_iload_n dX9_leastPay_48 rfl).row
theorem o218_49 : OkE cX9_leastPay RX9 "leastPay" 5 5 false (49, .iload 4, 51, []) := (r_iload dX9_leastPay_49).row
theorem o218_51 : OkE cX9_leastPay RX9 "leastPay" 5 5 false (51, .iload 2, 52, []) := (r_iload_n dX9_leastPay_51 rfl).row
theorem o218_52 : OkE cX9_leastPay RX9 "leastPay" 5 5 false (52, .invokevirtual 216, 55, []) := ⟨rfl, c_V dX9_leastPay_52 wd_1398 wd_1400 wd_62 wd_74 wd_1401 nmh_9⟩
theorem o218_55 : OkE cX9_leastPay RX9 "leastPay" 5 5 false (55, .iload 3, 56, []) := (r_iload_n dX9_leastPay_55 rfl).row
theorem o218_56 : OkE cX9_leastPay RX9 "leastPay" 5 5 false (56, .if_icmp .lt 62, 59, []) := (r_icmp_lt dX9_leastPay_56 rfl).row
theorem o218_59 : OkE cX9_leastPay RX9 "leastPay" 5 5 false (59, .iload 4, 61, []) := (r_iload dX9_leastPay_59).row
theorem o218_61 : OkE cX9_leastPay RX9 "leastPay" 5 5 false (61, .ireturn, 62, []) := dX9_leastPay_61
theorem o218_62 : OkE cX9_leastPay RX9 "leastPay" 5 5 false (62, .iinc 4 1, 65, []) := (r_iinc dX9_leastPay_62 rfl).row
theorem o218_65 : OkE cX9_leastPay RX9 "leastPay" 5 5 false (65, .goto 40, 68, []) := (r_goto dX9_leastPay_65 rfl).row
theorem o218_68 : OkE cX9_leastPay RX9 "leastPay" 5 5 false (68, .iconst (-9), 70, []) := (r_bipush dX9_leastPay_68 rfl).row
theorem o218_70 : OkE cX9_leastPay RX9 "leastPay" 5 5 false (70, .ireturn, 71, []) := dX9_leastPay_70
theorem ok218 : ∀ x ∈ k218, OkE cX9_leastPay RX9 "leastPay" 5 5 false x := List.forall_mem_cons.mpr ⟨o218_0, List.forall_mem_cons.mpr ⟨o218_1, List.forall_mem_cons.mpr ⟨o218_2, List.forall_mem_cons.mpr ⟨o218_5, List.forall_mem_cons.mpr ⟨o218_8, List.forall_mem_cons.mpr ⟨o218_9, List.forall_mem_cons.mpr ⟨o218_10, List.forall_mem_cons.mpr ⟨o218_11, List.forall_mem_cons.mpr ⟨o218_12, List.forall_mem_cons.mpr ⟨o218_13, List.forall_mem_cons.mpr ⟨o218_16, List.forall_mem_cons.mpr ⟨o218_19, List.forall_mem_cons.mpr ⟨o218_22, List.forall_mem_cons.mpr ⟨o218_23, List.forall_mem_cons.mpr ⟨o218_24, List.forall_mem_cons.mpr ⟨o218_25, List.forall_mem_cons.mpr ⟨o218_28, List.forall_mem_cons.mpr ⟨o218_31, List.forall_mem_cons.mpr ⟨o218_34, List.forall_mem_cons.mpr ⟨o218_36, List.forall_mem_cons.mpr ⟨o218_37, List.forall_mem_cons.mpr ⟨o218_38, List.forall_mem_cons.mpr ⟨o218_40, List.forall_mem_cons.mpr ⟨o218_42, List.forall_mem_cons.mpr ⟨o218_44, List.forall_mem_cons.mpr ⟨o218_47, List.forall_mem_cons.mpr ⟨o218_48, List.forall_mem_cons.mpr ⟨o218_49, List.forall_mem_cons.mpr ⟨o218_51, List.forall_mem_cons.mpr ⟨o218_52, List.forall_mem_cons.mpr ⟨o218_55, List.forall_mem_cons.mpr ⟨o218_56, List.forall_mem_cons.mpr ⟨o218_59, List.forall_mem_cons.mpr ⟨o218_61, List.forall_mem_cons.mpr ⟨o218_62, List.forall_mem_cons.mpr ⟨o218_65, List.forall_mem_cons.mpr ⟨o218_68, List.forall_mem_cons.mpr ⟨o218_70, fun _ h => absurd h List.not_mem_nil⟩⟩⟩⟩⟩⟩⟩⟩⟩⟩⟩⟩⟩⟩⟩⟩⟩⟩⟩⟩⟩⟩⟩⟩⟩⟩⟩⟩⟩⟩⟩⟩⟩⟩⟩⟩⟩⟩
theorem o219_0 : OkE cX9_keep RX9 "keep" 3 1 false (0, .iload 1, 1, []) := (r_iload_n dX9_keep_0 rfl).row
theorem o219_1 : OkE cX9_keep RX9 "keep" 3 1 false (1, .i2l, 2, []) := (r_i2l dX9_keep_1).row
theorem o219_2 : OkE cX9_keep RX9 "keep" 3 1 false (2, .sipush 0, 3, []) := (r_lconst dX9_keep_2 rfl).row
theorem o219_3 : OkE cX9_keep RX9 "keep" 3 1 false (3, .sipush 1, 4, []) := (r_lconst dX9_keep_3 rfl).row
theorem o219_4 : OkE cX9_keep RX9 "keep" 3 1 false (4, .invokestatic 152, 7, []) := ⟨rfl, c_S dX9_keep_4 wd_993 wd_994 wd_74 wd_995 nmh_9⟩
theorem o219_7 : OkE cX9_keep RX9 "keep" 3 1 false (7, .ifCond .ne 12, 10, []) := (r_if_ne dX9_keep_7 rfl).row
theorem o219_10 : OkE cX9_keep RX9 "keep" 3 1 false (10, .iconst (-1), 11, []) := (r_iconst dX9_keep_10 rfl).row
theorem o219_11 : OkE cX9_keep RX9 "keep" 3 1 false (11, .ireturn, 12, []) := dX9_keep_11
theorem o219_12 : OkE cX9_keep RX9 "keep" 3 1 false (12, .aload 0, 13, []) := (r_aload_n dX9_keep_12 rfl).row
theorem o219_13 : OkE cX9_keep RX9 "keep" 3 1 false (13, .invokeinterface 9 39, 16, []) := (r_get (C := RX9) (T := TX9) (N := 45) (ci := 9) (j := 39) (ref := RX9) dX9_keep_13 rfl inX9 (by decide) wd_1039 rfl).row
theorem o219_16 : OkE cX9_keep RX9 "keep" 3 1 false (16, .iload 1, 17, []) := (r_iload_n dX9_keep_16 rfl).row
theorem o219_17 : OkE cX9_keep RX9 "keep" 3 1 false (17, .iconst 1, 18, []) := (r_iconst dX9_keep_17 rfl).row
theorem o219_18 : OkE cX9_keep RX9 "keep" 3 1 false (18, .bastore, 19, []) := r_zast dX9_keep_18
theorem o219_19 : OkE cX9_keep RX9 "keep" 3 1 false (19, .iconst 0, 20, []) := (r_iconst dX9_keep_19 rfl).row
theorem o219_20 : OkE cX9_keep RX9 "keep" 3 1 false (20, .istore 2, 21, []) := (r_istore_n dX9_keep_20 rfl).row
theorem o219_21 : OkE cX9_keep RX9 "keep" 3 1 false (21, .iload 2, 22, []) := (r_iload_n dX9_keep_21 rfl).row
theorem o219_22 : OkE cX9_keep RX9 "keep" 3 1 false (22, .iconst 3, 23, []) := (r_iconst dX9_keep_22 rfl).row
theorem o219_23 : OkE cX9_keep RX9 "keep" 3 1 false (23, .if_icmp .ge 80, 26, []) := (r_icmp_ge dX9_keep_23 rfl).row
theorem o219_26 : OkE cX9_keep RX9 "keep" 3 1 false (26, .aload 0, 27, []) := (r_aload_n dX9_keep_26 rfl).row
theorem o219_27 : OkE cX9_keep RX9 "keep" 3 1 false (27, .invokeinterface 9 40, 30, []) := (r_get (C := RX9) (T := TX9) (N := 45) (ci := 9) (j := 40) (ref := RX9) dX9_keep_27 rfl inX9 (by decide) wd_1040 rfl).row
theorem o219_30 : OkE cX9_keep RX9 "keep" 3 1 false (30, .iconst 3, 31, []) := (r_iconst dX9_keep_30 rfl).row
theorem o219_31 : OkE cX9_keep RX9 "keep" 3 1 false (31, .iload 1, 32, []) := (r_iload_n dX9_keep_31 rfl).row
theorem o219_32 : OkE cX9_keep RX9 "keep" 3 1 false (32, .imul, 33, []) := (r_imul dX9_keep_32).row
theorem o219_33 : OkE cX9_keep RX9 "keep" 3 1 false (33, .iload 2, 34, []) := (r_iload_n dX9_keep_33 rfl).row
theorem o219_34 : OkE cX9_keep RX9 "keep" 3 1 false (34, .iadd, 35, []) := (r_iadd dX9_keep_34).row
theorem o219_35 : OkE cX9_keep RX9 "keep" 3 1 false (35, .aload 0, 36, []) := (r_aload_n dX9_keep_35 rfl).row
theorem o219_36 : OkE cX9_keep RX9 "keep" 3 1 false (36, .invokeinterface 9 16, 39, []) := (r_get (C := RX9) (T := TX9) (N := 45) (ci := 9) (j := 16) (ref := RX9) dX9_keep_36 rfl inX9 (by decide) wd_1016 rfl).row
theorem o219_39 : OkE cX9_keep RX9 "keep" 3 1 false (39, .iload 2, 40, []) := (r_iload_n dX9_keep_39 rfl).row
theorem o219_40 : OkE cX9_keep RX9 "keep" 3 1 false (40, .iaload, 41, []) := (r_iald dX9_keep_40).row
theorem o219_41 : OkE cX9_keep RX9 "keep" 3 1 false (41, .iastore, 42, []) := r_iast dX9_keep_41
theorem o219_42 : OkE cX9_keep RX9 "keep" 3 1 false (42, .aload 0, 43, []) := (r_aload_n dX9_keep_42 rfl).row
theorem o219_43 : OkE cX9_keep RX9 "keep" 3 1 false (43, .invokeinterface 9 41, 46, []) := (r_get (C := RX9) (T := TX9) (N := 45) (ci := 9) (j := 41) (ref := RX9) dX9_keep_43 rfl inX9 (by decide) wd_1041 rfl).row
theorem o219_46 : OkE cX9_keep RX9 "keep" 3 1 false (46, .iconst 3, 47, []) := (r_iconst dX9_keep_46 rfl).row
theorem o219_47 : OkE cX9_keep RX9 "keep" 3 1 false (47, .iload 1, 48, []) := (r_iload_n dX9_keep_47 rfl).row
theorem o219_48 : OkE cX9_keep RX9 "keep" 3 1 false (48, .imul, 49, []) := (r_imul dX9_keep_48).row
theorem o219_49 : OkE cX9_keep RX9 "keep" 3 1 false (49, .iload 2, 50, []) := (r_iload_n dX9_keep_49 rfl).row
theorem o219_50 : OkE cX9_keep RX9 "keep" 3 1 false (50, .iadd, 51, []) := (r_iadd dX9_keep_50).row
theorem o219_51 : OkE cX9_keep RX9 "keep" 3 1 false (51, .aload 0, 52, []) := (r_aload_n dX9_keep_51 rfl).row
theorem o219_52 : OkE cX9_keep RX9 "keep" 3 1 false (52, .invokeinterface 9 17, 55, []) := (r_get (C := RX9) (T := TX9) (N := 45) (ci := 9) (j := 17) (ref := RX9) dX9_keep_52 rfl inX9 (by decide) wd_1017 rfl).row
theorem o219_55 : OkE cX9_keep RX9 "keep" 3 1 false (55, .iload 2, 56, []) := (r_iload_n dX9_keep_55 rfl).row
theorem o219_56 : OkE cX9_keep RX9 "keep" 3 1 false (56, .iaload, 57, []) := (r_iald dX9_keep_56).row
theorem o219_57 : OkE cX9_keep RX9 "keep" 3 1 false (57, .iastore, 58, []) := r_iast dX9_keep_57
theorem o219_58 : OkE cX9_keep RX9 "keep" 3 1 false (58, .aload 0, 59, []) := (r_aload_n dX9_keep_58 rfl).row
theorem o219_59 : OkE cX9_keep RX9 "keep" 3 1 false (59, .invokeinterface 9 42, 62, []) := (r_get (C := RX9) (T := TX9) (N := 45) (ci := 9) (j := 42) (ref := RX9) dX9_keep_59 rfl inX9 (by decide) wd_1042 rfl).row
theorem o219_62 : OkE cX9_keep RX9 "keep" 3 1 false (62, .iconst 3, 63, []) := (r_iconst dX9_keep_62 rfl).row
theorem o219_63 : OkE cX9_keep RX9 "keep" 3 1 false (63, .iload 1, 64, []) := (r_iload_n dX9_keep_63 rfl).row
theorem o219_64 : OkE cX9_keep RX9 "keep" 3 1 false (64, .imul, 65, []) := (r_imul dX9_keep_64).row
theorem o219_65 : OkE cX9_keep RX9 "keep" 3 1 false (65, .iload 2, 66, []) := (r_iload_n dX9_keep_65 rfl).row
theorem o219_66 : OkE cX9_keep RX9 "keep" 3 1 false (66, .iadd, 67, []) := (r_iadd dX9_keep_66).row
theorem o219_67 : OkE cX9_keep RX9 "keep" 3 1 false (67, .aload 0, 68, []) := (r_aload_n dX9_keep_67 rfl).row
theorem o219_68 : OkE cX9_keep RX9 "keep" 3 1 false (68, .invokeinterface 9 18, 71, []) := (r_get (C := RX9) (T := TX9) (N := 45) (ci := 9) (j := 18) (ref := RX9) dX9_keep_68 rfl inX9 (by decide) wd_1018 rfl).row
theorem o219_71 : OkE cX9_keep RX9 "keep" 3 1 false (71, .iload 2, 72, []) := (r_iload_n dX9_keep_71 rfl).row
theorem o219_72 : OkE cX9_keep RX9 "keep" 3 1 false (72, .iaload, 73, []) := (r_iald dX9_keep_72).row
theorem o219_73 : OkE cX9_keep RX9 "keep" 3 1 false (73, .iastore, 74, []) := r_iast dX9_keep_73
theorem o219_74 : OkE cX9_keep RX9 "keep" 3 1 false (74, .iinc 2 1, 77, []) := (r_iinc dX9_keep_74 rfl).row
theorem o219_77 : OkE cX9_keep RX9 "keep" 3 1 false (77, .goto 21, 80, []) := (r_goto dX9_keep_77 rfl).row
theorem o219_80 : OkE cX9_keep RX9 "keep" 3 1 false (80, .aload 0, 81, []) := (r_aload_n dX9_keep_80 rfl).row
theorem o219_81 : OkE cX9_keep RX9 "keep" 3 1 false (81, .invokeinterface 9 43, 84, []) := (r_get (C := RX9) (T := TX9) (N := 45) (ci := 9) (j := 43) (ref := RX9) dX9_keep_81 rfl inX9 (by decide) wd_1043 rfl).row
theorem o219_84 : OkE cX9_keep RX9 "keep" 3 1 false (84, .iconst 5, 85, []) := (r_iconst dX9_keep_84 rfl).row
theorem o219_85 : OkE cX9_keep RX9 "keep" 3 1 false (85, .iload 1, 86, []) := (r_iload_n dX9_keep_85 rfl).row
theorem o219_86 : OkE cX9_keep RX9 "keep" 3 1 false (86, .imul, 87, []) := (r_imul dX9_keep_86).row
theorem o219_87 : OkE cX9_keep RX9 "keep" 3 1 false (87, .aload 0, 88, []) := (r_aload_n dX9_keep_87 rfl).row
theorem o219_88 : OkE cX9_keep RX9 "keep" 3 1 false (88, .invokeinterface 9 15, 91, []) := (r_get (C := RX9) (T := TX9) (N := 45) (ci := 9) (j := 15) (ref := RX9) dX9_keep_88 rfl inX9 (by decide) wd_1015 rfl).row
theorem o219_91 : OkE cX9_keep RX9 "keep" 3 1 false (91, .iastore, 92, []) := r_iast dX9_keep_91
theorem o219_92 : OkE cX9_keep RX9 "keep" 3 1 false (92, .aload 0, 93, []) := (r_aload_n dX9_keep_92 rfl).row
theorem o219_93 : OkE cX9_keep RX9 "keep" 3 1 false (93, .invokeinterface 9 43, 96, []) := (r_get (C := RX9) (T := TX9) (N := 45) (ci := 9) (j := 43) (ref := RX9) dX9_keep_93 rfl inX9 (by decide) wd_1043 rfl).row
theorem o219_96 : OkE cX9_keep RX9 "keep" 3 1 false (96, .iconst 5, 97, []) := (r_iconst dX9_keep_96 rfl).row
theorem o219_97 : OkE cX9_keep RX9 "keep" 3 1 false (97, .iload 1, 98, []) := (r_iload_n dX9_keep_97 rfl).row
theorem o219_98 : OkE cX9_keep RX9 "keep" 3 1 false (98, .imul, 99, []) := (r_imul dX9_keep_98).row
theorem o219_99 : OkE cX9_keep RX9 "keep" 3 1 false (99, .iconst 1, 100, []) := (r_iconst dX9_keep_99 rfl).row
theorem o219_100 : OkE cX9_keep RX9 "keep" 3 1 false (100, .iadd, 101, []) := (r_iadd dX9_keep_100).row
theorem o219_101 : OkE cX9_keep RX9 "keep" 3 1 false (101, .aload 0, 102, []) := (r_aload_n dX9_keep_101 rfl).row
theorem o219_102 : OkE cX9_keep RX9 "keep" 3 1 false (102, .invokeinterface 9 19, 105, []) := (r_get (C := RX9) (T := TX9) (N := 45) (ci := 9) (j := 19) (ref := RX9) dX9_keep_102 rfl inX9 (by decide) wd_1019 rfl).row
theorem o219_105 : OkE cX9_keep RX9 "keep" 3 1 false (105, .iastore, 106, []) := r_iast dX9_keep_105
theorem o219_106 : OkE cX9_keep RX9 "keep" 3 1 false (106, .aload 0, 107, []) := (r_aload_n dX9_keep_106 rfl).row
theorem o219_107 : OkE cX9_keep RX9 "keep" 3 1 false (107, .invokeinterface 9 43, 110, []) := (r_get (C := RX9) (T := TX9) (N := 45) (ci := 9) (j := 43) (ref := RX9) dX9_keep_107 rfl inX9 (by decide) wd_1043 rfl).row
theorem o219_110 : OkE cX9_keep RX9 "keep" 3 1 false (110, .iconst 5, 111, []) := (r_iconst dX9_keep_110 rfl).row
theorem o219_111 : OkE cX9_keep RX9 "keep" 3 1 false (111, .iload 1, 112, []) := (r_iload_n dX9_keep_111 rfl).row
theorem o219_112 : OkE cX9_keep RX9 "keep" 3 1 false (112, .imul, 113, []) := (r_imul dX9_keep_112).row
theorem o219_113 : OkE cX9_keep RX9 "keep" 3 1 false (113, .iconst 2, 114, []) := (r_iconst dX9_keep_113 rfl).row
theorem o219_114 : OkE cX9_keep RX9 "keep" 3 1 false (114, .iadd, 115, []) := (r_iadd dX9_keep_114).row
theorem o219_115 : OkE cX9_keep RX9 "keep" 3 1 false (115, .aload 0, 116, []) := (r_aload_n dX9_keep_115 rfl).row
theorem o219_116 : OkE cX9_keep RX9 "keep" 3 1 false (116, .invokeinterface 9 20, 119, []) := (r_get (C := RX9) (T := TX9) (N := 45) (ci := 9) (j := 20) (ref := RX9) dX9_keep_116 rfl inX9 (by decide) wd_1020 rfl).row
theorem o219_119 : OkE cX9_keep RX9 "keep" 3 1 false (119, .iastore, 120, []) := r_iast dX9_keep_119
theorem o219_120 : OkE cX9_keep RX9 "keep" 3 1 false (120, .aload 0, 121, []) := (r_aload_n dX9_keep_120 rfl).row
theorem o219_121 : OkE cX9_keep RX9 "keep" 3 1 false (121, .invokeinterface 9 43, 124, []) := (r_get (C := RX9) (T := TX9) (N := 45) (ci := 9) (j := 43) (ref := RX9) dX9_keep_121 rfl inX9 (by decide) wd_1043 rfl).row
theorem o219_124 : OkE cX9_keep RX9 "keep" 3 1 false (124, .iconst 5, 125, []) := (r_iconst dX9_keep_124 rfl).row
theorem o219_125 : OkE cX9_keep RX9 "keep" 3 1 false (125, .iload 1, 126, []) := (r_iload_n dX9_keep_125 rfl).row
theorem o219_126 : OkE cX9_keep RX9 "keep" 3 1 false (126, .imul, 127, []) := (r_imul dX9_keep_126).row
theorem o219_127 : OkE cX9_keep RX9 "keep" 3 1 false (127, .iconst 3, 128, []) := (r_iconst dX9_keep_127 rfl).row
theorem o219_128 : OkE cX9_keep RX9 "keep" 3 1 false (128, .iadd, 129, []) := (r_iadd dX9_keep_128).row
theorem o219_129 : OkE cX9_keep RX9 "keep" 3 1 false (129, .aload 0, 130, []) := (r_aload_n dX9_keep_129 rfl).row
theorem o219_130 : OkE cX9_keep RX9 "keep" 3 1 false (130, .invokeinterface 9 21, 133, []) := (r_get (C := RX9) (T := TX9) (N := 45) (ci := 9) (j := 21) (ref := RX9) dX9_keep_130 rfl inX9 (by decide) wd_1021 rfl).row
theorem o219_133 : OkE cX9_keep RX9 "keep" 3 1 false (133, .iastore, 134, []) := r_iast dX9_keep_133
theorem o219_134 : OkE cX9_keep RX9 "keep" 3 1 false (134, .aload 0, 135, []) := (r_aload_n dX9_keep_134 rfl).row
theorem o219_135 : OkE cX9_keep RX9 "keep" 3 1 false (135, .invokeinterface 9 43, 138, []) := (r_get (C := RX9) (T := TX9) (N := 45) (ci := 9) (j := 43) (ref := RX9) dX9_keep_135 rfl inX9 (by decide) wd_1043 rfl).row
theorem o219_138 : OkE cX9_keep RX9 "keep" 3 1 false (138, .iconst 5, 139, []) := (r_iconst dX9_keep_138 rfl).row
theorem o219_139 : OkE cX9_keep RX9 "keep" 3 1 false (139, .iload 1, 140, []) := (r_iload_n dX9_keep_139 rfl).row
theorem o219_140 : OkE cX9_keep RX9 "keep" 3 1 false (140, .imul, 141, []) := (r_imul dX9_keep_140).row
theorem o219_141 : OkE cX9_keep RX9 "keep" 3 1 false (141, .iconst 4, 142, []) := (r_iconst dX9_keep_141 rfl).row
theorem o219_142 : OkE cX9_keep RX9 "keep" 3 1 false (142, .iadd, 143, []) := (r_iadd dX9_keep_142).row
theorem o219_143 : OkE cX9_keep RX9 "keep" 3 1 false (143, .aload 0, 144, []) := (r_aload_n dX9_keep_143 rfl).row
theorem o219_144 : OkE cX9_keep RX9 "keep" 3 1 false (144, .invokeinterface 9 22, 147, []) := (r_get (C := RX9) (T := TX9) (N := 45) (ci := 9) (j := 22) (ref := RX9) dX9_keep_144 rfl inX9 (by decide) wd_1022 rfl).row
theorem o219_147 : OkE cX9_keep RX9 "keep" 3 1 false (147, .iastore, 148, []) := r_iast dX9_keep_147
theorem o219_148 : OkE cX9_keep RX9 "keep" 3 1 false (148, .iconst 0, 149, []) := (r_iconst dX9_keep_148 rfl).row
theorem o219_149 : OkE cX9_keep RX9 "keep" 3 1 false (149, .istore 2, 150, []) := (r_istore_n dX9_keep_149 rfl).row
theorem o219_150 : OkE cX9_keep RX9 "keep" 3 1 false (150, .iload 2, 151, []) := (r_iload_n dX9_keep_150 rfl).row
theorem o219_151 : OkE cX9_keep RX9 "keep" 3 1 false (151, .iconst 6, 153, []) := (r_bipush dX9_keep_151 rfl).row
theorem o219_153 : OkE cX9_keep RX9 "keep" 3 1 false (153, .if_icmp .ge 223, 156, []) := (r_icmp_ge dX9_keep_153 rfl).row
theorem o219_156 : OkE cX9_keep RX9 "keep" 3 1 false (156, .aload 0, 157, []) := (r_aload_n dX9_keep_156 rfl).row
theorem o219_157 : OkE cX9_keep RX9 "keep" 3 1 false (157, .invokeinterface 9 44, 160, []) := (r_get (C := RX9) (T := TX9) (N := 45) (ci := 9) (j := 44) (ref := RX9) dX9_keep_157 rfl inX9 (by decide) wd_1044 rfl).row
theorem o219_160 : OkE cX9_keep RX9 "keep" 3 1 false (160, .iconst 18, 162, []) := (r_bipush dX9_keep_160 rfl).row
theorem o219_162 : OkE cX9_keep RX9 "keep" 3 1 false (162, .iload 1, 163, []) := (r_iload_n dX9_keep_162 rfl).row
theorem o219_163 : OkE cX9_keep RX9 "keep" 3 1 false (163, .imul, 164, []) := (r_imul dX9_keep_163).row
theorem o219_164 : OkE cX9_keep RX9 "keep" 3 1 false (164, .iconst 3, 165, []) := (r_iconst dX9_keep_164 rfl).row
theorem o219_165 : OkE cX9_keep RX9 "keep" 3 1 false (165, .iload 2, 166, []) := (r_iload_n dX9_keep_165 rfl).row
theorem o219_166 : OkE cX9_keep RX9 "keep" 3 1 false (166, .imul, 167, []) := (r_imul dX9_keep_166).row
theorem o219_167 : OkE cX9_keep RX9 "keep" 3 1 false (167, .iadd, 168, []) := (r_iadd dX9_keep_167).row
theorem o219_168 : OkE cX9_keep RX9 "keep" 3 1 false (168, .aload 0, 169, []) := (r_aload_n dX9_keep_168 rfl).row
theorem o219_169 : OkE cX9_keep RX9 "keep" 3 1 false (169, .invokeinterface 9 23, 172, []) := (r_get (C := RX9) (T := TX9) (N := 45) (ci := 9) (j := 23) (ref := RX9) dX9_keep_169 rfl inX9 (by decide) wd_1023 rfl).row
theorem o219_172 : OkE cX9_keep RX9 "keep" 3 1 false (172, .iload 2, 173, []) := (r_iload_n dX9_keep_172 rfl).row
theorem o219_173 : OkE cX9_keep RX9 "keep" 3 1 false (173, .iaload, 174, []) := (r_iald dX9_keep_173).row
theorem o219_174 : OkE cX9_keep RX9 "keep" 3 1 false (174, .iastore, 175, []) := r_iast dX9_keep_174
theorem o219_175 : OkE cX9_keep RX9 "keep" 3 1 false (175, .aload 0, 176, []) := (r_aload_n dX9_keep_175 rfl).row
theorem o219_176 : OkE cX9_keep RX9 "keep" 3 1 false (176, .invokeinterface 9 44, 179, []) := (r_get (C := RX9) (T := TX9) (N := 45) (ci := 9) (j := 44) (ref := RX9) dX9_keep_176 rfl inX9 (by decide) wd_1044 rfl).row
theorem o219_179 : OkE cX9_keep RX9 "keep" 3 1 false (179, .iconst 18, 181, []) := (r_bipush dX9_keep_179 rfl).row
theorem o219_181 : OkE cX9_keep RX9 "keep" 3 1 false (181, .iload 1, 182, []) := (r_iload_n dX9_keep_181 rfl).row
theorem o219_182 : OkE cX9_keep RX9 "keep" 3 1 false (182, .imul, 183, []) := (r_imul dX9_keep_182).row
theorem o219_183 : OkE cX9_keep RX9 "keep" 3 1 false (183, .iconst 3, 184, []) := (r_iconst dX9_keep_183 rfl).row
theorem o219_184 : OkE cX9_keep RX9 "keep" 3 1 false (184, .iload 2, 185, []) := (r_iload_n dX9_keep_184 rfl).row
theorem o219_185 : OkE cX9_keep RX9 "keep" 3 1 false (185, .imul, 186, []) := (r_imul dX9_keep_185).row
theorem o219_186 : OkE cX9_keep RX9 "keep" 3 1 false (186, .iadd, 187, []) := (r_iadd dX9_keep_186).row
theorem o219_187 : OkE cX9_keep RX9 "keep" 3 1 false (187, .iconst 1, 188, []) := (r_iconst dX9_keep_187 rfl).row
theorem o219_188 : OkE cX9_keep RX9 "keep" 3 1 false (188, .iadd, 189, []) := (r_iadd dX9_keep_188).row
theorem o219_189 : OkE cX9_keep RX9 "keep" 3 1 false (189, .aload 0, 190, []) := (r_aload_n dX9_keep_189 rfl).row
theorem o219_190 : OkE cX9_keep RX9 "keep" 3 1 false (190, .invokeinterface 9 24, 193, []) := (r_get (C := RX9) (T := TX9) (N := 45) (ci := 9) (j := 24) (ref := RX9) dX9_keep_190 rfl inX9 (by decide) wd_1024 rfl).row
theorem o219_193 : OkE cX9_keep RX9 "keep" 3 1 false (193, .iload 2, 194, []) := (r_iload_n dX9_keep_193 rfl).row
theorem o219_194 : OkE cX9_keep RX9 "keep" 3 1 false (194, .iaload, 195, []) := (r_iald dX9_keep_194).row
theorem o219_195 : OkE cX9_keep RX9 "keep" 3 1 false (195, .iastore, 196, []) := r_iast dX9_keep_195
theorem o219_196 : OkE cX9_keep RX9 "keep" 3 1 false (196, .aload 0, 197, []) := (r_aload_n dX9_keep_196 rfl).row
theorem o219_197 : OkE cX9_keep RX9 "keep" 3 1 false (197, .invokeinterface 9 44, 200, []) := (r_get (C := RX9) (T := TX9) (N := 45) (ci := 9) (j := 44) (ref := RX9) dX9_keep_197 rfl inX9 (by decide) wd_1044 rfl).row
theorem o219_200 : OkE cX9_keep RX9 "keep" 3 1 false (200, .iconst 18, 202, []) := (r_bipush dX9_keep_200 rfl).row
theorem o219_202 : OkE cX9_keep RX9 "keep" 3 1 false (202, .iload 1, 203, []) := (r_iload_n dX9_keep_202 rfl).row
theorem o219_203 : OkE cX9_keep RX9 "keep" 3 1 false (203, .imul, 204, []) := (r_imul dX9_keep_203).row
theorem o219_204 : OkE cX9_keep RX9 "keep" 3 1 false (204, .iconst 3, 205, []) := (r_iconst dX9_keep_204 rfl).row
theorem o219_205 : OkE cX9_keep RX9 "keep" 3 1 false (205, .iload 2, 206, []) := (r_iload_n dX9_keep_205 rfl).row
theorem o219_206 : OkE cX9_keep RX9 "keep" 3 1 false (206, .imul, 207, []) := (r_imul dX9_keep_206).row
theorem o219_207 : OkE cX9_keep RX9 "keep" 3 1 false (207, .iadd, 208, []) := (r_iadd dX9_keep_207).row
theorem o219_208 : OkE cX9_keep RX9 "keep" 3 1 false (208, .iconst 2, 209, []) := (r_iconst dX9_keep_208 rfl).row
theorem o219_209 : OkE cX9_keep RX9 "keep" 3 1 false (209, .iadd, 210, []) := (r_iadd dX9_keep_209).row
theorem o219_210 : OkE cX9_keep RX9 "keep" 3 1 false (210, .aload 0, 211, []) := (r_aload_n dX9_keep_210 rfl).row
theorem o219_211 : OkE cX9_keep RX9 "keep" 3 1 false (211, .invokeinterface 9 25, 214, []) := (r_get (C := RX9) (T := TX9) (N := 45) (ci := 9) (j := 25) (ref := RX9) dX9_keep_211 rfl inX9 (by decide) wd_1025 rfl).row
theorem o219_214 : OkE cX9_keep RX9 "keep" 3 1 false (214, .iload 2, 215, []) := (r_iload_n dX9_keep_214 rfl).row
theorem o219_215 : OkE cX9_keep RX9 "keep" 3 1 false (215, .iaload, 216, []) := (r_iald dX9_keep_215).row
theorem o219_216 : OkE cX9_keep RX9 "keep" 3 1 false (216, .iastore, 217, []) := r_iast dX9_keep_216
theorem o219_217 : OkE cX9_keep RX9 "keep" 3 1 false (217, .iinc 2 1, 220, []) := (r_iinc dX9_keep_217 rfl).row
theorem o219_220 : OkE cX9_keep RX9 "keep" 3 1 false (220, .goto 150, 223, []) := (r_goto dX9_keep_220 rfl).row
theorem o219_223 : OkE cX9_keep RX9 "keep" 3 1 false (223, .aload 0, 224, []) := (r_aload_n dX9_keep_223 rfl).row
theorem o219_224 : OkE cX9_keep RX9 "keep" 3 1 false (224, .invokevirtual 209, 227, []) := ⟨rfl, c_V dX9_keep_224 wd_1368 wd_1370 wd_60 wd_74 wd_1371 nmh_9⟩
theorem o219_227 : OkE cX9_keep RX9 "keep" 3 1 false (227, .ireturn, 228, []) := dX9_keep_227
theorem ok219_0 : ∀ x ∈ k219_0, OkE cX9_keep RX9 "keep" 3 1 false x := List.forall_mem_cons.mpr ⟨o219_0, List.forall_mem_cons.mpr ⟨o219_1, List.forall_mem_cons.mpr ⟨o219_2, List.forall_mem_cons.mpr ⟨o219_3, List.forall_mem_cons.mpr ⟨o219_4, List.forall_mem_cons.mpr ⟨o219_7, List.forall_mem_cons.mpr ⟨o219_10, List.forall_mem_cons.mpr ⟨o219_11, List.forall_mem_cons.mpr ⟨o219_12, List.forall_mem_cons.mpr ⟨o219_13, List.forall_mem_cons.mpr ⟨o219_16, List.forall_mem_cons.mpr ⟨o219_17, List.forall_mem_cons.mpr ⟨o219_18, List.forall_mem_cons.mpr ⟨o219_19, List.forall_mem_cons.mpr ⟨o219_20, List.forall_mem_cons.mpr ⟨o219_21, List.forall_mem_cons.mpr ⟨o219_22, List.forall_mem_cons.mpr ⟨o219_23, List.forall_mem_cons.mpr ⟨o219_26, List.forall_mem_cons.mpr ⟨o219_27, List.forall_mem_cons.mpr ⟨o219_30, List.forall_mem_cons.mpr ⟨o219_31, List.forall_mem_cons.mpr ⟨o219_32, List.forall_mem_cons.mpr ⟨o219_33, List.forall_mem_cons.mpr ⟨o219_34, List.forall_mem_cons.mpr ⟨o219_35, List.forall_mem_cons.mpr ⟨o219_36, List.forall_mem_cons.mpr ⟨o219_39, List.forall_mem_cons.mpr ⟨o219_40, List.forall_mem_cons.mpr ⟨o219_41, List.forall_mem_cons.mpr ⟨o219_42, List.forall_mem_cons.mpr ⟨o219_43, List.forall_mem_cons.mpr ⟨o219_46, List.forall_mem_cons.mpr ⟨o219_47, List.forall_mem_cons.mpr ⟨o219_48, List.forall_mem_cons.mpr ⟨o219_49, List.forall_mem_cons.mpr ⟨o219_50, List.forall_mem_cons.mpr ⟨o219_51, List.forall_mem_cons.mpr ⟨o219_52, List.forall_mem_cons.mpr ⟨o219_55, List.forall_mem_cons.mpr ⟨o219_56, List.forall_mem_cons.mpr ⟨o219_57, List.forall_mem_cons.mpr ⟨o219_58, List.forall_mem_cons.mpr ⟨o219_59, List.forall_mem_cons.mpr ⟨o219_62, List.forall_mem_cons.mpr ⟨o219_63, List.forall_mem_cons.mpr ⟨o219_64, List.forall_mem_cons.mpr ⟨o219_65, List.forall_mem_cons.mpr ⟨o219_66, List.forall_mem_cons.mpr ⟨o219_67, List.forall_mem_cons.mpr ⟨o219_68, List.forall_mem_cons.mpr ⟨o219_71, List.forall_mem_cons.mpr ⟨o219_72, List.forall_mem_cons.mpr ⟨o219_73, List.forall_mem_cons.mpr ⟨o219_74, List.forall_mem_cons.mpr ⟨o219_77, List.forall_mem_cons.mpr ⟨o219_80, List.forall_mem_cons.mpr ⟨o219_81, List.forall_mem_cons.mpr ⟨o219_84, List.forall_mem_cons.mpr ⟨o219_85, List.forall_mem_cons.mpr ⟨o219_86, List.forall_mem_cons.mpr ⟨o219_87, List.forall_mem_cons.mpr ⟨o219_88, List.forall_mem_cons.mpr ⟨o219_91, List.forall_mem_cons.mpr ⟨o219_92, List.forall_mem_cons.mpr ⟨o219_93, List.forall_mem_cons.mpr ⟨o219_96, List.forall_mem_cons.mpr ⟨o219_97, List.forall_mem_cons.mpr ⟨o219_98, List.forall_mem_cons.mpr ⟨o219_99, List.forall_mem_cons.mpr ⟨o219_100, List.forall_mem_cons.mpr ⟨o219_101, List.forall_mem_cons.mpr ⟨o219_102, List.forall_mem_cons.mpr ⟨o219_105, List.forall_mem_cons.mpr ⟨o219_106, List.forall_mem_cons.mpr ⟨o219_107, List.forall_mem_cons.mpr ⟨o219_110, List.forall_mem_cons.mpr ⟨o219_111, List.forall_mem_cons.mpr ⟨o219_112, List.forall_mem_cons.mpr ⟨o219_113, fun _ h => absurd h List.not_mem_nil⟩⟩⟩⟩⟩⟩⟩⟩⟩⟩⟩⟩⟩⟩⟩⟩⟩⟩⟩⟩⟩⟩⟩⟩⟩⟩⟩⟩⟩⟩⟩⟩⟩⟩⟩⟩⟩⟩⟩⟩⟩⟩⟩⟩⟩⟩⟩⟩⟩⟩⟩⟩⟩⟩⟩⟩⟩⟩⟩⟩⟩⟩⟩⟩⟩⟩⟩⟩⟩⟩⟩⟩⟩⟩⟩⟩⟩⟩⟩⟩
theorem ok219_1 : ∀ x ∈ k219_1, OkE cX9_keep RX9 "keep" 3 1 false x := List.forall_mem_cons.mpr ⟨o219_114, List.forall_mem_cons.mpr ⟨o219_115, List.forall_mem_cons.mpr ⟨o219_116, List.forall_mem_cons.mpr ⟨o219_119, List.forall_mem_cons.mpr ⟨o219_120, List.forall_mem_cons.mpr ⟨o219_121, List.forall_mem_cons.mpr ⟨o219_124, List.forall_mem_cons.mpr ⟨o219_125, List.forall_mem_cons.mpr ⟨o219_126, List.forall_mem_cons.mpr ⟨o219_127, List.forall_mem_cons.mpr ⟨o219_128, List.forall_mem_cons.mpr ⟨o219_129, List.forall_mem_cons.mpr ⟨o219_130, List.forall_mem_cons.mpr ⟨o219_133, List.forall_mem_cons.mpr ⟨o219_134, List.forall_mem_cons.mpr ⟨o219_135, List.forall_mem_cons.mpr ⟨o219_138, List.forall_mem_cons.mpr ⟨o219_139, List.forall_mem_cons.mpr ⟨o219_140, List.forall_mem_cons.mpr ⟨o219_141, List.forall_mem_cons.mpr ⟨o219_142, List.forall_mem_cons.mpr ⟨o219_143, List.forall_mem_cons.mpr ⟨o219_144, List.forall_mem_cons.mpr ⟨o219_147, List.forall_mem_cons.mpr ⟨o219_148, List.forall_mem_cons.mpr ⟨o219_149, List.forall_mem_cons.mpr ⟨o219_150, List.forall_mem_cons.mpr ⟨o219_151, List.forall_mem_cons.mpr ⟨o219_153, List.forall_mem_cons.mpr ⟨o219_156, List.forall_mem_cons.mpr ⟨o219_157, List.forall_mem_cons.mpr ⟨o219_160, List.forall_mem_cons.mpr ⟨o219_162, List.forall_mem_cons.mpr ⟨o219_163, List.forall_mem_cons.mpr ⟨o219_164, List.forall_mem_cons.mpr ⟨o219_165, List.forall_mem_cons.mpr ⟨o219_166, List.forall_mem_cons.mpr ⟨o219_167, List.forall_mem_cons.mpr ⟨o219_168, List.forall_mem_cons.mpr ⟨o219_169, List.forall_mem_cons.mpr ⟨o219_172, List.forall_mem_cons.mpr ⟨o219_173, List.forall_mem_cons.mpr ⟨o219_174, List.forall_mem_cons.mpr ⟨o219_175, List.forall_mem_cons.mpr ⟨o219_176, List.forall_mem_cons.mpr ⟨o219_179, List.forall_mem_cons.mpr ⟨o219_181, List.forall_mem_cons.mpr ⟨o219_182, List.forall_mem_cons.mpr ⟨o219_183, List.forall_mem_cons.mpr ⟨o219_184, List.forall_mem_cons.mpr ⟨o219_185, List.forall_mem_cons.mpr ⟨o219_186, List.forall_mem_cons.mpr ⟨o219_187, List.forall_mem_cons.mpr ⟨o219_188, List.forall_mem_cons.mpr ⟨o219_189, List.forall_mem_cons.mpr ⟨o219_190, List.forall_mem_cons.mpr ⟨o219_193, List.forall_mem_cons.mpr ⟨o219_194, List.forall_mem_cons.mpr ⟨o219_195, List.forall_mem_cons.mpr ⟨o219_196, List.forall_mem_cons.mpr ⟨o219_197, List.forall_mem_cons.mpr ⟨o219_200, List.forall_mem_cons.mpr ⟨o219_202, List.forall_mem_cons.mpr ⟨o219_203, List.forall_mem_cons.mpr ⟨o219_204, List.forall_mem_cons.mpr ⟨o219_205, List.forall_mem_cons.mpr ⟨o219_206, List.forall_mem_cons.mpr ⟨o219_207, List.forall_mem_cons.mpr ⟨o219_208, List.forall_mem_cons.mpr ⟨o219_209, List.forall_mem_cons.mpr ⟨o219_210, List.forall_mem_cons.mpr ⟨o219_211, List.forall_mem_cons.mpr ⟨o219_214, List.forall_mem_cons.mpr ⟨o219_215, List.forall_mem_cons.mpr ⟨o219_216, List.forall_mem_cons.mpr ⟨o219_217, List.forall_mem_cons.mpr ⟨o219_220, List.forall_mem_cons.mpr ⟨o219_223, List.forall_mem_cons.mpr ⟨o219_224, List.forall_mem_cons.mpr ⟨o219_227, fun _ h => absurd h List.not_mem_nil⟩⟩⟩⟩⟩⟩⟩⟩⟩⟩⟩⟩⟩⟩⟩⟩⟩⟩⟩⟩⟩⟩⟩⟩⟩⟩⟩⟩⟩⟩⟩⟩⟩⟩⟩⟩⟩⟩⟩⟩⟩⟩⟩⟩⟩⟩⟩⟩⟩⟩⟩⟩⟩⟩⟩⟩⟩⟩⟩⟩⟩⟩⟩⟩⟩⟩⟩⟩⟩⟩⟩⟩⟩⟩⟩⟩⟩⟩⟩⟩
theorem ok219 : ∀ x ∈ k219, OkE cX9_keep RX9 "keep" 3 1 false x := List.forall_mem_append.mpr ⟨ok219_0, ok219_1⟩
