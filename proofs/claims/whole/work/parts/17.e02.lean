theorem f130_0 : fch 130 0 = some (.aload 0, 1, []) := by decide +kernel
theorem f130_1 : fch 130 1 = some (.invokeinterface 8 9, 4, []) := by decide +kernel
theorem f130_4 : fch 130 4 = some (.iload 1, 5, []) := by decide +kernel
theorem f130_5 : fch 130 5 = some (.invokevirtual 82, 8, []) := by decide +kernel
theorem f130_8 : fch 130 8 = some (.ifCond .ne 13, 11, []) := by decide +kernel
theorem f130_11 : fch 130 11 = some (.iconst (-1), 12, []) := by decide +kernel
theorem f130_12 : fch 130 12 = some (.ireturn, 13, []) := by decide +kernel
theorem f130_13 : fch 130 13 = some (.aload 0, 14, []) := by decide +kernel
theorem f130_14 : fch 130 14 = some (.invokeinterface 8 6, 17, []) := by decide +kernel
theorem f130_17 : fch 130 17 = some (.aload 0, 18, []) := by decide +kernel
theorem f130_18 : fch 130 18 = some (.invokeinterface 8 9, 21, []) := by decide +kernel
theorem f130_21 : fch 130 21 = some (.aload 0, 22, []) := by decide +kernel
theorem f130_22 : fch 130 22 = some (.invokeinterface 8 5, 25, []) := by decide +kernel
theorem f130_25 : fch 130 25 = some (.invokevirtual 45, 28, []) := by decide +kernel
theorem f130_28 : fch 130 28 = some (.aload 0, 29, []) := by decide +kernel
theorem f130_29 : fch 130 29 = some (.invokeinterface 8 6, 32, []) := by decide +kernel
theorem f130_32 : fch 130 32 = some (.iload 1, 33, []) := by decide +kernel
theorem f130_33 : fch 130 33 = some (.invokevirtual 58, 36, []) := by decide +kernel
theorem f130_36 : fch 130 36 = some (.ireturn, 37, []) := by decide +kernel
set_option maxRecDepth 10000 in
theorem e130_0 (l0 l1 : Int) (s : SG) : sem 130 0 [aA l0, aI l1] [] s = grd (kd l0 = 8) (grd (0 ≤ s l0 9) (grd (kd (s l0 9) = 6) (bnI (sem 82 0 [aA (s l0 9), aI l1] [] s) fun a2 s1 => if a2 = 0 then some (aI ((-1)), s1) else grd (kd l0 = 8) (grd (0 ≤ s1 l0 6) (grd (kd l0 = 8) (grd (0 ≤ s1 l0 9) (grd (kd l0 = 8) (grd (0 ≤ s1 l0 5) (grd (kd (s1 l0 6) = 3) (bnV (sem 45 0 [aA (s1 l0 6), aA (s1 l0 9), aA (s1 l0 5)] [] s1) fun s3 => grd (kd l0 = 8) (grd (0 ≤ s3 l0 6) (grd (kd (s3 l0 6) = 3) (bnI (sem 58 0 [aA (s3 l0 6), aI l1, aU] [] s3) fun a5 s4 => some (aI a5, s4)))))))))))))) := by
  refine (x_aload f130_0 rfl rfl).trans ?_
  refine (x_get2 f130_1 rfl rfl).trans ?_
  refine g_c ?_
  refine g_c ?_
  refine (x_iload f130_4 rfl rfl).trans ?_
  refine (x_invokevirtual (G := grd (kd (s l0 9) = 6) (bnI (sem 82 0 [aA (s l0 9), aI l1] [] s) fun a2 s1 => sem 130 8 [aA l0, aI l1] [aI a2] s1)) f130_5 rfl rfl).trans ?_
  refine g_c ?_
  refine bI_c fun a2 s1 => ?_
  refine (x_if_ne (tg := 13) f130_8 rfl rfl).trans (i_c ?_ ?_)
  · refine (x_iconst f130_11 rfl).trans ?_
    exact x_ireturn f130_12 rfl
  · refine (x_aload f130_13 rfl rfl).trans ?_
    refine (x_get2 f130_14 rfl rfl).trans ?_
    refine g_c ?_
    refine g_c ?_
    refine (x_aload f130_17 rfl rfl).trans ?_
    refine (x_get2 f130_18 rfl rfl).trans ?_
    refine g_c ?_
    refine g_c ?_
    refine (x_aload f130_21 rfl rfl).trans ?_
    refine (x_get2 f130_22 rfl rfl).trans ?_
    refine g_c ?_
    refine g_c ?_
    refine (x_invokevirtual (G := grd (kd (s1 l0 6) = 3) (bnV (sem 45 0 [aA (s1 l0 6), aA (s1 l0 9), aA (s1 l0 5)] [] s1) fun s3 => sem 130 28 [aA l0, aI l1] [] s3)) f130_25 rfl rfl).trans ?_
    refine g_c ?_
    refine bV_c fun s3 => ?_
    refine (x_aload f130_28 rfl rfl).trans ?_
    refine (x_get2 f130_29 rfl rfl).trans ?_
    refine g_c ?_
    refine g_c ?_
    refine (x_iload f130_32 rfl rfl).trans ?_
    refine (x_invokevirtual (G := grd (kd (s3 l0 6) = 3) (bnI (sem 58 0 [aA (s3 l0 6), aI l1, aU] [] s3) fun a5 s4 => sem 130 36 [aA l0, aI l1] [aI a5] s4)) f130_33 rfl rfl).trans ?_
    refine g_c ?_
    refine bI_c fun a5 s4 => ?_
    exact x_ireturn f130_36 rfl
theorem f131_0 : fch 131 0 = some (.aload 0, 1, []) := by decide +kernel
theorem f131_1 : fch 131 1 = some (.invokeinterface 8 9, 4, []) := by decide +kernel
theorem f131_4 : fch 131 4 = some (.iload 1, 5, []) := by decide +kernel
theorem f131_5 : fch 131 5 = some (.invokevirtual 82, 8, []) := by decide +kernel
theorem f131_8 : fch 131 8 = some (.ifCond .eq 22, 11, []) := by decide +kernel
theorem f131_11 : fch 131 11 = some (.aload 0, 12, []) := by decide +kernel
theorem f131_12 : fch 131 12 = some (.invokeinterface 8 5, 15, []) := by decide +kernel
theorem f131_15 : fch 131 15 = some (.iload 1, 16, []) := by decide +kernel
theorem f131_16 : fch 131 16 = some (.invokevirtual 22, 19, []) := by decide +kernel
theorem f131_19 : fch 131 19 = some (.goto 23, 22, []) := by decide +kernel
theorem f131_22 : fch 131 22 = some (.iconst (-1), 23, []) := by decide +kernel
theorem f131_23 : fch 131 23 = some (.ireturn, 24, [0, 1]) := by decide +kernel
set_option maxRecDepth 10000 in
theorem e131_0 (l0 l1 : Int) (s : SG) : sem 131 0 [aA l0, aI l1] [] s = grd (kd l0 = 8) (grd (0 ≤ s l0 9) (grd (kd (s l0 9) = 6) (bnI (sem 82 0 [aA (s l0 9), aI l1] [] s) fun a2 s1 => if a2 = 0 then some (aI ((-1)), s1) else grd (kd l0 = 8) (grd (0 ≤ s1 l0 5) (grd (kd (s1 l0 5) = 1) (bnI (sem 22 0 [aA (s1 l0 5), aI l1] [] s1) fun a4 s3 => some (aI a4, s3))))))) := by
  refine (x_aload f131_0 rfl rfl).trans ?_
  refine (x_get2 f131_1 rfl rfl).trans ?_
  refine g_c ?_
  refine g_c ?_
  refine (x_iload f131_4 rfl rfl).trans ?_
  refine (x_invokevirtual (G := grd (kd (s l0 9) = 6) (bnI (sem 82 0 [aA (s l0 9), aI l1] [] s) fun a2 s1 => sem 131 8 [aA l0, aI l1] [aI a2] s1)) f131_5 rfl rfl).trans ?_
  refine g_c ?_
  refine bI_c fun a2 s1 => ?_
  refine (x_if_eq (tg := 22) f131_8 rfl rfl).trans (i_c ?_ ?_)
  · refine (x_iconst f131_22 rfl).trans ?_
    refine (x_kil (l2 := [aU, aU]) f131_23 rfl).trans ?_
    exact x_ireturn f131_23 rfl
  · refine (x_aload f131_11 rfl rfl).trans ?_
    refine (x_get2 f131_12 rfl rfl).trans ?_
    refine g_c ?_
    refine g_c ?_
    refine (x_iload f131_15 rfl rfl).trans ?_
    refine (x_invokevirtual (G := grd (kd (s1 l0 5) = 1) (bnI (sem 22 0 [aA (s1 l0 5), aI l1] [] s1) fun a4 s3 => sem 131 19 [aA l0, aI l1] [aI a4] s3)) f131_16 rfl rfl).trans ?_
    refine g_c ?_
    refine bI_c fun a4 s3 => ?_
    refine (x_goto (tg := 23) f131_19 rfl rfl).trans ?_
    refine (x_kil (l2 := [aU, aU]) f131_23 rfl).trans ?_
    exact x_ireturn f131_23 rfl
theorem f132_0 : fch 132 0 = some (.iload 1, 1, []) := by decide +kernel
theorem f132_1 : fch 132 1 = some (.iconst 1, 2, []) := by decide +kernel
theorem f132_2 : fch 132 2 = some (.if_icmp .lt 11, 5, []) := by decide +kernel
theorem f132_5 : fch 132 5 = some (.iload 1, 6, []) := by decide +kernel
theorem f132_6 : fch 132 6 = some (.iconst 30, 8, []) := by decide +kernel
theorem f132_8 : fch 132 8 = some (.if_icmp .le 14, 11, []) := by decide +kernel
theorem f132_11 : fch 132 11 = some (.iconst (-2), 13, [0, 1]) := by decide +kernel
theorem f132_13 : fch 132 13 = some (.ireturn, 14, []) := by decide +kernel
theorem f132_14 : fch 132 14 = some (.iconst 0, 15, []) := by decide +kernel
theorem f132_15 : fch 132 15 = some (.istore 2, 16, []) := by decide +kernel
theorem f132_16 : fch 132 16 = some (.iconst 0, 17, []) := by decide +kernel
theorem f132_17 : fch 132 17 = some (.istore 3, 18, []) := by decide +kernel
theorem f132_18 : fch 132 18 = some (.iload 3, 19, []) := by decide +kernel
theorem f132_19 : fch 132 19 = some (.iload 1, 20, []) := by decide +kernel
theorem f132_20 : fch 132 20 = some (.if_icmp .ge 34, 23, []) := by decide +kernel
theorem f132_23 : fch 132 23 = some (.aload 0, 24, []) := by decide +kernel
theorem f132_24 : fch 132 24 = some (.invokevirtual 147, 27, []) := by decide +kernel
theorem f132_27 : fch 132 27 = some (.istore 2, 28, []) := by decide +kernel
theorem f132_28 : fch 132 28 = some (.iinc 3 1, 31, []) := by decide +kernel
theorem f132_31 : fch 132 31 = some (.goto 18, 34, []) := by decide +kernel
theorem f132_34 : fch 132 34 = some (.iload 2, 35, []) := by decide +kernel
theorem f132_35 : fch 132 35 = some (.ireturn, 36, []) := by decide +kernel
set_option maxRecDepth 10000 in
theorem e132_0 (l0 l1 : Int) (s : SG) : sem 132 0 [aA l0, aI l1, aU, aU] [] s = if l1 < 1 then some (aI ((-2)), s) else if (30 : Int) < l1 then some (aI ((-2)), s) else sem 132 18 [aA l0, aI l1, aI 0, aI 0] [] s := by
  refine (x_iload f132_0 rfl rfl).trans ?_
  refine (x_iconst f132_1 rfl).trans ?_
  refine (x_icmp_lt (tg := 11) f132_2 rfl rfl).trans (i_c ?_ ?_)
  · refine (x_kil (l2 := [aU, aU, aU, aU]) f132_11 rfl).trans ?_
    refine (x_iconst f132_11 rfl).trans ?_
    exact x_ireturn f132_13 rfl
  · refine (x_iload f132_5 rfl rfl).trans ?_
    refine (x_iconst f132_6 rfl).trans ?_
    refine (x_icmp_le (tg := 14) f132_8 rfl rfl).trans (i_c ?_ ?_)
    · refine (x_kil (l2 := [aU, aU, aU, aU]) f132_11 rfl).trans ?_
      refine (x_iconst f132_11 rfl).trans ?_
      exact x_ireturn f132_13 rfl
    · refine (x_iconst f132_14 rfl).trans ?_
      refine (x_istore (l2 := [aA l0, aI l1, aI 0, aU]) f132_15 rfl rfl).trans ?_
      refine (x_iconst f132_16 rfl).trans ?_
      refine (x_istore (l2 := [aA l0, aI l1, aI 0, aI 0]) f132_17 rfl rfl).trans ?_
      rfl
set_option maxRecDepth 10000 in
theorem e132_18 (l0 l1 l2 l3 : Int) (s : SG) : sem 132 18 [aA l0, aI l1, aI l2, aI l3] [] s = if l3 < l1 then grd (kd l0 = 8) (bnI (sem 147 0 [aA l0, aU, aU] [] s) fun a2 s1 => sem 132 18 [aA l0, aI l1, aI a2, aI (w32 (l3 + 1))] [] s1) else some (aI l2, s) := by
  refine (x_iload f132_18 rfl rfl).trans ?_
  refine (x_iload f132_19 rfl rfl).trans ?_
  refine (x_icmp_ge (tg := 34) f132_20 rfl rfl).trans (i_c ?_ ?_)
  · refine (x_aload f132_23 rfl rfl).trans ?_
    refine (x_invokevirtual (G := grd (kd l0 = 8) (bnI (sem 147 0 [aA l0, aU, aU] [] s) fun a2 s1 => sem 132 27 [aA l0, aI l1, aI l2, aI l3] [aI a2] s1)) f132_24 rfl rfl).trans ?_
    refine g_c ?_
    refine bI_c fun a2 s1 => ?_
    refine (x_istore (l2 := [aA l0, aI l1, aI a2, aI l3]) f132_27 rfl rfl).trans ?_
    refine (x_iinc (l2 := [aA l0, aI l1, aI a2, aI (w32 (l3 + 1))]) f132_28 rfl rfl rfl).trans ?_
    refine (x_goto (tg := 18) f132_31 rfl rfl).trans ?_
    rfl
  · refine (x_iload f132_34 rfl rfl).trans ?_
    exact x_ireturn f132_35 rfl
theorem f133_0 : fch 133 0 = some (.aload 0, 1, []) := by decide +kernel
theorem f133_1 : fch 133 1 = some (.invokeinterface 8 9, 4, []) := by decide +kernel
theorem f133_4 : fch 133 4 = some (.iload 1, 5, []) := by decide +kernel
theorem f133_5 : fch 133 5 = some (.invokevirtual 82, 8, []) := by decide +kernel
theorem f133_8 : fch 133 8 = some (.ifCond .eq 18, 11, []) := by decide +kernel
theorem f133_11 : fch 133 11 = some (.iload 2, 12, []) := by decide +kernel
theorem f133_12 : fch 133 12 = some (.invokestatic 141, 15, []) := by decide +kernel
theorem f133_15 : fch 133 15 = some (.ifCond .ne 20, 18, []) := by decide +kernel
theorem f133_18 : fch 133 18 = some (.iconst (-1), 19, [0, 1, 2, 3, 4]) := by decide +kernel
theorem f133_19 : fch 133 19 = some (.ireturn, 20, []) := by decide +kernel
theorem f133_20 : fch 133 20 = some (.iload 3, 21, []) := by decide +kernel
theorem f133_21 : fch 133 21 = some (.iconst 1, 22, []) := by decide +kernel
theorem f133_22 : fch 133 22 = some (.if_icmp .lt 43, 25, []) := by decide +kernel
theorem f133_25 : fch 133 25 = some (.iload 3, 26, []) := by decide +kernel
theorem f133_26 : fch 133 26 = some (.iconst 60, 28, []) := by decide +kernel
theorem f133_28 : fch 133 28 = some (.if_icmp .gt 43, 31, []) := by decide +kernel
theorem f133_31 : fch 133 31 = some (.iload 4, 33, []) := by decide +kernel
theorem f133_33 : fch 133 33 = some (.ifCond .lt 43, 36, []) := by decide +kernel
theorem f133_36 : fch 133 36 = some (.iload 4, 38, []) := by decide +kernel
theorem f133_38 : fch 133 38 = some (.iconst 20, 40, []) := by decide +kernel
theorem f133_40 : fch 133 40 = some (.if_icmp .le 46, 43, []) := by decide +kernel
theorem f133_43 : fch 133 43 = some (.iconst (-2), 45, [0, 1, 2, 3, 4]) := by decide +kernel
theorem f133_45 : fch 133 45 = some (.ireturn, 46, []) := by decide +kernel
theorem f133_46 : fch 133 46 = some (.aload 0, 47, []) := by decide +kernel
theorem f133_47 : fch 133 47 = some (.invokeinterface 8 6, 50, []) := by decide +kernel
theorem f133_50 : fch 133 50 = some (.aload 0, 51, []) := by decide +kernel
theorem f133_51 : fch 133 51 = some (.invokeinterface 8 9, 54, []) := by decide +kernel
theorem f133_54 : fch 133 54 = some (.aload 0, 55, []) := by decide +kernel
theorem f133_55 : fch 133 55 = some (.invokeinterface 8 5, 58, []) := by decide +kernel
theorem f133_58 : fch 133 58 = some (.invokevirtual 45, 61, []) := by decide +kernel
theorem f133_61 : fch 133 61 = some (.aload 0, 62, []) := by decide +kernel
theorem f133_62 : fch 133 62 = some (.invokeinterface 8 6, 65, []) := by decide +kernel
theorem f133_65 : fch 133 65 = some (.invokevirtual 59, 68, []) := by decide +kernel
theorem f133_68 : fch 133 68 = some (.istore 5, 70, []) := by decide +kernel
theorem f133_70 : fch 133 70 = some (.aload 0, 71, []) := by decide +kernel
theorem f133_71 : fch 133 71 = some (.invokeinterface 8 6, 74, []) := by decide +kernel
theorem f133_74 : fch 133 74 = some (.invokevirtual 60, 77, []) := by decide +kernel
theorem f133_77 : fch 133 77 = some (.aload 0, 78, []) := by decide +kernel
theorem f133_78 : fch 133 78 = some (.invokeinterface 8 6, 81, []) := by decide +kernel
theorem f133_81 : fch 133 81 = some (.invokevirtual 61, 84, []) := by decide +kernel
theorem f133_84 : fch 133 84 = some (.iadd, 85, []) := by decide +kernel
theorem f133_85 : fch 133 85 = some (.istore 6, 87, []) := by decide +kernel
theorem f133_87 : fch 133 87 = some (.aload 0, 88, []) := by decide +kernel
theorem f133_88 : fch 133 88 = some (.invokeinterface 8 6, 91, []) := by decide +kernel
theorem f133_91 : fch 133 91 = some (.aload 0, 92, []) := by decide +kernel
theorem f133_92 : fch 133 92 = some (.invokeinterface 8 9, 95, []) := by decide +kernel
theorem f133_95 : fch 133 95 = some (.aload 0, 96, []) := by decide +kernel
theorem f133_96 : fch 133 96 = some (.invokeinterface 8 5, 99, []) := by decide +kernel
theorem f133_99 : fch 133 99 = some (.iload 1, 100, []) := by decide +kernel
theorem f133_100 : fch 133 100 = some (.iload 2, 101, []) := by decide +kernel
theorem f133_101 : fch 133 101 = some (.iload 3, 102, []) := by decide +kernel
theorem f133_102 : fch 133 102 = some (.invokevirtual 47, 105, []) := by decide +kernel
theorem f133_105 : fch 133 105 = some (.aload 0, 106, []) := by decide +kernel
theorem f133_106 : fch 133 106 = some (.invokeinterface 8 6, 109, []) := by decide +kernel
theorem f133_109 : fch 133 109 = some (.invokevirtual 59, 112, []) := by decide +kernel
theorem f133_112 : fch 133 112 = some (.iload 5, 114, []) := by decide +kernel
theorem f133_114 : fch 133 114 = some (.isub, 115, []) := by decide +kernel
theorem f133_115 : fch 133 115 = some (.istore 7, 117, []) := by decide +kernel
theorem f133_117 : fch 133 117 = some (.aload 0, 118, []) := by decide +kernel
theorem f133_118 : fch 133 118 = some (.invokeinterface 8 6, 121, []) := by decide +kernel
theorem f133_121 : fch 133 121 = some (.invokevirtual 60, 124, []) := by decide +kernel
theorem f133_124 : fch 133 124 = some (.aload 0, 125, []) := by decide +kernel
theorem f133_125 : fch 133 125 = some (.invokeinterface 8 6, 128, []) := by decide +kernel
theorem f133_128 : fch 133 128 = some (.invokevirtual 61, 131, []) := by decide +kernel
theorem f133_131 : fch 133 131 = some (.iadd, 132, []) := by decide +kernel
theorem f133_132 : fch 133 132 = some (.iload 6, 134, []) := by decide +kernel
theorem f133_134 : fch 133 134 = some (.isub, 135, []) := by decide +kernel
theorem f133_135 : fch 133 135 = some (.istore 8, 137, []) := by decide +kernel
theorem f133_137 : fch 133 137 = some (.iload 7, 139, []) := by decide +kernel
theorem f133_139 : fch 133 139 = some (.aload 0, 140, []) := by decide +kernel
theorem f133_140 : fch 133 140 = some (.invokeinterface 8 9, 143, []) := by decide +kernel
theorem f133_143 : fch 133 143 = some (.invokeinterface 6 6, 146, []) := by decide +kernel
theorem f133_146 : fch 133 146 = some (.imul, 147, []) := by decide +kernel
theorem f133_147 : fch 133 147 = some (.iload 8, 149, []) := by decide +kernel
theorem f133_149 : fch 133 149 = some (.aload 0, 150, []) := by decide +kernel
theorem f133_150 : fch 133 150 = some (.invokeinterface 8 9, 153, []) := by decide +kernel
theorem f133_153 : fch 133 153 = some (.invokeinterface 6 7, 156, []) := by decide +kernel
theorem f133_156 : fch 133 156 = some (.imul, 157, []) := by decide +kernel
theorem f133_157 : fch 133 157 = some (.iadd, 158, []) := by decide +kernel
theorem f133_158 : fch 133 158 = some (.iload 3, 159, []) := by decide +kernel
theorem f133_159 : fch 133 159 = some (.aload 0, 160, []) := by decide +kernel
theorem f133_160 : fch 133 160 = some (.invokeinterface 8 9, 163, []) := by decide +kernel
theorem f133_163 : fch 133 163 = some (.invokeinterface 6 5, 166, []) := by decide +kernel
theorem f133_166 : fch 133 166 = some (.iload 4, 168, []) := by decide +kernel
theorem f133_168 : fch 133 168 = some (.iadd, 169, []) := by decide +kernel
theorem f133_169 : fch 133 169 = some (.imul, 170, []) := by decide +kernel
theorem f133_170 : fch 133 170 = some (.isub, 171, []) := by decide +kernel
theorem f133_171 : fch 133 171 = some (.istore 9, 173, []) := by decide +kernel
theorem f133_173 : fch 133 173 = some (.iload 9, 175, []) := by decide +kernel
theorem f133_175 : fch 133 175 = some (.iconst 100000, 178, []) := by decide +kernel
theorem f133_178 : fch 133 178 = some (.iadd, 179, []) := by decide +kernel
theorem f133_179 : fch 133 179 = some (.ireturn, 180, []) := by decide +kernel
set_option maxRecDepth 10000 in
theorem e133_0 (l0 l1 l2 l3 l4 : Int) (s : SG) : sem 133 0 [aA l0, aI l1, aI l2, aI l3, aI l4, aU, aU, aU, aU, aU] [] s = grd (kd l0 = 8) (grd (0 ≤ s l0 9) (grd (kd (s l0 9) = 6) (bnI (sem 82 0 [aA (s l0 9), aI l1] [] s) fun a2 s1 => if a2 = 0 then some (aI ((-1)), s1) else bnI (sem 141 0 [aI l2] [] s1) fun a4 s3 => if a4 = 0 then some (aI ((-1)), s3) else if l3 < 1 then some (aI ((-2)), s3) else if (60 : Int) < l3 then some (aI ((-2)), s3) else if l4 < 0 then some (aI ((-2)), s3) else if (20 : Int) < l4 then some (aI ((-2)), s3) else grd (kd l0 = 8) (grd (0 ≤ s3 l0 6) (grd (kd l0 = 8) (grd (0 ≤ s3 l0 9) (grd (kd l0 = 8) (grd (0 ≤ s3 l0 5) (grd (kd (s3 l0 6) = 3) (bnV (sem 45 0 [aA (s3 l0 6), aA (s3 l0 9), aA (s3 l0 5)] [] s3) fun s5 => grd (kd l0 = 8) (grd (0 ≤ s5 l0 6) (grd (kd (s5 l0 6) = 3) (bnI (sem 59 0 [aA (s5 l0 6), aU, aU] [] s5) fun a7 s6 => grd (kd l0 = 8) (grd (0 ≤ s6 l0 6) (grd (kd (s6 l0 6) = 3) (bnI (sem 60 0 [aA (s6 l0 6), aU, aU] [] s6) fun a9 s8 => grd (kd l0 = 8) (grd (0 ≤ s8 l0 6) (grd (kd (s8 l0 6) = 3) (bnI (sem 61 0 [aA (s8 l0 6)] [] s8) fun a11 s10 => grd (kd l0 = 8) (grd (0 ≤ s10 l0 6) (grd (kd l0 = 8) (grd (0 ≤ s10 l0 9) (grd (kd l0 = 8) (grd (0 ≤ s10 l0 5) (grd (kd (s10 l0 6) = 3) (bnV (sem 47 0 [aA (s10 l0 6), aA (s10 l0 9), aA (s10 l0 5), aI l1, aI l2, aI l3] [] s10) fun s12 => grd (kd l0 = 8) (grd (0 ≤ s12 l0 6) (grd (kd (s12 l0 6) = 3) (bnI (sem 59 0 [aA (s12 l0 6), aU, aU] [] s12) fun a14 s13 => grd (kd l0 = 8) (grd (0 ≤ s13 l0 6) (grd (kd (s13 l0 6) = 3) (bnI (sem 60 0 [aA (s13 l0 6), aU, aU] [] s13) fun a16 s15 => grd (kd l0 = 8) (grd (0 ≤ s15 l0 6) (grd (kd (s15 l0 6) = 3) (bnI (sem 61 0 [aA (s15 l0 6)] [] s15) fun a18 s17 => grd (kd l0 = 8) (grd (0 ≤ s17 l0 9) (grd (kd (s17 l0 9) = 6) (grd (kd l0 = 8) (grd (0 ≤ s17 l0 9) (grd (kd (s17 l0 9) = 6) (grd (kd l0 = 8) (grd (0 ≤ s17 l0 9) (grd (kd (s17 l0 9) = 6) (some (aI (w32 ((w32 ((w32 ((w32 ((w32 (a14 - a7)) * (s17 (s17 l0 9) 6))) + (w32 ((w32 ((w32 (a16 + a18)) - (w32 (a9 + a11)))) * (s17 (s17 l0 9) 7))))) - (w32 (l3 * (w32 ((s17 (s17 l0 9) 5) + l4)))))) + 100000)), s17))))))))))))))))))))))))))))))))))))))))))))) := by
  refine (x_aload f133_0 rfl rfl).trans ?_
  refine (x_get2 f133_1 rfl rfl).trans ?_
  refine g_c ?_
  refine g_c ?_
  refine (x_iload f133_4 rfl rfl).trans ?_
  refine (x_invokevirtual (G := grd (kd (s l0 9) = 6) (bnI (sem 82 0 [aA (s l0 9), aI l1] [] s) fun a2 s1 => sem 133 8 [aA l0, aI l1, aI l2, aI l3, aI l4, aU, aU, aU, aU, aU] [aI a2] s1)) f133_5 rfl rfl).trans ?_
  refine g_c ?_
  refine bI_c fun a2 s1 => ?_
  refine (x_if_eq (tg := 18) f133_8 rfl rfl).trans (i_c ?_ ?_)
  · refine (x_kil (l2 := [aU, aU, aU, aU, aU, aU, aU, aU, aU, aU]) f133_18 rfl).trans ?_
    refine (x_iconst f133_18 rfl).trans ?_
    exact x_ireturn f133_19 rfl
  · refine (x_iload f133_11 rfl rfl).trans ?_
    refine (x_invokestatic (G := bnI (sem 141 0 [aI l2] [] s1) fun a4 s3 => sem 133 15 [aA l0, aI l1, aI l2, aI l3, aI l4, aU, aU, aU, aU, aU] [aI a4] s3) f133_12 rfl rfl).trans ?_
    refine bI_c fun a4 s3 => ?_
    refine (x_if_ne (tg := 20) f133_15 rfl rfl).trans (i_c ?_ ?_)
    · refine (x_kil (l2 := [aU, aU, aU, aU, aU, aU, aU, aU, aU, aU]) f133_18 rfl).trans ?_
      refine (x_iconst f133_18 rfl).trans ?_
      exact x_ireturn f133_19 rfl
    · refine (x_iload f133_20 rfl rfl).trans ?_
      refine (x_iconst f133_21 rfl).trans ?_
      refine (x_icmp_lt (tg := 43) f133_22 rfl rfl).trans (i_c ?_ ?_)
      · refine (x_kil (l2 := [aU, aU, aU, aU, aU, aU, aU, aU, aU, aU]) f133_43 rfl).trans ?_
        refine (x_iconst f133_43 rfl).trans ?_
        exact x_ireturn f133_45 rfl
      · refine (x_iload f133_25 rfl rfl).trans ?_
        refine (x_iconst f133_26 rfl).trans ?_
        refine (x_icmp_gt (tg := 43) f133_28 rfl rfl).trans (i_c ?_ ?_)
        · refine (x_kil (l2 := [aU, aU, aU, aU, aU, aU, aU, aU, aU, aU]) f133_43 rfl).trans ?_
          refine (x_iconst f133_43 rfl).trans ?_
          exact x_ireturn f133_45 rfl
        · refine (x_iload f133_31 rfl rfl).trans ?_
          refine (x_if_lt (tg := 43) f133_33 rfl rfl).trans (i_c ?_ ?_)
          · refine (x_kil (l2 := [aU, aU, aU, aU, aU, aU, aU, aU, aU, aU]) f133_43 rfl).trans ?_
            refine (x_iconst f133_43 rfl).trans ?_
            exact x_ireturn f133_45 rfl
          · refine (x_iload f133_36 rfl rfl).trans ?_
            refine (x_iconst f133_38 rfl).trans ?_
            refine (x_icmp_le (tg := 46) f133_40 rfl rfl).trans (i_c ?_ ?_)
            · refine (x_kil (l2 := [aU, aU, aU, aU, aU, aU, aU, aU, aU, aU]) f133_43 rfl).trans ?_
              refine (x_iconst f133_43 rfl).trans ?_
              exact x_ireturn f133_45 rfl
            · refine (x_aload f133_46 rfl rfl).trans ?_
              refine (x_get2 f133_47 rfl rfl).trans ?_
              refine g_c ?_
              refine g_c ?_
              refine (x_aload f133_50 rfl rfl).trans ?_
              refine (x_get2 f133_51 rfl rfl).trans ?_
              refine g_c ?_
              refine g_c ?_
              refine (x_aload f133_54 rfl rfl).trans ?_
              refine (x_get2 f133_55 rfl rfl).trans ?_
              refine g_c ?_
              refine g_c ?_
              refine (x_invokevirtual (G := grd (kd (s3 l0 6) = 3) (bnV (sem 45 0 [aA (s3 l0 6), aA (s3 l0 9), aA (s3 l0 5)] [] s3) fun s5 => sem 133 61 [aA l0, aI l1, aI l2, aI l3, aI l4, aU, aU, aU, aU, aU] [] s5)) f133_58 rfl rfl).trans ?_
              refine g_c ?_
              refine bV_c fun s5 => ?_
              refine (x_aload f133_61 rfl rfl).trans ?_
              refine (x_get2 f133_62 rfl rfl).trans ?_
              refine g_c ?_
              refine g_c ?_
              refine (x_invokevirtual (G := grd (kd (s5 l0 6) = 3) (bnI (sem 59 0 [aA (s5 l0 6), aU, aU] [] s5) fun a7 s6 => sem 133 68 [aA l0, aI l1, aI l2, aI l3, aI l4, aU, aU, aU, aU, aU] [aI a7] s6)) f133_65 rfl rfl).trans ?_
              refine g_c ?_
              refine bI_c fun a7 s6 => ?_
              refine (x_istore (l2 := [aA l0, aI l1, aI l2, aI l3, aI l4, aI a7, aU, aU, aU, aU]) f133_68 rfl rfl).trans ?_
              refine (x_aload f133_70 rfl rfl).trans ?_
              refine (x_get2 f133_71 rfl rfl).trans ?_
              refine g_c ?_
              refine g_c ?_
              refine (x_invokevirtual (G := grd (kd (s6 l0 6) = 3) (bnI (sem 60 0 [aA (s6 l0 6), aU, aU] [] s6) fun a9 s8 => sem 133 77 [aA l0, aI l1, aI l2, aI l3, aI l4, aI a7, aU, aU, aU, aU] [aI a9] s8)) f133_74 rfl rfl).trans ?_
              refine g_c ?_
              refine bI_c fun a9 s8 => ?_
              refine (x_aload f133_77 rfl rfl).trans ?_
              refine (x_get2 f133_78 rfl rfl).trans ?_
              refine g_c ?_
              refine g_c ?_
              refine (x_invokevirtual (G := grd (kd (s8 l0 6) = 3) (bnI (sem 61 0 [aA (s8 l0 6)] [] s8) fun a11 s10 => sem 133 84 [aA l0, aI l1, aI l2, aI l3, aI l4, aI a7, aU, aU, aU, aU] [aI a11, aI a9] s10)) f133_81 rfl rfl).trans ?_
              refine g_c ?_
              refine bI_c fun a11 s10 => ?_
              refine (x_iadd f133_84 rfl).trans ?_
              refine (x_istore (l2 := [aA l0, aI l1, aI l2, aI l3, aI l4, aI a7, aI (w32 (a9 + a11)), aU, aU, aU]) f133_85 rfl rfl).trans ?_
              refine (x_aload f133_87 rfl rfl).trans ?_
              refine (x_get2 f133_88 rfl rfl).trans ?_
              refine g_c ?_
              refine g_c ?_
              refine (x_aload f133_91 rfl rfl).trans ?_
              refine (x_get2 f133_92 rfl rfl).trans ?_
              refine g_c ?_
              refine g_c ?_
              refine (x_aload f133_95 rfl rfl).trans ?_
              refine (x_get2 f133_96 rfl rfl).trans ?_
              refine g_c ?_
              refine g_c ?_
              refine (x_iload f133_99 rfl rfl).trans ?_
              refine (x_iload f133_100 rfl rfl).trans ?_
              refine (x_iload f133_101 rfl rfl).trans ?_
              refine (x_invokevirtual (G := grd (kd (s10 l0 6) = 3) (bnV (sem 47 0 [aA (s10 l0 6), aA (s10 l0 9), aA (s10 l0 5), aI l1, aI l2, aI l3] [] s10) fun s12 => sem 133 105 [aA l0, aI l1, aI l2, aI l3, aI l4, aI a7, aI (w32 (a9 + a11)), aU, aU, aU] [] s12)) f133_102 rfl rfl).trans ?_
              refine g_c ?_
              refine bV_c fun s12 => ?_
              refine (x_aload f133_105 rfl rfl).trans ?_
              refine (x_get2 f133_106 rfl rfl).trans ?_
              refine g_c ?_
              refine g_c ?_
              refine (x_invokevirtual (G := grd (kd (s12 l0 6) = 3) (bnI (sem 59 0 [aA (s12 l0 6), aU, aU] [] s12) fun a14 s13 => sem 133 112 [aA l0, aI l1, aI l2, aI l3, aI l4, aI a7, aI (w32 (a9 + a11)), aU, aU, aU] [aI a14] s13)) f133_109 rfl rfl).trans ?_
              refine g_c ?_
              refine bI_c fun a14 s13 => ?_
              refine (x_iload f133_112 rfl rfl).trans ?_
              refine (x_isub f133_114 rfl).trans ?_
              refine (x_istore (l2 := [aA l0, aI l1, aI l2, aI l3, aI l4, aI a7, aI (w32 (a9 + a11)), aI (w32 (a14 - a7)), aU, aU]) f133_115 rfl rfl).trans ?_
              refine (x_aload f133_117 rfl rfl).trans ?_
              refine (x_get2 f133_118 rfl rfl).trans ?_
              refine g_c ?_
              refine g_c ?_
              refine (x_invokevirtual (G := grd (kd (s13 l0 6) = 3) (bnI (sem 60 0 [aA (s13 l0 6), aU, aU] [] s13) fun a16 s15 => sem 133 124 [aA l0, aI l1, aI l2, aI l3, aI l4, aI a7, aI (w32 (a9 + a11)), aI (w32 (a14 - a7)), aU, aU] [aI a16] s15)) f133_121 rfl rfl).trans ?_
              refine g_c ?_
              refine bI_c fun a16 s15 => ?_
              refine (x_aload f133_124 rfl rfl).trans ?_
              refine (x_get2 f133_125 rfl rfl).trans ?_
              refine g_c ?_
              refine g_c ?_
              refine (x_invokevirtual (G := grd (kd (s15 l0 6) = 3) (bnI (sem 61 0 [aA (s15 l0 6)] [] s15) fun a18 s17 => sem 133 131 [aA l0, aI l1, aI l2, aI l3, aI l4, aI a7, aI (w32 (a9 + a11)), aI (w32 (a14 - a7)), aU, aU] [aI a18, aI a16] s17)) f133_128 rfl rfl).trans ?_
              refine g_c ?_
              refine bI_c fun a18 s17 => ?_
              refine (x_iadd f133_131 rfl).trans ?_
              refine (x_iload f133_132 rfl rfl).trans ?_
              refine (x_isub f133_134 rfl).trans ?_
              refine (x_istore (l2 := [aA l0, aI l1, aI l2, aI l3, aI l4, aI a7, aI (w32 (a9 + a11)), aI (w32 (a14 - a7)), aI (w32 ((w32 (a16 + a18)) - (w32 (a9 + a11)))), aU]) f133_135 rfl rfl).trans ?_
              refine (x_iload f133_137 rfl rfl).trans ?_
              refine (x_aload f133_139 rfl rfl).trans ?_
              refine (x_get2 f133_140 rfl rfl).trans ?_
              refine g_c ?_
              refine g_c ?_
              refine (x_get0 f133_143 rfl rfl).trans ?_
              refine g_c ?_
              refine (x_imul f133_146 rfl).trans ?_
              refine (x_iload f133_147 rfl rfl).trans ?_
              refine (x_aload f133_149 rfl rfl).trans ?_
              refine (x_get2 f133_150 rfl rfl).trans ?_
              refine g_c ?_
              refine g_c ?_
              refine (x_get0 f133_153 rfl rfl).trans ?_
              refine g_c ?_
              refine (x_imul f133_156 rfl).trans ?_
              refine (x_iadd f133_157 rfl).trans ?_
              refine (x_iload f133_158 rfl rfl).trans ?_
              refine (x_aload f133_159 rfl rfl).trans ?_
              refine (x_get2 f133_160 rfl rfl).trans ?_
              refine g_c ?_
              refine g_c ?_
              refine (x_get0 f133_163 rfl rfl).trans ?_
              refine g_c ?_
              refine (x_iload f133_166 rfl rfl).trans ?_
              refine (x_iadd f133_168 rfl).trans ?_
              refine (x_imul f133_169 rfl).trans ?_
              refine (x_isub f133_170 rfl).trans ?_
              refine (x_istore (l2 := [aA l0, aI l1, aI l2, aI l3, aI l4, aI a7, aI (w32 (a9 + a11)), aI (w32 (a14 - a7)), aI (w32 ((w32 (a16 + a18)) - (w32 (a9 + a11)))), aI (w32 ((w32 ((w32 ((w32 (a14 - a7)) * (s17 (s17 l0 9) 6))) + (w32 ((w32 ((w32 (a16 + a18)) - (w32 (a9 + a11)))) * (s17 (s17 l0 9) 7))))) - (w32 (l3 * (w32 ((s17 (s17 l0 9) 5) + l4))))))]) f133_171 rfl rfl).trans ?_
              refine (x_iload f133_173 rfl rfl).trans ?_
              refine (x_iconst f133_175 rfl).trans ?_
              refine (x_iadd f133_178 rfl).trans ?_
              exact x_ireturn f133_179 rfl
theorem f134_0 : fch 134 0 = some (.aload 0, 1, []) := by decide +kernel
theorem f134_1 : fch 134 1 = some (.invokeinterface 8 9, 4, []) := by decide +kernel
theorem f134_4 : fch 134 4 = some (.iload 1, 5, []) := by decide +kernel
theorem f134_5 : fch 134 5 = some (.invokevirtual 82, 8, []) := by decide +kernel
theorem f134_8 : fch 134 8 = some (.ifCond .ne 13, 11, []) := by decide +kernel
theorem f134_11 : fch 134 11 = some (.iconst (-1), 12, []) := by decide +kernel
theorem f134_12 : fch 134 12 = some (.ireturn, 13, []) := by decide +kernel
theorem f134_13 : fch 134 13 = some (.iload 2, 14, []) := by decide +kernel
theorem f134_14 : fch 134 14 = some (.ifCond .lt 30, 17, []) := by decide +kernel
theorem f134_17 : fch 134 17 = some (.iload 2, 18, []) := by decide +kernel
theorem f134_18 : fch 134 18 = some (.iconst 20, 20, []) := by decide +kernel
theorem f134_20 : fch 134 20 = some (.if_icmp .gt 30, 23, []) := by decide +kernel
theorem f134_23 : fch 134 23 = some (.iload 3, 24, []) := by decide +kernel
theorem f134_24 : fch 134 24 = some (.invokestatic 144, 27, []) := by decide +kernel
theorem f134_27 : fch 134 27 = some (.ifCond .ne 33, 30, []) := by decide +kernel
theorem f134_30 : fch 134 30 = some (.iconst (-2), 32, [0, 1, 2, 3]) := by decide +kernel
theorem f134_32 : fch 134 32 = some (.ireturn, 33, []) := by decide +kernel
theorem f134_33 : fch 134 33 = some (.iload 2, 34, []) := by decide +kernel
theorem f134_34 : fch 134 34 = some (.aload 0, 35, []) := by decide +kernel
theorem f134_35 : fch 134 35 = some (.iload 1, 36, []) := by decide +kernel
theorem f134_36 : fch 134 36 = some (.iload 2, 37, []) := by decide +kernel
theorem f134_37 : fch 134 37 = some (.iload 3, 38, []) := by decide +kernel
theorem f134_38 : fch 134 38 = some (.if_icmp .lt 45, 41, []) := by decide +kernel
theorem f134_41 : fch 134 41 = some (.iconst 1, 42, []) := by decide +kernel
theorem f134_42 : fch 134 42 = some (.goto 46, 45, []) := by decide +kernel
theorem f134_45 : fch 134 45 = some (.iconst 0, 46, []) := by decide +kernel
theorem f134_46 : fch 134 46 = some (.invokevirtual 148, 49, [0, 1, 2, 3]) := by decide +kernel
theorem f134_49 : fch 134 49 = some (.imul, 50, []) := by decide +kernel
theorem f134_50 : fch 134 50 = some (.ireturn, 51, []) := by decide +kernel
set_option maxRecDepth 10000 in
theorem e134_0 (l0 l1 l2 l3 : Int) (s : SG) : sem 134 0 [aA l0, aI l1, aI l2, aI l3] [] s = grd (kd l0 = 8) (grd (0 ≤ s l0 9) (grd (kd (s l0 9) = 6) (bnI (sem 82 0 [aA (s l0 9), aI l1] [] s) fun a2 s1 => if a2 = 0 then some (aI ((-1)), s1) else if l2 < 0 then some (aI ((-2)), s1) else if (20 : Int) < l2 then some (aI ((-2)), s1) else bnI (sem 144 0 [aI l3] [] s1) fun a4 s3 => if a4 = 0 then some (aI ((-2)), s3) else grd (kd l0 = 8) (bnI (sem 148 0 [aA l0, aI l1, aI (if l2 < l3 then 0 else 1)] [] s3) fun a6 s5 => some (aI (w32 (l2 * a6)), s5))))) := by
  refine (x_aload f134_0 rfl rfl).trans ?_
  refine (x_get2 f134_1 rfl rfl).trans ?_
  refine g_c ?_
  refine g_c ?_
  refine (x_iload f134_4 rfl rfl).trans ?_
  refine (x_invokevirtual (G := grd (kd (s l0 9) = 6) (bnI (sem 82 0 [aA (s l0 9), aI l1] [] s) fun a2 s1 => sem 134 8 [aA l0, aI l1, aI l2, aI l3] [aI a2] s1)) f134_5 rfl rfl).trans ?_
  refine g_c ?_
  refine bI_c fun a2 s1 => ?_
  refine (x_if_ne (tg := 13) f134_8 rfl rfl).trans (i_c ?_ ?_)
  · refine (x_iconst f134_11 rfl).trans ?_
    exact x_ireturn f134_12 rfl
  · refine (x_iload f134_13 rfl rfl).trans ?_
    refine (x_if_lt (tg := 30) f134_14 rfl rfl).trans (i_c ?_ ?_)
    · refine (x_kil (l2 := [aU, aU, aU, aU]) f134_30 rfl).trans ?_
      refine (x_iconst f134_30 rfl).trans ?_
      exact x_ireturn f134_32 rfl
    · refine (x_iload f134_17 rfl rfl).trans ?_
      refine (x_iconst f134_18 rfl).trans ?_
      refine (x_icmp_gt (tg := 30) f134_20 rfl rfl).trans (i_c ?_ ?_)
      · refine (x_kil (l2 := [aU, aU, aU, aU]) f134_30 rfl).trans ?_
        refine (x_iconst f134_30 rfl).trans ?_
        exact x_ireturn f134_32 rfl
      · refine (x_iload f134_23 rfl rfl).trans ?_
        refine (x_invokestatic (G := bnI (sem 144 0 [aI l3] [] s1) fun a4 s3 => sem 134 27 [aA l0, aI l1, aI l2, aI l3] [aI a4] s3) f134_24 rfl rfl).trans ?_
        refine bI_c fun a4 s3 => ?_
        refine (x_if_ne (tg := 33) f134_27 rfl rfl).trans (i_c ?_ ?_)
        · refine (x_kil (l2 := [aU, aU, aU, aU]) f134_30 rfl).trans ?_
          refine (x_iconst f134_30 rfl).trans ?_
          exact x_ireturn f134_32 rfl
        · refine (x_iload f134_33 rfl rfl).trans ?_
          refine (x_aload f134_34 rfl rfl).trans ?_
          refine (x_iload f134_35 rfl rfl).trans ?_
          refine (x_iload f134_36 rfl rfl).trans ?_
          refine (x_iload f134_37 rfl rfl).trans ?_
          refine (x_icmp_lt (tg := 45) f134_38 rfl rfl).trans ?_
          refine Eq.trans (b := if l2 < l3 then sem 134 46 [aU, aU, aU, aU] [aI 0, aI l1, aA l0, aI l2] s3 else sem 134 46 [aU, aU, aU, aU] [aI 1, aI l1, aA l0, aI l2] s3) (i_c ?_ ?_) ?_
          · refine (x_iconst f134_45 rfl).trans ?_
            exact x_kil f134_46 rfl
          · refine (x_iconst f134_41 rfl).trans ?_
            refine (x_goto (tg := 46) f134_42 rfl rfl).trans ?_
            exact x_kil f134_46 rfl
          refine m_I.trans ?_
          refine (x_invokevirtual (G := grd (kd l0 = 8) (bnI (sem 148 0 [aA l0, aI l1, aI (if l2 < l3 then 0 else 1)] [] s3) fun a6 s5 => sem 134 49 [aU, aU, aU, aU] [aI a6, aI l2] s5)) f134_46 rfl rfl).trans ?_
          refine g_c ?_
          refine bI_c fun a6 s5 => ?_
          refine (x_imul f134_49 rfl).trans ?_
          exact x_ireturn f134_50 rfl
theorem f135_0 : fch 135 0 = some (.aload 0, 1, []) := by decide +kernel
theorem f135_1 : fch 135 1 = some (.invokeinterface 8 9, 4, []) := by decide +kernel
theorem f135_4 : fch 135 4 = some (.iload 1, 5, []) := by decide +kernel
theorem f135_5 : fch 135 5 = some (.invokevirtual 82, 8, []) := by decide +kernel
theorem f135_8 : fch 135 8 = some (.ifCond .ne 13, 11, []) := by decide +kernel
theorem f135_11 : fch 135 11 = some (.iconst (-1), 12, []) := by decide +kernel
theorem f135_12 : fch 135 12 = some (.ireturn, 13, []) := by decide +kernel
theorem f135_13 : fch 135 13 = some (.iload 2, 14, []) := by decide +kernel
theorem f135_14 : fch 135 14 = some (.invokestatic 144, 17, []) := by decide +kernel
theorem f135_17 : fch 135 17 = some (.ifCond .eq 31, 20, []) := by decide +kernel
theorem f135_20 : fch 135 20 = some (.iload 3, 21, []) := by decide +kernel
theorem f135_21 : fch 135 21 = some (.ifCond .lt 31, 24, []) := by decide +kernel
theorem f135_24 : fch 135 24 = some (.iload 3, 25, []) := by decide +kernel
theorem f135_25 : fch 135 25 = some (.iconst 999, 28, []) := by decide +kernel
theorem f135_28 : fch 135 28 = some (.if_icmp .le 34, 31, []) := by decide +kernel
theorem f135_31 : fch 135 31 = some (.iconst (-2), 33, [0, 1, 2, 3]) := by decide +kernel
theorem f135_33 : fch 135 33 = some (.ireturn, 34, []) := by decide +kernel
theorem f135_34 : fch 135 34 = some (.aload 0, 35, []) := by decide +kernel
theorem f135_35 : fch 135 35 = some (.iload 1, 36, []) := by decide +kernel
theorem f135_36 : fch 135 36 = some (.iconst 0, 37, []) := by decide +kernel
theorem f135_37 : fch 135 37 = some (.invokevirtual 148, 40, []) := by decide +kernel
theorem f135_40 : fch 135 40 = some (.istore 4, 42, []) := by decide +kernel
theorem f135_42 : fch 135 42 = some (.aload 0, 43, []) := by decide +kernel
theorem f135_43 : fch 135 43 = some (.iload 1, 44, []) := by decide +kernel
theorem f135_44 : fch 135 44 = some (.iconst 1, 45, []) := by decide +kernel
theorem f135_45 : fch 135 45 = some (.invokevirtual 148, 48, []) := by decide +kernel
theorem f135_48 : fch 135 48 = some (.istore 5, 50, []) := by decide +kernel
theorem f135_50 : fch 135 50 = some (.iconst 0, 51, []) := by decide +kernel
theorem f135_51 : fch 135 51 = some (.istore 6, 53, []) := by decide +kernel
theorem f135_53 : fch 135 53 = some (.iload 6, 55, [0, 1]) := by decide +kernel
theorem f135_55 : fch 135 55 = some (.iconst 20, 57, []) := by decide +kernel
theorem f135_57 : fch 135 57 = some (.if_icmp .gt 89, 60, []) := by decide +kernel
theorem f135_60 : fch 135 60 = some (.iload 6, 62, []) := by decide +kernel
theorem f135_62 : fch 135 62 = some (.iload 6, 64, []) := by decide +kernel
theorem f135_64 : fch 135 64 = some (.iload 2, 65, []) := by decide +kernel
theorem f135_65 : fch 135 65 = some (.if_icmp .lt 73, 68, []) := by decide +kernel
theorem f135_68 : fch 135 68 = some (.iload 5, 70, []) := by decide +kernel
theorem f135_70 : fch 135 70 = some (.goto 75, 73, []) := by decide +kernel
theorem f135_73 : fch 135 73 = some (.iload 4, 75, []) := by decide +kernel
theorem f135_75 : fch 135 75 = some (.imul, 76, [0, 1]) := by decide +kernel
theorem f135_76 : fch 135 76 = some (.iload 3, 77, []) := by decide +kernel
theorem f135_77 : fch 135 77 = some (.if_icmp .lt 83, 80, []) := by decide +kernel
theorem f135_80 : fch 135 80 = some (.iload 6, 82, []) := by decide +kernel
theorem f135_82 : fch 135 82 = some (.ireturn, 83, []) := by decide +kernel
theorem f135_83 : fch 135 83 = some (.iinc 6 1, 86, []) := by decide +kernel
theorem f135_86 : fch 135 86 = some (.goto 53, 89, []) := by decide +kernel
theorem f135_89 : fch 135 89 = some (.iconst (-9), 91, []) := by decide +kernel
theorem f135_91 : fch 135 91 = some (.ireturn, 92, []) := by decide +kernel
set_option maxRecDepth 10000 in
theorem e135_0 (l0 l1 l2 l3 : Int) (s : SG) : sem 135 0 [aA l0, aI l1, aI l2, aI l3, aU, aU, aU] [] s = grd (kd l0 = 8) (grd (0 ≤ s l0 9) (grd (kd (s l0 9) = 6) (bnI (sem 82 0 [aA (s l0 9), aI l1] [] s) fun a2 s1 => if a2 = 0 then some (aI ((-1)), s1) else bnI (sem 144 0 [aI l2] [] s1) fun a4 s3 => if a4 = 0 then some (aI ((-2)), s3) else if l3 < 0 then some (aI ((-2)), s3) else if (999 : Int) < l3 then some (aI ((-2)), s3) else grd (kd l0 = 8) (bnI (sem 148 0 [aA l0, aI l1, aI 0] [] s3) fun a6 s5 => grd (kd l0 = 8) (bnI (sem 148 0 [aA l0, aI l1, aI 1] [] s5) fun a8 s7 => sem 135 53 [aU, aU, aI l2, aI l3, aI a6, aI a8, aI 0] [] s7))))) := by
  refine (x_aload f135_0 rfl rfl).trans ?_
  refine (x_get2 f135_1 rfl rfl).trans ?_
  refine g_c ?_
  refine g_c ?_
  refine (x_iload f135_4 rfl rfl).trans ?_
  refine (x_invokevirtual (G := grd (kd (s l0 9) = 6) (bnI (sem 82 0 [aA (s l0 9), aI l1] [] s) fun a2 s1 => sem 135 8 [aA l0, aI l1, aI l2, aI l3, aU, aU, aU] [aI a2] s1)) f135_5 rfl rfl).trans ?_
  refine g_c ?_
  refine bI_c fun a2 s1 => ?_
  refine (x_if_ne (tg := 13) f135_8 rfl rfl).trans (i_c ?_ ?_)
  · refine (x_iconst f135_11 rfl).trans ?_
    exact x_ireturn f135_12 rfl
  · refine (x_iload f135_13 rfl rfl).trans ?_
    refine (x_invokestatic (G := bnI (sem 144 0 [aI l2] [] s1) fun a4 s3 => sem 135 17 [aA l0, aI l1, aI l2, aI l3, aU, aU, aU] [aI a4] s3) f135_14 rfl rfl).trans ?_
    refine bI_c fun a4 s3 => ?_
    refine (x_if_eq (tg := 31) f135_17 rfl rfl).trans (i_c ?_ ?_)
    · refine (x_kil (l2 := [aU, aU, aU, aU, aU, aU, aU]) f135_31 rfl).trans ?_
      refine (x_iconst f135_31 rfl).trans ?_
      exact x_ireturn f135_33 rfl
    · refine (x_iload f135_20 rfl rfl).trans ?_
      refine (x_if_lt (tg := 31) f135_21 rfl rfl).trans (i_c ?_ ?_)
      · refine (x_kil (l2 := [aU, aU, aU, aU, aU, aU, aU]) f135_31 rfl).trans ?_
        refine (x_iconst f135_31 rfl).trans ?_
        exact x_ireturn f135_33 rfl
      · refine (x_iload f135_24 rfl rfl).trans ?_
        refine (x_iconst f135_25 rfl).trans ?_
        refine (x_icmp_le (tg := 34) f135_28 rfl rfl).trans (i_c ?_ ?_)
        · refine (x_kil (l2 := [aU, aU, aU, aU, aU, aU, aU]) f135_31 rfl).trans ?_
          refine (x_iconst f135_31 rfl).trans ?_
          exact x_ireturn f135_33 rfl
        · refine (x_aload f135_34 rfl rfl).trans ?_
          refine (x_iload f135_35 rfl rfl).trans ?_
          refine (x_iconst f135_36 rfl).trans ?_
          refine (x_invokevirtual (G := grd (kd l0 = 8) (bnI (sem 148 0 [aA l0, aI l1, aI 0] [] s3) fun a6 s5 => sem 135 40 [aA l0, aI l1, aI l2, aI l3, aU, aU, aU] [aI a6] s5)) f135_37 rfl rfl).trans ?_
          refine g_c ?_
          refine bI_c fun a6 s5 => ?_
          refine (x_istore (l2 := [aA l0, aI l1, aI l2, aI l3, aI a6, aU, aU]) f135_40 rfl rfl).trans ?_
          refine (x_aload f135_42 rfl rfl).trans ?_
          refine (x_iload f135_43 rfl rfl).trans ?_
          refine (x_iconst f135_44 rfl).trans ?_
          refine (x_invokevirtual (G := grd (kd l0 = 8) (bnI (sem 148 0 [aA l0, aI l1, aI 1] [] s5) fun a8 s7 => sem 135 48 [aA l0, aI l1, aI l2, aI l3, aI a6, aU, aU] [aI a8] s7)) f135_45 rfl rfl).trans ?_
          refine g_c ?_
          refine bI_c fun a8 s7 => ?_
          refine (x_istore (l2 := [aA l0, aI l1, aI l2, aI l3, aI a6, aI a8, aU]) f135_48 rfl rfl).trans ?_
          refine (x_iconst f135_50 rfl).trans ?_
          refine (x_istore (l2 := [aA l0, aI l1, aI l2, aI l3, aI a6, aI a8, aI 0]) f135_51 rfl rfl).trans ?_
          exact x_kil f135_53 rfl
set_option maxRecDepth 10000 in
theorem e135_53 (l2 l3 l4 l5 l6 : Int) (s : SG) : sem 135 53 [aU, aU, aI l2, aI l3, aI l4, aI l5, aI l6] [] s = if (20 : Int) < l6 then some (aI ((-9)), s) else if (w32 (l6 * (if l6 < l2 then l4 else l5))) < l3 then sem 135 53 [aU, aU, aI l2, aI l3, aI l4, aI l5, aI (w32 (l6 + 1))] [] s else some (aI l6, s) := by
  refine (x_iload f135_53 rfl rfl).trans ?_
  refine (x_iconst f135_55 rfl).trans ?_
  refine (x_icmp_gt (tg := 89) f135_57 rfl rfl).trans (i_c ?_ ?_)
  · refine (x_iconst f135_89 rfl).trans ?_
    exact x_ireturn f135_91 rfl
  · refine (x_iload f135_60 rfl rfl).trans ?_
    refine (x_iload f135_62 rfl rfl).trans ?_
    refine (x_iload f135_64 rfl rfl).trans ?_
    refine (x_icmp_lt (tg := 73) f135_65 rfl rfl).trans ?_
    refine Eq.trans (b := if l6 < l2 then sem 135 75 [aU, aU, aI l2, aI l3, aI l4, aI l5, aI l6] [aI l4, aI l6] s else sem 135 75 [aU, aU, aI l2, aI l3, aI l4, aI l5, aI l6] [aI l5, aI l6] s) (i_c ?_ ?_) ?_
    · refine (x_iload f135_73 rfl rfl).trans ?_
      rfl
    · refine (x_iload f135_68 rfl rfl).trans ?_
      refine (x_goto (tg := 75) f135_70 rfl rfl).trans ?_
      rfl
    refine m_I.trans ?_
    refine (x_imul f135_75 rfl).trans ?_
    refine (x_iload f135_76 rfl rfl).trans ?_
    refine (x_icmp_lt (tg := 83) f135_77 rfl rfl).trans (i_c ?_ ?_)
    · refine (x_iinc (l2 := [aU, aU, aI l2, aI l3, aI l4, aI l5, aI (w32 (l6 + 1))]) f135_83 rfl rfl rfl).trans ?_
      refine (x_goto (tg := 53) f135_86 rfl rfl).trans ?_
      rfl
    · refine (x_iload f135_80 rfl rfl).trans ?_
      exact x_ireturn f135_82 rfl
theorem f136_0 : fch 136 0 = some (.iload 1, 1, []) := by decide +kernel
theorem f136_1 : fch 136 1 = some (.invokestatic 142, 4, []) := by decide +kernel
theorem f136_4 : fch 136 4 = some (.ifCond .ne 9, 7, []) := by decide +kernel
theorem f136_7 : fch 136 7 = some (.iconst (-1), 8, []) := by decide +kernel
theorem f136_8 : fch 136 8 = some (.ireturn, 9, []) := by decide +kernel
theorem f136_9 : fch 136 9 = some (.aload 0, 10, []) := by decide +kernel
theorem f136_10 : fch 136 10 = some (.invokeinterface 8 7, 13, []) := by decide +kernel
theorem f136_13 : fch 136 13 = some (.iload 1, 14, []) := by decide +kernel
theorem f136_14 : fch 136 14 = some (.aaload, 15, []) := by decide +kernel
theorem f136_15 : fch 136 15 = some (.aload 0, 16, []) := by decide +kernel
theorem f136_16 : fch 136 16 = some (.invokeinterface 8 5, 19, []) := by decide +kernel
theorem f136_19 : fch 136 19 = some (.invokevirtual 19, 22, []) := by decide +kernel
theorem f136_22 : fch 136 22 = some (.aload 0, 23, []) := by decide +kernel
theorem f136_23 : fch 136 23 = some (.invokeinterface 8 8, 26, []) := by decide +kernel
theorem f136_26 : fch 136 26 = some (.iload 1, 27, []) := by decide +kernel
theorem f136_27 : fch 136 27 = some (.iconst 1, 28, []) := by decide +kernel
theorem f136_28 : fch 136 28 = some (.bastore, 29, []) := by decide +kernel
theorem f136_29 : fch 136 29 = some (.aload 0, 30, []) := by decide +kernel
theorem f136_30 : fch 136 30 = some (.invokeinterface 8 5, 33, []) := by decide +kernel
theorem f136_33 : fch 136 33 = some (.invokevirtual 27, 36, []) := by decide +kernel
theorem f136_36 : fch 136 36 = some (.ireturn, 37, []) := by decide +kernel
set_option maxRecDepth 10000 in
theorem e136_0 (l0 l1 : Int) (s : SG) : sem 136 0 [aA l0, aI l1] [] s = bnI (sem 142 0 [aI l1] [] s) fun a2 s1 => if a2 = 0 then some (aI ((-1)), s1) else grd (kd l0 = 8) (grd (0 ≤ s1 l0 7) (grd (kd (s1 l0 7) = 104) (grd ((0 : Int) ≤ l1 ∧ l1 < kl (s1 l0 7)) (grd (0 ≤ s1 (s1 l0 7) l1) (grd (kd l0 = 8) (grd (0 ≤ s1 l0 5) (grd (kd (s1 (s1 l0 7) l1) = 1) (bnV (sem 19 0 [aA (s1 (s1 l0 7) l1), aA (s1 l0 5)] [] s1) fun s3 => grd (kd l0 = 8) (grd (0 ≤ s3 l0 8) (grd (kd (s3 l0 8) = 102) (grd ((0 : Int) ≤ l1 ∧ l1 < kl (s3 l0 8)) (grd ((1 : Int) = 0 ∨ (1 : Int) = 1) (grd (kd l0 = 8) (grd (0 ≤ (up s3 (s3 l0 8) l1 1) l0 5) (grd (kd ((up s3 (s3 l0 8) l1 1) l0 5) = 1) (bnI (sem 27 0 [aA ((up s3 (s3 l0 8) l1 1) l0 5), aU, aU] [] (up s3 (s3 l0 8) l1 1)) fun a5 s4 => some (aI a5, s4))))))))))))))))) := by
  refine (x_iload f136_0 rfl rfl).trans ?_
  refine (x_invokestatic (G := bnI (sem 142 0 [aI l1] [] s) fun a2 s1 => sem 136 4 [aA l0, aI l1] [aI a2] s1) f136_1 rfl rfl).trans ?_
  refine bI_c fun a2 s1 => ?_
  refine (x_if_ne (tg := 9) f136_4 rfl rfl).trans (i_c ?_ ?_)
  · refine (x_iconst f136_7 rfl).trans ?_
    exact x_ireturn f136_8 rfl
  · refine (x_aload f136_9 rfl rfl).trans ?_
    refine (x_get2 f136_10 rfl rfl).trans ?_
    refine g_c ?_
    refine g_c ?_
    refine (x_iload f136_13 rfl rfl).trans ?_
    refine (x_aaload f136_14 rfl).trans ?_
    refine g_c ?_
    refine g_c ?_
    refine g_c ?_
    refine (x_aload f136_15 rfl rfl).trans ?_
    refine (x_get2 f136_16 rfl rfl).trans ?_
    refine g_c ?_
    refine g_c ?_
    refine (x_invokevirtual (G := grd (kd (s1 (s1 l0 7) l1) = 1) (bnV (sem 19 0 [aA (s1 (s1 l0 7) l1), aA (s1 l0 5)] [] s1) fun s3 => sem 136 22 [aA l0, aI l1] [] s3)) f136_19 rfl rfl).trans ?_
    refine g_c ?_
    refine bV_c fun s3 => ?_
    refine (x_aload f136_22 rfl rfl).trans ?_
    refine (x_get2 f136_23 rfl rfl).trans ?_
    refine g_c ?_
    refine g_c ?_
    refine (x_iload f136_26 rfl rfl).trans ?_
    refine (x_iconst f136_27 rfl).trans ?_
    refine (x_bastore f136_28 rfl).trans ?_
    refine g_c ?_
    refine g_c ?_
    refine g_c ?_
    refine (x_aload f136_29 rfl rfl).trans ?_
    refine (x_get2 f136_30 rfl rfl).trans ?_
    refine g_c ?_
    refine g_c ?_
    refine (x_invokevirtual (G := grd (kd ((up s3 (s3 l0 8) l1 1) l0 5) = 1) (bnI (sem 27 0 [aA ((up s3 (s3 l0 8) l1 1) l0 5), aU, aU] [] (up s3 (s3 l0 8) l1 1)) fun a5 s4 => sem 136 36 [aA l0, aI l1] [aI a5] s4)) f136_33 rfl rfl).trans ?_
    refine g_c ?_
    refine bI_c fun a5 s4 => ?_
    exact x_ireturn f136_36 rfl
theorem f137_0 : fch 137 0 = some (.iload 1, 1, []) := by decide +kernel
theorem f137_1 : fch 137 1 = some (.invokestatic 142, 4, []) := by decide +kernel
theorem f137_4 : fch 137 4 = some (.ifCond .ne 9, 7, []) := by decide +kernel
theorem f137_7 : fch 137 7 = some (.iconst (-1), 8, []) := by decide +kernel
theorem f137_8 : fch 137 8 = some (.ireturn, 9, []) := by decide +kernel
theorem f137_9 : fch 137 9 = some (.aload 0, 10, []) := by decide +kernel
theorem f137_10 : fch 137 10 = some (.invokeinterface 8 8, 13, []) := by decide +kernel
theorem f137_13 : fch 137 13 = some (.iload 1, 14, []) := by decide +kernel
theorem f137_14 : fch 137 14 = some (.baload, 15, []) := by decide +kernel
theorem f137_15 : fch 137 15 = some (.ifCond .ne 21, 18, []) := by decide +kernel
theorem f137_18 : fch 137 18 = some (.iconst (-3), 20, []) := by decide +kernel
theorem f137_20 : fch 137 20 = some (.ireturn, 21, []) := by decide +kernel
theorem f137_21 : fch 137 21 = some (.aload 0, 22, []) := by decide +kernel
theorem f137_22 : fch 137 22 = some (.invokeinterface 8 5, 25, []) := by decide +kernel
theorem f137_25 : fch 137 25 = some (.aload 0, 26, []) := by decide +kernel
theorem f137_26 : fch 137 26 = some (.invokeinterface 8 7, 29, []) := by decide +kernel
theorem f137_29 : fch 137 29 = some (.iload 1, 30, []) := by decide +kernel
theorem f137_30 : fch 137 30 = some (.aaload, 31, []) := by decide +kernel
theorem f137_31 : fch 137 31 = some (.invokevirtual 19, 34, []) := by decide +kernel
theorem f137_34 : fch 137 34 = some (.aload 0, 35, []) := by decide +kernel
theorem f137_35 : fch 137 35 = some (.invokeinterface 8 5, 38, []) := by decide +kernel
theorem f137_38 : fch 137 38 = some (.invokevirtual 27, 41, []) := by decide +kernel
theorem f137_41 : fch 137 41 = some (.ireturn, 42, []) := by decide +kernel
set_option maxRecDepth 10000 in
theorem e137_0 (l0 l1 : Int) (s : SG) : sem 137 0 [aA l0, aI l1] [] s = bnI (sem 142 0 [aI l1] [] s) fun a2 s1 => if a2 = 0 then some (aI ((-1)), s1) else grd (kd l0 = 8) (grd (0 ≤ s1 l0 8) (grd (kd (s1 l0 8) = 102) (grd ((0 : Int) ≤ l1 ∧ l1 < kl (s1 l0 8)) (if (s1 (s1 l0 8) l1) = 0 then some (aI ((-3)), s1) else grd (kd l0 = 8) (grd (0 ≤ s1 l0 5) (grd (kd l0 = 8) (grd (0 ≤ s1 l0 7) (grd (kd (s1 l0 7) = 104) (grd ((0 : Int) ≤ l1 ∧ l1 < kl (s1 l0 7)) (grd (0 ≤ s1 (s1 l0 7) l1) (grd (kd (s1 l0 5) = 1) (bnV (sem 19 0 [aA (s1 l0 5), aA (s1 (s1 l0 7) l1)] [] s1) fun s3 => grd (kd l0 = 8) (grd (0 ≤ s3 l0 5) (grd (kd (s3 l0 5) = 1) (bnI (sem 27 0 [aA (s3 l0 5), aU, aU] [] s3) fun a5 s4 => some (aI a5, s4)))))))))))))))) := by
  refine (x_iload f137_0 rfl rfl).trans ?_
  refine (x_invokestatic (G := bnI (sem 142 0 [aI l1] [] s) fun a2 s1 => sem 137 4 [aA l0, aI l1] [aI a2] s1) f137_1 rfl rfl).trans ?_
  refine bI_c fun a2 s1 => ?_
  refine (x_if_ne (tg := 9) f137_4 rfl rfl).trans (i_c ?_ ?_)
  · refine (x_iconst f137_7 rfl).trans ?_
    exact x_ireturn f137_8 rfl
  · refine (x_aload f137_9 rfl rfl).trans ?_
    refine (x_get2 f137_10 rfl rfl).trans ?_
    refine g_c ?_
    refine g_c ?_
    refine (x_iload f137_13 rfl rfl).trans ?_
    refine (x_baload f137_14 rfl).trans ?_
    refine g_c ?_
    refine g_c ?_
    refine (x_if_ne (tg := 21) f137_15 rfl rfl).trans (i_c ?_ ?_)
    · refine (x_iconst f137_18 rfl).trans ?_
      exact x_ireturn f137_20 rfl
    · refine (x_aload f137_21 rfl rfl).trans ?_
      refine (x_get2 f137_22 rfl rfl).trans ?_
      refine g_c ?_
      refine g_c ?_
      refine (x_aload f137_25 rfl rfl).trans ?_
      refine (x_get2 f137_26 rfl rfl).trans ?_
      refine g_c ?_
      refine g_c ?_
      refine (x_iload f137_29 rfl rfl).trans ?_
      refine (x_aaload f137_30 rfl).trans ?_
      refine g_c ?_
      refine g_c ?_
      refine g_c ?_
      refine (x_invokevirtual (G := grd (kd (s1 l0 5) = 1) (bnV (sem 19 0 [aA (s1 l0 5), aA (s1 (s1 l0 7) l1)] [] s1) fun s3 => sem 137 34 [aA l0, aI l1] [] s3)) f137_31 rfl rfl).trans ?_
      refine g_c ?_
      refine bV_c fun s3 => ?_
      refine (x_aload f137_34 rfl rfl).trans ?_
      refine (x_get2 f137_35 rfl rfl).trans ?_
      refine g_c ?_
      refine g_c ?_
      refine (x_invokevirtual (G := grd (kd (s3 l0 5) = 1) (bnI (sem 27 0 [aA (s3 l0 5), aU, aU] [] s3) fun a5 s4 => sem 137 41 [aA l0, aI l1] [aI a5] s4)) f137_38 rfl rfl).trans ?_
      refine g_c ?_
      refine bI_c fun a5 s4 => ?_
      exact x_ireturn f137_41 rfl
theorem f138_0 : fch 138 0 = some (.iload 1, 1, []) := by decide +kernel
theorem f138_1 : fch 138 1 = some (.tableswitch 64 0 3 #[32, 40, 48, 56], 32, []) := by decide +kernel
theorem f138_32 : fch 138 32 = some (.aload 0, 33, []) := by decide +kernel
theorem f138_33 : fch 138 33 = some (.invokeinterface 8 0, 36, []) := by decide +kernel
theorem f138_36 : fch 138 36 = some (.invokevirtual 75, 39, []) := by decide +kernel
theorem f138_39 : fch 138 39 = some (.ireturn, 40, []) := by decide +kernel
theorem f138_40 : fch 138 40 = some (.aload 0, 41, []) := by decide +kernel
theorem f138_41 : fch 138 41 = some (.invokeinterface 8 3, 44, []) := by decide +kernel
theorem f138_44 : fch 138 44 = some (.invokevirtual 65, 47, []) := by decide +kernel
theorem f138_47 : fch 138 47 = some (.ireturn, 48, []) := by decide +kernel
theorem f138_48 : fch 138 48 = some (.aload 0, 49, []) := by decide +kernel
theorem f138_49 : fch 138 49 = some (.invokeinterface 8 5, 52, []) := by decide +kernel
theorem f138_52 : fch 138 52 = some (.invokeinterface 1 10, 55, []) := by decide +kernel
theorem f138_55 : fch 138 55 = some (.ireturn, 56, []) := by decide +kernel
theorem f138_56 : fch 138 56 = some (.aload 0, 57, []) := by decide +kernel
theorem f138_57 : fch 138 57 = some (.invokeinterface 8 5, 60, []) := by decide +kernel
theorem f138_60 : fch 138 60 = some (.invokevirtual 27, 63, []) := by decide +kernel
theorem f138_63 : fch 138 63 = some (.ireturn, 64, []) := by decide +kernel
theorem f138_64 : fch 138 64 = some (.iconst (-2), 66, []) := by decide +kernel
theorem f138_66 : fch 138 66 = some (.ireturn, 67, []) := by decide +kernel
set_option maxRecDepth 10000 in
theorem e138_0 (l0 l1 : Int) (s : SG) : sem 138 0 [aA l0, aI l1] [] s = if l1 = 0 then grd (kd l0 = 8) (grd (0 ≤ s l0 0) (grd (kd (s l0 0) = 5) (bnI (sem 75 0 [aA (s l0 0)] [] s) fun a2 s1 => some (aI a2, s1)))) else if l1 = 1 then grd (kd l0 = 8) (grd (0 ≤ s l0 3) (grd (kd (s l0 3) = 4) (bnI (sem 65 0 [aA (s l0 3)] [] s) fun a4 s3 => some (aI a4, s3)))) else if l1 = 2 then grd (kd l0 = 8) (grd (0 ≤ s l0 5) (grd (kd (s l0 5) = 1) (some (aI (s (s l0 5) 10), s)))) else if l1 = 3 then grd (kd l0 = 8) (grd (0 ≤ s l0 5) (grd (kd (s l0 5) = 1) (bnI (sem 27 0 [aA (s l0 5), aU, aU] [] s) fun a6 s5 => some (aI a6, s5)))) else some (aI ((-2)), s) := by
  refine (x_iload f138_0 rfl rfl).trans ?_
  refine (x_tsw f138_1 rfl).trans ?_
  refine Eq.trans (b := sem 138 (if l1 = 0 then 32 else if l1 = 1 then 40 else if l1 = 2 then 48 else if l1 = 3 then 56 else 64) [aA l0, aI l1] [] s) rfl ?_
  refine x_ite.trans (i_c ?_ ?_)
  · refine (x_aload f138_32 rfl rfl).trans ?_
    refine (x_get2 f138_33 rfl rfl).trans ?_
    refine g_c ?_
    refine g_c ?_
    refine (x_invokevirtual (G := grd (kd (s l0 0) = 5) (bnI (sem 75 0 [aA (s l0 0)] [] s) fun a2 s1 => sem 138 39 [aA l0, aI l1] [aI a2] s1)) f138_36 rfl rfl).trans ?_
    refine g_c ?_
    refine bI_c fun a2 s1 => ?_
    exact x_ireturn f138_39 rfl
  refine x_ite.trans (i_c ?_ ?_)
  · refine (x_aload f138_40 rfl rfl).trans ?_
    refine (x_get2 f138_41 rfl rfl).trans ?_
    refine g_c ?_
    refine g_c ?_
    refine (x_invokevirtual (G := grd (kd (s l0 3) = 4) (bnI (sem 65 0 [aA (s l0 3)] [] s) fun a4 s3 => sem 138 47 [aA l0, aI l1] [aI a4] s3)) f138_44 rfl rfl).trans ?_
    refine g_c ?_
    refine bI_c fun a4 s3 => ?_
    exact x_ireturn f138_47 rfl
  refine x_ite.trans (i_c ?_ ?_)
  · refine (x_aload f138_48 rfl rfl).trans ?_
    refine (x_get2 f138_49 rfl rfl).trans ?_
    refine g_c ?_
    refine g_c ?_
    refine (x_get0 f138_52 rfl rfl).trans ?_
    refine g_c ?_
    exact x_ireturn f138_55 rfl
  refine x_ite.trans (i_c ?_ ?_)
  · refine (x_aload f138_56 rfl rfl).trans ?_
    refine (x_get2 f138_57 rfl rfl).trans ?_
    refine g_c ?_
    refine g_c ?_
    refine (x_invokevirtual (G := grd (kd (s l0 5) = 1) (bnI (sem 27 0 [aA (s l0 5), aU, aU] [] s) fun a6 s5 => sem 138 63 [aA l0, aI l1] [aI a6] s5)) f138_60 rfl rfl).trans ?_
    refine g_c ?_
    refine bI_c fun a6 s5 => ?_
    exact x_ireturn f138_63 rfl
  refine (x_iconst f138_64 rfl).trans ?_
  exact x_ireturn f138_66 rfl
theorem f139_0 : fch 139 0 = some (.iload 0, 1, []) := by decide +kernel
theorem f139_1 : fch 139 1 = some (.ifCond .lt 13, 4, []) := by decide +kernel
theorem f139_4 : fch 139 4 = some (.iload 0, 5, []) := by decide +kernel
theorem f139_5 : fch 139 5 = some (.iconst 3, 6, []) := by decide +kernel
theorem f139_6 : fch 139 6 = some (.if_icmp .ge 13, 9, []) := by decide +kernel
theorem f139_9 : fch 139 9 = some (.iconst 1, 10, []) := by decide +kernel
theorem f139_10 : fch 139 10 = some (.goto 14, 13, []) := by decide +kernel
theorem f139_13 : fch 139 13 = some (.iconst 0, 14, [0]) := by decide +kernel
theorem f139_14 : fch 139 14 = some (.ireturn, 15, [0]) := by decide +kernel
set_option maxRecDepth 10000 in
theorem e139_0 (l0 : Int) (s : SG) : sem 139 0 [aI l0] [] s = if l0 < 0 then some (aI 0, s) else if l0 < 3 then some (aI 1, s) else some (aI 0, s) := by
  refine (x_iload f139_0 rfl rfl).trans ?_
  refine (x_if_lt (tg := 13) f139_1 rfl rfl).trans (i_c ?_ ?_)
  · refine (x_kil (l2 := [aU]) f139_13 rfl).trans ?_
    refine (x_iconst f139_13 rfl).trans ?_
    exact x_zreturn0 f139_14 rfl
  · refine (x_iload f139_4 rfl rfl).trans ?_
    refine (x_iconst f139_5 rfl).trans ?_
    refine (x_icmp_ge (tg := 13) f139_6 rfl rfl).trans (i_c ?_ ?_)
    · refine (x_iconst f139_9 rfl).trans ?_
      refine (x_goto (tg := 14) f139_10 rfl rfl).trans ?_
      refine (x_kil (l2 := [aU]) f139_14 rfl).trans ?_
      exact x_zreturn1 f139_14 rfl
    · refine (x_kil (l2 := [aU]) f139_13 rfl).trans ?_
      refine (x_iconst f139_13 rfl).trans ?_
      exact x_zreturn0 f139_14 rfl
theorem f140_0 : fch 140 0 = some (.iload 0, 1, []) := by decide +kernel
theorem f140_1 : fch 140 1 = some (.ifCond .lt 13, 4, []) := by decide +kernel
theorem f140_4 : fch 140 4 = some (.iload 0, 5, []) := by decide +kernel
theorem f140_5 : fch 140 5 = some (.iconst 3, 6, []) := by decide +kernel
theorem f140_6 : fch 140 6 = some (.if_icmp .ge 13, 9, []) := by decide +kernel
theorem f140_9 : fch 140 9 = some (.iconst 1, 10, []) := by decide +kernel
theorem f140_10 : fch 140 10 = some (.goto 14, 13, []) := by decide +kernel
theorem f140_13 : fch 140 13 = some (.iconst 0, 14, [0]) := by decide +kernel
theorem f140_14 : fch 140 14 = some (.ireturn, 15, [0]) := by decide +kernel
set_option maxRecDepth 10000 in
theorem e140_0 (l0 : Int) (s : SG) : sem 140 0 [aI l0] [] s = if l0 < 0 then some (aI 0, s) else if l0 < 3 then some (aI 1, s) else some (aI 0, s) := by
  refine (x_iload f140_0 rfl rfl).trans ?_
  refine (x_if_lt (tg := 13) f140_1 rfl rfl).trans (i_c ?_ ?_)
  · refine (x_kil (l2 := [aU]) f140_13 rfl).trans ?_
    refine (x_iconst f140_13 rfl).trans ?_
    exact x_zreturn0 f140_14 rfl
  · refine (x_iload f140_4 rfl rfl).trans ?_
    refine (x_iconst f140_5 rfl).trans ?_
    refine (x_icmp_ge (tg := 13) f140_6 rfl rfl).trans (i_c ?_ ?_)
    · refine (x_iconst f140_9 rfl).trans ?_
      refine (x_goto (tg := 14) f140_10 rfl rfl).trans ?_
      refine (x_kil (l2 := [aU]) f140_14 rfl).trans ?_
      exact x_zreturn1 f140_14 rfl
    · refine (x_kil (l2 := [aU]) f140_13 rfl).trans ?_
      refine (x_iconst f140_13 rfl).trans ?_
      exact x_zreturn0 f140_14 rfl
theorem f141_0 : fch 141 0 = some (.iload 0, 1, []) := by decide +kernel
theorem f141_1 : fch 141 1 = some (.ifCond .lt 14, 4, []) := by decide +kernel
theorem f141_4 : fch 141 4 = some (.iload 0, 5, []) := by decide +kernel
theorem f141_5 : fch 141 5 = some (.iconst 6, 7, []) := by decide +kernel
theorem f141_7 : fch 141 7 = some (.if_icmp .ge 14, 10, []) := by decide +kernel
theorem f141_10 : fch 141 10 = some (.iconst 1, 11, []) := by decide +kernel
theorem f141_11 : fch 141 11 = some (.goto 15, 14, []) := by decide +kernel
theorem f141_14 : fch 141 14 = some (.iconst 0, 15, [0]) := by decide +kernel
theorem f141_15 : fch 141 15 = some (.ireturn, 16, [0]) := by decide +kernel
set_option maxRecDepth 10000 in
theorem e141_0 (l0 : Int) (s : SG) : sem 141 0 [aI l0] [] s = if l0 < 0 then some (aI 0, s) else if l0 < 6 then some (aI 1, s) else some (aI 0, s) := by
  refine (x_iload f141_0 rfl rfl).trans ?_
  refine (x_if_lt (tg := 14) f141_1 rfl rfl).trans (i_c ?_ ?_)
  · refine (x_kil (l2 := [aU]) f141_14 rfl).trans ?_
    refine (x_iconst f141_14 rfl).trans ?_
    exact x_zreturn0 f141_15 rfl
  · refine (x_iload f141_4 rfl rfl).trans ?_
    refine (x_iconst f141_5 rfl).trans ?_
    refine (x_icmp_ge (tg := 14) f141_7 rfl rfl).trans (i_c ?_ ?_)
    · refine (x_iconst f141_10 rfl).trans ?_
      refine (x_goto (tg := 15) f141_11 rfl rfl).trans ?_
      refine (x_kil (l2 := [aU]) f141_15 rfl).trans ?_
      exact x_zreturn1 f141_15 rfl
    · refine (x_kil (l2 := [aU]) f141_14 rfl).trans ?_
      refine (x_iconst f141_14 rfl).trans ?_
      exact x_zreturn0 f141_15 rfl
theorem f142_0 : fch 142 0 = some (.iload 0, 1, []) := by decide +kernel
theorem f142_1 : fch 142 1 = some (.ifCond .lt 13, 4, []) := by decide +kernel
theorem f142_4 : fch 142 4 = some (.iload 0, 5, []) := by decide +kernel
theorem f142_5 : fch 142 5 = some (.iconst 2, 6, []) := by decide +kernel
theorem f142_6 : fch 142 6 = some (.if_icmp .ge 13, 9, []) := by decide +kernel
theorem f142_9 : fch 142 9 = some (.iconst 1, 10, []) := by decide +kernel
theorem f142_10 : fch 142 10 = some (.goto 14, 13, []) := by decide +kernel
theorem f142_13 : fch 142 13 = some (.iconst 0, 14, [0]) := by decide +kernel
theorem f142_14 : fch 142 14 = some (.ireturn, 15, [0]) := by decide +kernel
set_option maxRecDepth 10000 in
theorem e142_0 (l0 : Int) (s : SG) : sem 142 0 [aI l0] [] s = if l0 < 0 then some (aI 0, s) else if l0 < 2 then some (aI 1, s) else some (aI 0, s) := by
  refine (x_iload f142_0 rfl rfl).trans ?_
  refine (x_if_lt (tg := 13) f142_1 rfl rfl).trans (i_c ?_ ?_)
  · refine (x_kil (l2 := [aU]) f142_13 rfl).trans ?_
    refine (x_iconst f142_13 rfl).trans ?_
    exact x_zreturn0 f142_14 rfl
  · refine (x_iload f142_4 rfl rfl).trans ?_
    refine (x_iconst f142_5 rfl).trans ?_
    refine (x_icmp_ge (tg := 13) f142_6 rfl rfl).trans (i_c ?_ ?_)
    · refine (x_iconst f142_9 rfl).trans ?_
      refine (x_goto (tg := 14) f142_10 rfl rfl).trans ?_
      refine (x_kil (l2 := [aU]) f142_14 rfl).trans ?_
      exact x_zreturn1 f142_14 rfl
    · refine (x_kil (l2 := [aU]) f142_13 rfl).trans ?_
      refine (x_iconst f142_13 rfl).trans ?_
      exact x_zreturn0 f142_14 rfl
theorem f143_0 : fch 143 0 = some (.iload 0, 1, []) := by decide +kernel
theorem f143_1 : fch 143 1 = some (.ifCond .lt 14, 4, []) := by decide +kernel
theorem f143_4 : fch 143 4 = some (.iload 0, 5, []) := by decide +kernel
theorem f143_5 : fch 143 5 = some (.iconst 60, 7, []) := by decide +kernel
theorem f143_7 : fch 143 7 = some (.if_icmp .gt 14, 10, []) := by decide +kernel
theorem f143_10 : fch 143 10 = some (.iconst 1, 11, []) := by decide +kernel
theorem f143_11 : fch 143 11 = some (.goto 15, 14, []) := by decide +kernel
theorem f143_14 : fch 143 14 = some (.iconst 0, 15, [0]) := by decide +kernel
theorem f143_15 : fch 143 15 = some (.ireturn, 16, [0]) := by decide +kernel
set_option maxRecDepth 10000 in
theorem e143_0 (l0 : Int) (s : SG) : sem 143 0 [aI l0] [] s = if l0 < 0 then some (aI 0, s) else if (60 : Int) < l0 then some (aI 0, s) else some (aI 1, s) := by
  refine (x_iload f143_0 rfl rfl).trans ?_
  refine (x_if_lt (tg := 14) f143_1 rfl rfl).trans (i_c ?_ ?_)
  · refine (x_kil (l2 := [aU]) f143_14 rfl).trans ?_
    refine (x_iconst f143_14 rfl).trans ?_
    exact x_zreturn0 f143_15 rfl
  · refine (x_iload f143_4 rfl rfl).trans ?_
    refine (x_iconst f143_5 rfl).trans ?_
    refine (x_icmp_gt (tg := 14) f143_7 rfl rfl).trans (i_c ?_ ?_)
    · refine (x_kil (l2 := [aU]) f143_14 rfl).trans ?_
      refine (x_iconst f143_14 rfl).trans ?_
      exact x_zreturn0 f143_15 rfl
    · refine (x_iconst f143_10 rfl).trans ?_
      refine (x_goto (tg := 15) f143_11 rfl rfl).trans ?_
      refine (x_kil (l2 := [aU]) f143_15 rfl).trans ?_
      exact x_zreturn1 f143_15 rfl
theorem f144_0 : fch 144 0 = some (.iload 0, 1, []) := by decide +kernel
theorem f144_1 : fch 144 1 = some (.ifCond .lt 14, 4, []) := by decide +kernel
theorem f144_4 : fch 144 4 = some (.iload 0, 5, []) := by decide +kernel
theorem f144_5 : fch 144 5 = some (.iconst 21, 7, []) := by decide +kernel
theorem f144_7 : fch 144 7 = some (.if_icmp .gt 14, 10, []) := by decide +kernel
theorem f144_10 : fch 144 10 = some (.iconst 1, 11, []) := by decide +kernel
theorem f144_11 : fch 144 11 = some (.goto 15, 14, []) := by decide +kernel
theorem f144_14 : fch 144 14 = some (.iconst 0, 15, [0]) := by decide +kernel
theorem f144_15 : fch 144 15 = some (.ireturn, 16, [0]) := by decide +kernel
set_option maxRecDepth 10000 in
theorem e144_0 (l0 : Int) (s : SG) : sem 144 0 [aI l0] [] s = if l0 < 0 then some (aI 0, s) else if (21 : Int) < l0 then some (aI 0, s) else some (aI 1, s) := by
  refine (x_iload f144_0 rfl rfl).trans ?_
  refine (x_if_lt (tg := 14) f144_1 rfl rfl).trans (i_c ?_ ?_)
  · refine (x_kil (l2 := [aU]) f144_14 rfl).trans ?_
    refine (x_iconst f144_14 rfl).trans ?_
    exact x_zreturn0 f144_15 rfl
  · refine (x_iload f144_4 rfl rfl).trans ?_
    refine (x_iconst f144_5 rfl).trans ?_
    refine (x_icmp_gt (tg := 14) f144_7 rfl rfl).trans (i_c ?_ ?_)
    · refine (x_kil (l2 := [aU]) f144_14 rfl).trans ?_
      refine (x_iconst f144_14 rfl).trans ?_
      exact x_zreturn0 f144_15 rfl
    · refine (x_iconst f144_10 rfl).trans ?_
      refine (x_goto (tg := 15) f144_11 rfl rfl).trans ?_
      refine (x_kil (l2 := [aU]) f144_15 rfl).trans ?_
      exact x_zreturn1 f144_15 rfl
theorem f145_0 : fch 145 0 = some (.aload 0, 1, []) := by decide +kernel
theorem f145_1 : fch 145 1 = some (.invokeinterface 8 9, 4, []) := by decide +kernel
theorem f145_4 : fch 145 4 = some (.iload 1, 5, []) := by decide +kernel
theorem f145_5 : fch 145 5 = some (.invokevirtual 82, 8, []) := by decide +kernel
theorem f145_8 : fch 145 8 = some (.ifCond .ne 13, 11, []) := by decide +kernel
theorem f145_11 : fch 145 11 = some (.iconst (-1), 12, []) := by decide +kernel
theorem f145_12 : fch 145 12 = some (.ireturn, 13, []) := by decide +kernel
theorem f145_13 : fch 145 13 = some (.iload 2, 14, []) := by decide +kernel
theorem f145_14 : fch 145 14 = some (.invokestatic 143, 17, []) := by decide +kernel
theorem f145_17 : fch 145 17 = some (.ifCond .eq 24, 20, []) := by decide +kernel
theorem f145_20 : fch 145 20 = some (.iconst 0, 21, []) := by decide +kernel
theorem f145_21 : fch 145 21 = some (.goto 26, 24, []) := by decide +kernel
theorem f145_24 : fch 145 24 = some (.iconst (-2), 26, []) := by decide +kernel
theorem f145_26 : fch 145 26 = some (.ireturn, 27, [0, 1, 2]) := by decide +kernel
set_option maxRecDepth 10000 in
theorem e145_0 (l0 l1 l2 : Int) (s : SG) : sem 145 0 [aA l0, aI l1, aI l2] [] s = grd (kd l0 = 8) (grd (0 ≤ s l0 9) (grd (kd (s l0 9) = 6) (bnI (sem 82 0 [aA (s l0 9), aI l1] [] s) fun a2 s1 => if a2 = 0 then some (aI ((-1)), s1) else bnI (sem 143 0 [aI l2] [] s1) fun a4 s3 => if a4 = 0 then some (aI ((-2)), s3) else some (aI 0, s3)))) := by
  refine (x_aload f145_0 rfl rfl).trans ?_
  refine (x_get2 f145_1 rfl rfl).trans ?_
  refine g_c ?_
  refine g_c ?_
  refine (x_iload f145_4 rfl rfl).trans ?_
  refine (x_invokevirtual (G := grd (kd (s l0 9) = 6) (bnI (sem 82 0 [aA (s l0 9), aI l1] [] s) fun a2 s1 => sem 145 8 [aA l0, aI l1, aI l2] [aI a2] s1)) f145_5 rfl rfl).trans ?_
  refine g_c ?_
  refine bI_c fun a2 s1 => ?_
  refine (x_if_ne (tg := 13) f145_8 rfl rfl).trans (i_c ?_ ?_)
  · refine (x_iconst f145_11 rfl).trans ?_
    exact x_ireturn f145_12 rfl
  · refine (x_iload f145_13 rfl rfl).trans ?_
    refine (x_invokestatic (G := bnI (sem 143 0 [aI l2] [] s1) fun a4 s3 => sem 145 17 [aA l0, aI l1, aI l2] [aI a4] s3) f145_14 rfl rfl).trans ?_
    refine bI_c fun a4 s3 => ?_
    refine (x_if_eq (tg := 24) f145_17 rfl rfl).trans (i_c ?_ ?_)
    · refine (x_iconst f145_24 rfl).trans ?_
      refine (x_kil (l2 := [aU, aU, aU]) f145_26 rfl).trans ?_
      exact x_ireturn f145_26 rfl
    · refine (x_iconst f145_20 rfl).trans ?_
      refine (x_goto (tg := 26) f145_21 rfl rfl).trans ?_
      refine (x_kil (l2 := [aU, aU, aU]) f145_26 rfl).trans ?_
      exact x_ireturn f145_26 rfl
theorem f146_0 : fch 146 0 = some (.iload 1, 1, []) := by decide +kernel
theorem f146_1 : fch 146 1 = some (.ifCond .lt 39, 4, []) := by decide +kernel
theorem f146_4 : fch 146 4 = some (.aload 0, 5, []) := by decide +kernel
theorem f146_5 : fch 146 5 = some (.invokeinterface 8 9, 8, []) := by decide +kernel
theorem f146_8 : fch 146 8 = some (.iload 1, 9, []) := by decide +kernel
theorem f146_9 : fch 146 9 = some (.iconst 10, 11, []) := by decide +kernel
theorem f146_11 : fch 146 11 = some (.idiv, 12, []) := by decide +kernel
theorem f146_12 : fch 146 12 = some (.invokevirtual 82, 15, []) := by decide +kernel
theorem f146_15 : fch 146 15 = some (.ifCond .eq 39, 18, []) := by decide +kernel
theorem f146_18 : fch 146 18 = some (.aload 0, 19, []) := by decide +kernel
theorem f146_19 : fch 146 19 = some (.invokeinterface 8 9, 22, []) := by decide +kernel
theorem f146_22 : fch 146 22 = some (.iload 1, 23, []) := by decide +kernel
theorem f146_23 : fch 146 23 = some (.iconst 10, 25, []) := by decide +kernel
theorem f146_25 : fch 146 25 = some (.irem, 26, []) := by decide +kernel
theorem f146_26 : fch 146 26 = some (.invokevirtual 82, 29, []) := by decide +kernel
theorem f146_29 : fch 146 29 = some (.ifCond .eq 39, 32, []) := by decide +kernel
theorem f146_32 : fch 146 32 = some (.iload 2, 33, []) := by decide +kernel
theorem f146_33 : fch 146 33 = some (.invokestatic 140, 36, []) := by decide +kernel
theorem f146_36 : fch 146 36 = some (.ifCond .ne 41, 39, []) := by decide +kernel
theorem f146_39 : fch 146 39 = some (.iconst (-1), 40, [0, 1, 2, 3, 4, 5, 6]) := by decide +kernel
theorem f146_40 : fch 146 40 = some (.ireturn, 41, []) := by decide +kernel
theorem f146_41 : fch 146 41 = some (.iload 3, 42, []) := by decide +kernel
theorem f146_42 : fch 146 42 = some (.ifCond .lt 75, 45, []) := by decide +kernel
theorem f146_45 : fch 146 45 = some (.iload 3, 46, []) := by decide +kernel
theorem f146_46 : fch 146 46 = some (.iconst 100, 48, []) := by decide +kernel
theorem f146_48 : fch 146 48 = some (.idiv, 49, []) := by decide +kernel
theorem f146_49 : fch 146 49 = some (.iload 3, 50, []) := by decide +kernel
theorem f146_50 : fch 146 50 = some (.iconst 100, 52, []) := by decide +kernel
theorem f146_52 : fch 146 52 = some (.irem, 53, []) := by decide +kernel
theorem f146_53 : fch 146 53 = some (.iload 4, 55, []) := by decide +kernel
theorem f146_55 : fch 146 55 = some (.invokestatic 91, 58, []) := by decide +kernel
theorem f146_58 : fch 146 58 = some (.ifCond .eq 75, 61, []) := by decide +kernel
theorem f146_61 : fch 146 61 = some (.iload 5, 63, []) := by decide +kernel
theorem f146_63 : fch 146 63 = some (.iload 6, 65, []) := by decide +kernel
theorem f146_65 : fch 146 65 = some (.if_icmp .lt 75, 68, []) := by decide +kernel
theorem f146_68 : fch 146 68 = some (.iload 5, 70, []) := by decide +kernel
theorem f146_70 : fch 146 70 = some (.iconst 6, 72, []) := by decide +kernel
theorem f146_72 : fch 146 72 = some (.if_icmp .le 78, 75, []) := by decide +kernel
theorem f146_75 : fch 146 75 = some (.iconst (-2), 77, [0, 1, 2, 3, 4, 5, 6]) := by decide +kernel
theorem f146_77 : fch 146 77 = some (.ireturn, 78, []) := by decide +kernel
theorem f146_78 : fch 146 78 = some (.iload 1, 79, []) := by decide +kernel
theorem f146_79 : fch 146 79 = some (.iconst 10, 81, []) := by decide +kernel
theorem f146_81 : fch 146 81 = some (.idiv, 82, []) := by decide +kernel
theorem f146_82 : fch 146 82 = some (.iload 1, 83, []) := by decide +kernel
theorem f146_83 : fch 146 83 = some (.iconst 10, 85, []) := by decide +kernel
theorem f146_85 : fch 146 85 = some (.irem, 86, []) := by decide +kernel
theorem f146_86 : fch 146 86 = some (.if_icmp .ne 94, 89, []) := by decide +kernel
theorem f146_89 : fch 146 89 = some (.iconst (-3), 91, []) := by decide +kernel
theorem f146_91 : fch 146 91 = some (.goto 95, 94, []) := by decide +kernel
theorem f146_94 : fch 146 94 = some (.iconst 0, 95, []) := by decide +kernel
theorem f146_95 : fch 146 95 = some (.ireturn, 96, [0, 1, 2, 3, 4, 5, 6]) := by decide +kernel
set_option maxRecDepth 10000 in
theorem e146_0 (l0 l1 l2 l3 l4 l5 l6 : Int) (s : SG) : sem 146 0 [aA l0, aI l1, aI l2, aI l3, aI l4, aI l5, aI l6] [] s = if l1 < 0 then some (aI ((-1)), s) else grd (kd l0 = 8) (grd (0 ≤ s l0 9) (grd ((10 : Int) ≠ 0) (grd (kd (s l0 9) = 6) (bnI (sem 82 0 [aA (s l0 9), aI (w32 (Int.tdiv l1 10))] [] s) fun a2 s1 => if a2 = 0 then some (aI ((-1)), s1) else grd (kd l0 = 8) (grd (0 ≤ s1 l0 9) (grd ((10 : Int) ≠ 0) (grd (kd (s1 l0 9) = 6) (bnI (sem 82 0 [aA (s1 l0 9), aI (remA l1 10)] [] s1) fun a4 s3 => if a4 = 0 then some (aI ((-1)), s3) else bnI (sem 140 0 [aI l2] [] s3) fun a6 s5 => if a6 = 0 then some (aI ((-1)), s5) else if l3 < 0 then some (aI ((-2)), s5) else grd ((100 : Int) ≠ 0) (grd ((100 : Int) ≠ 0) (bnI (sem 91 0 [aI (w32 (Int.tdiv l3 100)), aI (remA l3 100), aI l4] [] s5) fun a8 s7 => if a8 = 0 then some (aI ((-2)), s7) else if l5 < l6 then some (aI ((-2)), s7) else if (6 : Int) < l5 then some (aI ((-2)), s7) else grd ((10 : Int) ≠ 0) (grd ((10 : Int) ≠ 0) (if (w32 (Int.tdiv l1 10)) = (remA l1 10) then some (aI ((-3)), s7) else some (aI 0, s7))))))))))))) := by
  refine (x_iload f146_0 rfl rfl).trans ?_
  refine (x_if_lt (tg := 39) f146_1 rfl rfl).trans (i_c ?_ ?_)
  · refine (x_kil (l2 := [aU, aU, aU, aU, aU, aU, aU]) f146_39 rfl).trans ?_
    refine (x_iconst f146_39 rfl).trans ?_
    exact x_ireturn f146_40 rfl
  · refine (x_aload f146_4 rfl rfl).trans ?_
    refine (x_get2 f146_5 rfl rfl).trans ?_
    refine g_c ?_
    refine g_c ?_
    refine (x_iload f146_8 rfl rfl).trans ?_
    refine (x_iconst f146_9 rfl).trans ?_
    refine (x_idiv f146_11 rfl).trans ?_
    refine g_c ?_
    refine (x_invokevirtual (G := grd (kd (s l0 9) = 6) (bnI (sem 82 0 [aA (s l0 9), aI (w32 (Int.tdiv l1 10))] [] s) fun a2 s1 => sem 146 15 [aA l0, aI l1, aI l2, aI l3, aI l4, aI l5, aI l6] [aI a2] s1)) f146_12 rfl rfl).trans ?_
    refine g_c ?_
    refine bI_c fun a2 s1 => ?_
    refine (x_if_eq (tg := 39) f146_15 rfl rfl).trans (i_c ?_ ?_)
    · refine (x_kil (l2 := [aU, aU, aU, aU, aU, aU, aU]) f146_39 rfl).trans ?_
      refine (x_iconst f146_39 rfl).trans ?_
      exact x_ireturn f146_40 rfl
    · refine (x_aload f146_18 rfl rfl).trans ?_
      refine (x_get2 f146_19 rfl rfl).trans ?_
      refine g_c ?_
      refine g_c ?_
      refine (x_iload f146_22 rfl rfl).trans ?_
      refine (x_iconst f146_23 rfl).trans ?_
      refine (x_irem f146_25 rfl).trans ?_
      refine g_c ?_
      refine (x_invokevirtual (G := grd (kd (s1 l0 9) = 6) (bnI (sem 82 0 [aA (s1 l0 9), aI (remA l1 10)] [] s1) fun a4 s3 => sem 146 29 [aA l0, aI l1, aI l2, aI l3, aI l4, aI l5, aI l6] [aI a4] s3)) f146_26 rfl rfl).trans ?_
      refine g_c ?_
      refine bI_c fun a4 s3 => ?_
      refine (x_if_eq (tg := 39) f146_29 rfl rfl).trans (i_c ?_ ?_)
      · refine (x_kil (l2 := [aU, aU, aU, aU, aU, aU, aU]) f146_39 rfl).trans ?_
        refine (x_iconst f146_39 rfl).trans ?_
        exact x_ireturn f146_40 rfl
      · refine (x_iload f146_32 rfl rfl).trans ?_
        refine (x_invokestatic (G := bnI (sem 140 0 [aI l2] [] s3) fun a6 s5 => sem 146 36 [aA l0, aI l1, aI l2, aI l3, aI l4, aI l5, aI l6] [aI a6] s5) f146_33 rfl rfl).trans ?_
        refine bI_c fun a6 s5 => ?_
        refine (x_if_ne (tg := 41) f146_36 rfl rfl).trans (i_c ?_ ?_)
        · refine (x_kil (l2 := [aU, aU, aU, aU, aU, aU, aU]) f146_39 rfl).trans ?_
          refine (x_iconst f146_39 rfl).trans ?_
          exact x_ireturn f146_40 rfl
        · refine (x_iload f146_41 rfl rfl).trans ?_
          refine (x_if_lt (tg := 75) f146_42 rfl rfl).trans (i_c ?_ ?_)
          · refine (x_kil (l2 := [aU, aU, aU, aU, aU, aU, aU]) f146_75 rfl).trans ?_
            refine (x_iconst f146_75 rfl).trans ?_
            exact x_ireturn f146_77 rfl
          · refine (x_iload f146_45 rfl rfl).trans ?_
            refine (x_iconst f146_46 rfl).trans ?_
            refine (x_idiv f146_48 rfl).trans ?_
            refine g_c ?_
            refine (x_iload f146_49 rfl rfl).trans ?_
            refine (x_iconst f146_50 rfl).trans ?_
            refine (x_irem f146_52 rfl).trans ?_
            refine g_c ?_
            refine (x_iload f146_53 rfl rfl).trans ?_
            refine (x_invokestatic (G := bnI (sem 91 0 [aI (w32 (Int.tdiv l3 100)), aI (remA l3 100), aI l4] [] s5) fun a8 s7 => sem 146 58 [aA l0, aI l1, aI l2, aI l3, aI l4, aI l5, aI l6] [aI a8] s7) f146_55 rfl rfl).trans ?_
            refine bI_c fun a8 s7 => ?_
            refine (x_if_eq (tg := 75) f146_58 rfl rfl).trans (i_c ?_ ?_)
            · refine (x_kil (l2 := [aU, aU, aU, aU, aU, aU, aU]) f146_75 rfl).trans ?_
              refine (x_iconst f146_75 rfl).trans ?_
              exact x_ireturn f146_77 rfl
            · refine (x_iload f146_61 rfl rfl).trans ?_
              refine (x_iload f146_63 rfl rfl).trans ?_
              refine (x_icmp_lt (tg := 75) f146_65 rfl rfl).trans (i_c ?_ ?_)
              · refine (x_kil (l2 := [aU, aU, aU, aU, aU, aU, aU]) f146_75 rfl).trans ?_
                refine (x_iconst f146_75 rfl).trans ?_
                exact x_ireturn f146_77 rfl
              · refine (x_iload f146_68 rfl rfl).trans ?_
                refine (x_iconst f146_70 rfl).trans ?_
                refine (x_icmp_le (tg := 78) f146_72 rfl rfl).trans (i_c ?_ ?_)
                · refine (x_kil (l2 := [aU, aU, aU, aU, aU, aU, aU]) f146_75 rfl).trans ?_
                  refine (x_iconst f146_75 rfl).trans ?_
                  exact x_ireturn f146_77 rfl
                · refine (x_iload f146_78 rfl rfl).trans ?_
                  refine (x_iconst f146_79 rfl).trans ?_
                  refine (x_idiv f146_81 rfl).trans ?_
                  refine g_c ?_
                  refine (x_iload f146_82 rfl rfl).trans ?_
                  refine (x_iconst f146_83 rfl).trans ?_
                  refine (x_irem f146_85 rfl).trans ?_
                  refine g_c ?_
                  refine (x_icmp_ne (tg := 94) f146_86 rfl rfl).trans (i_c ?_ ?_)
                  · refine (x_iconst f146_89 rfl).trans ?_
                    refine (x_goto (tg := 95) f146_91 rfl rfl).trans ?_
                    refine (x_kil (l2 := [aU, aU, aU, aU, aU, aU, aU]) f146_95 rfl).trans ?_
                    exact x_ireturn f146_95 rfl
                  · refine (x_iconst f146_94 rfl).trans ?_
                    refine (x_kil (l2 := [aU, aU, aU, aU, aU, aU, aU]) f146_95 rfl).trans ?_
                    exact x_ireturn f146_95 rfl
theorem f147_0 : fch 147 0 = some (.aload 0, 1, []) := by decide +kernel
theorem f147_1 : fch 147 1 = some (.invokeinterface 8 6, 4, []) := by decide +kernel
theorem f147_4 : fch 147 4 = some (.aload 0, 5, []) := by decide +kernel
theorem f147_5 : fch 147 5 = some (.invokeinterface 8 9, 8, []) := by decide +kernel
theorem f147_8 : fch 147 8 = some (.aload 0, 9, []) := by decide +kernel
theorem f147_9 : fch 147 9 = some (.invokeinterface 8 5, 12, []) := by decide +kernel
theorem f147_12 : fch 147 12 = some (.invokevirtual 45, 15, []) := by decide +kernel
theorem f147_15 : fch 147 15 = some (.iconst 0, 16, []) := by decide +kernel
theorem f147_16 : fch 147 16 = some (.istore 1, 17, []) := by decide +kernel
theorem f147_17 : fch 147 17 = some (.iconst 0, 18, []) := by decide +kernel
theorem f147_18 : fch 147 18 = some (.istore 2, 19, []) := by decide +kernel
theorem f147_19 : fch 147 19 = some (.iload 2, 20, []) := by decide +kernel
theorem f147_20 : fch 147 20 = some (.aload 0, 21, []) := by decide +kernel
theorem f147_21 : fch 147 21 = some (.invokeinterface 8 9, 24, []) := by decide +kernel
theorem f147_24 : fch 147 24 = some (.invokeinterface 6 4, 27, []) := by decide +kernel
theorem f147_27 : fch 147 27 = some (.if_icmp .ge 68, 30, []) := by decide +kernel
theorem f147_30 : fch 147 30 = some (.aload 0, 31, []) := by decide +kernel
theorem f147_31 : fch 147 31 = some (.invokeinterface 8 5, 34, []) := by decide +kernel
theorem f147_34 : fch 147 34 = some (.iload 2, 35, []) := by decide +kernel
theorem f147_35 : fch 147 35 = some (.aload 0, 36, []) := by decide +kernel
theorem f147_36 : fch 147 36 = some (.invokeinterface 8 6, 39, []) := by decide +kernel
theorem f147_39 : fch 147 39 = some (.iload 2, 40, []) := by decide +kernel
theorem f147_40 : fch 147 40 = some (.invokevirtual 58, 43, []) := by decide +kernel
theorem f147_43 : fch 147 43 = some (.iconst (-9), 45, []) := by decide +kernel
theorem f147_45 : fch 147 45 = some (.if_icmp .ne 52, 48, []) := by decide +kernel
theorem f147_48 : fch 147 48 = some (.iconst 1, 49, []) := by decide +kernel
theorem f147_49 : fch 147 49 = some (.goto 53, 52, []) := by decide +kernel
theorem f147_52 : fch 147 52 = some (.iconst 0, 53, []) := by decide +kernel
theorem f147_53 : fch 147 53 = some (.invokevirtual 28, 56, []) := by decide +kernel
theorem f147_56 : fch 147 56 = some (.ifCond .eq 62, 59, []) := by decide +kernel
theorem f147_59 : fch 147 59 = some (.iinc 1 1, 62, []) := by decide +kernel
theorem f147_62 : fch 147 62 = some (.iinc 2 1, 65, []) := by decide +kernel
theorem f147_65 : fch 147 65 = some (.goto 19, 68, []) := by decide +kernel
theorem f147_68 : fch 147 68 = some (.iload 1, 69, []) := by decide +kernel
theorem f147_69 : fch 147 69 = some (.ireturn, 70, []) := by decide +kernel
set_option maxRecDepth 10000 in
theorem e147_0 (l0 : Int) (s : SG) : sem 147 0 [aA l0, aU, aU] [] s = grd (kd l0 = 8) (grd (0 ≤ s l0 6) (grd (kd l0 = 8) (grd (0 ≤ s l0 9) (grd (kd l0 = 8) (grd (0 ≤ s l0 5) (grd (kd (s l0 6) = 3) (bnV (sem 45 0 [aA (s l0 6), aA (s l0 9), aA (s l0 5)] [] s) fun s1 => sem 147 19 [aA l0, aI 0, aI 0] [] s1))))))) := by
  refine (x_aload f147_0 rfl rfl).trans ?_
  refine (x_get2 f147_1 rfl rfl).trans ?_
  refine g_c ?_
  refine g_c ?_
  refine (x_aload f147_4 rfl rfl).trans ?_
  refine (x_get2 f147_5 rfl rfl).trans ?_
  refine g_c ?_
  refine g_c ?_
  refine (x_aload f147_8 rfl rfl).trans ?_
  refine (x_get2 f147_9 rfl rfl).trans ?_
  refine g_c ?_
  refine g_c ?_
  refine (x_invokevirtual (G := grd (kd (s l0 6) = 3) (bnV (sem 45 0 [aA (s l0 6), aA (s l0 9), aA (s l0 5)] [] s) fun s1 => sem 147 15 [aA l0, aU, aU] [] s1)) f147_12 rfl rfl).trans ?_
  refine g_c ?_
  refine bV_c fun s1 => ?_
  refine (x_iconst f147_15 rfl).trans ?_
  refine (x_istore (l2 := [aA l0, aI 0, aU]) f147_16 rfl rfl).trans ?_
  refine (x_iconst f147_17 rfl).trans ?_
  refine (x_istore (l2 := [aA l0, aI 0, aI 0]) f147_18 rfl rfl).trans ?_
  rfl
set_option maxRecDepth 10000 in
theorem e147_19 (l0 l1 l2 : Int) (s : SG) : sem 147 19 [aA l0, aI l1, aI l2] [] s = grd (kd l0 = 8) (grd (0 ≤ s l0 9) (grd (kd (s l0 9) = 6) (if l2 < (s (s l0 9) 4) then grd (kd l0 = 8) (grd (0 ≤ s l0 5) (grd (kd l0 = 8) (grd (0 ≤ s l0 6) (grd (kd (s l0 6) = 3) (bnI (sem 58 0 [aA (s l0 6), aI l2, aU] [] s) fun a2 s1 => grd (kd (s l0 5) = 1) (bnI (sem 28 0 [aA (s l0 5), aI l2, aI (if a2 = ((-9)) then 1 else 0), aU] [] s1) fun a4 s3 => if a4 = 0 then sem 147 19 [aA l0, aI l1, aI (w32 (l2 + 1))] [] s3 else sem 147 19 [aA l0, aI (w32 (l1 + 1)), aI (w32 (l2 + 1))] [] s3)))))) else some (aI l1, s)))) := by
  refine (x_iload f147_19 rfl rfl).trans ?_
  refine (x_aload f147_20 rfl rfl).trans ?_
  refine (x_get2 f147_21 rfl rfl).trans ?_
  refine g_c ?_
  refine g_c ?_
  refine (x_get0 f147_24 rfl rfl).trans ?_
  refine g_c ?_
  refine (x_icmp_ge (tg := 68) f147_27 rfl rfl).trans (i_c ?_ ?_)
  · refine (x_aload f147_30 rfl rfl).trans ?_
    refine (x_get2 f147_31 rfl rfl).trans ?_
    refine g_c ?_
    refine g_c ?_
    refine (x_iload f147_34 rfl rfl).trans ?_
    refine (x_aload f147_35 rfl rfl).trans ?_
    refine (x_get2 f147_36 rfl rfl).trans ?_
    refine g_c ?_
    refine g_c ?_
    refine (x_iload f147_39 rfl rfl).trans ?_
    refine (x_invokevirtual (G := grd (kd (s l0 6) = 3) (bnI (sem 58 0 [aA (s l0 6), aI l2, aU] [] s) fun a2 s1 => sem 147 43 [aA l0, aI l1, aI l2] [aI a2, aI l2, aA (s l0 5)] s1)) f147_40 rfl rfl).trans ?_
    refine g_c ?_
    refine bI_c fun a2 s1 => ?_
    refine (x_iconst f147_43 rfl).trans ?_
    refine (x_icmp_ne (tg := 52) f147_45 rfl rfl).trans ?_
    refine Eq.trans (b := if a2 = ((-9)) then sem 147 53 [aA l0, aI l1, aI l2] [aI 1, aI l2, aA (s l0 5)] s1 else sem 147 53 [aA l0, aI l1, aI l2] [aI 0, aI l2, aA (s l0 5)] s1) (i_c ?_ ?_) ?_
    · refine (x_iconst f147_48 rfl).trans ?_
      refine (x_goto (tg := 53) f147_49 rfl rfl).trans ?_
      rfl
    · refine (x_iconst f147_52 rfl).trans ?_
      rfl
    refine m_I.trans ?_
    refine (x_invokevirtual (G := grd (kd (s l0 5) = 1) (bnI (sem 28 0 [aA (s l0 5), aI l2, aI (if a2 = ((-9)) then 1 else 0), aU] [] s1) fun a4 s3 => sem 147 56 [aA l0, aI l1, aI l2] [aI a4] s3)) f147_53 rfl rfl).trans ?_
    refine g_c ?_
    refine bI_c fun a4 s3 => ?_
    refine (x_if_eq (tg := 62) f147_56 rfl rfl).trans (i_c ?_ ?_)
    · refine (x_iinc (l2 := [aA l0, aI l1, aI (w32 (l2 + 1))]) f147_62 rfl rfl rfl).trans ?_
      refine (x_goto (tg := 19) f147_65 rfl rfl).trans ?_
      rfl
    · refine (x_iinc (l2 := [aA l0, aI (w32 (l1 + 1)), aI l2]) f147_59 rfl rfl rfl).trans ?_
      refine (x_iinc (l2 := [aA l0, aI (w32 (l1 + 1)), aI (w32 (l2 + 1))]) f147_62 rfl rfl rfl).trans ?_
      refine (x_goto (tg := 19) f147_65 rfl rfl).trans ?_
      rfl
  · refine (x_iload f147_68 rfl rfl).trans ?_
    exact x_ireturn f147_69 rfl
theorem f148_0 : fch 148 0 = some (.iload 2, 1, []) := by decide +kernel
theorem f148_1 : fch 148 1 = some (.ifCond .eq 23, 4, []) := by decide +kernel
theorem f148_4 : fch 148 4 = some (.aload 0, 5, []) := by decide +kernel
theorem f148_5 : fch 148 5 = some (.invokeinterface 8 6, 8, []) := by decide +kernel
theorem f148_8 : fch 148 8 = some (.aload 0, 9, []) := by decide +kernel
theorem f148_9 : fch 148 9 = some (.invokeinterface 8 9, 12, []) := by decide +kernel
theorem f148_12 : fch 148 12 = some (.aload 0, 13, []) := by decide +kernel
theorem f148_13 : fch 148 13 = some (.invokeinterface 8 5, 16, []) := by decide +kernel
theorem f148_16 : fch 148 16 = some (.iload 1, 17, []) := by decide +kernel
theorem f148_17 : fch 148 17 = some (.invokevirtual 46, 20, []) := by decide +kernel
theorem f148_20 : fch 148 20 = some (.goto 38, 23, []) := by decide +kernel
theorem f148_23 : fch 148 23 = some (.aload 0, 24, []) := by decide +kernel
theorem f148_24 : fch 148 24 = some (.invokeinterface 8 6, 27, []) := by decide +kernel
theorem f148_27 : fch 148 27 = some (.aload 0, 28, []) := by decide +kernel
theorem f148_28 : fch 148 28 = some (.invokeinterface 8 9, 31, []) := by decide +kernel
theorem f148_31 : fch 148 31 = some (.aload 0, 32, []) := by decide +kernel
theorem f148_32 : fch 148 32 = some (.invokeinterface 8 5, 35, []) := by decide +kernel
theorem f148_35 : fch 148 35 = some (.invokevirtual 45, 38, []) := by decide +kernel
theorem f148_38 : fch 148 38 = some (.aload 0, 39, [2]) := by decide +kernel
theorem f148_39 : fch 148 39 = some (.invokeinterface 8 6, 42, []) := by decide +kernel
theorem f148_42 : fch 148 42 = some (.iload 1, 43, []) := by decide +kernel
theorem f148_43 : fch 148 43 = some (.iconst 5, 44, []) := by decide +kernel
theorem f148_44 : fch 148 44 = some (.invokevirtual 57, 47, []) := by decide +kernel
theorem f148_47 : fch 148 47 = some (.ireturn, 48, []) := by decide +kernel
set_option maxRecDepth 10000 in
theorem e148_0 (l0 l1 l2 : Int) (s : SG) : sem 148 0 [aA l0, aI l1, aI l2] [] s = if l2 = 0 then grd (kd l0 = 8) (grd (0 ≤ s l0 6) (grd (kd l0 = 8) (grd (0 ≤ s l0 9) (grd (kd l0 = 8) (grd (0 ≤ s l0 5) (grd (kd (s l0 6) = 3) (bnV (sem 45 0 [aA (s l0 6), aA (s l0 9), aA (s l0 5)] [] s) fun s1 => grd (kd l0 = 8) (grd (0 ≤ s1 l0 6) (grd (kd (s1 l0 6) = 3) (bnI (sem 57 0 [aA (s1 l0 6), aI l1, aI 5] [] s1) fun a3 s2 => some (aI a3, s2))))))))))) else grd (kd l0 = 8) (grd (0 ≤ s l0 6) (grd (kd l0 = 8) (grd (0 ≤ s l0 9) (grd (kd l0 = 8) (grd (0 ≤ s l0 5) (grd (kd (s l0 6) = 3) (bnV (sem 46 0 [aA (s l0 6), aA (s l0 9), aA (s l0 5), aI l1] [] s) fun s4 => grd (kd l0 = 8) (grd (0 ≤ s4 l0 6) (grd (kd (s4 l0 6) = 3) (bnI (sem 57 0 [aA (s4 l0 6), aI l1, aI 5] [] s4) fun a6 s5 => some (aI a6, s5))))))))))) := by
  refine (x_iload f148_0 rfl rfl).trans ?_
  refine (x_if_eq (tg := 23) f148_1 rfl rfl).trans (i_c ?_ ?_)
  · refine (x_aload f148_23 rfl rfl).trans ?_
    refine (x_get2 f148_24 rfl rfl).trans ?_
    refine g_c ?_
    refine g_c ?_
    refine (x_aload f148_27 rfl rfl).trans ?_
    refine (x_get2 f148_28 rfl rfl).trans ?_
    refine g_c ?_
    refine g_c ?_
    refine (x_aload f148_31 rfl rfl).trans ?_
    refine (x_get2 f148_32 rfl rfl).trans ?_
    refine g_c ?_
    refine g_c ?_
    refine (x_invokevirtual (G := grd (kd (s l0 6) = 3) (bnV (sem 45 0 [aA (s l0 6), aA (s l0 9), aA (s l0 5)] [] s) fun s1 => sem 148 38 [aA l0, aI l1, aI l2] [] s1)) f148_35 rfl rfl).trans ?_
    refine g_c ?_
    refine bV_c fun s1 => ?_
    refine (x_kil (l2 := [aA l0, aI l1, aU]) f148_38 rfl).trans ?_
    refine (x_aload f148_38 rfl rfl).trans ?_
    refine (x_get2 f148_39 rfl rfl).trans ?_
    refine g_c ?_
    refine g_c ?_
    refine (x_iload f148_42 rfl rfl).trans ?_
    refine (x_iconst f148_43 rfl).trans ?_
    refine (x_invokevirtual (G := grd (kd (s1 l0 6) = 3) (bnI (sem 57 0 [aA (s1 l0 6), aI l1, aI 5] [] s1) fun a3 s2 => sem 148 47 [aA l0, aI l1, aU] [aI a3] s2)) f148_44 rfl rfl).trans ?_
    refine g_c ?_
    refine bI_c fun a3 s2 => ?_
    exact x_ireturn f148_47 rfl
  · refine (x_aload f148_4 rfl rfl).trans ?_
    refine (x_get2 f148_5 rfl rfl).trans ?_
    refine g_c ?_
    refine g_c ?_
    refine (x_aload f148_8 rfl rfl).trans ?_
    refine (x_get2 f148_9 rfl rfl).trans ?_
    refine g_c ?_
    refine g_c ?_
    refine (x_aload f148_12 rfl rfl).trans ?_
    refine (x_get2 f148_13 rfl rfl).trans ?_
    refine g_c ?_
    refine g_c ?_
    refine (x_iload f148_16 rfl rfl).trans ?_
    refine (x_invokevirtual (G := grd (kd (s l0 6) = 3) (bnV (sem 46 0 [aA (s l0 6), aA (s l0 9), aA (s l0 5), aI l1] [] s) fun s4 => sem 148 20 [aA l0, aI l1, aI l2] [] s4)) f148_17 rfl rfl).trans ?_
    refine g_c ?_
    refine bV_c fun s4 => ?_
    refine (x_goto (tg := 38) f148_20 rfl rfl).trans ?_
    refine (x_kil (l2 := [aA l0, aI l1, aU]) f148_38 rfl).trans ?_
    refine (x_aload f148_38 rfl rfl).trans ?_
    refine (x_get2 f148_39 rfl rfl).trans ?_
    refine g_c ?_
    refine g_c ?_
    refine (x_iload f148_42 rfl rfl).trans ?_
    refine (x_iconst f148_43 rfl).trans ?_
    refine (x_invokevirtual (G := grd (kd (s4 l0 6) = 3) (bnI (sem 57 0 [aA (s4 l0 6), aI l1, aI 5] [] s4) fun a6 s5 => sem 148 47 [aA l0, aI l1, aU] [aI a6] s5)) f148_44 rfl rfl).trans ?_
    refine g_c ?_
    refine bI_c fun a6 s5 => ?_
    exact x_ireturn f148_47 rfl
theorem f149_0 : fch 149 0 = some (.lload 0, 1, []) := by decide +kernel
theorem f149_1 : fch 149 1 = some (.lload 2, 2, []) := by decide +kernel
theorem f149_2 : fch 149 2 = some (.invokestatic 150, 5, []) := by decide +kernel
theorem f149_5 : fch 149 5 = some (.lstore 5, 7, []) := by decide +kernel
theorem f149_7 : fch 149 7 = some (.lload 5, 9, []) := by decide +kernel
theorem f149_9 : fch 149 9 = some (.sipush 0, 10, []) := by decide +kernel
theorem f149_10 : fch 149 10 = some (.lcmp, 11, []) := by decide +kernel
theorem f149_11 : fch 149 11 = some (.ifCond .ne 16, 14, []) := by decide +kernel
theorem f149_14 : fch 149 14 = some (.sipush 0, 15, []) := by decide +kernel
theorem f149_15 : fch 149 15 = some (.lreturn, 16, []) := by decide +kernel
theorem f149_16 : fch 149 16 = some (.iload 4, 18, []) := by decide +kernel
theorem f149_18 : fch 149 18 = some (.ifCond .eq 25, 21, []) := by decide +kernel
theorem f149_21 : fch 149 21 = some (.lload 0, 22, []) := by decide +kernel
theorem f149_22 : fch 149 22 = some (.goto 26, 25, []) := by decide +kernel
theorem f149_25 : fch 149 25 = some (.lload 2, 26, []) := by decide +kernel
theorem f149_26 : fch 149 26 = some (.lload 5, 28, [0, 2, 4]) := by decide +kernel
theorem f149_28 : fch 149 28 = some (.ldiv, 29, []) := by decide +kernel
theorem f149_29 : fch 149 29 = some (.lreturn, 30, []) := by decide +kernel
set_option maxRecDepth 10000 in
theorem e149_0 (l0 l2 l4 : Int) (s : SG) : sem 149 0 [aL l0, aU, aL l2, aU, aI l4, aU, aU] [] s = bnL (sem 150 0 [aL l0, aU, aL l2, aU, aU, aU, aU, aU, aU, aU, aU] [] s) fun a2 s1 => if (cmpL a2 0) = 0 then some (aL 0, s1) else grd (a2 ≠ 0) (some (aL (w64 (Int.tdiv (if l4 = 0 then l2 else l0) a2)), s1)) := by
  refine (x_lload f149_0 rfl rfl).trans ?_
  refine (x_lload f149_1 rfl rfl).trans ?_
  refine (x_invokestatic (G := bnL (sem 150 0 [aL l0, aU, aL l2, aU, aU, aU, aU, aU, aU, aU, aU] [] s) fun a2 s1 => sem 149 5 [aL l0, aU, aL l2, aU, aI l4, aU, aU] [aL a2] s1) f149_2 rfl rfl).trans ?_
  refine bL_c fun a2 s1 => ?_
  refine (x_lstore (l2 := [aL l0, aU, aL l2, aU, aI l4, aL a2, aU]) f149_5 rfl rfl).trans ?_
  refine (x_lload f149_7 rfl rfl).trans ?_
  refine (x_lconst f149_9 rfl).trans ?_
  refine (x_lcmp f149_10 rfl).trans ?_
  refine (x_if_ne (tg := 16) f149_11 rfl rfl).trans (i_c ?_ ?_)
  · refine (x_lconst f149_14 rfl).trans ?_
    exact x_lreturn f149_15 rfl
  · refine (x_iload f149_16 rfl rfl).trans ?_
    refine (x_if_eq (tg := 25) f149_18 rfl rfl).trans ?_
    refine Eq.trans (b := if l4 = 0 then sem 149 26 [aU, aU, aU, aU, aU, aL a2, aU] [aL l2] s1 else sem 149 26 [aU, aU, aU, aU, aU, aL a2, aU] [aL l0] s1) (i_c ?_ ?_) ?_
    · refine (x_lload f149_25 rfl rfl).trans ?_
      exact x_kil f149_26 rfl
    · refine (x_lload f149_21 rfl rfl).trans ?_
      refine (x_goto (tg := 26) f149_22 rfl rfl).trans ?_
      exact x_kil f149_26 rfl
    refine m_L.trans ?_
    refine (x_lload f149_26 rfl rfl).trans ?_
    refine (x_ldiv f149_28 rfl).trans ?_
    refine g_c ?_
    exact x_lreturn f149_29 rfl
theorem f150_0 : fch 150 0 = some (.lload 0, 1, []) := by decide +kernel
theorem f150_1 : fch 150 1 = some (.fneg, 4, []) := by decide +kernel
theorem f150_4 : fch 150 4 = some (.lstore 4, 6, []) := by decide +kernel
theorem f150_6 : fch 150 6 = some (.lload 2, 7, []) := by decide +kernel
theorem f150_7 : fch 150 7 = some (.fneg, 10, []) := by decide +kernel
theorem f150_10 : fch 150 10 = some (.lstore 6, 12, []) := by decide +kernel
theorem f150_12 : fch 150 12 = some (.iconst 0, 13, []) := by decide +kernel
theorem f150_13 : fch 150 13 = some (.istore 8, 15, []) := by decide +kernel
theorem f150_15 : fch 150 15 = some (.iload 8, 17, [0, 2, 9]) := by decide +kernel
theorem f150_17 : fch 150 17 = some (.iconst 100, 19, []) := by decide +kernel
theorem f150_19 : fch 150 19 = some (.if_icmp .ge 50, 22, []) := by decide +kernel
theorem f150_22 : fch 150 22 = some (.lload 6, 24, []) := by decide +kernel
theorem f150_24 : fch 150 24 = some (.sipush 0, 25, []) := by decide +kernel
theorem f150_25 : fch 150 25 = some (.lcmp, 26, []) := by decide +kernel
theorem f150_26 : fch 150 26 = some (.ifCond .eq 50, 29, []) := by decide +kernel
theorem f150_29 : fch 150 29 = some (.lload 4, 31, []) := by decide +kernel
theorem f150_31 : fch 150 31 = some (.lload 6, 33, []) := by decide +kernel
theorem f150_33 : fch 150 33 = some (.lrem, 34, []) := by decide +kernel
theorem f150_34 : fch 150 34 = some (.lstore 9, 36, []) := by decide +kernel
theorem f150_36 : fch 150 36 = some (.lload 6, 38, []) := by decide +kernel
theorem f150_38 : fch 150 38 = some (.lstore 4, 40, []) := by decide +kernel
theorem f150_40 : fch 150 40 = some (.lload 9, 42, []) := by decide +kernel
theorem f150_42 : fch 150 42 = some (.lstore 6, 44, []) := by decide +kernel
theorem f150_44 : fch 150 44 = some (.iinc 8 1, 47, []) := by decide +kernel
theorem f150_47 : fch 150 47 = some (.goto 15, 50, []) := by decide +kernel
theorem f150_50 : fch 150 50 = some (.lload 4, 52, [0, 2, 6, 8, 9]) := by decide +kernel
theorem f150_52 : fch 150 52 = some (.lreturn, 53, []) := by decide +kernel
set_option maxRecDepth 10000 in
theorem e150_0 (l0 l2 : Int) (s : SG) : sem 150 0 [aL l0, aU, aL l2, aU, aU, aU, aU, aU, aU, aU, aU] [] s = sem 150 15 [aU, aU, aU, aU, aL (if l0 < 0 then w64 (-l0) else l0), aU, aL (if l2 < 0 then w64 (-l2) else l2), aU, aI 0, aU, aU] [] s := by
  refine (x_lload f150_0 rfl rfl).trans ?_
  refine (x_fneg f150_1 rfl rfl).trans ?_
  refine (x_lstore (l2 := [aL l0, aU, aL l2, aU, aL (if l0 < 0 then w64 (-l0) else l0), aU, aU, aU, aU, aU, aU]) f150_4 rfl rfl).trans ?_
  refine (x_lload f150_6 rfl rfl).trans ?_
  refine (x_fneg f150_7 rfl rfl).trans ?_
  refine (x_lstore (l2 := [aL l0, aU, aL l2, aU, aL (if l0 < 0 then w64 (-l0) else l0), aU, aL (if l2 < 0 then w64 (-l2) else l2), aU, aU, aU, aU]) f150_10 rfl rfl).trans ?_
  refine (x_iconst f150_12 rfl).trans ?_
  refine (x_istore (l2 := [aL l0, aU, aL l2, aU, aL (if l0 < 0 then w64 (-l0) else l0), aU, aL (if l2 < 0 then w64 (-l2) else l2), aU, aI 0, aU, aU]) f150_13 rfl rfl).trans ?_
  exact x_kil f150_15 rfl
set_option maxRecDepth 10000 in
theorem e150_15 (l4 l6 l8 : Int) (s : SG) : sem 150 15 [aU, aU, aU, aU, aL l4, aU, aL l6, aU, aI l8, aU, aU] [] s = if l8 < 100 then if (cmpL l6 0) = 0 then some (aL l4, s) else grd (l6 ≠ 0) (sem 150 15 [aU, aU, aU, aU, aL l6, aU, aL (remA l4 l6), aU, aI (w32 (l8 + 1)), aU, aU] [] s) else some (aL l4, s) := by
  refine (x_iload f150_15 rfl rfl).trans ?_
  refine (x_iconst f150_17 rfl).trans ?_
  refine (x_icmp_ge (tg := 50) f150_19 rfl rfl).trans (i_c ?_ ?_)
  · refine (x_lload f150_22 rfl rfl).trans ?_
    refine (x_lconst f150_24 rfl).trans ?_
    refine (x_lcmp f150_25 rfl).trans ?_
    refine (x_if_eq (tg := 50) f150_26 rfl rfl).trans (i_c ?_ ?_)
    · refine (x_kil (l2 := [aU, aU, aU, aU, aL l4, aU, aU, aU, aU, aU, aU]) f150_50 rfl).trans ?_
      refine (x_lload f150_50 rfl rfl).trans ?_
      exact x_lreturn f150_52 rfl
    · refine (x_lload f150_29 rfl rfl).trans ?_
      refine (x_lload f150_31 rfl rfl).trans ?_
      refine (x_lrem f150_33 rfl).trans ?_
      refine g_c ?_
      refine (x_lstore (l2 := [aU, aU, aU, aU, aL l4, aU, aL l6, aU, aI l8, aL (remA l4 l6), aU]) f150_34 rfl rfl).trans ?_
      refine (x_lload f150_36 rfl rfl).trans ?_
      refine (x_lstore (l2 := [aU, aU, aU, aU, aL l6, aU, aL l6, aU, aI l8, aL (remA l4 l6), aU]) f150_38 rfl rfl).trans ?_
      refine (x_lload f150_40 rfl rfl).trans ?_
      refine (x_lstore (l2 := [aU, aU, aU, aU, aL l6, aU, aL (remA l4 l6), aU, aI l8, aL (remA l4 l6), aU]) f150_42 rfl rfl).trans ?_
      refine (x_iinc (l2 := [aU, aU, aU, aU, aL l6, aU, aL (remA l4 l6), aU, aI (w32 (l8 + 1)), aL (remA l4 l6), aU]) f150_44 rfl rfl rfl).trans ?_
      refine (x_goto (tg := 15) f150_47 rfl rfl).trans ?_
      exact x_kil f150_15 rfl
  · refine (x_kil (l2 := [aU, aU, aU, aU, aL l4, aU, aU, aU, aU, aU, aU]) f150_50 rfl).trans ?_
    refine (x_lload f150_50 rfl rfl).trans ?_
    exact x_lreturn f150_52 rfl
theorem f151_0 : fch 151 0 = some (.aload 0, 1, []) := by decide +kernel
theorem f151_1 : fch 151 1 = some (.monitorexit, 4, []) := by decide +kernel
theorem f151_4 : fch 151 4 = some (.aload 0, 5, []) := by decide +kernel
theorem f151_5 : fch 151 5 = some (.iconst 28, 7, []) := by decide +kernel
theorem f151_7 : fch 151 7 = some (.newarray .int, 9, []) := by decide +kernel
theorem f151_9 : fch 151 9 = some (.multianewarray 9 0, 12, []) := by decide +kernel
theorem f151_12 : fch 151 12 = some (.aload 0, 13, []) := by decide +kernel
theorem f151_13 : fch 151 13 = some (.iconst 28, 15, []) := by decide +kernel
theorem f151_15 : fch 151 15 = some (.newarray .int, 17, []) := by decide +kernel
theorem f151_17 : fch 151 17 = some (.multianewarray 9 1, 20, []) := by decide +kernel
theorem f151_20 : fch 151 20 = some (.aload 0, 21, []) := by decide +kernel
theorem f151_21 : fch 151 21 = some (.iconst 28, 23, []) := by decide +kernel
theorem f151_23 : fch 151 23 = some (.newarray .boolean, 25, []) := by decide +kernel
theorem f151_25 : fch 151 25 = some (.multianewarray 9 2, 28, []) := by decide +kernel
theorem f151_28 : fch 151 28 = some (.aload 0, 29, []) := by decide +kernel
theorem f151_29 : fch 151 29 = some (.iconst 64, 31, []) := by decide +kernel
theorem f151_31 : fch 151 31 = some (.newarray .int, 33, []) := by decide +kernel
theorem f151_33 : fch 151 33 = some (.multianewarray 9 3, 36, []) := by decide +kernel
theorem f151_36 : fch 151 36 = some (.aload 0, 37, []) := by decide +kernel
theorem f151_37 : fch 151 37 = some (.iconst 3, 38, []) := by decide +kernel
theorem f151_38 : fch 151 38 = some (.newarray .int, 40, []) := by decide +kernel
theorem f151_40 : fch 151 40 = some (.multianewarray 9 8, 43, []) := by decide +kernel
theorem f151_43 : fch 151 43 = some (.aload 0, 44, []) := by decide +kernel
theorem f151_44 : fch 151 44 = some (.iconst 8, 46, []) := by decide +kernel
theorem f151_46 : fch 151 46 = some (.newarray .int, 48, []) := by decide +kernel
theorem f151_48 : fch 151 48 = some (.multianewarray 9 10, 51, []) := by decide +kernel
theorem f151_51 : fch 151 51 = some (.aload 0, 52, []) := by decide +kernel
theorem f151_52 : fch 151 52 = some (.iconst 8, 54, []) := by decide +kernel
theorem f151_54 : fch 151 54 = some (.newarray .int, 56, []) := by decide +kernel
theorem f151_56 : fch 151 56 = some (.multianewarray 9 11, 59, []) := by decide +kernel
theorem f151_59 : fch 151 59 = some (.aload 0, 60, []) := by decide +kernel
theorem f151_60 : fch 151 60 = some (.iconst 2197, 63, []) := by decide +kernel
theorem f151_63 : fch 151 63 = some (.newarray .long, 65, []) := by decide +kernel
theorem f151_65 : fch 151 65 = some (.multianewarray 9 12, 68, []) := by decide +kernel
theorem f151_68 : fch 151 68 = some (.aload 0, 69, []) := by decide +kernel
theorem f151_69 : fch 151 69 = some (.iconst 2197, 72, []) := by decide +kernel
theorem f151_72 : fch 151 72 = some (.newarray .long, 74, []) := by decide +kernel
theorem f151_74 : fch 151 74 = some (.multianewarray 9 13, 77, []) := by decide +kernel
theorem f151_77 : fch 151 77 = some (.aload 0, 78, []) := by decide +kernel
theorem f151_78 : fch 151 78 = some (.iconst 3, 79, []) := by decide +kernel
theorem f151_79 : fch 151 79 = some (.newarray .int, 81, []) := by decide +kernel
theorem f151_81 : fch 151 81 = some (.multianewarray 9 16, 84, []) := by decide +kernel
theorem f151_84 : fch 151 84 = some (.aload 0, 85, []) := by decide +kernel
theorem f151_85 : fch 151 85 = some (.iconst 3, 86, []) := by decide +kernel
theorem f151_86 : fch 151 86 = some (.newarray .int, 88, []) := by decide +kernel
theorem f151_88 : fch 151 88 = some (.multianewarray 9 17, 91, []) := by decide +kernel
theorem f151_91 : fch 151 91 = some (.aload 0, 92, []) := by decide +kernel
theorem f151_92 : fch 151 92 = some (.iconst 3, 93, []) := by decide +kernel
theorem f151_93 : fch 151 93 = some (.newarray .int, 95, []) := by decide +kernel
theorem f151_95 : fch 151 95 = some (.multianewarray 9 18, 98, []) := by decide +kernel
theorem f151_98 : fch 151 98 = some (.aload 0, 99, []) := by decide +kernel
theorem f151_99 : fch 151 99 = some (.iconst 6, 101, []) := by decide +kernel
theorem f151_101 : fch 151 101 = some (.newarray .int, 103, []) := by decide +kernel
theorem f151_103 : fch 151 103 = some (.multianewarray 9 23, 106, []) := by decide +kernel
theorem f151_106 : fch 151 106 = some (.aload 0, 107, []) := by decide +kernel
theorem f151_107 : fch 151 107 = some (.iconst 6, 109, []) := by decide +kernel
theorem f151_109 : fch 151 109 = some (.newarray .int, 111, []) := by decide +kernel
theorem f151_111 : fch 151 111 = some (.multianewarray 9 24, 114, []) := by decide +kernel
theorem f151_114 : fch 151 114 = some (.aload 0, 115, []) := by decide +kernel
theorem f151_115 : fch 151 115 = some (.iconst 6, 117, []) := by decide +kernel
theorem f151_117 : fch 151 117 = some (.newarray .int, 119, []) := by decide +kernel
theorem f151_119 : fch 151 119 = some (.multianewarray 9 25, 122, []) := by decide +kernel
theorem f151_122 : fch 151 122 = some (.aload 0, 123, []) := by decide +kernel
theorem f151_123 : fch 151 123 = some (.iconst 18, 125, []) := by decide +kernel
theorem f151_125 : fch 151 125 = some (.newarray .int, 127, []) := by decide +kernel
theorem f151_127 : fch 151 127 = some (.multianewarray 9 26, 130, []) := by decide +kernel
theorem f151_130 : fch 151 130 = some (.aload 0, 131, []) := by decide +kernel
theorem f151_131 : fch 151 131 = some (.iconst 18, 133, []) := by decide +kernel
theorem f151_133 : fch 151 133 = some (.newarray .int, 135, []) := by decide +kernel
theorem f151_135 : fch 151 135 = some (.multianewarray 9 27, 138, []) := by decide +kernel
theorem f151_138 : fch 151 138 = some (.aload 0, 139, []) := by decide +kernel
theorem f151_139 : fch 151 139 = some (.iconst 18, 141, []) := by decide +kernel
theorem f151_141 : fch 151 141 = some (.newarray .int, 143, []) := by decide +kernel
theorem f151_143 : fch 151 143 = some (.multianewarray 9 28, 146, []) := by decide +kernel
theorem f151_146 : fch 151 146 = some (.aload 0, 147, []) := by decide +kernel
theorem f151_147 : fch 151 147 = some (.iconst 18, 149, []) := by decide +kernel
theorem f151_149 : fch 151 149 = some (.newarray .int, 151, []) := by decide +kernel
theorem f151_151 : fch 151 151 = some (.multianewarray 9 29, 154, []) := by decide +kernel
theorem f151_154 : fch 151 154 = some (.aload 0, 155, []) := by decide +kernel
theorem f151_155 : fch 151 155 = some (.iconst 3, 156, []) := by decide +kernel
theorem f151_156 : fch 151 156 = some (.newarray .int, 158, []) := by decide +kernel
theorem f151_158 : fch 151 158 = some (.multianewarray 9 30, 161, []) := by decide +kernel
theorem f151_161 : fch 151 161 = some (.aload 0, 162, []) := by decide +kernel
theorem f151_162 : fch 151 162 = some (.iconst 3, 163, []) := by decide +kernel
theorem f151_163 : fch 151 163 = some (.newarray .int, 165, []) := by decide +kernel
theorem f151_165 : fch 151 165 = some (.multianewarray 9 31, 168, []) := by decide +kernel
theorem f151_168 : fch 151 168 = some (.aload 0, 169, []) := by decide +kernel
theorem f151_169 : fch 151 169 = some (.iconst 3, 170, []) := by decide +kernel
theorem f151_170 : fch 151 170 = some (.newarray .int, 172, []) := by decide +kernel
theorem f151_172 : fch 151 172 = some (.multianewarray 9 32, 175, []) := by decide +kernel
theorem f151_175 : fch 151 175 = some (.aload 0, 176, []) := by decide +kernel
theorem f151_176 : fch 151 176 = some (.iconst 2, 177, []) := by decide +kernel
theorem f151_177 : fch 151 177 = some (.newarray .boolean, 179, []) := by decide +kernel
theorem f151_179 : fch 151 179 = some (.multianewarray 9 39, 182, []) := by decide +kernel
theorem f151_182 : fch 151 182 = some (.aload 0, 183, []) := by decide +kernel
theorem f151_183 : fch 151 183 = some (.iconst 6, 185, []) := by decide +kernel
theorem f151_185 : fch 151 185 = some (.newarray .int, 187, []) := by decide +kernel
theorem f151_187 : fch 151 187 = some (.multianewarray 9 40, 190, []) := by decide +kernel
theorem f151_190 : fch 151 190 = some (.aload 0, 191, []) := by decide +kernel
theorem f151_191 : fch 151 191 = some (.iconst 6, 193, []) := by decide +kernel
theorem f151_193 : fch 151 193 = some (.newarray .int, 195, []) := by decide +kernel
theorem f151_195 : fch 151 195 = some (.multianewarray 9 41, 198, []) := by decide +kernel
theorem f151_198 : fch 151 198 = some (.aload 0, 199, []) := by decide +kernel
theorem f151_199 : fch 151 199 = some (.iconst 6, 201, []) := by decide +kernel
theorem f151_201 : fch 151 201 = some (.newarray .int, 203, []) := by decide +kernel
theorem f151_203 : fch 151 203 = some (.multianewarray 9 42, 206, []) := by decide +kernel
theorem f151_206 : fch 151 206 = some (.aload 0, 207, []) := by decide +kernel
theorem f151_207 : fch 151 207 = some (.iconst 10, 209, []) := by decide +kernel
theorem f151_209 : fch 151 209 = some (.newarray .int, 211, []) := by decide +kernel
theorem f151_211 : fch 151 211 = some (.multianewarray 9 43, 214, []) := by decide +kernel
theorem f151_214 : fch 151 214 = some (.aload 0, 215, []) := by decide +kernel
theorem f151_215 : fch 151 215 = some (.iconst 36, 217, []) := by decide +kernel
theorem f151_217 : fch 151 217 = some (.newarray .int, 219, []) := by decide +kernel
theorem f151_219 : fch 151 219 = some (.multianewarray 9 44, 222, []) := by decide +kernel
theorem f151_222 : fch 151 222 = some (.aload 0, 223, []) := by decide +kernel
theorem f151_223 : fch 151 223 = some (.invokevirtual 153, 226, []) := by decide +kernel
theorem f151_226 : fch 151 226 = some (.aload 0, 227, []) := by decide +kernel
theorem f151_227 : fch 151 227 = some (.invokeinterface 9 0, 230, []) := by decide +kernel
theorem f151_230 : fch 151 230 = some (.iconst 0, 231, []) := by decide +kernel
theorem f151_231 : fch 151 231 = some (.iconst 1, 232, []) := by decide +kernel
theorem f151_232 : fch 151 232 = some (.iastore, 233, []) := by decide +kernel
theorem f151_233 : fch 151 233 = some (.aload 0, 234, []) := by decide +kernel
theorem f151_234 : fch 151 234 = some (.invokevirtual 154, 237, []) := by decide +kernel
theorem f151_237 : fch 151 237 = some (.return_, 238, []) := by decide +kernel
set_option maxRecDepth 10000 in
theorem e151_0 (l0 : Int) (s : SG) : sem 151 0 [aA l0] [] s = grd (kd (s (-1) 0) = akind .int ∧ kl (s (-1) 0) = 28) (grd (kd l0 = 9) (grd (0 ≤ s (-1) 0) (grd (kd ((up (alc s 28 (fun _ => 0)) l0 0 (s (-1) 0)) (-1) 0) = akind .int ∧ kl ((up (alc s 28 (fun _ => 0)) l0 0 (s (-1) 0)) (-1) 0) = 28) (grd (kd l0 = 9) (grd (0 ≤ (up (alc s 28 (fun _ => 0)) l0 0 (s (-1) 0)) (-1) 0) (grd (kd ((up (alc (up (alc s 28 (fun _ => 0)) l0 0 (s (-1) 0)) 28 (fun _ => 0)) l0 1 ((up (alc s 28 (fun _ => 0)) l0 0 (s (-1) 0)) (-1) 0)) (-1) 0) = akind .boolean ∧ kl ((up (alc (up (alc s 28 (fun _ => 0)) l0 0 (s (-1) 0)) 28 (fun _ => 0)) l0 1 ((up (alc s 28 (fun _ => 0)) l0 0 (s (-1) 0)) (-1) 0)) (-1) 0) = 28) (grd (kd l0 = 9) (grd (0 ≤ (up (alc (up (alc s 28 (fun _ => 0)) l0 0 (s (-1) 0)) 28 (fun _ => 0)) l0 1 ((up (alc s 28 (fun _ => 0)) l0 0 (s (-1) 0)) (-1) 0)) (-1) 0) (sem 151 28 [aA l0] [] (up (alc (up (alc (up (alc s 28 (fun _ => 0)) l0 0 (s (-1) 0)) 28 (fun _ => 0)) l0 1 ((up (alc s 28 (fun _ => 0)) l0 0 (s (-1) 0)) (-1) 0)) 28 (fun _ => 0)) l0 2 ((up (alc (up (alc s 28 (fun _ => 0)) l0 0 (s (-1) 0)) 28 (fun _ => 0)) l0 1 ((up (alc s 28 (fun _ => 0)) l0 0 (s (-1) 0)) (-1) 0)) (-1) 0))))))))))) := by
  refine (x_aload f151_0 rfl rfl).trans ?_
  refine (x_monitorexit f151_1 rfl rfl).trans ?_
  refine (x_aload f151_4 rfl rfl).trans ?_
  refine (x_iconst f151_5 rfl).trans ?_
  refine (x_newarray f151_7 rfl).trans ?_
  refine g_c ?_
  refine (x_put2 f151_9 rfl rfl).trans ?_
  refine g_c ?_
  refine g_c ?_
  refine (x_aload f151_12 rfl rfl).trans ?_
  refine (x_iconst f151_13 rfl).trans ?_
  refine (x_newarray f151_15 rfl).trans ?_
  refine g_c ?_
  refine (x_put2 f151_17 rfl rfl).trans ?_
  refine g_c ?_
  refine g_c ?_
  refine (x_aload f151_20 rfl rfl).trans ?_
  refine (x_iconst f151_21 rfl).trans ?_
  refine (x_newarray f151_23 rfl).trans ?_
  refine g_c ?_
  refine (x_put2 f151_25 rfl rfl).trans ?_
  refine g_c ?_
  refine g_c ?_
  rfl
set_option maxRecDepth 10000 in
theorem e151_28 (l0 : Int) (s : SG) : sem 151 28 [aA l0] [] s = grd (kd (s (-1) 0) = akind .int ∧ kl (s (-1) 0) = 64) (grd (kd l0 = 9) (grd (0 ≤ s (-1) 0) (grd (kd ((up (alc s 64 (fun _ => 0)) l0 3 (s (-1) 0)) (-1) 0) = akind .int ∧ kl ((up (alc s 64 (fun _ => 0)) l0 3 (s (-1) 0)) (-1) 0) = 3) (grd (kd l0 = 9) (grd (0 ≤ (up (alc s 64 (fun _ => 0)) l0 3 (s (-1) 0)) (-1) 0) (grd (kd ((up (alc (up (alc s 64 (fun _ => 0)) l0 3 (s (-1) 0)) 3 (fun _ => 0)) l0 8 ((up (alc s 64 (fun _ => 0)) l0 3 (s (-1) 0)) (-1) 0)) (-1) 0) = akind .int ∧ kl ((up (alc (up (alc s 64 (fun _ => 0)) l0 3 (s (-1) 0)) 3 (fun _ => 0)) l0 8 ((up (alc s 64 (fun _ => 0)) l0 3 (s (-1) 0)) (-1) 0)) (-1) 0) = 8) (grd (kd l0 = 9) (grd (0 ≤ (up (alc (up (alc s 64 (fun _ => 0)) l0 3 (s (-1) 0)) 3 (fun _ => 0)) l0 8 ((up (alc s 64 (fun _ => 0)) l0 3 (s (-1) 0)) (-1) 0)) (-1) 0) (sem 151 51 [aA l0] [] (up (alc (up (alc (up (alc s 64 (fun _ => 0)) l0 3 (s (-1) 0)) 3 (fun _ => 0)) l0 8 ((up (alc s 64 (fun _ => 0)) l0 3 (s (-1) 0)) (-1) 0)) 8 (fun _ => 0)) l0 10 ((up (alc (up (alc s 64 (fun _ => 0)) l0 3 (s (-1) 0)) 3 (fun _ => 0)) l0 8 ((up (alc s 64 (fun _ => 0)) l0 3 (s (-1) 0)) (-1) 0)) (-1) 0))))))))))) := by
  refine (x_aload f151_28 rfl rfl).trans ?_
  refine (x_iconst f151_29 rfl).trans ?_
  refine (x_newarray f151_31 rfl).trans ?_
  refine g_c ?_
  refine (x_put2 f151_33 rfl rfl).trans ?_
  refine g_c ?_
  refine g_c ?_
  refine (x_aload f151_36 rfl rfl).trans ?_
  refine (x_iconst f151_37 rfl).trans ?_
  refine (x_newarray f151_38 rfl).trans ?_
  refine g_c ?_
  refine (x_put2 f151_40 rfl rfl).trans ?_
  refine g_c ?_
  refine g_c ?_
  refine (x_aload f151_43 rfl rfl).trans ?_
  refine (x_iconst f151_44 rfl).trans ?_
  refine (x_newarray f151_46 rfl).trans ?_
  refine g_c ?_
  refine (x_put2 f151_48 rfl rfl).trans ?_
  refine g_c ?_
  refine g_c ?_
  rfl
set_option maxRecDepth 10000 in
theorem e151_51 (l0 : Int) (s : SG) : sem 151 51 [aA l0] [] s = grd (kd (s (-1) 0) = akind .int ∧ kl (s (-1) 0) = 8) (grd (kd l0 = 9) (grd (0 ≤ s (-1) 0) (grd (kd ((up (alc s 8 (fun _ => 0)) l0 11 (s (-1) 0)) (-1) 0) = akind .long ∧ kl ((up (alc s 8 (fun _ => 0)) l0 11 (s (-1) 0)) (-1) 0) = 2197) (grd (kd l0 = 9) (grd (0 ≤ (up (alc s 8 (fun _ => 0)) l0 11 (s (-1) 0)) (-1) 0) (grd (kd ((up (alc (up (alc s 8 (fun _ => 0)) l0 11 (s (-1) 0)) 2197 (fun _ => 0)) l0 12 ((up (alc s 8 (fun _ => 0)) l0 11 (s (-1) 0)) (-1) 0)) (-1) 0) = akind .long ∧ kl ((up (alc (up (alc s 8 (fun _ => 0)) l0 11 (s (-1) 0)) 2197 (fun _ => 0)) l0 12 ((up (alc s 8 (fun _ => 0)) l0 11 (s (-1) 0)) (-1) 0)) (-1) 0) = 2197) (grd (kd l0 = 9) (grd (0 ≤ (up (alc (up (alc s 8 (fun _ => 0)) l0 11 (s (-1) 0)) 2197 (fun _ => 0)) l0 12 ((up (alc s 8 (fun _ => 0)) l0 11 (s (-1) 0)) (-1) 0)) (-1) 0) (sem 151 77 [aA l0] [] (up (alc (up (alc (up (alc s 8 (fun _ => 0)) l0 11 (s (-1) 0)) 2197 (fun _ => 0)) l0 12 ((up (alc s 8 (fun _ => 0)) l0 11 (s (-1) 0)) (-1) 0)) 2197 (fun _ => 0)) l0 13 ((up (alc (up (alc s 8 (fun _ => 0)) l0 11 (s (-1) 0)) 2197 (fun _ => 0)) l0 12 ((up (alc s 8 (fun _ => 0)) l0 11 (s (-1) 0)) (-1) 0)) (-1) 0))))))))))) := by
  refine (x_aload f151_51 rfl rfl).trans ?_
  refine (x_iconst f151_52 rfl).trans ?_
  refine (x_newarray f151_54 rfl).trans ?_
  refine g_c ?_
  refine (x_put2 f151_56 rfl rfl).trans ?_
  refine g_c ?_
  refine g_c ?_
  refine (x_aload f151_59 rfl rfl).trans ?_
  refine (x_iconst f151_60 rfl).trans ?_
  refine (x_newarray f151_63 rfl).trans ?_
  refine g_c ?_
  refine (x_put2 f151_65 rfl rfl).trans ?_
  refine g_c ?_
  refine g_c ?_
  refine (x_aload f151_68 rfl rfl).trans ?_
  refine (x_iconst f151_69 rfl).trans ?_
  refine (x_newarray f151_72 rfl).trans ?_
  refine g_c ?_
  refine (x_put2 f151_74 rfl rfl).trans ?_
  refine g_c ?_
  refine g_c ?_
  rfl
set_option maxRecDepth 10000 in
theorem e151_77 (l0 : Int) (s : SG) : sem 151 77 [aA l0] [] s = grd (kd (s (-1) 0) = akind .int ∧ kl (s (-1) 0) = 3) (grd (kd l0 = 9) (grd (0 ≤ s (-1) 0) (grd (kd ((up (alc s 3 (fun _ => 0)) l0 16 (s (-1) 0)) (-1) 0) = akind .int ∧ kl ((up (alc s 3 (fun _ => 0)) l0 16 (s (-1) 0)) (-1) 0) = 3) (grd (kd l0 = 9) (grd (0 ≤ (up (alc s 3 (fun _ => 0)) l0 16 (s (-1) 0)) (-1) 0) (grd (kd ((up (alc (up (alc s 3 (fun _ => 0)) l0 16 (s (-1) 0)) 3 (fun _ => 0)) l0 17 ((up (alc s 3 (fun _ => 0)) l0 16 (s (-1) 0)) (-1) 0)) (-1) 0) = akind .int ∧ kl ((up (alc (up (alc s 3 (fun _ => 0)) l0 16 (s (-1) 0)) 3 (fun _ => 0)) l0 17 ((up (alc s 3 (fun _ => 0)) l0 16 (s (-1) 0)) (-1) 0)) (-1) 0) = 3) (grd (kd l0 = 9) (grd (0 ≤ (up (alc (up (alc s 3 (fun _ => 0)) l0 16 (s (-1) 0)) 3 (fun _ => 0)) l0 17 ((up (alc s 3 (fun _ => 0)) l0 16 (s (-1) 0)) (-1) 0)) (-1) 0) (sem 151 98 [aA l0] [] (up (alc (up (alc (up (alc s 3 (fun _ => 0)) l0 16 (s (-1) 0)) 3 (fun _ => 0)) l0 17 ((up (alc s 3 (fun _ => 0)) l0 16 (s (-1) 0)) (-1) 0)) 3 (fun _ => 0)) l0 18 ((up (alc (up (alc s 3 (fun _ => 0)) l0 16 (s (-1) 0)) 3 (fun _ => 0)) l0 17 ((up (alc s 3 (fun _ => 0)) l0 16 (s (-1) 0)) (-1) 0)) (-1) 0))))))))))) := by
  refine (x_aload f151_77 rfl rfl).trans ?_
  refine (x_iconst f151_78 rfl).trans ?_
  refine (x_newarray f151_79 rfl).trans ?_
  refine g_c ?_
  refine (x_put2 f151_81 rfl rfl).trans ?_
  refine g_c ?_
  refine g_c ?_
  refine (x_aload f151_84 rfl rfl).trans ?_
  refine (x_iconst f151_85 rfl).trans ?_
  refine (x_newarray f151_86 rfl).trans ?_
  refine g_c ?_
  refine (x_put2 f151_88 rfl rfl).trans ?_
  refine g_c ?_
  refine g_c ?_
  refine (x_aload f151_91 rfl rfl).trans ?_
  refine (x_iconst f151_92 rfl).trans ?_
  refine (x_newarray f151_93 rfl).trans ?_
  refine g_c ?_
  refine (x_put2 f151_95 rfl rfl).trans ?_
  refine g_c ?_
  refine g_c ?_
  rfl
set_option maxRecDepth 10000 in
theorem e151_98 (l0 : Int) (s : SG) : sem 151 98 [aA l0] [] s = grd (kd (s (-1) 0) = akind .int ∧ kl (s (-1) 0) = 6) (grd (kd l0 = 9) (grd (0 ≤ s (-1) 0) (grd (kd ((up (alc s 6 (fun _ => 0)) l0 23 (s (-1) 0)) (-1) 0) = akind .int ∧ kl ((up (alc s 6 (fun _ => 0)) l0 23 (s (-1) 0)) (-1) 0) = 6) (grd (kd l0 = 9) (grd (0 ≤ (up (alc s 6 (fun _ => 0)) l0 23 (s (-1) 0)) (-1) 0) (grd (kd ((up (alc (up (alc s 6 (fun _ => 0)) l0 23 (s (-1) 0)) 6 (fun _ => 0)) l0 24 ((up (alc s 6 (fun _ => 0)) l0 23 (s (-1) 0)) (-1) 0)) (-1) 0) = akind .int ∧ kl ((up (alc (up (alc s 6 (fun _ => 0)) l0 23 (s (-1) 0)) 6 (fun _ => 0)) l0 24 ((up (alc s 6 (fun _ => 0)) l0 23 (s (-1) 0)) (-1) 0)) (-1) 0) = 6) (grd (kd l0 = 9) (grd (0 ≤ (up (alc (up (alc s 6 (fun _ => 0)) l0 23 (s (-1) 0)) 6 (fun _ => 0)) l0 24 ((up (alc s 6 (fun _ => 0)) l0 23 (s (-1) 0)) (-1) 0)) (-1) 0) (sem 151 122 [aA l0] [] (up (alc (up (alc (up (alc s 6 (fun _ => 0)) l0 23 (s (-1) 0)) 6 (fun _ => 0)) l0 24 ((up (alc s 6 (fun _ => 0)) l0 23 (s (-1) 0)) (-1) 0)) 6 (fun _ => 0)) l0 25 ((up (alc (up (alc s 6 (fun _ => 0)) l0 23 (s (-1) 0)) 6 (fun _ => 0)) l0 24 ((up (alc s 6 (fun _ => 0)) l0 23 (s (-1) 0)) (-1) 0)) (-1) 0))))))))))) := by
  refine (x_aload f151_98 rfl rfl).trans ?_
  refine (x_iconst f151_99 rfl).trans ?_
  refine (x_newarray f151_101 rfl).trans ?_
  refine g_c ?_
  refine (x_put2 f151_103 rfl rfl).trans ?_
  refine g_c ?_
  refine g_c ?_
  refine (x_aload f151_106 rfl rfl).trans ?_
  refine (x_iconst f151_107 rfl).trans ?_
  refine (x_newarray f151_109 rfl).trans ?_
  refine g_c ?_
  refine (x_put2 f151_111 rfl rfl).trans ?_
  refine g_c ?_
  refine g_c ?_
  refine (x_aload f151_114 rfl rfl).trans ?_
  refine (x_iconst f151_115 rfl).trans ?_
  refine (x_newarray f151_117 rfl).trans ?_
  refine g_c ?_
  refine (x_put2 f151_119 rfl rfl).trans ?_
  refine g_c ?_
  refine g_c ?_
  rfl
set_option maxRecDepth 10000 in
theorem e151_122 (l0 : Int) (s : SG) : sem 151 122 [aA l0] [] s = grd (kd (s (-1) 0) = akind .int ∧ kl (s (-1) 0) = 18) (grd (kd l0 = 9) (grd (0 ≤ s (-1) 0) (grd (kd ((up (alc s 18 (fun _ => 0)) l0 26 (s (-1) 0)) (-1) 0) = akind .int ∧ kl ((up (alc s 18 (fun _ => 0)) l0 26 (s (-1) 0)) (-1) 0) = 18) (grd (kd l0 = 9) (grd (0 ≤ (up (alc s 18 (fun _ => 0)) l0 26 (s (-1) 0)) (-1) 0) (grd (kd ((up (alc (up (alc s 18 (fun _ => 0)) l0 26 (s (-1) 0)) 18 (fun _ => 0)) l0 27 ((up (alc s 18 (fun _ => 0)) l0 26 (s (-1) 0)) (-1) 0)) (-1) 0) = akind .int ∧ kl ((up (alc (up (alc s 18 (fun _ => 0)) l0 26 (s (-1) 0)) 18 (fun _ => 0)) l0 27 ((up (alc s 18 (fun _ => 0)) l0 26 (s (-1) 0)) (-1) 0)) (-1) 0) = 18) (grd (kd l0 = 9) (grd (0 ≤ (up (alc (up (alc s 18 (fun _ => 0)) l0 26 (s (-1) 0)) 18 (fun _ => 0)) l0 27 ((up (alc s 18 (fun _ => 0)) l0 26 (s (-1) 0)) (-1) 0)) (-1) 0) (sem 151 146 [aA l0] [] (up (alc (up (alc (up (alc s 18 (fun _ => 0)) l0 26 (s (-1) 0)) 18 (fun _ => 0)) l0 27 ((up (alc s 18 (fun _ => 0)) l0 26 (s (-1) 0)) (-1) 0)) 18 (fun _ => 0)) l0 28 ((up (alc (up (alc s 18 (fun _ => 0)) l0 26 (s (-1) 0)) 18 (fun _ => 0)) l0 27 ((up (alc s 18 (fun _ => 0)) l0 26 (s (-1) 0)) (-1) 0)) (-1) 0))))))))))) := by
  refine (x_aload f151_122 rfl rfl).trans ?_
  refine (x_iconst f151_123 rfl).trans ?_
  refine (x_newarray f151_125 rfl).trans ?_
  refine g_c ?_
  refine (x_put2 f151_127 rfl rfl).trans ?_
  refine g_c ?_
  refine g_c ?_
  refine (x_aload f151_130 rfl rfl).trans ?_
  refine (x_iconst f151_131 rfl).trans ?_
  refine (x_newarray f151_133 rfl).trans ?_
  refine g_c ?_
  refine (x_put2 f151_135 rfl rfl).trans ?_
  refine g_c ?_
  refine g_c ?_
  refine (x_aload f151_138 rfl rfl).trans ?_
  refine (x_iconst f151_139 rfl).trans ?_
  refine (x_newarray f151_141 rfl).trans ?_
  refine g_c ?_
  refine (x_put2 f151_143 rfl rfl).trans ?_
  refine g_c ?_
  refine g_c ?_
  rfl
set_option maxRecDepth 10000 in
theorem e151_146 (l0 : Int) (s : SG) : sem 151 146 [aA l0] [] s = grd (kd (s (-1) 0) = akind .int ∧ kl (s (-1) 0) = 18) (grd (kd l0 = 9) (grd (0 ≤ s (-1) 0) (grd (kd ((up (alc s 18 (fun _ => 0)) l0 29 (s (-1) 0)) (-1) 0) = akind .int ∧ kl ((up (alc s 18 (fun _ => 0)) l0 29 (s (-1) 0)) (-1) 0) = 3) (grd (kd l0 = 9) (grd (0 ≤ (up (alc s 18 (fun _ => 0)) l0 29 (s (-1) 0)) (-1) 0) (grd (kd ((up (alc (up (alc s 18 (fun _ => 0)) l0 29 (s (-1) 0)) 3 (fun _ => 0)) l0 30 ((up (alc s 18 (fun _ => 0)) l0 29 (s (-1) 0)) (-1) 0)) (-1) 0) = akind .int ∧ kl ((up (alc (up (alc s 18 (fun _ => 0)) l0 29 (s (-1) 0)) 3 (fun _ => 0)) l0 30 ((up (alc s 18 (fun _ => 0)) l0 29 (s (-1) 0)) (-1) 0)) (-1) 0) = 3) (grd (kd l0 = 9) (grd (0 ≤ (up (alc (up (alc s 18 (fun _ => 0)) l0 29 (s (-1) 0)) 3 (fun _ => 0)) l0 30 ((up (alc s 18 (fun _ => 0)) l0 29 (s (-1) 0)) (-1) 0)) (-1) 0) (sem 151 168 [aA l0] [] (up (alc (up (alc (up (alc s 18 (fun _ => 0)) l0 29 (s (-1) 0)) 3 (fun _ => 0)) l0 30 ((up (alc s 18 (fun _ => 0)) l0 29 (s (-1) 0)) (-1) 0)) 3 (fun _ => 0)) l0 31 ((up (alc (up (alc s 18 (fun _ => 0)) l0 29 (s (-1) 0)) 3 (fun _ => 0)) l0 30 ((up (alc s 18 (fun _ => 0)) l0 29 (s (-1) 0)) (-1) 0)) (-1) 0))))))))))) := by
  refine (x_aload f151_146 rfl rfl).trans ?_
  refine (x_iconst f151_147 rfl).trans ?_
  refine (x_newarray f151_149 rfl).trans ?_
  refine g_c ?_
  refine (x_put2 f151_151 rfl rfl).trans ?_
  refine g_c ?_
  refine g_c ?_
  refine (x_aload f151_154 rfl rfl).trans ?_
  refine (x_iconst f151_155 rfl).trans ?_
  refine (x_newarray f151_156 rfl).trans ?_
  refine g_c ?_
  refine (x_put2 f151_158 rfl rfl).trans ?_
  refine g_c ?_
  refine g_c ?_
  refine (x_aload f151_161 rfl rfl).trans ?_
  refine (x_iconst f151_162 rfl).trans ?_
  refine (x_newarray f151_163 rfl).trans ?_
  refine g_c ?_
  refine (x_put2 f151_165 rfl rfl).trans ?_
  refine g_c ?_
  refine g_c ?_
  rfl
set_option maxRecDepth 10000 in
theorem e151_168 (l0 : Int) (s : SG) : sem 151 168 [aA l0] [] s = grd (kd (s (-1) 0) = akind .int ∧ kl (s (-1) 0) = 3) (grd (kd l0 = 9) (grd (0 ≤ s (-1) 0) (grd (kd ((up (alc s 3 (fun _ => 0)) l0 32 (s (-1) 0)) (-1) 0) = akind .boolean ∧ kl ((up (alc s 3 (fun _ => 0)) l0 32 (s (-1) 0)) (-1) 0) = 2) (grd (kd l0 = 9) (grd (0 ≤ (up (alc s 3 (fun _ => 0)) l0 32 (s (-1) 0)) (-1) 0) (grd (kd ((up (alc (up (alc s 3 (fun _ => 0)) l0 32 (s (-1) 0)) 2 (fun _ => 0)) l0 39 ((up (alc s 3 (fun _ => 0)) l0 32 (s (-1) 0)) (-1) 0)) (-1) 0) = akind .int ∧ kl ((up (alc (up (alc s 3 (fun _ => 0)) l0 32 (s (-1) 0)) 2 (fun _ => 0)) l0 39 ((up (alc s 3 (fun _ => 0)) l0 32 (s (-1) 0)) (-1) 0)) (-1) 0) = 6) (grd (kd l0 = 9) (grd (0 ≤ (up (alc (up (alc s 3 (fun _ => 0)) l0 32 (s (-1) 0)) 2 (fun _ => 0)) l0 39 ((up (alc s 3 (fun _ => 0)) l0 32 (s (-1) 0)) (-1) 0)) (-1) 0) (sem 151 190 [aA l0] [] (up (alc (up (alc (up (alc s 3 (fun _ => 0)) l0 32 (s (-1) 0)) 2 (fun _ => 0)) l0 39 ((up (alc s 3 (fun _ => 0)) l0 32 (s (-1) 0)) (-1) 0)) 6 (fun _ => 0)) l0 40 ((up (alc (up (alc s 3 (fun _ => 0)) l0 32 (s (-1) 0)) 2 (fun _ => 0)) l0 39 ((up (alc s 3 (fun _ => 0)) l0 32 (s (-1) 0)) (-1) 0)) (-1) 0))))))))))) := by
  refine (x_aload f151_168 rfl rfl).trans ?_
  refine (x_iconst f151_169 rfl).trans ?_
  refine (x_newarray f151_170 rfl).trans ?_
  refine g_c ?_
  refine (x_put2 f151_172 rfl rfl).trans ?_
  refine g_c ?_
  refine g_c ?_
  refine (x_aload f151_175 rfl rfl).trans ?_
  refine (x_iconst f151_176 rfl).trans ?_
  refine (x_newarray f151_177 rfl).trans ?_
  refine g_c ?_
  refine (x_put2 f151_179 rfl rfl).trans ?_
  refine g_c ?_
  refine g_c ?_
  refine (x_aload f151_182 rfl rfl).trans ?_
  refine (x_iconst f151_183 rfl).trans ?_
  refine (x_newarray f151_185 rfl).trans ?_
  refine g_c ?_
  refine (x_put2 f151_187 rfl rfl).trans ?_
  refine g_c ?_
  refine g_c ?_
  rfl
set_option maxRecDepth 10000 in
theorem e151_190 (l0 : Int) (s : SG) : sem 151 190 [aA l0] [] s = grd (kd (s (-1) 0) = akind .int ∧ kl (s (-1) 0) = 6) (grd (kd l0 = 9) (grd (0 ≤ s (-1) 0) (grd (kd ((up (alc s 6 (fun _ => 0)) l0 41 (s (-1) 0)) (-1) 0) = akind .int ∧ kl ((up (alc s 6 (fun _ => 0)) l0 41 (s (-1) 0)) (-1) 0) = 6) (grd (kd l0 = 9) (grd (0 ≤ (up (alc s 6 (fun _ => 0)) l0 41 (s (-1) 0)) (-1) 0) (grd (kd ((up (alc (up (alc s 6 (fun _ => 0)) l0 41 (s (-1) 0)) 6 (fun _ => 0)) l0 42 ((up (alc s 6 (fun _ => 0)) l0 41 (s (-1) 0)) (-1) 0)) (-1) 0) = akind .int ∧ kl ((up (alc (up (alc s 6 (fun _ => 0)) l0 41 (s (-1) 0)) 6 (fun _ => 0)) l0 42 ((up (alc s 6 (fun _ => 0)) l0 41 (s (-1) 0)) (-1) 0)) (-1) 0) = 10) (grd (kd l0 = 9) (grd (0 ≤ (up (alc (up (alc s 6 (fun _ => 0)) l0 41 (s (-1) 0)) 6 (fun _ => 0)) l0 42 ((up (alc s 6 (fun _ => 0)) l0 41 (s (-1) 0)) (-1) 0)) (-1) 0) (sem 151 214 [aA l0] [] (up (alc (up (alc (up (alc s 6 (fun _ => 0)) l0 41 (s (-1) 0)) 6 (fun _ => 0)) l0 42 ((up (alc s 6 (fun _ => 0)) l0 41 (s (-1) 0)) (-1) 0)) 10 (fun _ => 0)) l0 43 ((up (alc (up (alc s 6 (fun _ => 0)) l0 41 (s (-1) 0)) 6 (fun _ => 0)) l0 42 ((up (alc s 6 (fun _ => 0)) l0 41 (s (-1) 0)) (-1) 0)) (-1) 0))))))))))) := by
  refine (x_aload f151_190 rfl rfl).trans ?_
  refine (x_iconst f151_191 rfl).trans ?_
  refine (x_newarray f151_193 rfl).trans ?_
  refine g_c ?_
  refine (x_put2 f151_195 rfl rfl).trans ?_
  refine g_c ?_
  refine g_c ?_
  refine (x_aload f151_198 rfl rfl).trans ?_
  refine (x_iconst f151_199 rfl).trans ?_
  refine (x_newarray f151_201 rfl).trans ?_
  refine g_c ?_
  refine (x_put2 f151_203 rfl rfl).trans ?_
  refine g_c ?_
  refine g_c ?_
  refine (x_aload f151_206 rfl rfl).trans ?_
  refine (x_iconst f151_207 rfl).trans ?_
  refine (x_newarray f151_209 rfl).trans ?_
  refine g_c ?_
  refine (x_put2 f151_211 rfl rfl).trans ?_
  refine g_c ?_
  refine g_c ?_
  rfl
set_option maxRecDepth 10000 in
theorem e151_214 (l0 : Int) (s : SG) : sem 151 214 [aA l0] [] s = grd (kd (s (-1) 0) = akind .int ∧ kl (s (-1) 0) = 36) (grd (kd l0 = 9) (grd (0 ≤ s (-1) 0) (grd (kd l0 = 9) (bnV (sem 153 0 [aA l0, aU] [] (up (alc s 36 (fun _ => 0)) l0 44 (s (-1) 0))) fun s1 => grd (kd l0 = 9) (grd (0 ≤ s1 l0 0) (grd (kd (s1 l0 0) = 101) (grd ((0 : Int) ≤ 0 ∧ 0 < kl (s1 l0 0)) (grd (kd l0 = 9) (bnV (sem 154 0 [aA l0, aU] [] (up s1 (s1 l0 0) 0 1)) fun s2 => some (aU, s2)))))))))) := by
  refine (x_aload f151_214 rfl rfl).trans ?_
  refine (x_iconst f151_215 rfl).trans ?_
  refine (x_newarray f151_217 rfl).trans ?_
  refine g_c ?_
  refine (x_put2 f151_219 rfl rfl).trans ?_
  refine g_c ?_
  refine g_c ?_
  refine (x_aload f151_222 rfl rfl).trans ?_
  refine (x_invokevirtual (G := grd (kd l0 = 9) (bnV (sem 153 0 [aA l0, aU] [] (up (alc s 36 (fun _ => 0)) l0 44 (s (-1) 0))) fun s1 => sem 151 226 [aA l0] [] s1)) f151_223 rfl rfl).trans ?_
  refine g_c ?_
  refine bV_c fun s1 => ?_
  refine (x_aload f151_226 rfl rfl).trans ?_
  refine (x_get2 f151_227 rfl rfl).trans ?_
  refine g_c ?_
  refine g_c ?_
  refine (x_iconst f151_230 rfl).trans ?_
  refine (x_iconst f151_231 rfl).trans ?_
  refine (x_iastore f151_232 rfl).trans ?_
  refine g_c ?_
  refine g_c ?_
  refine (x_aload f151_233 rfl rfl).trans ?_
  refine (x_invokevirtual (G := grd (kd l0 = 9) (bnV (sem 154 0 [aA l0, aU] [] (up s1 (s1 l0 0) 0 1)) fun s2 => sem 151 237 [aA l0] [] s2)) f151_234 rfl rfl).trans ?_
  refine g_c ?_
  refine bV_c fun s2 => ?_
  exact x_return f151_237 rfl
theorem f152_0 : fch 152 0 = some (.lload 0, 1, []) := by decide +kernel
theorem f152_1 : fch 152 1 = some (.lload 2, 2, []) := by decide +kernel
theorem f152_2 : fch 152 2 = some (.lcmp, 3, []) := by decide +kernel
theorem f152_3 : fch 152 3 = some (.ifCond .lt 17, 6, []) := by decide +kernel
theorem f152_6 : fch 152 6 = some (.lload 0, 7, []) := by decide +kernel
theorem f152_7 : fch 152 7 = some (.lload 4, 9, []) := by decide +kernel
theorem f152_9 : fch 152 9 = some (.lcmp, 10, []) := by decide +kernel
theorem f152_10 : fch 152 10 = some (.ifCond .gt 17, 13, []) := by decide +kernel
theorem f152_13 : fch 152 13 = some (.iconst 1, 14, []) := by decide +kernel
theorem f152_14 : fch 152 14 = some (.goto 18, 17, []) := by decide +kernel
theorem f152_17 : fch 152 17 = some (.iconst 0, 18, [0, 2, 4]) := by decide +kernel
theorem f152_18 : fch 152 18 = some (.ireturn, 19, [0, 2, 4]) := by decide +kernel
set_option maxRecDepth 10000 in
theorem e152_0 (l0 l2 l4 : Int) (s : SG) : sem 152 0 [aL l0, aU, aL l2, aU, aL l4, aU] [] s = if (cmpL l0 l2) < 0 then some (aI 0, s) else if (0 : Int) < (cmpL l0 l4) then some (aI 0, s) else some (aI 1, s) := by
  refine (x_lload f152_0 rfl rfl).trans ?_
  refine (x_lload f152_1 rfl rfl).trans ?_
  refine (x_lcmp f152_2 rfl).trans ?_
  refine (x_if_lt (tg := 17) f152_3 rfl rfl).trans (i_c ?_ ?_)
  · refine (x_kil (l2 := [aU, aU, aU, aU, aU, aU]) f152_17 rfl).trans ?_
    refine (x_iconst f152_17 rfl).trans ?_
    exact x_zreturn0 f152_18 rfl
  · refine (x_lload f152_6 rfl rfl).trans ?_
    refine (x_lload f152_7 rfl rfl).trans ?_
    refine (x_lcmp f152_9 rfl).trans ?_
    refine (x_if_gt (tg := 17) f152_10 rfl rfl).trans (i_c ?_ ?_)
    · refine (x_kil (l2 := [aU, aU, aU, aU, aU, aU]) f152_17 rfl).trans ?_
      refine (x_iconst f152_17 rfl).trans ?_
      exact x_zreturn0 f152_18 rfl
    · refine (x_iconst f152_13 rfl).trans ?_
      refine (x_goto (tg := 18) f152_14 rfl rfl).trans ?_
      refine (x_kil (l2 := [aU, aU, aU, aU, aU, aU]) f152_18 rfl).trans ?_
      exact x_zreturn1 f152_18 rfl
theorem f153_0 : fch 153 0 = some (.iconst 0, 1, []) := by decide +kernel
theorem f153_1 : fch 153 1 = some (.istore 1, 2, []) := by decide +kernel
theorem f153_2 : fch 153 2 = some (.iload 1, 3, []) := by decide +kernel
theorem f153_3 : fch 153 3 = some (.iconst 28, 5, []) := by decide +kernel
theorem f153_5 : fch 153 5 = some (.if_icmp .ge 97, 8, []) := by decide +kernel
theorem f153_8 : fch 153 8 = some (.aload 0, 9, []) := by decide +kernel
theorem f153_9 : fch 153 9 = some (.invokeinterface 9 0, 12, []) := by decide +kernel
theorem f153_12 : fch 153 12 = some (.iload 1, 13, []) := by decide +kernel
theorem f153_13 : fch 153 13 = some (.iload 1, 14, []) := by decide +kernel
theorem f153_14 : fch 153 14 = some (.iconst 18, 16, []) := by decide +kernel
theorem f153_16 : fch 153 16 = some (.if_icmp .gt 25, 19, []) := by decide +kernel
theorem f153_19 : fch 153 19 = some (.iload 1, 20, []) := by decide +kernel
theorem f153_20 : fch 153 20 = some (.iconst 6, 22, []) := by decide +kernel
theorem f153_22 : fch 153 22 = some (.if_icmp .ne 29, 25, []) := by decide +kernel
theorem f153_25 : fch 153 25 = some (.iconst 5, 26, []) := by decide +kernel
theorem f153_26 : fch 153 26 = some (.goto 83, 29, []) := by decide +kernel
theorem f153_29 : fch 153 29 = some (.iload 1, 30, []) := by decide +kernel
theorem f153_30 : fch 153 30 = some (.iconst 9, 32, []) := by decide +kernel
theorem f153_32 : fch 153 32 = some (.if_icmp .gt 47, 35, []) := by decide +kernel
theorem f153_35 : fch 153 35 = some (.iload 1, 36, []) := by decide +kernel
theorem f153_36 : fch 153 36 = some (.i2l, 37, []) := by decide +kernel
theorem f153_37 : fch 153 37 = some (.sipush 1, 38, []) := by decide +kernel
theorem f153_38 : fch 153 38 = some (.sipush 3, 41, []) := by decide +kernel
theorem f153_41 : fch 153 41 = some (.invokestatic 152, 44, []) := by decide +kernel
theorem f153_44 : fch 153 44 = some (.ifCond .eq 51, 47, []) := by decide +kernel
theorem f153_47 : fch 153 47 = some (.iconst 1, 48, []) := by decide +kernel
theorem f153_48 : fch 153 48 = some (.goto 83, 51, []) := by decide +kernel
theorem f153_51 : fch 153 51 = some (.iload 1, 52, []) := by decide +kernel
theorem f153_52 : fch 153 52 = some (.iconst 6, 54, []) := by decide +kernel
theorem f153_54 : fch 153 54 = some (.if_icmp .le 62, 57, []) := by decide +kernel
theorem f153_57 : fch 153 57 = some (.iconst (-9), 59, []) := by decide +kernel
theorem f153_59 : fch 153 59 = some (.goto 83, 62, []) := by decide +kernel
theorem f153_62 : fch 153 62 = some (.iload 1, 63, []) := by decide +kernel
theorem f153_63 : fch 153 63 = some (.iconst 4, 64, []) := by decide +kernel
theorem f153_64 : fch 153 64 = some (.if_icmp .ne 72, 67, []) := by decide +kernel
theorem f153_67 : fch 153 67 = some (.iconst 10, 69, []) := by decide +kernel
theorem f153_69 : fch 153 69 = some (.goto 83, 72, []) := by decide +kernel
theorem f153_72 : fch 153 72 = some (.iload 1, 73, []) := by decide +kernel
theorem f153_73 : fch 153 73 = some (.iconst 5, 74, []) := by decide +kernel
theorem f153_74 : fch 153 74 = some (.if_icmp .ne 82, 77, []) := by decide +kernel
theorem f153_77 : fch 153 77 = some (.iconst 20, 79, []) := by decide +kernel
theorem f153_79 : fch 153 79 = some (.goto 83, 82, []) := by decide +kernel
theorem f153_82 : fch 153 82 = some (.iconst 0, 83, []) := by decide +kernel
theorem f153_83 : fch 153 83 = some (.iastore, 84, []) := by decide +kernel
theorem f153_84 : fch 153 84 = some (.aload 0, 85, []) := by decide +kernel
theorem f153_85 : fch 153 85 = some (.invokeinterface 9 2, 88, []) := by decide +kernel
theorem f153_88 : fch 153 88 = some (.iload 1, 89, []) := by decide +kernel
theorem f153_89 : fch 153 89 = some (.iconst 0, 90, []) := by decide +kernel
theorem f153_90 : fch 153 90 = some (.bastore, 91, []) := by decide +kernel
theorem f153_91 : fch 153 91 = some (.iinc 1 1, 94, []) := by decide +kernel
theorem f153_94 : fch 153 94 = some (.goto 2, 97, []) := by decide +kernel
theorem f153_97 : fch 153 97 = some (.return_, 98, []) := by decide +kernel
set_option maxRecDepth 10000 in
theorem e153_0 (l0 : Int) (s : SG) : sem 153 0 [aA l0, aU] [] s = sem 153 2 [aA l0, aI 0] [] s := by
  refine (x_iconst f153_0 rfl).trans ?_
  refine (x_istore (l2 := [aA l0, aI 0]) f153_1 rfl rfl).trans ?_
  rfl
set_option maxRecDepth 10000 in
theorem e153_2 (l0 l1 : Int) (s : SG) : sem 153 2 [aA l0, aI l1] [] s = if l1 < 28 then grd (kd l0 = 9) (grd (0 ≤ s l0 0) (if (18 : Int) < l1 then grd (kd (s l0 0) = 101) (grd ((0 : Int) ≤ l1 ∧ l1 < kl (s l0 0)) (grd (kd l0 = 9) (grd (0 ≤ (up s (s l0 0) l1 5) l0 2) (grd (kd ((up s (s l0 0) l1 5) l0 2) = 102) (grd ((0 : Int) ≤ l1 ∧ l1 < kl ((up s (s l0 0) l1 5) l0 2)) (grd ((0 : Int) = 0 ∨ (0 : Int) = 1) (sem 153 2 [aA l0, aI (w32 (l1 + 1))] [] (up (up s (s l0 0) l1 5) ((up s (s l0 0) l1 5) l0 2) l1 0)))))))) else if l1 = 6 then grd (kd (s l0 0) = 101) (grd ((0 : Int) ≤ l1 ∧ l1 < kl (s l0 0)) (grd (kd l0 = 9) (grd (0 ≤ (up s (s l0 0) l1 5) l0 2) (grd (kd ((up s (s l0 0) l1 5) l0 2) = 102) (grd ((0 : Int) ≤ l1 ∧ l1 < kl ((up s (s l0 0) l1 5) l0 2)) (grd ((0 : Int) = 0 ∨ (0 : Int) = 1) (sem 153 2 [aA l0, aI (w32 (l1 + 1))] [] (up (up s (s l0 0) l1 5) ((up s (s l0 0) l1 5) l0 2) l1 0)))))))) else if (9 : Int) < l1 then grd (kd (s l0 0) = 101) (grd ((0 : Int) ≤ l1 ∧ l1 < kl (s l0 0)) (grd (kd l0 = 9) (grd (0 ≤ (up s (s l0 0) l1 1) l0 2) (grd (kd ((up s (s l0 0) l1 1) l0 2) = 102) (grd ((0 : Int) ≤ l1 ∧ l1 < kl ((up s (s l0 0) l1 1) l0 2)) (grd ((0 : Int) = 0 ∨ (0 : Int) = 1) (sem 153 2 [aA l0, aI (w32 (l1 + 1))] [] (up (up s (s l0 0) l1 1) ((up s (s l0 0) l1 1) l0 2) l1 0)))))))) else bnI (sem 152 0 [aL l1, aU, aL 1, aU, aL 3, aU] [] s) fun a2 s1 => grd (kd (s l0 0) = 101) (grd ((0 : Int) ≤ l1 ∧ l1 < kl (s l0 0)) (grd (kd l0 = 9) (grd (0 ≤ (up s1 (s l0 0) l1 (if a2 = 0 then if (6 : Int) < l1 then (-9) else if l1 = 4 then 10 else if l1 = 5 then 20 else 0 else 1)) l0 2) (grd (kd ((up s1 (s l0 0) l1 (if a2 = 0 then if (6 : Int) < l1 then (-9) else if l1 = 4 then 10 else if l1 = 5 then 20 else 0 else 1)) l0 2) = 102) (grd ((0 : Int) ≤ l1 ∧ l1 < kl ((up s1 (s l0 0) l1 (if a2 = 0 then if (6 : Int) < l1 then (-9) else if l1 = 4 then 10 else if l1 = 5 then 20 else 0 else 1)) l0 2)) (grd ((0 : Int) = 0 ∨ (0 : Int) = 1) (sem 153 91 [aA l0, aI l1] [] (up (up s1 (s l0 0) l1 (if a2 = 0 then if (6 : Int) < l1 then (-9) else if l1 = 4 then 10 else if l1 = 5 then 20 else 0 else 1)) ((up s1 (s l0 0) l1 (if a2 = 0 then if (6 : Int) < l1 then (-9) else if l1 = 4 then 10 else if l1 = 5 then 20 else 0 else 1)) l0 2) l1 0)))))))))) else some (aU, s) := by
  refine (x_iload f153_2 rfl rfl).trans ?_
  refine (x_iconst f153_3 rfl).trans ?_
  refine (x_icmp_ge (tg := 97) f153_5 rfl rfl).trans (i_c ?_ ?_)
  · refine (x_aload f153_8 rfl rfl).trans ?_
    refine (x_get2 f153_9 rfl rfl).trans ?_
    refine g_c ?_
    refine g_c ?_
    refine (x_iload f153_12 rfl rfl).trans ?_
    refine (x_iload f153_13 rfl rfl).trans ?_
    refine (x_iconst f153_14 rfl).trans ?_
    refine (x_icmp_gt (tg := 25) f153_16 rfl rfl).trans (i_c ?_ ?_)
    · refine (x_iconst f153_25 rfl).trans ?_
      refine (x_goto (tg := 83) f153_26 rfl rfl).trans ?_
      refine (x_iastore f153_83 rfl).trans ?_
      refine g_c ?_
      refine g_c ?_
      refine (x_aload f153_84 rfl rfl).trans ?_
      refine (x_get2 f153_85 rfl rfl).trans ?_
      refine g_c ?_
      refine g_c ?_
      refine (x_iload f153_88 rfl rfl).trans ?_
      refine (x_iconst f153_89 rfl).trans ?_
      refine (x_bastore f153_90 rfl).trans ?_
      refine g_c ?_
      refine g_c ?_
      refine g_c ?_
      refine (x_iinc (l2 := [aA l0, aI (w32 (l1 + 1))]) f153_91 rfl rfl rfl).trans ?_
      refine (x_goto (tg := 2) f153_94 rfl rfl).trans ?_
      rfl
    · refine (x_iload f153_19 rfl rfl).trans ?_
      refine (x_iconst f153_20 rfl).trans ?_
      refine (x_icmp_ne (tg := 29) f153_22 rfl rfl).trans (i_c ?_ ?_)
      · refine (x_iconst f153_25 rfl).trans ?_
        refine (x_goto (tg := 83) f153_26 rfl rfl).trans ?_
        refine (x_iastore f153_83 rfl).trans ?_
        refine g_c ?_
        refine g_c ?_
        refine (x_aload f153_84 rfl rfl).trans ?_
        refine (x_get2 f153_85 rfl rfl).trans ?_
        refine g_c ?_
        refine g_c ?_
        refine (x_iload f153_88 rfl rfl).trans ?_
        refine (x_iconst f153_89 rfl).trans ?_
        refine (x_bastore f153_90 rfl).trans ?_
        refine g_c ?_
        refine g_c ?_
        refine g_c ?_
        refine (x_iinc (l2 := [aA l0, aI (w32 (l1 + 1))]) f153_91 rfl rfl rfl).trans ?_
        refine (x_goto (tg := 2) f153_94 rfl rfl).trans ?_
        rfl
      · refine (x_iload f153_29 rfl rfl).trans ?_
        refine (x_iconst f153_30 rfl).trans ?_
        refine (x_icmp_gt (tg := 47) f153_32 rfl rfl).trans (i_c ?_ ?_)
        · refine (x_iconst f153_47 rfl).trans ?_
          refine (x_goto (tg := 83) f153_48 rfl rfl).trans ?_
          refine (x_iastore f153_83 rfl).trans ?_
          refine g_c ?_
          refine g_c ?_
          refine (x_aload f153_84 rfl rfl).trans ?_
          refine (x_get2 f153_85 rfl rfl).trans ?_
          refine g_c ?_
          refine g_c ?_
          refine (x_iload f153_88 rfl rfl).trans ?_
          refine (x_iconst f153_89 rfl).trans ?_
          refine (x_bastore f153_90 rfl).trans ?_
          refine g_c ?_
          refine g_c ?_
          refine g_c ?_
          refine (x_iinc (l2 := [aA l0, aI (w32 (l1 + 1))]) f153_91 rfl rfl rfl).trans ?_
          refine (x_goto (tg := 2) f153_94 rfl rfl).trans ?_
          rfl
        · refine (x_iload f153_35 rfl rfl).trans ?_
          refine (x_i2l f153_36 rfl).trans ?_
          refine (x_lconst f153_37 rfl).trans ?_
          refine (x_lconst f153_38 rfl).trans ?_
          refine (x_invokestatic (G := bnI (sem 152 0 [aL l1, aU, aL 1, aU, aL 3, aU] [] s) fun a2 s1 => sem 153 44 [aA l0, aI l1] [aI a2, aI l1, aA (s l0 0)] s1) f153_41 rfl rfl).trans ?_
          refine bI_c fun a2 s1 => ?_
          refine (x_if_eq (tg := 51) f153_44 rfl rfl).trans ?_
          refine Eq.trans (b := if a2 = 0 then sem 153 83 [aA l0, aI l1] [aI (if (6 : Int) < l1 then (-9) else if l1 = 4 then 10 else if l1 = 5 then 20 else 0), aI l1, aA (s l0 0)] s1 else sem 153 83 [aA l0, aI l1] [aI 1, aI l1, aA (s l0 0)] s1) (i_c ?_ ?_) ?_
          · refine (x_iload f153_51 rfl rfl).trans ?_
            refine (x_iconst f153_52 rfl).trans ?_
            refine (x_icmp_le (tg := 62) f153_54 rfl rfl).trans ?_
            refine Eq.trans (b := if (6 : Int) < l1 then sem 153 83 [aA l0, aI l1] [aI ((-9)), aI l1, aA (s l0 0)] s1 else sem 153 83 [aA l0, aI l1] [aI (if l1 = 4 then 10 else if l1 = 5 then 20 else 0), aI l1, aA (s l0 0)] s1) (i_c ?_ ?_) ?_
            · refine (x_iconst f153_57 rfl).trans ?_
              refine (x_goto (tg := 83) f153_59 rfl rfl).trans ?_
              rfl
            · refine (x_iload f153_62 rfl rfl).trans ?_
              refine (x_iconst f153_63 rfl).trans ?_
              refine (x_icmp_ne (tg := 72) f153_64 rfl rfl).trans ?_
              refine Eq.trans (b := if l1 = 4 then sem 153 83 [aA l0, aI l1] [aI 10, aI l1, aA (s l0 0)] s1 else sem 153 83 [aA l0, aI l1] [aI (if l1 = 5 then 20 else 0), aI l1, aA (s l0 0)] s1) (i_c ?_ ?_) ?_
              · refine (x_iconst f153_67 rfl).trans ?_
                refine (x_goto (tg := 83) f153_69 rfl rfl).trans ?_
                rfl
              · refine (x_iload f153_72 rfl rfl).trans ?_
                refine (x_iconst f153_73 rfl).trans ?_
                refine (x_icmp_ne (tg := 82) f153_74 rfl rfl).trans ?_
                refine Eq.trans (b := if l1 = 5 then sem 153 83 [aA l0, aI l1] [aI 20, aI l1, aA (s l0 0)] s1 else sem 153 83 [aA l0, aI l1] [aI 0, aI l1, aA (s l0 0)] s1) (i_c ?_ ?_) ?_
                · refine (x_iconst f153_77 rfl).trans ?_
                  refine (x_goto (tg := 83) f153_79 rfl rfl).trans ?_
                  rfl
                · refine (x_iconst f153_82 rfl).trans ?_
                  rfl
                refine m_I.trans ?_
                rfl
              refine m_I.trans ?_
              rfl
            refine m_I.trans ?_
            rfl
          · refine (x_iconst f153_47 rfl).trans ?_
            refine (x_goto (tg := 83) f153_48 rfl rfl).trans ?_
            rfl
          refine m_I.trans ?_
          refine (x_iastore f153_83 rfl).trans ?_
          refine g_c ?_
          refine g_c ?_
          refine (x_aload f153_84 rfl rfl).trans ?_
          refine (x_get2 f153_85 rfl rfl).trans ?_
          refine g_c ?_
          refine g_c ?_
          refine (x_iload f153_88 rfl rfl).trans ?_
          refine (x_iconst f153_89 rfl).trans ?_
          refine (x_bastore f153_90 rfl).trans ?_
          refine g_c ?_
          refine g_c ?_
          refine g_c ?_
          rfl
  · exact x_return f153_97 rfl
set_option maxRecDepth 10000 in
theorem e153_91 (l0 l1 : Int) (s : SG) : sem 153 91 [aA l0, aI l1] [] s = sem 153 2 [aA l0, aI (w32 (l1 + 1))] [] s := by
  refine (x_iinc (l2 := [aA l0, aI (w32 (l1 + 1))]) f153_91 rfl rfl rfl).trans ?_
  refine (x_goto (tg := 2) f153_94 rfl rfl).trans ?_
  rfl
theorem f154_0 : fch 154 0 = some (.iconst 0, 1, []) := by decide +kernel
theorem f154_1 : fch 154 1 = some (.istore 1, 2, []) := by decide +kernel
theorem f154_2 : fch 154 2 = some (.iload 1, 3, []) := by decide +kernel
theorem f154_3 : fch 154 3 = some (.iconst 28, 5, []) := by decide +kernel
theorem f154_5 : fch 154 5 = some (.if_icmp .ge 26, 8, []) := by decide +kernel
theorem f154_8 : fch 154 8 = some (.aload 0, 9, []) := by decide +kernel
theorem f154_9 : fch 154 9 = some (.invokeinterface 9 1, 12, []) := by decide +kernel
theorem f154_12 : fch 154 12 = some (.iload 1, 13, []) := by decide +kernel
theorem f154_13 : fch 154 13 = some (.aload 0, 14, []) := by decide +kernel
theorem f154_14 : fch 154 14 = some (.invokeinterface 9 0, 17, []) := by decide +kernel
theorem f154_17 : fch 154 17 = some (.iload 1, 18, []) := by decide +kernel
theorem f154_18 : fch 154 18 = some (.iaload, 19, []) := by decide +kernel
theorem f154_19 : fch 154 19 = some (.iastore, 20, []) := by decide +kernel
theorem f154_20 : fch 154 20 = some (.iinc 1 1, 23, []) := by decide +kernel
theorem f154_23 : fch 154 23 = some (.goto 2, 26, []) := by decide +kernel
theorem f154_26 : fch 154 26 = some (.aload 0, 27, []) := by decide +kernel
theorem f154_27 : fch 154 27 = some (.iconst 0, 28, []) := by decide +kernel
theorem f154_28 : fch 154 28 = some (.multianewarray 9 9, 31, []) := by decide +kernel
theorem f154_31 : fch 154 31 = some (.aload 0, 32, []) := by decide +kernel
theorem f154_32 : fch 154 32 = some (.invokeinterface 9 39, 35, []) := by decide +kernel
theorem f154_35 : fch 154 35 = some (.iconst 0, 36, []) := by decide +kernel
theorem f154_36 : fch 154 36 = some (.iconst 0, 37, []) := by decide +kernel
theorem f154_37 : fch 154 37 = some (.bastore, 38, []) := by decide +kernel
theorem f154_38 : fch 154 38 = some (.aload 0, 39, []) := by decide +kernel
theorem f154_39 : fch 154 39 = some (.invokeinterface 9 39, 42, []) := by decide +kernel
theorem f154_42 : fch 154 42 = some (.iconst 1, 43, []) := by decide +kernel
theorem f154_43 : fch 154 43 = some (.iconst 0, 44, []) := by decide +kernel
theorem f154_44 : fch 154 44 = some (.bastore, 45, []) := by decide +kernel
theorem f154_45 : fch 154 45 = some (.aload 0, 46, []) := by decide +kernel
theorem f154_46 : fch 154 46 = some (.iconst 0, 47, []) := by decide +kernel
theorem f154_47 : fch 154 47 = some (.multianewarray 9 15, 50, []) := by decide +kernel
theorem f154_50 : fch 154 50 = some (.aload 0, 51, []) := by decide +kernel
theorem f154_51 : fch 154 51 = some (.iconst 0, 52, []) := by decide +kernel
theorem f154_52 : fch 154 52 = some (.multianewarray 9 19, 55, []) := by decide +kernel
theorem f154_55 : fch 154 55 = some (.aload 0, 56, []) := by decide +kernel
theorem f154_56 : fch 154 56 = some (.iconst 0, 57, []) := by decide +kernel
theorem f154_57 : fch 154 57 = some (.multianewarray 9 20, 60, []) := by decide +kernel
theorem f154_60 : fch 154 60 = some (.aload 0, 61, []) := by decide +kernel
theorem f154_61 : fch 154 61 = some (.iconst 0, 62, []) := by decide +kernel
theorem f154_62 : fch 154 62 = some (.multianewarray 9 21, 65, []) := by decide +kernel
theorem f154_65 : fch 154 65 = some (.aload 0, 66, []) := by decide +kernel
theorem f154_66 : fch 154 66 = some (.iconst 0, 67, []) := by decide +kernel
theorem f154_67 : fch 154 67 = some (.multianewarray 9 22, 70, []) := by decide +kernel
theorem f154_70 : fch 154 70 = some (.iconst 0, 71, []) := by decide +kernel
theorem f154_71 : fch 154 71 = some (.istore 1, 72, []) := by decide +kernel
theorem f154_72 : fch 154 72 = some (.iload 1, 73, []) := by decide +kernel
theorem f154_73 : fch 154 73 = some (.iconst 3, 74, []) := by decide +kernel
theorem f154_74 : fch 154 74 = some (.if_icmp .ge 104, 77, []) := by decide +kernel
theorem f154_77 : fch 154 77 = some (.aload 0, 78, []) := by decide +kernel
theorem f154_78 : fch 154 78 = some (.invokeinterface 9 16, 81, []) := by decide +kernel
theorem f154_81 : fch 154 81 = some (.iload 1, 82, []) := by decide +kernel
theorem f154_82 : fch 154 82 = some (.iconst 0, 83, []) := by decide +kernel
theorem f154_83 : fch 154 83 = some (.iastore, 84, []) := by decide +kernel
theorem f154_84 : fch 154 84 = some (.aload 0, 85, []) := by decide +kernel
theorem f154_85 : fch 154 85 = some (.invokeinterface 9 17, 88, []) := by decide +kernel
theorem f154_88 : fch 154 88 = some (.iload 1, 89, []) := by decide +kernel
theorem f154_89 : fch 154 89 = some (.iconst 0, 90, []) := by decide +kernel
theorem f154_90 : fch 154 90 = some (.iastore, 91, []) := by decide +kernel
theorem f154_91 : fch 154 91 = some (.aload 0, 92, []) := by decide +kernel
theorem f154_92 : fch 154 92 = some (.invokeinterface 9 18, 95, []) := by decide +kernel
theorem f154_95 : fch 154 95 = some (.iload 1, 96, []) := by decide +kernel
theorem f154_96 : fch 154 96 = some (.iconst 5, 97, []) := by decide +kernel
theorem f154_97 : fch 154 97 = some (.iastore, 98, []) := by decide +kernel
theorem f154_98 : fch 154 98 = some (.iinc 1 1, 101, []) := by decide +kernel
theorem f154_101 : fch 154 101 = some (.goto 72, 104, []) := by decide +kernel
theorem f154_104 : fch 154 104 = some (.return_, 105, []) := by decide +kernel
set_option maxRecDepth 10000 in
theorem e154_0 (l0 : Int) (s : SG) : sem 154 0 [aA l0, aU] [] s = sem 154 2 [aA l0, aI 0] [] s := by
  refine (x_iconst f154_0 rfl).trans ?_
  refine (x_istore (l2 := [aA l0, aI 0]) f154_1 rfl rfl).trans ?_
  rfl
set_option maxRecDepth 10000 in
theorem e154_2 (l0 l1 : Int) (s : SG) : sem 154 2 [aA l0, aI l1] [] s = if l1 < 28 then grd (kd l0 = 9) (grd (0 ≤ s l0 1) (grd (kd l0 = 9) (grd (0 ≤ s l0 0) (grd (kd (s l0 0) = 101) (grd ((0 : Int) ≤ l1 ∧ l1 < kl (s l0 0)) (grd (kd (s l0 1) = 101) (grd ((0 : Int) ≤ l1 ∧ l1 < kl (s l0 1)) (sem 154 2 [aA l0, aI (w32 (l1 + 1))] [] (up s (s l0 1) l1 (s (s l0 0) l1)))))))))) else grd (kd l0 = 9) (grd (kd l0 = 9) (grd (0 ≤ (up s l0 9 0) l0 39) (grd (kd ((up s l0 9 0) l0 39) = 102) (grd ((0 : Int) ≤ 0 ∧ 0 < kl ((up s l0 9 0) l0 39)) (grd ((0 : Int) = 0 ∨ (0 : Int) = 1) (grd (kd l0 = 9) (grd (0 ≤ (up (up s l0 9 0) ((up s l0 9 0) l0 39) 0 0) l0 39) (grd (kd ((up (up s l0 9 0) ((up s l0 9 0) l0 39) 0 0) l0 39) = 102) (grd ((0 : Int) ≤ 1 ∧ 1 < kl ((up (up s l0 9 0) ((up s l0 9 0) l0 39) 0 0) l0 39)) (grd ((0 : Int) = 0 ∨ (0 : Int) = 1) (grd (kd l0 = 9) (grd (kd l0 = 9) (grd (kd l0 = 9) (grd (kd l0 = 9) (grd (kd l0 = 9) (sem 154 72 [aA l0, aI 0] [] (up (up (up (up (up (up (up (up s l0 9 0) ((up s l0 9 0) l0 39) 0 0) ((up (up s l0 9 0) ((up s l0 9 0) l0 39) 0 0) l0 39) 1 0) l0 15 0) l0 19 0) l0 20 0) l0 21 0) l0 22 0))))))))))))))))) := by
  refine (x_iload f154_2 rfl rfl).trans ?_
  refine (x_iconst f154_3 rfl).trans ?_
  refine (x_icmp_ge (tg := 26) f154_5 rfl rfl).trans (i_c ?_ ?_)
  · refine (x_aload f154_8 rfl rfl).trans ?_
    refine (x_get2 f154_9 rfl rfl).trans ?_
    refine g_c ?_
    refine g_c ?_
    refine (x_iload f154_12 rfl rfl).trans ?_
    refine (x_aload f154_13 rfl rfl).trans ?_
    refine (x_get2 f154_14 rfl rfl).trans ?_
    refine g_c ?_
    refine g_c ?_
    refine (x_iload f154_17 rfl rfl).trans ?_
    refine (x_iaload f154_18 rfl).trans ?_
    refine g_c ?_
    refine g_c ?_
    refine (x_iastore f154_19 rfl).trans ?_
    refine g_c ?_
    refine g_c ?_
    refine (x_iinc (l2 := [aA l0, aI (w32 (l1 + 1))]) f154_20 rfl rfl rfl).trans ?_
    refine (x_goto (tg := 2) f154_23 rfl rfl).trans ?_
    rfl
  · refine (x_aload f154_26 rfl rfl).trans ?_
    refine (x_iconst f154_27 rfl).trans ?_
    refine (x_put0 f154_28 rfl rfl).trans ?_
    refine g_c ?_
    refine (x_aload f154_31 rfl rfl).trans ?_
    refine (x_get2 f154_32 rfl rfl).trans ?_
    refine g_c ?_
    refine g_c ?_
    refine (x_iconst f154_35 rfl).trans ?_
    refine (x_iconst f154_36 rfl).trans ?_
    refine (x_bastore f154_37 rfl).trans ?_
    refine g_c ?_
    refine g_c ?_
    refine g_c ?_
    refine (x_aload f154_38 rfl rfl).trans ?_
    refine (x_get2 f154_39 rfl rfl).trans ?_
    refine g_c ?_
    refine g_c ?_
    refine (x_iconst f154_42 rfl).trans ?_
    refine (x_iconst f154_43 rfl).trans ?_
    refine (x_bastore f154_44 rfl).trans ?_
    refine g_c ?_
    refine g_c ?_
    refine g_c ?_
    refine (x_aload f154_45 rfl rfl).trans ?_
    refine (x_iconst f154_46 rfl).trans ?_
    refine (x_put0 f154_47 rfl rfl).trans ?_
    refine g_c ?_
    refine (x_aload f154_50 rfl rfl).trans ?_
    refine (x_iconst f154_51 rfl).trans ?_
    refine (x_put0 f154_52 rfl rfl).trans ?_
    refine g_c ?_
    refine (x_aload f154_55 rfl rfl).trans ?_
    refine (x_iconst f154_56 rfl).trans ?_
    refine (x_put0 f154_57 rfl rfl).trans ?_
    refine g_c ?_
    refine (x_aload f154_60 rfl rfl).trans ?_
    refine (x_iconst f154_61 rfl).trans ?_
    refine (x_put0 f154_62 rfl rfl).trans ?_
    refine g_c ?_
    refine (x_aload f154_65 rfl rfl).trans ?_
    refine (x_iconst f154_66 rfl).trans ?_
    refine (x_put0 f154_67 rfl rfl).trans ?_
    refine g_c ?_
    refine (x_iconst f154_70 rfl).trans ?_
    refine (x_istore (l2 := [aA l0, aI 0]) f154_71 rfl rfl).trans ?_
    rfl
set_option maxRecDepth 10000 in
theorem e154_72 (l0 l1 : Int) (s : SG) : sem 154 72 [aA l0, aI l1] [] s = if l1 < 3 then grd (kd l0 = 9) (grd (0 ≤ s l0 16) (grd (kd (s l0 16) = 101) (grd ((0 : Int) ≤ l1 ∧ l1 < kl (s l0 16)) (grd (kd l0 = 9) (grd (0 ≤ (up s (s l0 16) l1 0) l0 17) (grd (kd ((up s (s l0 16) l1 0) l0 17) = 101) (grd ((0 : Int) ≤ l1 ∧ l1 < kl ((up s (s l0 16) l1 0) l0 17)) (grd (kd l0 = 9) (grd (0 ≤ (up (up s (s l0 16) l1 0) ((up s (s l0 16) l1 0) l0 17) l1 0) l0 18) (grd (kd ((up (up s (s l0 16) l1 0) ((up s (s l0 16) l1 0) l0 17) l1 0) l0 18) = 101) (grd ((0 : Int) ≤ l1 ∧ l1 < kl ((up (up s (s l0 16) l1 0) ((up s (s l0 16) l1 0) l0 17) l1 0) l0 18)) (sem 154 72 [aA l0, aI (w32 (l1 + 1))] [] (up (up (up s (s l0 16) l1 0) ((up s (s l0 16) l1 0) l0 17) l1 0) ((up (up s (s l0 16) l1 0) ((up s (s l0 16) l1 0) l0 17) l1 0) l0 18) l1 5))))))))))))) else some (aU, s) := by
  refine (x_iload f154_72 rfl rfl).trans ?_
  refine (x_iconst f154_73 rfl).trans ?_
  refine (x_icmp_ge (tg := 104) f154_74 rfl rfl).trans (i_c ?_ ?_)
  · refine (x_aload f154_77 rfl rfl).trans ?_
    refine (x_get2 f154_78 rfl rfl).trans ?_
    refine g_c ?_
    refine g_c ?_
    refine (x_iload f154_81 rfl rfl).trans ?_
    refine (x_iconst f154_82 rfl).trans ?_
    refine (x_iastore f154_83 rfl).trans ?_
    refine g_c ?_
    refine g_c ?_
    refine (x_aload f154_84 rfl rfl).trans ?_
    refine (x_get2 f154_85 rfl rfl).trans ?_
    refine g_c ?_
    refine g_c ?_
    refine (x_iload f154_88 rfl rfl).trans ?_
    refine (x_iconst f154_89 rfl).trans ?_
    refine (x_iastore f154_90 rfl).trans ?_
    refine g_c ?_
    refine g_c ?_
    refine (x_aload f154_91 rfl rfl).trans ?_
    refine (x_get2 f154_92 rfl rfl).trans ?_
    refine g_c ?_
    refine g_c ?_
    refine (x_iload f154_95 rfl rfl).trans ?_
    refine (x_iconst f154_96 rfl).trans ?_
    refine (x_iastore f154_97 rfl).trans ?_
    refine g_c ?_
    refine g_c ?_
    refine (x_iinc (l2 := [aA l0, aI (w32 (l1 + 1))]) f154_98 rfl rfl rfl).trans ?_
    refine (x_goto (tg := 72) f154_101 rfl rfl).trans ?_
    rfl
  · exact x_return f154_104 rfl
theorem f155_0 : fch 155 0 = some (.iload 1, 1, []) := by decide +kernel
theorem f155_1 : fch 155 1 = some (.i2l, 2, []) := by decide +kernel
theorem f155_2 : fch 155 2 = some (.sipush 1, 3, []) := by decide +kernel
theorem f155_3 : fch 155 3 = some (.sipush 8, 6, []) := by decide +kernel
theorem f155_6 : fch 155 6 = some (.invokestatic 152, 9, []) := by decide +kernel
theorem f155_9 : fch 155 9 = some (.ifCond .ne 15, 12, []) := by decide +kernel
theorem f155_12 : fch 155 12 = some (.iconst (-2), 14, []) := by decide +kernel
theorem f155_14 : fch 155 14 = some (.ireturn, 15, []) := by decide +kernel
theorem f155_15 : fch 155 15 = some (.aload 0, 16, []) := by decide +kernel
theorem f155_16 : fch 155 16 = some (.invokeinterface 9 4, 19, []) := by decide +kernel
theorem f155_19 : fch 155 19 = some (.iload 1, 20, []) := by decide +kernel
theorem f155_20 : fch 155 20 = some (.iadd, 21, []) := by decide +kernel
theorem f155_21 : fch 155 21 = some (.iconst 64, 23, []) := by decide +kernel
theorem f155_23 : fch 155 23 = some (.if_icmp .le 29, 26, []) := by decide +kernel
theorem f155_26 : fch 155 26 = some (.iconst (-4), 28, []) := by decide +kernel
theorem f155_28 : fch 155 28 = some (.ireturn, 29, []) := by decide +kernel
theorem f155_29 : fch 155 29 = some (.iload 1, 30, []) := by decide +kernel
theorem f155_30 : fch 155 30 = some (.iconst 1, 31, []) := by decide +kernel
theorem f155_31 : fch 155 31 = some (.isub, 32, []) := by decide +kernel
theorem f155_32 : fch 155 32 = some (.istore 4, 34, []) := by decide +kernel
theorem f155_34 : fch 155 34 = some (.iload 4, 36, [1]) := by decide +kernel
theorem f155_36 : fch 155 36 = some (.ifCond .lt 76, 39, []) := by decide +kernel
theorem f155_39 : fch 155 39 = some (.aload 0, 40, []) := by decide +kernel
theorem f155_40 : fch 155 40 = some (.invokeinterface 9 3, 43, []) := by decide +kernel
theorem f155_43 : fch 155 43 = some (.aload 0, 44, []) := by decide +kernel
theorem f155_44 : fch 155 44 = some (.invokeinterface 9 4, 47, []) := by decide +kernel
theorem f155_47 : fch 155 47 = some (.lload 2, 48, []) := by decide +kernel
theorem f155_48 : fch 155 48 = some (.iconst 8, 50, []) := by decide +kernel
theorem f155_50 : fch 155 50 = some (.iload 4, 52, []) := by decide +kernel
theorem f155_52 : fch 155 52 = some (.imul, 53, []) := by decide +kernel
theorem f155_53 : fch 155 53 = some (.lshr, 54, []) := by decide +kernel
theorem f155_54 : fch 155 54 = some (.sipush 255, 57, []) := by decide +kernel
theorem f155_57 : fch 155 57 = some (.land, 58, []) := by decide +kernel
theorem f155_58 : fch 155 58 = some (.l2i, 59, []) := by decide +kernel
theorem f155_59 : fch 155 59 = some (.iastore, 60, []) := by decide +kernel
theorem f155_60 : fch 155 60 = some (.aload 0, 61, []) := by decide +kernel
theorem f155_61 : fch 155 61 = some (.dup, 62, []) := by decide +kernel
theorem f155_62 : fch 155 62 = some (.invokeinterface 9 4, 65, []) := by decide +kernel
theorem f155_65 : fch 155 65 = some (.iconst 1, 66, []) := by decide +kernel
theorem f155_66 : fch 155 66 = some (.iadd, 67, []) := by decide +kernel
theorem f155_67 : fch 155 67 = some (.multianewarray 9 4, 70, []) := by decide +kernel
theorem f155_70 : fch 155 70 = some (.iinc 4 (-1), 73, []) := by decide +kernel
theorem f155_73 : fch 155 73 = some (.goto 34, 76, []) := by decide +kernel
theorem f155_76 : fch 155 76 = some (.aload 0, 77, []) := by decide +kernel
theorem f155_77 : fch 155 77 = some (.invokeinterface 9 4, 80, []) := by decide +kernel
theorem f155_80 : fch 155 80 = some (.ireturn, 81, []) := by decide +kernel
set_option maxRecDepth 10000 in
theorem e155_0 (l0 l1 l2 : Int) (s : SG) : sem 155 0 [aA l0, aI l1, aL l2, aU, aU] [] s = bnI (sem 152 0 [aL l1, aU, aL 1, aU, aL 8, aU] [] s) fun a2 s1 => if a2 = 0 then some (aI ((-2)), s1) else grd (kd l0 = 9) (if (64 : Int) < (w32 ((s1 l0 4) + l1)) then some (aI ((-4)), s1) else sem 155 34 [aA l0, aU, aL l2, aU, aI (w32 (l1 - 1))] [] s1) := by
  refine (x_iload f155_0 rfl rfl).trans ?_
  refine (x_i2l f155_1 rfl).trans ?_
  refine (x_lconst f155_2 rfl).trans ?_
  refine (x_lconst f155_3 rfl).trans ?_
  refine (x_invokestatic (G := bnI (sem 152 0 [aL l1, aU, aL 1, aU, aL 8, aU] [] s) fun a2 s1 => sem 155 9 [aA l0, aI l1, aL l2, aU, aU] [aI a2] s1) f155_6 rfl rfl).trans ?_
  refine bI_c fun a2 s1 => ?_
  refine (x_if_ne (tg := 15) f155_9 rfl rfl).trans (i_c ?_ ?_)
  · refine (x_iconst f155_12 rfl).trans ?_
    exact x_ireturn f155_14 rfl
  · refine (x_aload f155_15 rfl rfl).trans ?_
    refine (x_get0 f155_16 rfl rfl).trans ?_
    refine g_c ?_
    refine (x_iload f155_19 rfl rfl).trans ?_
    refine (x_iadd f155_20 rfl).trans ?_
    refine (x_iconst f155_21 rfl).trans ?_
    refine (x_icmp_le (tg := 29) f155_23 rfl rfl).trans (i_c ?_ ?_)
    · refine (x_iconst f155_26 rfl).trans ?_
      exact x_ireturn f155_28 rfl
    · refine (x_iload f155_29 rfl rfl).trans ?_
      refine (x_iconst f155_30 rfl).trans ?_
      refine (x_isub f155_31 rfl).trans ?_
      refine (x_istore (l2 := [aA l0, aI l1, aL l2, aU, aI (w32 (l1 - 1))]) f155_32 rfl rfl).trans ?_
      exact x_kil f155_34 rfl
set_option maxRecDepth 10000 in
theorem e155_34 (l0 l2 l4 : Int) (s : SG) : sem 155 34 [aA l0, aU, aL l2, aU, aI l4] [] s = if l4 < 0 then grd (kd l0 = 9) (some (aI (s l0 4), s)) else grd (kd l0 = 9) (grd (0 ≤ s l0 3) (grd (kd l0 = 9) (grd (kd (s l0 3) = 101) (grd ((0 : Int) ≤ (s l0 4) ∧ (s l0 4) < kl (s l0 3)) (grd (kd l0 = 9) (grd (kd l0 = 9) (sem 155 34 [aA l0, aU, aL l2, aU, aI (w32 (l4 + (-1)))] [] (up (up s (s l0 3) (s l0 4) (w32 (landA (lshrA l2 (w32 (8 * l4))) 255))) l0 4 (w32 (((up s (s l0 3) (s l0 4) (w32 (landA (lshrA l2 (w32 (8 * l4))) 255))) l0 4) + 1)))))))))) := by
  refine (x_iload f155_34 rfl rfl).trans ?_
  refine (x_if_lt (tg := 76) f155_36 rfl rfl).trans (i_c ?_ ?_)
  · refine (x_aload f155_76 rfl rfl).trans ?_
    refine (x_get0 f155_77 rfl rfl).trans ?_
    refine g_c ?_
    exact x_ireturn f155_80 rfl
  · refine (x_aload f155_39 rfl rfl).trans ?_
    refine (x_get2 f155_40 rfl rfl).trans ?_
    refine g_c ?_
    refine g_c ?_
    refine (x_aload f155_43 rfl rfl).trans ?_
    refine (x_get0 f155_44 rfl rfl).trans ?_
    refine g_c ?_
    refine (x_lload f155_47 rfl rfl).trans ?_
    refine (x_iconst f155_48 rfl).trans ?_
    refine (x_iload f155_50 rfl rfl).trans ?_
    refine (x_imul f155_52 rfl).trans ?_
    refine (x_lshr f155_53 rfl).trans ?_
    refine (x_lconst f155_54 rfl).trans ?_
    refine (x_land f155_57 rfl).trans ?_
    refine (x_l2i f155_58 rfl).trans ?_
    refine (x_iastore f155_59 rfl).trans ?_
    refine g_c ?_
    refine g_c ?_
    refine (x_aload f155_60 rfl rfl).trans ?_
    refine (x_dup f155_61 rfl rfl).trans ?_
    refine (x_get0 f155_62 rfl rfl).trans ?_
    refine g_c ?_
    refine (x_iconst f155_65 rfl).trans ?_
    refine (x_iadd f155_66 rfl).trans ?_
    refine (x_put0 f155_67 rfl rfl).trans ?_
    refine g_c ?_
    refine (x_iinc (l2 := [aA l0, aU, aL l2, aU, aI (w32 (l4 + (-1)))]) f155_70 rfl rfl rfl).trans ?_
    refine (x_goto (tg := 34) f155_73 rfl rfl).trans ?_
    rfl
theorem f156_0 : fch 156 0 = some (.aload 0, 1, []) := by decide +kernel
theorem f156_1 : fch 156 1 = some (.invokeinterface 9 4, 4, []) := by decide +kernel
theorem f156_4 : fch 156 4 = some (.istore 1, 5, []) := by decide +kernel
theorem f156_5 : fch 156 5 = some (.aload 0, 6, []) := by decide +kernel
theorem f156_6 : fch 156 6 = some (.iconst 0, 7, []) := by decide +kernel
theorem f156_7 : fch 156 7 = some (.multianewarray 9 4, 10, []) := by decide +kernel
theorem f156_10 : fch 156 10 = some (.iload 1, 11, []) := by decide +kernel
theorem f156_11 : fch 156 11 = some (.ireturn, 12, []) := by decide +kernel
set_option maxRecDepth 10000 in
theorem e156_0 (l0 : Int) (s : SG) : sem 156 0 [aA l0, aU] [] s = grd (kd l0 = 9) (grd (kd l0 = 9) (some (aI (s l0 4), up s l0 4 0))) := by
  refine (x_aload f156_0 rfl rfl).trans ?_
  refine (x_get0 f156_1 rfl rfl).trans ?_
  refine g_c ?_
  refine (x_istore (l2 := [aA l0, aI (s l0 4)]) f156_4 rfl rfl).trans ?_
  refine (x_aload f156_5 rfl rfl).trans ?_
  refine (x_iconst f156_6 rfl).trans ?_
  refine (x_put0 f156_7 rfl rfl).trans ?_
  refine g_c ?_
  refine (x_iload f156_10 rfl rfl).trans ?_
  exact x_ireturn f156_11 rfl
theorem f157_0 : fch 157 0 = some (.aload 0, 1, []) := by decide +kernel
theorem f157_1 : fch 157 1 = some (.invokeinterface 9 6, 4, []) := by decide +kernel
theorem f157_4 : fch 157 4 = some (.iconst (-9), 6, []) := by decide +kernel
theorem f157_6 : fch 157 6 = some (.if_icmp .ne 35, 9, []) := by decide +kernel
theorem f157_9 : fch 157 9 = some (.aload 0, 10, []) := by decide +kernel
theorem f157_10 : fch 157 10 = some (.invokeinterface 9 5, 13, []) := by decide +kernel
theorem f157_13 : fch 157 13 = some (.aload 0, 14, []) := by decide +kernel
theorem f157_14 : fch 157 14 = some (.invokeinterface 9 4, 17, []) := by decide +kernel
theorem f157_17 : fch 157 17 = some (.if_icmp .ge 35, 20, []) := by decide +kernel
theorem f157_20 : fch 157 20 = some (.aload 0, 21, []) := by decide +kernel
theorem f157_21 : fch 157 21 = some (.invokeinterface 9 3, 24, []) := by decide +kernel
theorem f157_24 : fch 157 24 = some (.aload 0, 25, []) := by decide +kernel
theorem f157_25 : fch 157 25 = some (.invokeinterface 9 5, 28, []) := by decide +kernel
theorem f157_28 : fch 157 28 = some (.iaload, 29, []) := by decide +kernel
theorem f157_29 : fch 157 29 = some (.iconst 48, 31, []) := by decide +kernel
theorem f157_31 : fch 157 31 = some (.isub, 32, []) := by decide +kernel
theorem f157_32 : fch 157 32 = some (.goto 36, 35, []) := by decide +kernel
theorem f157_35 : fch 157 35 = some (.iconst (-1), 36, []) := by decide +kernel
theorem f157_36 : fch 157 36 = some (.istore 2, 37, []) := by decide +kernel
theorem f157_37 : fch 157 37 = some (.iload 2, 38, []) := by decide +kernel
theorem f157_38 : fch 157 38 = some (.i2l, 39, []) := by decide +kernel
theorem f157_39 : fch 157 39 = some (.sipush 0, 40, []) := by decide +kernel
theorem f157_40 : fch 157 40 = some (.sipush 9, 43, []) := by decide +kernel
theorem f157_43 : fch 157 43 = some (.invokestatic 152, 46, []) := by decide +kernel
theorem f157_46 : fch 157 46 = some (.ifCond .eq 57, 49, []) := by decide +kernel
theorem f157_49 : fch 157 49 = some (.iload 1, 50, []) := by decide +kernel
theorem f157_50 : fch 157 50 = some (.iload 2, 51, []) := by decide +kernel
theorem f157_51 : fch 157 51 = some (.ishr, 52, []) := by decide +kernel
theorem f157_52 : fch 157 52 = some (.iconst 1, 53, []) := by decide +kernel
theorem f157_53 : fch 157 53 = some (.iand, 54, []) := by decide +kernel
theorem f157_54 : fch 157 54 = some (.ifCond .ne 83, 57, []) := by decide +kernel
theorem f157_57 : fch 157 57 = some (.aload 0, 58, [1, 2]) := by decide +kernel
theorem f157_58 : fch 157 58 = some (.aload 0, 59, []) := by decide +kernel
theorem f157_59 : fch 157 59 = some (.invokeinterface 9 6, 62, []) := by decide +kernel
theorem f157_62 : fch 157 62 = some (.iconst (-9), 64, []) := by decide +kernel
theorem f157_64 : fch 157 64 = some (.if_icmp .ne 74, 67, []) := by decide +kernel
theorem f157_67 : fch 157 67 = some (.aload 0, 68, []) := by decide +kernel
theorem f157_68 : fch 157 68 = some (.invokeinterface 9 5, 71, []) := by decide +kernel
theorem f157_71 : fch 157 71 = some (.goto 78, 74, []) := by decide +kernel
theorem f157_74 : fch 157 74 = some (.aload 0, 75, []) := by decide +kernel
theorem f157_75 : fch 157 75 = some (.invokeinterface 9 6, 78, []) := by decide +kernel
theorem f157_78 : fch 157 78 = some (.multianewarray 9 6, 81, [0, 1, 2]) := by decide +kernel
theorem f157_81 : fch 157 81 = some (.iconst 0, 82, []) := by decide +kernel
theorem f157_82 : fch 157 82 = some (.ireturn, 83, []) := by decide +kernel
theorem f157_83 : fch 157 83 = some (.aload 0, 84, []) := by decide +kernel
theorem f157_84 : fch 157 84 = some (.dup, 85, []) := by decide +kernel
theorem f157_85 : fch 157 85 = some (.invokeinterface 9 5, 88, []) := by decide +kernel
theorem f157_88 : fch 157 88 = some (.iconst 1, 89, []) := by decide +kernel
theorem f157_89 : fch 157 89 = some (.iadd, 90, []) := by decide +kernel
theorem f157_90 : fch 157 90 = some (.multianewarray 9 5, 93, []) := by decide +kernel
theorem f157_93 : fch 157 93 = some (.iload 2, 94, []) := by decide +kernel
theorem f157_94 : fch 157 94 = some (.ireturn, 95, []) := by decide +kernel
set_option maxRecDepth 10000 in
theorem e157_0 (l0 l1 : Int) (s : SG) : sem 157 0 [aA l0, aI l1, aU] [] s = grd (kd l0 = 9) (if (s l0 6) = ((-9)) then grd (kd l0 = 9) (grd (kd l0 = 9) (if (s l0 5) < (s l0 4) then grd (kd l0 = 9) (grd (0 ≤ s l0 3) (grd (kd l0 = 9) (grd (kd (s l0 3) = 101) (grd ((0 : Int) ≤ (s l0 5) ∧ (s l0 5) < kl (s l0 3)) (sem 157 36 [aA l0, aI l1, aU] [aI (w32 ((s (s l0 3) (s l0 5)) - 48))] s))))) else sem 157 36 [aA l0, aI l1, aU] [aI ((-1))] s)) else sem 157 36 [aA l0, aI l1, aU] [aI ((-1))] s) := by
  refine (x_aload f157_0 rfl rfl).trans ?_
  refine (x_get0 f157_1 rfl rfl).trans ?_
  refine g_c ?_
  refine (x_iconst f157_4 rfl).trans ?_
  refine (x_icmp_ne (tg := 35) f157_6 rfl rfl).trans (i_c ?_ ?_)
  · refine (x_aload f157_9 rfl rfl).trans ?_
    refine (x_get0 f157_10 rfl rfl).trans ?_
    refine g_c ?_
    refine (x_aload f157_13 rfl rfl).trans ?_
    refine (x_get0 f157_14 rfl rfl).trans ?_
    refine g_c ?_
    refine (x_icmp_ge (tg := 35) f157_17 rfl rfl).trans (i_c ?_ ?_)
    · refine (x_aload f157_20 rfl rfl).trans ?_
      refine (x_get2 f157_21 rfl rfl).trans ?_
      refine g_c ?_
      refine g_c ?_
      refine (x_aload f157_24 rfl rfl).trans ?_
      refine (x_get0 f157_25 rfl rfl).trans ?_
      refine g_c ?_
      refine (x_iaload f157_28 rfl).trans ?_
      refine g_c ?_
      refine g_c ?_
      refine (x_iconst f157_29 rfl).trans ?_
      refine (x_isub f157_31 rfl).trans ?_
      refine (x_goto (tg := 36) f157_32 rfl rfl).trans ?_
      rfl
    · refine (x_iconst f157_35 rfl).trans ?_
      rfl
  · refine (x_iconst f157_35 rfl).trans ?_
    rfl
set_option maxRecDepth 10000 in
theorem e157_36 (l0 l1 v0 : Int) (s : SG) : sem 157 36 [aA l0, aI l1, aU] [aI v0] s = bnI (sem 152 0 [aL v0, aU, aL 0, aU, aL 9, aU] [] s) fun a2 s1 => if a2 = 0 then sem 157 57 [aA l0, aU, aU] [] s1 else if (iandA (ishrA l1 v0) 1) = 0 then sem 157 57 [aA l0, aU, aU] [] s1 else grd (kd l0 = 9) (grd (kd l0 = 9) (some (aI v0, up s1 l0 5 (w32 ((s1 l0 5) + 1))))) := by
  refine (x_istore (l2 := [aA l0, aI l1, aI v0]) f157_36 rfl rfl).trans ?_
  refine (x_iload f157_37 rfl rfl).trans ?_
  refine (x_i2l f157_38 rfl).trans ?_
  refine (x_lconst f157_39 rfl).trans ?_
  refine (x_lconst f157_40 rfl).trans ?_
  refine (x_invokestatic (G := bnI (sem 152 0 [aL v0, aU, aL 0, aU, aL 9, aU] [] s) fun a2 s1 => sem 157 46 [aA l0, aI l1, aI v0] [aI a2] s1) f157_43 rfl rfl).trans ?_
  refine bI_c fun a2 s1 => ?_
  refine (x_if_eq (tg := 57) f157_46 rfl rfl).trans (i_c ?_ ?_)
  · exact x_kil f157_57 rfl
  · refine (x_iload f157_49 rfl rfl).trans ?_
    refine (x_iload f157_50 rfl rfl).trans ?_
    refine (x_ishr f157_51 rfl).trans ?_
    refine (x_iconst f157_52 rfl).trans ?_
    refine (x_iand f157_53 rfl).trans ?_
    refine (x_if_ne (tg := 83) f157_54 rfl rfl).trans (i_c ?_ ?_)
    · exact x_kil f157_57 rfl
    · refine (x_aload f157_83 rfl rfl).trans ?_
      refine (x_dup f157_84 rfl rfl).trans ?_
      refine (x_get0 f157_85 rfl rfl).trans ?_
      refine g_c ?_
      refine (x_iconst f157_88 rfl).trans ?_
      refine (x_iadd f157_89 rfl).trans ?_
      refine (x_put0 f157_90 rfl rfl).trans ?_
      refine g_c ?_
      refine (x_iload f157_93 rfl rfl).trans ?_
      exact x_ireturn f157_94 rfl
set_option maxRecDepth 10000 in
theorem e157_57 (l0 : Int) (s : SG) : sem 157 57 [aA l0, aU, aU] [] s = grd (kd l0 = 9) (if (s l0 6) = ((-9)) then grd (kd l0 = 9) (grd (kd l0 = 9) (some (aI 0, up s l0 6 (s l0 5)))) else grd (kd l0 = 9) (grd (kd l0 = 9) (some (aI 0, up s l0 6 (s l0 6))))) := by
  refine (x_aload f157_57 rfl rfl).trans ?_
  refine (x_aload f157_58 rfl rfl).trans ?_
  refine (x_get0 f157_59 rfl rfl).trans ?_
  refine g_c ?_
  refine (x_iconst f157_62 rfl).trans ?_
  refine (x_icmp_ne (tg := 74) f157_64 rfl rfl).trans (i_c ?_ ?_)
  · refine (x_aload f157_67 rfl rfl).trans ?_
    refine (x_get0 f157_68 rfl rfl).trans ?_
    refine g_c ?_
    refine (x_goto (tg := 78) f157_71 rfl rfl).trans ?_
    refine (x_kil (l2 := [aU, aU, aU]) f157_78 rfl).trans ?_
    refine (x_put0 f157_78 rfl rfl).trans ?_
    refine g_c ?_
    refine (x_iconst f157_81 rfl).trans ?_
    exact x_ireturn f157_82 rfl
  · refine (x_aload f157_74 rfl rfl).trans ?_
    refine (x_get0 f157_75 rfl rfl).trans ?_
    refine g_c ?_
    refine (x_kil (l2 := [aU, aU, aU]) f157_78 rfl).trans ?_
    refine (x_put0 f157_78 rfl rfl).trans ?_
    refine g_c ?_
    refine (x_iconst f157_81 rfl).trans ?_
    exact x_ireturn f157_82 rfl
theorem f158_0 : fch 158 0 = some (.iconst 0, 1, []) := by decide +kernel
theorem f158_1 : fch 158 1 = some (.istore 3, 2, []) := by decide +kernel
theorem f158_2 : fch 158 2 = some (.iconst 0, 3, []) := by decide +kernel
theorem f158_3 : fch 158 3 = some (.istore 4, 5, []) := by decide +kernel
theorem f158_5 : fch 158 5 = some (.iload 4, 7, []) := by decide +kernel
theorem f158_7 : fch 158 7 = some (.iload 2, 8, []) := by decide +kernel
theorem f158_8 : fch 158 8 = some (.if_icmp .ge 40, 11, []) := by decide +kernel
theorem f158_11 : fch 158 11 = some (.iload 3, 12, []) := by decide +kernel
theorem f158_12 : fch 158 12 = some (.aload 0, 13, []) := by decide +kernel
theorem f158_13 : fch 158 13 = some (.invokeinterface 9 2, 16, []) := by decide +kernel
theorem f158_16 : fch 158 16 = some (.iload 1, 17, []) := by decide +kernel
theorem f158_17 : fch 158 17 = some (.iload 4, 19, []) := by decide +kernel
theorem f158_19 : fch 158 19 = some (.iadd, 20, []) := by decide +kernel
theorem f158_20 : fch 158 20 = some (.baload, 21, []) := by decide +kernel
theorem f158_21 : fch 158 21 = some (.ifCond .eq 28, 24, []) := by decide +kernel
theorem f158_24 : fch 158 24 = some (.iconst 0, 25, []) := by decide +kernel
theorem f158_25 : fch 158 25 = some (.goto 32, 28, []) := by decide +kernel
theorem f158_28 : fch 158 28 = some (.iconst 1, 29, []) := by decide +kernel
theorem f158_29 : fch 158 29 = some (.iload 4, 31, []) := by decide +kernel
theorem f158_31 : fch 158 31 = some (.ishl, 32, []) := by decide +kernel
theorem f158_32 : fch 158 32 = some (.ior, 33, [3]) := by decide +kernel
theorem f158_33 : fch 158 33 = some (.istore 3, 34, []) := by decide +kernel
theorem f158_34 : fch 158 34 = some (.iinc 4 1, 37, []) := by decide +kernel
theorem f158_37 : fch 158 37 = some (.goto 5, 40, []) := by decide +kernel
theorem f158_40 : fch 158 40 = some (.iload 3, 41, []) := by decide +kernel
theorem f158_41 : fch 158 41 = some (.ireturn, 42, []) := by decide +kernel
set_option maxRecDepth 10000 in
theorem e158_0 (l0 l1 l2 : Int) (s : SG) : sem 158 0 [aA l0, aI l1, aI l2, aU, aU] [] s = sem 158 5 [aA l0, aI l1, aI l2, aI 0, aI 0] [] s := by
  refine (x_iconst f158_0 rfl).trans ?_
  refine (x_istore (l2 := [aA l0, aI l1, aI l2, aI 0, aU]) f158_1 rfl rfl).trans ?_
  refine (x_iconst f158_2 rfl).trans ?_
  refine (x_istore (l2 := [aA l0, aI l1, aI l2, aI 0, aI 0]) f158_3 rfl rfl).trans ?_
  rfl
set_option maxRecDepth 10000 in
theorem e158_5 (l0 l1 l2 l3 l4 : Int) (s : SG) : sem 158 5 [aA l0, aI l1, aI l2, aI l3, aI l4] [] s = if l4 < l2 then grd (kd l0 = 9) (grd (0 ≤ s l0 2) (grd (kd (s l0 2) = 102) (grd ((0 : Int) ≤ (w32 (l1 + l4)) ∧ (w32 (l1 + l4)) < kl (s l0 2)) (sem 158 5 [aA l0, aI l1, aI l2, aI (iorA l3 (if (s (s l0 2) (w32 (l1 + l4))) = 0 then ishlA 1 l4 else 0)), aI (w32 (l4 + 1))] [] s)))) else some (aI l3, s) := by
  refine (x_iload f158_5 rfl rfl).trans ?_
  refine (x_iload f158_7 rfl rfl).trans ?_
  refine (x_icmp_ge (tg := 40) f158_8 rfl rfl).trans (i_c ?_ ?_)
  · refine (x_iload f158_11 rfl rfl).trans ?_
    refine (x_aload f158_12 rfl rfl).trans ?_
    refine (x_get2 f158_13 rfl rfl).trans ?_
    refine g_c ?_
    refine g_c ?_
    refine (x_iload f158_16 rfl rfl).trans ?_
    refine (x_iload f158_17 rfl rfl).trans ?_
    refine (x_iadd f158_19 rfl).trans ?_
    refine (x_baload f158_20 rfl).trans ?_
    refine g_c ?_
    refine g_c ?_
    refine (x_if_eq (tg := 28) f158_21 rfl rfl).trans ?_
    refine Eq.trans (b := if (s (s l0 2) (w32 (l1 + l4))) = 0 then sem 158 32 [aA l0, aI l1, aI l2, aU, aI l4] [aI (ishlA 1 l4), aI l3] s else sem 158 32 [aA l0, aI l1, aI l2, aU, aI l4] [aI 0, aI l3] s) (i_c ?_ ?_) ?_
    · refine (x_iconst f158_28 rfl).trans ?_
      refine (x_iload f158_29 rfl rfl).trans ?_
      refine (x_ishl f158_31 rfl).trans ?_
      exact x_kil f158_32 rfl
    · refine (x_iconst f158_24 rfl).trans ?_
      refine (x_goto (tg := 32) f158_25 rfl rfl).trans ?_
      exact x_kil f158_32 rfl
    refine m_I.trans ?_
    refine (x_ior f158_32 rfl).trans ?_
    refine (x_istore (l2 := [aA l0, aI l1, aI l2, aI (iorA l3 (if (s (s l0 2) (w32 (l1 + l4))) = 0 then ishlA 1 l4 else 0)), aI l4]) f158_33 rfl rfl).trans ?_
    refine (x_iinc (l2 := [aA l0, aI l1, aI l2, aI (iorA l3 (if (s (s l0 2) (w32 (l1 + l4))) = 0 then ishlA 1 l4 else 0)), aI (w32 (l4 + 1))]) f158_34 rfl rfl rfl).trans ?_
    refine (x_goto (tg := 5) f158_37 rfl rfl).trans ?_
    rfl
  · refine (x_iload f158_40 rfl rfl).trans ?_
    exact x_ireturn f158_41 rfl
theorem f159_0 : fch 159 0 = some (.aload 0, 1, []) := by decide +kernel
theorem f159_1 : fch 159 1 = some (.invokevirtual 153, 4, []) := by decide +kernel
theorem f159_4 : fch 159 4 = some (.aload 0, 5, []) := by decide +kernel
theorem f159_5 : fch 159 5 = some (.iconst 0, 6, []) := by decide +kernel
theorem f159_6 : fch 159 6 = some (.multianewarray 9 5, 9, []) := by decide +kernel
theorem f159_9 : fch 159 9 = some (.aload 0, 10, []) := by decide +kernel
theorem f159_10 : fch 159 10 = some (.iconst (-9), 12, []) := by decide +kernel
theorem f159_12 : fch 159 12 = some (.multianewarray 9 6, 15, []) := by decide +kernel
theorem f159_15 : fch 159 15 = some (.aload 0, 16, []) := by decide +kernel
theorem f159_16 : fch 159 16 = some (.iconst 0, 17, []) := by decide +kernel
theorem f159_17 : fch 159 17 = some (.multianewarray 9 7, 20, []) := by decide +kernel
theorem f159_20 : fch 159 20 = some (.aload 0, 21, []) := by decide +kernel
theorem f159_21 : fch 159 21 = some (.invokeinterface 9 4, 24, []) := by decide +kernel
theorem f159_24 : fch 159 24 = some (.ifCond .eq 38, 27, []) := by decide +kernel
theorem f159_27 : fch 159 27 = some (.aload 0, 28, []) := by decide +kernel
theorem f159_28 : fch 159 28 = some (.invokeinterface 9 3, 31, []) := by decide +kernel
theorem f159_31 : fch 159 31 = some (.iconst 0, 32, []) := by decide +kernel
theorem f159_32 : fch 159 32 = some (.iaload, 33, []) := by decide +kernel
theorem f159_33 : fch 159 33 = some (.iconst 78, 35, []) := by decide +kernel
theorem f159_35 : fch 159 35 = some (.if_icmp .eq 40, 38, []) := by decide +kernel
theorem f159_38 : fch 159 38 = some (.iconst 0, 39, [0]) := by decide +kernel
theorem f159_39 : fch 159 39 = some (.ireturn, 40, []) := by decide +kernel
theorem f159_40 : fch 159 40 = some (.aload 0, 41, []) := by decide +kernel
theorem f159_41 : fch 159 41 = some (.iconst 1, 42, []) := by decide +kernel
theorem f159_42 : fch 159 42 = some (.multianewarray 9 5, 45, []) := by decide +kernel
theorem f159_45 : fch 159 45 = some (.aload 0, 46, []) := by decide +kernel
theorem f159_46 : fch 159 46 = some (.invokeinterface 9 0, 49, []) := by decide +kernel
theorem f159_49 : fch 159 49 = some (.iconst 0, 50, []) := by decide +kernel
theorem f159_50 : fch 159 50 = some (.aload 0, 51, []) := by decide +kernel
theorem f159_51 : fch 159 51 = some (.iconst 14, 53, []) := by decide +kernel
theorem f159_53 : fch 159 53 = some (.invokevirtual 157, 56, []) := by decide +kernel
theorem f159_56 : fch 159 56 = some (.iastore, 57, []) := by decide +kernel
theorem f159_57 : fch 159 57 = some (.aload 0, 58, []) := by decide +kernel
theorem f159_58 : fch 159 58 = some (.iconst 1, 59, []) := by decide +kernel
theorem f159_59 : fch 159 59 = some (.multianewarray 9 7, 62, []) := by decide +kernel
theorem f159_62 : fch 159 62 = some (.aload 0, 63, []) := by decide +kernel
theorem f159_63 : fch 159 63 = some (.invokeinterface 9 6, 66, []) := by decide +kernel
theorem f159_66 : fch 159 66 = some (.iconst (-9), 68, []) := by decide +kernel
theorem f159_68 : fch 159 68 = some (.if_icmp .ne 108, 71, []) := by decide +kernel
theorem f159_71 : fch 159 71 = some (.aload 0, 72, []) := by decide +kernel
theorem f159_72 : fch 159 72 = some (.invokeinterface 9 5, 75, []) := by decide +kernel
theorem f159_75 : fch 159 75 = some (.aload 0, 76, []) := by decide +kernel
theorem f159_76 : fch 159 76 = some (.invokeinterface 9 4, 79, []) := by decide +kernel
theorem f159_79 : fch 159 79 = some (.if_icmp .ge 108, 82, []) := by decide +kernel
theorem f159_82 : fch 159 82 = some (.aload 0, 83, []) := by decide +kernel
theorem f159_83 : fch 159 83 = some (.aload 0, 84, []) := by decide +kernel
theorem f159_84 : fch 159 84 = some (.invokeinterface 9 3, 87, []) := by decide +kernel
theorem f159_87 : fch 159 87 = some (.aload 0, 88, []) := by decide +kernel
theorem f159_88 : fch 159 88 = some (.invokeinterface 9 5, 91, []) := by decide +kernel
theorem f159_91 : fch 159 91 = some (.iaload, 92, []) := by decide +kernel
theorem f159_92 : fch 159 92 = some (.invokevirtual 160, 95, []) := by decide +kernel
theorem f159_95 : fch 159 95 = some (.aload 0, 96, []) := by decide +kernel
theorem f159_96 : fch 159 96 = some (.dup, 97, []) := by decide +kernel
theorem f159_97 : fch 159 97 = some (.invokeinterface 9 7, 100, []) := by decide +kernel
theorem f159_100 : fch 159 100 = some (.iconst 1, 101, []) := by decide +kernel
theorem f159_101 : fch 159 101 = some (.iadd, 102, []) := by decide +kernel
theorem f159_102 : fch 159 102 = some (.multianewarray 9 7, 105, []) := by decide +kernel
theorem f159_105 : fch 159 105 = some (.goto 62, 108, []) := by decide +kernel
theorem f159_108 : fch 159 108 = some (.aload 0, 109, []) := by decide +kernel
theorem f159_109 : fch 159 109 = some (.invokeinterface 9 6, 112, []) := by decide +kernel
theorem f159_112 : fch 159 112 = some (.ireturn, 113, []) := by decide +kernel
set_option maxRecDepth 10000 in
theorem e159_0 (l0 : Int) (s : SG) : sem 159 0 [aA l0] [] s = grd (kd l0 = 9) (bnV (sem 153 0 [aA l0, aU] [] s) fun s1 => grd (kd l0 = 9) (grd (kd l0 = 9) (grd (kd l0 = 9) (grd (kd l0 = 9) (if ((up (up (up s1 l0 5 0) l0 6 ((-9))) l0 7 0) l0 4) = 0 then some (aI 0, up (up (up s1 l0 5 0) l0 6 ((-9))) l0 7 0) else grd (kd l0 = 9) (grd (0 ≤ (up (up (up s1 l0 5 0) l0 6 ((-9))) l0 7 0) l0 3) (grd (kd ((up (up (up s1 l0 5 0) l0 6 ((-9))) l0 7 0) l0 3) = 101) (grd ((0 : Int) ≤ 0 ∧ 0 < kl ((up (up (up s1 l0 5 0) l0 6 ((-9))) l0 7 0) l0 3)) (if ((up (up (up s1 l0 5 0) l0 6 ((-9))) l0 7 0) ((up (up (up s1 l0 5 0) l0 6 ((-9))) l0 7 0) l0 3) 0) = 78 then grd (kd l0 = 9) (grd (kd l0 = 9) (grd (0 ≤ (up (up (up (up s1 l0 5 0) l0 6 ((-9))) l0 7 0) l0 5 1) l0 0) (grd (kd l0 = 9) (bnI (sem 157 0 [aA l0, aI 14, aU] [] (up (up (up (up s1 l0 5 0) l0 6 ((-9))) l0 7 0) l0 5 1)) fun a3 s2 => grd (kd ((up (up (up (up s1 l0 5 0) l0 6 ((-9))) l0 7 0) l0 5 1) l0 0) = 101) (grd ((0 : Int) ≤ 0 ∧ 0 < kl ((up (up (up (up s1 l0 5 0) l0 6 ((-9))) l0 7 0) l0 5 1) l0 0)) (grd (kd l0 = 9) (sem 159 62 [aA l0] [] (up (up s2 ((up (up (up (up s1 l0 5 0) l0 6 ((-9))) l0 7 0) l0 5 1) l0 0) 0 a3) l0 7 1)))))))) else some (aI 0, up (up (up s1 l0 5 0) l0 6 ((-9))) l0 7 0)))))))))) := by
  refine (x_aload f159_0 rfl rfl).trans ?_
  refine (x_invokevirtual (G := grd (kd l0 = 9) (bnV (sem 153 0 [aA l0, aU] [] s) fun s1 => sem 159 4 [aA l0] [] s1)) f159_1 rfl rfl).trans ?_
  refine g_c ?_
  refine bV_c fun s1 => ?_
  refine (x_aload f159_4 rfl rfl).trans ?_
  refine (x_iconst f159_5 rfl).trans ?_
  refine (x_put0 f159_6 rfl rfl).trans ?_
  refine g_c ?_
  refine (x_aload f159_9 rfl rfl).trans ?_
  refine (x_iconst f159_10 rfl).trans ?_
  refine (x_put0 f159_12 rfl rfl).trans ?_
  refine g_c ?_
  refine (x_aload f159_15 rfl rfl).trans ?_
  refine (x_iconst f159_16 rfl).trans ?_
  refine (x_put0 f159_17 rfl rfl).trans ?_
  refine g_c ?_
  refine (x_aload f159_20 rfl rfl).trans ?_
  refine (x_get0 f159_21 rfl rfl).trans ?_
  refine g_c ?_
  refine (x_if_eq (tg := 38) f159_24 rfl rfl).trans (i_c ?_ ?_)
  · refine (x_kil (l2 := [aU]) f159_38 rfl).trans ?_
    refine (x_iconst f159_38 rfl).trans ?_
    exact x_ireturn f159_39 rfl
  · refine (x_aload f159_27 rfl rfl).trans ?_
    refine (x_get2 f159_28 rfl rfl).trans ?_
    refine g_c ?_
    refine g_c ?_
    refine (x_iconst f159_31 rfl).trans ?_
    refine (x_iaload f159_32 rfl).trans ?_
    refine g_c ?_
    refine g_c ?_
    refine (x_iconst f159_33 rfl).trans ?_
    refine (x_icmp_eq (tg := 40) f159_35 rfl rfl).trans (i_c ?_ ?_)
    · refine (x_aload f159_40 rfl rfl).trans ?_
      refine (x_iconst f159_41 rfl).trans ?_
      refine (x_put0 f159_42 rfl rfl).trans ?_
      refine g_c ?_
      refine (x_aload f159_45 rfl rfl).trans ?_
      refine (x_get2 f159_46 rfl rfl).trans ?_
      refine g_c ?_
      refine g_c ?_
      refine (x_iconst f159_49 rfl).trans ?_
      refine (x_aload f159_50 rfl rfl).trans ?_
      refine (x_iconst f159_51 rfl).trans ?_
      refine (x_invokevirtual (G := grd (kd l0 = 9) (bnI (sem 157 0 [aA l0, aI 14, aU] [] (up (up (up (up s1 l0 5 0) l0 6 ((-9))) l0 7 0) l0 5 1)) fun a3 s2 => sem 159 56 [aA l0] [aI a3, aI 0, aA ((up (up (up (up s1 l0 5 0) l0 6 ((-9))) l0 7 0) l0 5 1) l0 0)] s2)) f159_53 rfl rfl).trans ?_
      refine g_c ?_
      refine bI_c fun a3 s2 => ?_
      refine (x_iastore f159_56 rfl).trans ?_
      refine g_c ?_
      refine g_c ?_
      refine (x_aload f159_57 rfl rfl).trans ?_
      refine (x_iconst f159_58 rfl).trans ?_
      refine (x_put0 f159_59 rfl rfl).trans ?_
      refine g_c ?_
      rfl
    · refine (x_kil (l2 := [aU]) f159_38 rfl).trans ?_
      refine (x_iconst f159_38 rfl).trans ?_
      exact x_ireturn f159_39 rfl
set_option maxRecDepth 10000 in
theorem e159_62 (l0 : Int) (s : SG) : sem 159 62 [aA l0] [] s = grd (kd l0 = 9) (if (s l0 6) = ((-9)) then grd (kd l0 = 9) (grd (kd l0 = 9) (if (s l0 5) < (s l0 4) then grd (kd l0 = 9) (grd (0 ≤ s l0 3) (grd (kd l0 = 9) (grd (kd (s l0 3) = 101) (grd ((0 : Int) ≤ (s l0 5) ∧ (s l0 5) < kl (s l0 3)) (grd (kd l0 = 9) (bnV (sem 160 0 [aA l0, aI (s (s l0 3) (s l0 5)), aU, aU, aU, aU, aU] [] s) fun s1 => grd (kd l0 = 9) (grd (kd l0 = 9) (sem 159 62 [aA l0] [] (up s1 l0 7 (w32 ((s1 l0 7) + 1))))))))))) else grd (kd l0 = 9) (some (aI (s l0 6), s)))) else grd (kd l0 = 9) (some (aI (s l0 6), s))) := by
  refine (x_aload f159_62 rfl rfl).trans ?_
  refine (x_get0 f159_63 rfl rfl).trans ?_
  refine g_c ?_
  refine (x_iconst f159_66 rfl).trans ?_
  refine (x_icmp_ne (tg := 108) f159_68 rfl rfl).trans (i_c ?_ ?_)
  · refine (x_aload f159_71 rfl rfl).trans ?_
    refine (x_get0 f159_72 rfl rfl).trans ?_
    refine g_c ?_
    refine (x_aload f159_75 rfl rfl).trans ?_
    refine (x_get0 f159_76 rfl rfl).trans ?_
    refine g_c ?_
    refine (x_icmp_ge (tg := 108) f159_79 rfl rfl).trans (i_c ?_ ?_)
    · refine (x_aload f159_82 rfl rfl).trans ?_
      refine (x_aload f159_83 rfl rfl).trans ?_
      refine (x_get2 f159_84 rfl rfl).trans ?_
      refine g_c ?_
      refine g_c ?_
      refine (x_aload f159_87 rfl rfl).trans ?_
      refine (x_get0 f159_88 rfl rfl).trans ?_
      refine g_c ?_
      refine (x_iaload f159_91 rfl).trans ?_
      refine g_c ?_
      refine g_c ?_
      refine (x_invokevirtual (G := grd (kd l0 = 9) (bnV (sem 160 0 [aA l0, aI (s (s l0 3) (s l0 5)), aU, aU, aU, aU, aU] [] s) fun s1 => sem 159 95 [aA l0] [] s1)) f159_92 rfl rfl).trans ?_
      refine g_c ?_
      refine bV_c fun s1 => ?_
      refine (x_aload f159_95 rfl rfl).trans ?_
      refine (x_dup f159_96 rfl rfl).trans ?_
      refine (x_get0 f159_97 rfl rfl).trans ?_
      refine g_c ?_
      refine (x_iconst f159_100 rfl).trans ?_
      refine (x_iadd f159_101 rfl).trans ?_
      refine (x_put0 f159_102 rfl rfl).trans ?_
      refine g_c ?_
      refine (x_goto (tg := 62) f159_105 rfl rfl).trans ?_
      rfl
    · refine (x_aload f159_108 rfl rfl).trans ?_
      refine (x_get0 f159_109 rfl rfl).trans ?_
      refine g_c ?_
      exact x_ireturn f159_112 rfl
  · refine (x_aload f159_108 rfl rfl).trans ?_
    refine (x_get0 f159_109 rfl rfl).trans ?_
    refine g_c ?_
    exact x_ireturn f159_112 rfl
theorem f160_0 : fch 160 0 = some (.aload 0, 1, []) := by decide +kernel
theorem f160_1 : fch 160 1 = some (.invokeinterface 9 0, 4, []) := by decide +kernel
theorem f160_4 : fch 160 4 = some (.iconst 0, 5, []) := by decide +kernel
theorem f160_5 : fch 160 5 = some (.iaload, 6, []) := by decide +kernel
theorem f160_6 : fch 160 6 = some (.istore 2, 7, []) := by decide +kernel
theorem f160_7 : fch 160 7 = some (.iconst 0, 8, []) := by decide +kernel
theorem f160_8 : fch 160 8 = some (.istore 3, 9, []) := by decide +kernel
theorem f160_9 : fch 160 9 = some (.iconst 0, 10, []) := by decide +kernel
theorem f160_10 : fch 160 10 = some (.istore 4, 12, []) := by decide +kernel
theorem f160_12 : fch 160 12 = some (.iload 4, 14, []) := by decide +kernel
theorem f160_14 : fch 160 14 = some (.iload 2, 15, []) := by decide +kernel
theorem f160_15 : fch 160 15 = some (.if_icmp .ge 50, 18, []) := by decide +kernel
theorem f160_18 : fch 160 18 = some (.iload 3, 19, []) := by decide +kernel
theorem f160_19 : fch 160 19 = some (.aload 0, 20, []) := by decide +kernel
theorem f160_20 : fch 160 20 = some (.iconst 10, 22, []) := by decide +kernel
theorem f160_22 : fch 160 22 = some (.iconst 3, 23, []) := by decide +kernel
theorem f160_23 : fch 160 23 = some (.iload 4, 25, []) := by decide +kernel
theorem f160_25 : fch 160 25 = some (.imul, 26, []) := by decide +kernel
theorem f160_26 : fch 160 26 = some (.iadd, 27, []) := by decide +kernel
theorem f160_27 : fch 160 27 = some (.iconst 3, 28, []) := by decide +kernel
theorem f160_28 : fch 160 28 = some (.invokevirtual 158, 31, []) := by decide +kernel
theorem f160_31 : fch 160 31 = some (.ifCond .eq 41, 34, []) := by decide +kernel
theorem f160_34 : fch 160 34 = some (.iconst 1, 35, []) := by decide +kernel
theorem f160_35 : fch 160 35 = some (.iload 4, 37, []) := by decide +kernel
theorem f160_37 : fch 160 37 = some (.ishl, 38, []) := by decide +kernel
theorem f160_38 : fch 160 38 = some (.goto 42, 41, []) := by decide +kernel
theorem f160_41 : fch 160 41 = some (.iconst 0, 42, []) := by decide +kernel
theorem f160_42 : fch 160 42 = some (.ior, 43, [3]) := by decide +kernel
theorem f160_43 : fch 160 43 = some (.istore 3, 44, []) := by decide +kernel
theorem f160_44 : fch 160 44 = some (.iinc 4 1, 47, []) := by decide +kernel
theorem f160_47 : fch 160 47 = some (.goto 12, 50, []) := by decide +kernel
theorem f160_50 : fch 160 50 = some (.iload 1, 51, []) := by decide +kernel
theorem f160_51 : fch 160 51 = some (.iconst 67, 53, []) := by decide +kernel
theorem f160_53 : fch 160 53 = some (.if_icmp .ne 60, 56, []) := by decide +kernel
theorem f160_56 : fch 160 56 = some (.iconst 4, 57, []) := by decide +kernel
theorem f160_57 : fch 160 57 = some (.goto 83, 60, []) := by decide +kernel
theorem f160_60 : fch 160 60 = some (.iload 1, 61, []) := by decide +kernel
theorem f160_61 : fch 160 61 = some (.iconst 80, 63, []) := by decide +kernel
theorem f160_63 : fch 160 63 = some (.if_icmp .ne 70, 66, []) := by decide +kernel
theorem f160_66 : fch 160 66 = some (.iconst 5, 67, []) := by decide +kernel
theorem f160_67 : fch 160 67 = some (.goto 83, 70, []) := by decide +kernel
theorem f160_70 : fch 160 70 = some (.iload 1, 71, []) := by decide +kernel
theorem f160_71 : fch 160 71 = some (.iconst 82, 73, []) := by decide +kernel
theorem f160_73 : fch 160 73 = some (.if_icmp .ne 81, 76, []) := by decide +kernel
theorem f160_76 : fch 160 76 = some (.iconst 6, 78, []) := by decide +kernel
theorem f160_78 : fch 160 78 = some (.goto 83, 81, []) := by decide +kernel
theorem f160_81 : fch 160 81 = some (.iconst (-9), 83, []) := by decide +kernel
theorem f160_83 : fch 160 83 = some (.istore 4, 85, [4]) := by decide +kernel
theorem f160_85 : fch 160 85 = some (.iload 1, 86, []) := by decide +kernel
theorem f160_86 : fch 160 86 = some (.iconst 75, 88, []) := by decide +kernel
theorem f160_88 : fch 160 88 = some (.if_icmp .ne 151, 91, []) := by decide +kernel
theorem f160_91 : fch 160 91 = some (.aload 0, 92, []) := by decide +kernel
theorem f160_92 : fch 160 92 = some (.iconst 1, 93, []) := by decide +kernel
theorem f160_93 : fch 160 93 = some (.iconst 3, 94, []) := by decide +kernel
theorem f160_94 : fch 160 94 = some (.invokevirtual 158, 97, []) := by decide +kernel
theorem f160_97 : fch 160 97 = some (.ifCond .eq 151, 100, []) := by decide +kernel
theorem f160_100 : fch 160 100 = some (.aload 0, 101, []) := by decide +kernel
theorem f160_101 : fch 160 101 = some (.dup, 102, []) := by decide +kernel
theorem f160_102 : fch 160 102 = some (.invokeinterface 9 5, 105, []) := by decide +kernel
theorem f160_105 : fch 160 105 = some (.iconst 1, 106, []) := by decide +kernel
theorem f160_106 : fch 160 106 = some (.iadd, 107, []) := by decide +kernel
theorem f160_107 : fch 160 107 = some (.multianewarray 9 5, 110, []) := by decide +kernel
theorem f160_110 : fch 160 110 = some (.aload 0, 111, []) := by decide +kernel
theorem f160_111 : fch 160 111 = some (.aload 0, 112, []) := by decide +kernel
theorem f160_112 : fch 160 112 = some (.iconst 1, 113, []) := by decide +kernel
theorem f160_113 : fch 160 113 = some (.iconst 3, 114, []) := by decide +kernel
theorem f160_114 : fch 160 114 = some (.invokevirtual 158, 117, []) := by decide +kernel
theorem f160_117 : fch 160 117 = some (.invokevirtual 157, 120, []) := by decide +kernel
theorem f160_120 : fch 160 120 = some (.istore 5, 122, []) := by decide +kernel
theorem f160_122 : fch 160 122 = some (.aload 0, 123, []) := by decide +kernel
theorem f160_123 : fch 160 123 = some (.invokeinterface 9 2, 126, []) := by decide +kernel
theorem f160_126 : fch 160 126 = some (.iconst 1, 127, []) := by decide +kernel
theorem f160_127 : fch 160 127 = some (.iload 5, 129, []) := by decide +kernel
theorem f160_129 : fch 160 129 = some (.iadd, 130, []) := by decide +kernel
theorem f160_130 : fch 160 130 = some (.iconst 1, 131, []) := by decide +kernel
theorem f160_131 : fch 160 131 = some (.bastore, 132, []) := by decide +kernel
theorem f160_132 : fch 160 132 = some (.aload 0, 133, []) := by decide +kernel
theorem f160_133 : fch 160 133 = some (.invokeinterface 9 0, 136, []) := by decide +kernel
theorem f160_136 : fch 160 136 = some (.iconst 1, 137, []) := by decide +kernel
theorem f160_137 : fch 160 137 = some (.iload 5, 139, []) := by decide +kernel
theorem f160_139 : fch 160 139 = some (.iadd, 140, []) := by decide +kernel
theorem f160_140 : fch 160 140 = some (.aload 0, 141, []) := by decide +kernel
theorem f160_141 : fch 160 141 = some (.iconst 1022, 144, []) := by decide +kernel
theorem f160_144 : fch 160 144 = some (.invokevirtual 157, 147, []) := by decide +kernel
theorem f160_147 : fch 160 147 = some (.iastore, 148, []) := by decide +kernel
theorem f160_148 : fch 160 148 = some (.goto 407, 151, []) := by decide +kernel
theorem f160_151 : fch 160 151 = some (.iload 1, 152, []) := by decide +kernel
theorem f160_152 : fch 160 152 = some (.iconst 87, 154, []) := by decide +kernel
theorem f160_154 : fch 160 154 = some (.if_icmp .ne 248, 157, []) := by decide +kernel
theorem f160_157 : fch 160 157 = some (.iload 3, 158, []) := by decide +kernel
theorem f160_158 : fch 160 158 = some (.ifCond .eq 248, 161, []) := by decide +kernel
theorem f160_161 : fch 160 161 = some (.aload 0, 162, []) := by decide +kernel
theorem f160_162 : fch 160 162 = some (.dup, 163, []) := by decide +kernel
theorem f160_163 : fch 160 163 = some (.invokeinterface 9 5, 166, []) := by decide +kernel
theorem f160_166 : fch 160 166 = some (.iconst 1, 167, []) := by decide +kernel
theorem f160_167 : fch 160 167 = some (.iadd, 168, []) := by decide +kernel
theorem f160_168 : fch 160 168 = some (.multianewarray 9 5, 171, []) := by decide +kernel
theorem f160_171 : fch 160 171 = some (.aload 0, 172, []) := by decide +kernel
theorem f160_172 : fch 160 172 = some (.iload 3, 173, []) := by decide +kernel
theorem f160_173 : fch 160 173 = some (.invokevirtual 157, 176, []) := by decide +kernel
theorem f160_176 : fch 160 176 = some (.istore 5, 178, []) := by decide +kernel
theorem f160_178 : fch 160 178 = some (.iconst 3, 179, []) := by decide +kernel
theorem f160_179 : fch 160 179 = some (.iload 5, 181, []) := by decide +kernel
theorem f160_181 : fch 160 181 = some (.imul, 182, []) := by decide +kernel
theorem f160_182 : fch 160 182 = some (.aload 0, 183, []) := by decide +kernel
theorem f160_183 : fch 160 183 = some (.aload 0, 184, []) := by decide +kernel
theorem f160_184 : fch 160 184 = some (.iconst 10, 186, []) := by decide +kernel
theorem f160_186 : fch 160 186 = some (.iconst 3, 187, []) := by decide +kernel
theorem f160_187 : fch 160 187 = some (.iload 5, 189, []) := by decide +kernel
theorem f160_189 : fch 160 189 = some (.imul, 190, []) := by decide +kernel
theorem f160_190 : fch 160 190 = some (.iadd, 191, []) := by decide +kernel
theorem f160_191 : fch 160 191 = some (.iconst 3, 192, []) := by decide +kernel
theorem f160_192 : fch 160 192 = some (.invokevirtual 158, 195, []) := by decide +kernel
theorem f160_195 : fch 160 195 = some (.invokevirtual 157, 198, []) := by decide +kernel
theorem f160_198 : fch 160 198 = some (.iadd, 199, []) := by decide +kernel
theorem f160_199 : fch 160 199 = some (.istore 6, 201, []) := by decide +kernel
theorem f160_201 : fch 160 201 = some (.aload 0, 202, []) := by decide +kernel
theorem f160_202 : fch 160 202 = some (.invokeinterface 9 2, 205, []) := by decide +kernel
theorem f160_205 : fch 160 205 = some (.iconst 10, 207, []) := by decide +kernel
theorem f160_207 : fch 160 207 = some (.iload 6, 209, []) := by decide +kernel
theorem f160_209 : fch 160 209 = some (.iadd, 210, []) := by decide +kernel
theorem f160_210 : fch 160 210 = some (.iconst 1, 211, []) := by decide +kernel
theorem f160_211 : fch 160 211 = some (.bastore, 212, []) := by decide +kernel
theorem f160_212 : fch 160 212 = some (.aload 0, 213, []) := by decide +kernel
theorem f160_213 : fch 160 213 = some (.invokeinterface 9 0, 216, []) := by decide +kernel
theorem f160_216 : fch 160 216 = some (.iconst 10, 218, []) := by decide +kernel
theorem f160_218 : fch 160 218 = some (.iload 6, 220, []) := by decide +kernel
theorem f160_220 : fch 160 220 = some (.iadd, 221, []) := by decide +kernel
theorem f160_221 : fch 160 221 = some (.aload 0, 222, []) := by decide +kernel
theorem f160_222 : fch 160 222 = some (.iconst 15, 224, []) := by decide +kernel
theorem f160_224 : fch 160 224 = some (.invokevirtual 157, 227, []) := by decide +kernel
theorem f160_227 : fch 160 227 = some (.iastore, 228, []) := by decide +kernel
theorem f160_228 : fch 160 228 = some (.aload 0, 229, []) := by decide +kernel
theorem f160_229 : fch 160 229 = some (.invokeinterface 9 0, 232, []) := by decide +kernel
theorem f160_232 : fch 160 232 = some (.iconst 19, 234, []) := by decide +kernel
theorem f160_234 : fch 160 234 = some (.iload 6, 236, []) := by decide +kernel
theorem f160_236 : fch 160 236 = some (.iadd, 237, []) := by decide +kernel
theorem f160_237 : fch 160 237 = some (.aload 0, 238, []) := by decide +kernel
theorem f160_238 : fch 160 238 = some (.iconst 1023, 241, []) := by decide +kernel
theorem f160_241 : fch 160 241 = some (.invokevirtual 157, 244, []) := by decide +kernel
theorem f160_244 : fch 160 244 = some (.iastore, 245, []) := by decide +kernel
theorem f160_245 : fch 160 245 = some (.goto 407, 248, []) := by decide +kernel
theorem f160_248 : fch 160 248 = some (.iload 1, 249, [3]) := by decide +kernel
theorem f160_249 : fch 160 249 = some (.iconst 71, 251, []) := by decide +kernel
theorem f160_251 : fch 160 251 = some (.if_icmp .ne 332, 254, []) := by decide +kernel
theorem f160_254 : fch 160 254 = some (.iload 2, 255, []) := by decide +kernel
theorem f160_255 : fch 160 255 = some (.iconst 1, 256, []) := by decide +kernel
theorem f160_256 : fch 160 256 = some (.if_icmp .le 332, 259, []) := by decide +kernel
theorem f160_259 : fch 160 259 = some (.aload 0, 260, []) := by decide +kernel
theorem f160_260 : fch 160 260 = some (.iconst 7, 262, []) := by decide +kernel
theorem f160_262 : fch 160 262 = some (.iload 2, 263, []) := by decide +kernel
theorem f160_263 : fch 160 263 = some (.invokevirtual 158, 266, []) := by decide +kernel
theorem f160_266 : fch 160 266 = some (.ifCond .eq 332, 269, []) := by decide +kernel
theorem f160_269 : fch 160 269 = some (.aload 0, 270, []) := by decide +kernel
theorem f160_270 : fch 160 270 = some (.dup, 271, []) := by decide +kernel
theorem f160_271 : fch 160 271 = some (.invokeinterface 9 5, 274, []) := by decide +kernel
theorem f160_274 : fch 160 274 = some (.iconst 1, 275, []) := by decide +kernel
theorem f160_275 : fch 160 275 = some (.iadd, 276, []) := by decide +kernel
theorem f160_276 : fch 160 276 = some (.multianewarray 9 5, 279, []) := by decide +kernel
theorem f160_279 : fch 160 279 = some (.aload 0, 280, []) := by decide +kernel
theorem f160_280 : fch 160 280 = some (.aload 0, 281, []) := by decide +kernel
theorem f160_281 : fch 160 281 = some (.iconst 7, 283, []) := by decide +kernel
theorem f160_283 : fch 160 283 = some (.iload 2, 284, []) := by decide +kernel
theorem f160_284 : fch 160 284 = some (.invokevirtual 158, 287, []) := by decide +kernel
theorem f160_287 : fch 160 287 = some (.invokevirtual 157, 290, []) := by decide +kernel
theorem f160_290 : fch 160 290 = some (.istore 5, 292, []) := by decide +kernel
theorem f160_292 : fch 160 292 = some (.aload 0, 293, []) := by decide +kernel
theorem f160_293 : fch 160 293 = some (.invokeinterface 9 2, 296, []) := by decide +kernel
theorem f160_296 : fch 160 296 = some (.iconst 7, 298, []) := by decide +kernel
theorem f160_298 : fch 160 298 = some (.iload 5, 300, []) := by decide +kernel
theorem f160_300 : fch 160 300 = some (.iadd, 301, []) := by decide +kernel
theorem f160_301 : fch 160 301 = some (.iconst 1, 302, []) := by decide +kernel
theorem f160_302 : fch 160 302 = some (.bastore, 303, []) := by decide +kernel
theorem f160_303 : fch 160 303 = some (.aload 0, 304, []) := by decide +kernel
theorem f160_304 : fch 160 304 = some (.invokeinterface 9 0, 307, []) := by decide +kernel
theorem f160_307 : fch 160 307 = some (.iconst 7, 309, []) := by decide +kernel
theorem f160_309 : fch 160 309 = some (.iload 5, 311, []) := by decide +kernel
theorem f160_311 : fch 160 311 = some (.iadd, 312, []) := by decide +kernel
theorem f160_312 : fch 160 312 = some (.aload 0, 313, []) := by decide +kernel
theorem f160_313 : fch 160 313 = some (.iconst 1, 314, []) := by decide +kernel
theorem f160_314 : fch 160 314 = some (.iload 2, 315, []) := by decide +kernel
theorem f160_315 : fch 160 315 = some (.ishl, 316, []) := by decide +kernel
theorem f160_316 : fch 160 316 = some (.iconst 1, 317, []) := by decide +kernel
theorem f160_317 : fch 160 317 = some (.isub, 318, []) := by decide +kernel
theorem f160_318 : fch 160 318 = some (.iconst 1, 319, []) := by decide +kernel
theorem f160_319 : fch 160 319 = some (.iload 5, 321, []) := by decide +kernel
theorem f160_321 : fch 160 321 = some (.ishl, 322, []) := by decide +kernel
theorem f160_322 : fch 160 322 = some (.iconst (-1), 323, []) := by decide +kernel
theorem f160_323 : fch 160 323 = some (.ixor, 324, []) := by decide +kernel
theorem f160_324 : fch 160 324 = some (.iand, 325, []) := by decide +kernel
theorem f160_325 : fch 160 325 = some (.invokevirtual 157, 328, []) := by decide +kernel
theorem f160_328 : fch 160 328 = some (.iastore, 329, []) := by decide +kernel
theorem f160_329 : fch 160 329 = some (.goto 407, 332, []) := by decide +kernel
theorem f160_332 : fch 160 332 = some (.iload 4, 334, [1, 2, 3]) := by decide +kernel
theorem f160_334 : fch 160 334 = some (.iconst (-9), 336, []) := by decide +kernel
theorem f160_336 : fch 160 336 = some (.if_icmp .eq 399, 339, []) := by decide +kernel
theorem f160_339 : fch 160 339 = some (.aload 0, 340, []) := by decide +kernel
theorem f160_340 : fch 160 340 = some (.invokeinterface 9 2, 343, []) := by decide +kernel
theorem f160_343 : fch 160 343 = some (.iload 4, 345, []) := by decide +kernel
theorem f160_345 : fch 160 345 = some (.baload, 346, []) := by decide +kernel
theorem f160_346 : fch 160 346 = some (.ifCond .ne 399, 349, []) := by decide +kernel
theorem f160_349 : fch 160 349 = some (.aload 0, 350, []) := by decide +kernel
theorem f160_350 : fch 160 350 = some (.dup, 351, []) := by decide +kernel
theorem f160_351 : fch 160 351 = some (.invokeinterface 9 5, 354, []) := by decide +kernel
theorem f160_354 : fch 160 354 = some (.iconst 1, 355, []) := by decide +kernel
theorem f160_355 : fch 160 355 = some (.iadd, 356, []) := by decide +kernel
theorem f160_356 : fch 160 356 = some (.multianewarray 9 5, 359, []) := by decide +kernel
theorem f160_359 : fch 160 359 = some (.aload 0, 360, []) := by decide +kernel
theorem f160_360 : fch 160 360 = some (.invokeinterface 9 2, 363, []) := by decide +kernel
theorem f160_363 : fch 160 363 = some (.iload 4, 365, []) := by decide +kernel
theorem f160_365 : fch 160 365 = some (.iconst 1, 366, []) := by decide +kernel
theorem f160_366 : fch 160 366 = some (.bastore, 367, []) := by decide +kernel
theorem f160_367 : fch 160 367 = some (.aload 0, 368, []) := by decide +kernel
theorem f160_368 : fch 160 368 = some (.iconst 1023, 371, []) := by decide +kernel
theorem f160_371 : fch 160 371 = some (.invokevirtual 157, 374, []) := by decide +kernel
theorem f160_374 : fch 160 374 = some (.istore 5, 376, []) := by decide +kernel
theorem f160_376 : fch 160 376 = some (.aload 0, 377, []) := by decide +kernel
theorem f160_377 : fch 160 377 = some (.invokeinterface 9 0, 380, []) := by decide +kernel
theorem f160_380 : fch 160 380 = some (.iload 4, 382, []) := by decide +kernel
theorem f160_382 : fch 160 382 = some (.iconst 10, 384, []) := by decide +kernel
theorem f160_384 : fch 160 384 = some (.iload 5, 386, []) := by decide +kernel
theorem f160_386 : fch 160 386 = some (.imul, 387, []) := by decide +kernel
theorem f160_387 : fch 160 387 = some (.aload 0, 388, []) := by decide +kernel
theorem f160_388 : fch 160 388 = some (.iconst 1023, 391, []) := by decide +kernel
theorem f160_391 : fch 160 391 = some (.invokevirtual 157, 394, []) := by decide +kernel
theorem f160_394 : fch 160 394 = some (.iadd, 395, []) := by decide +kernel
theorem f160_395 : fch 160 395 = some (.iastore, 396, []) := by decide +kernel
theorem f160_396 : fch 160 396 = some (.goto 407, 399, []) := by decide +kernel
theorem f160_399 : fch 160 399 = some (.aload 0, 400, [1, 2, 3, 4]) := by decide +kernel
theorem f160_400 : fch 160 400 = some (.aload 0, 401, []) := by decide +kernel
theorem f160_401 : fch 160 401 = some (.invokeinterface 9 5, 404, []) := by decide +kernel
theorem f160_404 : fch 160 404 = some (.multianewarray 9 6, 407, []) := by decide +kernel
theorem f160_407 : fch 160 407 = some (.return_, 408, [0, 1, 2, 3, 4, 5, 6]) := by decide +kernel
set_option maxRecDepth 10000 in
theorem e160_0 (l0 l1 : Int) (s : SG) : sem 160 0 [aA l0, aI l1, aU, aU, aU, aU, aU] [] s = grd (kd l0 = 9) (grd (0 ≤ s l0 0) (grd (kd (s l0 0) = 101) (grd ((0 : Int) ≤ 0 ∧ 0 < kl (s l0 0)) (sem 160 12 [aA l0, aI l1, aI (s (s l0 0) 0), aI 0, aI 0, aU, aU] [] s)))) := by
  refine (x_aload f160_0 rfl rfl).trans ?_
  refine (x_get2 f160_1 rfl rfl).trans ?_
  refine g_c ?_
  refine g_c ?_
  refine (x_iconst f160_4 rfl).trans ?_
  refine (x_iaload f160_5 rfl).trans ?_
  refine g_c ?_
  refine g_c ?_
  refine (x_istore (l2 := [aA l0, aI l1, aI (s (s l0 0) 0), aU, aU, aU, aU]) f160_6 rfl rfl).trans ?_
  refine (x_iconst f160_7 rfl).trans ?_
  refine (x_istore (l2 := [aA l0, aI l1, aI (s (s l0 0) 0), aI 0, aU, aU, aU]) f160_8 rfl rfl).trans ?_
  refine (x_iconst f160_9 rfl).trans ?_
  refine (x_istore (l2 := [aA l0, aI l1, aI (s (s l0 0) 0), aI 0, aI 0, aU, aU]) f160_10 rfl rfl).trans ?_
  rfl
set_option maxRecDepth 10000 in
theorem e160_12 (l0 l1 l2 l3 l4 : Int) (s : SG) : sem 160 12 [aA l0, aI l1, aI l2, aI l3, aI l4, aU, aU] [] s = if l4 < l2 then grd (kd l0 = 9) (bnI (sem 158 0 [aA l0, aI (w32 (10 + (w32 (3 * l4)))), aI 3, aU, aU] [] s) fun a2 s1 => sem 160 12 [aA l0, aI l1, aI l2, aI (iorA l3 (if a2 = 0 then 0 else ishlA 1 l4)), aI (w32 (l4 + 1)), aU, aU] [] s1) else if l1 = 75 then grd (kd l0 = 9) (bnI (sem 158 0 [aA l0, aI 1, aI 3, aU, aU] [] s) fun a4 s3 => if a4 = 0 then sem 160 151 [aA l0, aI l1, aI l2, aI l3, aI (if l1 = 67 then 4 else if l1 = 80 then 5 else if l1 = 82 then 6 else (-9)), aU, aU] [] s3 else grd (kd l0 = 9) (grd (kd l0 = 9) (grd (kd l0 = 9) (bnI (sem 158 0 [aA l0, aI 1, aI 3, aU, aU] [] (up s3 l0 5 (w32 ((s3 l0 5) + 1)))) fun a6 s5 => grd (kd l0 = 9) (bnI (sem 157 0 [aA l0, aI a6, aU] [] s5) fun a8 s7 => grd (kd l0 = 9) (grd (0 ≤ s7 l0 2) (grd (kd (s7 l0 2) = 102) (grd ((0 : Int) ≤ (w32 (1 + a8)) ∧ (w32 (1 + a8)) < kl (s7 l0 2)) (grd ((1 : Int) = 0 ∨ (1 : Int) = 1) (grd (kd l0 = 9) (grd (0 ≤ (up s7 (s7 l0 2) (w32 (1 + a8)) 1) l0 0) (grd (kd l0 = 9) (bnI (sem 157 0 [aA l0, aI 1022, aU] [] (up s7 (s7 l0 2) (w32 (1 + a8)) 1)) fun a10 s9 => grd (kd ((up s7 (s7 l0 2) (w32 (1 + a8)) 1) l0 0) = 101) (grd ((0 : Int) ≤ (w32 (1 + a8)) ∧ (w32 (1 + a8)) < kl ((up s7 (s7 l0 2) (w32 (1 + a8)) 1) l0 0)) (some (aU, up s9 ((up s7 (s7 l0 2) (w32 (1 + a8)) 1) l0 0) (w32 (1 + a8)) a10)))))))))))))))) else sem 160 151 [aA l0, aI l1, aI l2, aI l3, aI (if l1 = 67 then 4 else if l1 = 80 then 5 else if l1 = 82 then 6 else (-9)), aU, aU] [] s := by
  refine (x_iload f160_12 rfl rfl).trans ?_
  refine (x_iload f160_14 rfl rfl).trans ?_
  refine (x_icmp_ge (tg := 50) f160_15 rfl rfl).trans (i_c ?_ ?_)
  · refine (x_iload f160_18 rfl rfl).trans ?_
    refine (x_aload f160_19 rfl rfl).trans ?_
    refine (x_iconst f160_20 rfl).trans ?_
    refine (x_iconst f160_22 rfl).trans ?_
    refine (x_iload f160_23 rfl rfl).trans ?_
    refine (x_imul f160_25 rfl).trans ?_
    refine (x_iadd f160_26 rfl).trans ?_
    refine (x_iconst f160_27 rfl).trans ?_
    refine (x_invokevirtual (G := grd (kd l0 = 9) (bnI (sem 158 0 [aA l0, aI (w32 (10 + (w32 (3 * l4)))), aI 3, aU, aU] [] s) fun a2 s1 => sem 160 31 [aA l0, aI l1, aI l2, aI l3, aI l4, aU, aU] [aI a2, aI l3] s1)) f160_28 rfl rfl).trans ?_
    refine g_c ?_
    refine bI_c fun a2 s1 => ?_
    refine (x_if_eq (tg := 41) f160_31 rfl rfl).trans ?_
    refine Eq.trans (b := if a2 = 0 then sem 160 42 [aA l0, aI l1, aI l2, aU, aI l4, aU, aU] [aI 0, aI l3] s1 else sem 160 42 [aA l0, aI l1, aI l2, aU, aI l4, aU, aU] [aI (ishlA 1 l4), aI l3] s1) (i_c ?_ ?_) ?_
    · refine (x_iconst f160_41 rfl).trans ?_
      exact x_kil f160_42 rfl
    · refine (x_iconst f160_34 rfl).trans ?_
      refine (x_iload f160_35 rfl rfl).trans ?_
      refine (x_ishl f160_37 rfl).trans ?_
      refine (x_goto (tg := 42) f160_38 rfl rfl).trans ?_
      exact x_kil f160_42 rfl
    refine m_I.trans ?_
    refine (x_ior f160_42 rfl).trans ?_
    refine (x_istore (l2 := [aA l0, aI l1, aI l2, aI (iorA l3 (if a2 = 0 then 0 else ishlA 1 l4)), aI l4, aU, aU]) f160_43 rfl rfl).trans ?_
    refine (x_iinc (l2 := [aA l0, aI l1, aI l2, aI (iorA l3 (if a2 = 0 then 0 else ishlA 1 l4)), aI (w32 (l4 + 1)), aU, aU]) f160_44 rfl rfl rfl).trans ?_
    refine (x_goto (tg := 12) f160_47 rfl rfl).trans ?_
    rfl
  · refine (x_iload f160_50 rfl rfl).trans ?_
    refine (x_iconst f160_51 rfl).trans ?_
    refine (x_icmp_ne (tg := 60) f160_53 rfl rfl).trans ?_
    refine Eq.trans (b := if l1 = 67 then sem 160 83 [aA l0, aI l1, aI l2, aI l3, aU, aU, aU] [aI 4] s else sem 160 83 [aA l0, aI l1, aI l2, aI l3, aU, aU, aU] [aI (if l1 = 80 then 5 else if l1 = 82 then 6 else (-9))] s) (i_c ?_ ?_) ?_
    · refine (x_iconst f160_56 rfl).trans ?_
      refine (x_goto (tg := 83) f160_57 rfl rfl).trans ?_
      exact x_kil f160_83 rfl
    · refine (x_iload f160_60 rfl rfl).trans ?_
      refine (x_iconst f160_61 rfl).trans ?_
      refine (x_icmp_ne (tg := 70) f160_63 rfl rfl).trans ?_
      refine Eq.trans (b := if l1 = 80 then sem 160 83 [aA l0, aI l1, aI l2, aI l3, aU, aU, aU] [aI 5] s else sem 160 83 [aA l0, aI l1, aI l2, aI l3, aU, aU, aU] [aI (if l1 = 82 then 6 else (-9))] s) (i_c ?_ ?_) ?_
      · refine (x_iconst f160_66 rfl).trans ?_
        refine (x_goto (tg := 83) f160_67 rfl rfl).trans ?_
        exact x_kil f160_83 rfl
      · refine (x_iload f160_70 rfl rfl).trans ?_
        refine (x_iconst f160_71 rfl).trans ?_
        refine (x_icmp_ne (tg := 81) f160_73 rfl rfl).trans ?_
        refine Eq.trans (b := if l1 = 82 then sem 160 83 [aA l0, aI l1, aI l2, aI l3, aU, aU, aU] [aI 6] s else sem 160 83 [aA l0, aI l1, aI l2, aI l3, aU, aU, aU] [aI ((-9))] s) (i_c ?_ ?_) ?_
        · refine (x_iconst f160_76 rfl).trans ?_
          refine (x_goto (tg := 83) f160_78 rfl rfl).trans ?_
          exact x_kil f160_83 rfl
        · refine (x_iconst f160_81 rfl).trans ?_
          exact x_kil f160_83 rfl
        refine m_I.trans ?_
        rfl
      refine m_I.trans ?_
      rfl
    refine m_I.trans ?_
    refine (x_istore (l2 := [aA l0, aI l1, aI l2, aI l3, aI (if l1 = 67 then 4 else if l1 = 80 then 5 else if l1 = 82 then 6 else (-9)), aU, aU]) f160_83 rfl rfl).trans ?_
    refine (x_iload f160_85 rfl rfl).trans ?_
    refine (x_iconst f160_86 rfl).trans ?_
    refine (x_icmp_ne (tg := 151) f160_88 rfl rfl).trans (i_c ?_ ?_)
    · refine (x_aload f160_91 rfl rfl).trans ?_
      refine (x_iconst f160_92 rfl).trans ?_
      refine (x_iconst f160_93 rfl).trans ?_
      refine (x_invokevirtual (G := grd (kd l0 = 9) (bnI (sem 158 0 [aA l0, aI 1, aI 3, aU, aU] [] s) fun a4 s3 => sem 160 97 [aA l0, aI l1, aI l2, aI l3, aI (if l1 = 67 then 4 else if l1 = 80 then 5 else if l1 = 82 then 6 else (-9)), aU, aU] [aI a4] s3)) f160_94 rfl rfl).trans ?_
      refine g_c ?_
      refine bI_c fun a4 s3 => ?_
      refine (x_if_eq (tg := 151) f160_97 rfl rfl).trans (i_c ?_ ?_)
      · rfl
      · refine (x_aload f160_100 rfl rfl).trans ?_
        refine (x_dup f160_101 rfl rfl).trans ?_
        refine (x_get0 f160_102 rfl rfl).trans ?_
        refine g_c ?_
        refine (x_iconst f160_105 rfl).trans ?_
        refine (x_iadd f160_106 rfl).trans ?_
        refine (x_put0 f160_107 rfl rfl).trans ?_
        refine g_c ?_
        refine (x_aload f160_110 rfl rfl).trans ?_
        refine (x_aload f160_111 rfl rfl).trans ?_
        refine (x_iconst f160_112 rfl).trans ?_
        refine (x_iconst f160_113 rfl).trans ?_
        refine (x_invokevirtual (G := grd (kd l0 = 9) (bnI (sem 158 0 [aA l0, aI 1, aI 3, aU, aU] [] (up s3 l0 5 (w32 ((s3 l0 5) + 1)))) fun a6 s5 => sem 160 117 [aA l0, aI l1, aI l2, aI l3, aI (if l1 = 67 then 4 else if l1 = 80 then 5 else if l1 = 82 then 6 else (-9)), aU, aU] [aI a6, aA l0] s5)) f160_114 rfl rfl).trans ?_
        refine g_c ?_
        refine bI_c fun a6 s5 => ?_
        refine (x_invokevirtual (G := grd (kd l0 = 9) (bnI (sem 157 0 [aA l0, aI a6, aU] [] s5) fun a8 s7 => sem 160 120 [aA l0, aI l1, aI l2, aI l3, aI (if l1 = 67 then 4 else if l1 = 80 then 5 else if l1 = 82 then 6 else (-9)), aU, aU] [aI a8] s7)) f160_117 rfl rfl).trans ?_
        refine g_c ?_
        refine bI_c fun a8 s7 => ?_
        refine (x_istore (l2 := [aA l0, aI l1, aI l2, aI l3, aI (if l1 = 67 then 4 else if l1 = 80 then 5 else if l1 = 82 then 6 else (-9)), aI a8, aU]) f160_120 rfl rfl).trans ?_
        refine (x_aload f160_122 rfl rfl).trans ?_
        refine (x_get2 f160_123 rfl rfl).trans ?_
        refine g_c ?_
        refine g_c ?_
        refine (x_iconst f160_126 rfl).trans ?_
        refine (x_iload f160_127 rfl rfl).trans ?_
        refine (x_iadd f160_129 rfl).trans ?_
        refine (x_iconst f160_130 rfl).trans ?_
        refine (x_bastore f160_131 rfl).trans ?_
        refine g_c ?_
        refine g_c ?_
        refine g_c ?_
        refine (x_aload f160_132 rfl rfl).trans ?_
        refine (x_get2 f160_133 rfl rfl).trans ?_
        refine g_c ?_
        refine g_c ?_
        refine (x_iconst f160_136 rfl).trans ?_
        refine (x_iload f160_137 rfl rfl).trans ?_
        refine (x_iadd f160_139 rfl).trans ?_
        refine (x_aload f160_140 rfl rfl).trans ?_
        refine (x_iconst f160_141 rfl).trans ?_
        refine (x_invokevirtual (G := grd (kd l0 = 9) (bnI (sem 157 0 [aA l0, aI 1022, aU] [] (up s7 (s7 l0 2) (w32 (1 + a8)) 1)) fun a10 s9 => sem 160 147 [aA l0, aI l1, aI l2, aI l3, aI (if l1 = 67 then 4 else if l1 = 80 then 5 else if l1 = 82 then 6 else (-9)), aI a8, aU] [aI a10, aI (w32 (1 + a8)), aA ((up s7 (s7 l0 2) (w32 (1 + a8)) 1) l0 0)] s9)) f160_144 rfl rfl).trans ?_
        refine g_c ?_
        refine bI_c fun a10 s9 => ?_
        refine (x_iastore f160_147 rfl).trans ?_
        refine g_c ?_
        refine g_c ?_
        refine (x_goto (tg := 407) f160_148 rfl rfl).trans ?_
        refine (x_kil (l2 := [aU, aU, aU, aU, aU, aU, aU]) f160_407 rfl).trans ?_
        exact x_return f160_407 rfl
    · rfl
set_option maxRecDepth 10000 in
theorem e160_151 (l0 l1 l2 l3 l4 : Int) (s : SG) : sem 160 151 [aA l0, aI l1, aI l2, aI l3, aI l4, aU, aU] [] s = if l1 = 87 then if l3 = 0 then sem 160 248 [aA l0, aI l1, aI l2, aU, aI l4, aU, aU] [] s else grd (kd l0 = 9) (grd (kd l0 = 9) (grd (kd l0 = 9) (bnI (sem 157 0 [aA l0, aI l3, aU] [] (up s l0 5 (w32 ((s l0 5) + 1)))) fun a2 s1 => grd (kd l0 = 9) (bnI (sem 158 0 [aA l0, aI (w32 (10 + (w32 (3 * a2)))), aI 3, aU, aU] [] s1) fun a4 s3 => grd (kd l0 = 9) (bnI (sem 157 0 [aA l0, aI a4, aU] [] s3) fun a6 s5 => grd (kd l0 = 9) (grd (0 ≤ s5 l0 2) (grd (kd (s5 l0 2) = 102) (grd ((0 : Int) ≤ (w32 (10 + (w32 ((w32 (3 * a2)) + a6)))) ∧ (w32 (10 + (w32 ((w32 (3 * a2)) + a6)))) < kl (s5 l0 2)) (grd ((1 : Int) = 0 ∨ (1 : Int) = 1) (grd (kd l0 = 9) (grd (0 ≤ (up s5 (s5 l0 2) (w32 (10 + (w32 ((w32 (3 * a2)) + a6)))) 1) l0 0) (grd (kd l0 = 9) (bnI (sem 157 0 [aA l0, aI 15, aU] [] (up s5 (s5 l0 2) (w32 (10 + (w32 ((w32 (3 * a2)) + a6)))) 1)) fun a8 s7 => grd (kd ((up s5 (s5 l0 2) (w32 (10 + (w32 ((w32 (3 * a2)) + a6)))) 1) l0 0) = 101) (grd ((0 : Int) ≤ (w32 (10 + (w32 ((w32 (3 * a2)) + a6)))) ∧ (w32 (10 + (w32 ((w32 (3 * a2)) + a6)))) < kl ((up s5 (s5 l0 2) (w32 (10 + (w32 ((w32 (3 * a2)) + a6)))) 1) l0 0)) (grd (kd l0 = 9) (grd (0 ≤ (up s7 ((up s5 (s5 l0 2) (w32 (10 + (w32 ((w32 (3 * a2)) + a6)))) 1) l0 0) (w32 (10 + (w32 ((w32 (3 * a2)) + a6)))) a8) l0 0) (grd (kd l0 = 9) (bnI (sem 157 0 [aA l0, aI 1023, aU] [] (up s7 ((up s5 (s5 l0 2) (w32 (10 + (w32 ((w32 (3 * a2)) + a6)))) 1) l0 0) (w32 (10 + (w32 ((w32 (3 * a2)) + a6)))) a8)) fun a10 s9 => grd (kd ((up s7 ((up s5 (s5 l0 2) (w32 (10 + (w32 ((w32 (3 * a2)) + a6)))) 1) l0 0) (w32 (10 + (w32 ((w32 (3 * a2)) + a6)))) a8) l0 0) = 101) (grd ((0 : Int) ≤ (w32 (19 + (w32 ((w32 (3 * a2)) + a6)))) ∧ (w32 (19 + (w32 ((w32 (3 * a2)) + a6)))) < kl ((up s7 ((up s5 (s5 l0 2) (w32 (10 + (w32 ((w32 (3 * a2)) + a6)))) 1) l0 0) (w32 (10 + (w32 ((w32 (3 * a2)) + a6)))) a8) l0 0)) (some (aU, up s9 ((up s7 ((up s5 (s5 l0 2) (w32 (10 + (w32 ((w32 (3 * a2)) + a6)))) 1) l0 0) (w32 (10 + (w32 ((w32 (3 * a2)) + a6)))) a8) l0 0) (w32 (19 + (w32 ((w32 (3 * a2)) + a6)))) a10))))))))))))))))))))) else sem 160 248 [aA l0, aI l1, aI l2, aU, aI l4, aU, aU] [] s := by
  refine (x_iload f160_151 rfl rfl).trans ?_
  refine (x_iconst f160_152 rfl).trans ?_
  refine (x_icmp_ne (tg := 248) f160_154 rfl rfl).trans (i_c ?_ ?_)
  · refine (x_iload f160_157 rfl rfl).trans ?_
    refine (x_if_eq (tg := 248) f160_158 rfl rfl).trans (i_c ?_ ?_)
    · exact x_kil f160_248 rfl
    · refine (x_aload f160_161 rfl rfl).trans ?_
      refine (x_dup f160_162 rfl rfl).trans ?_
      refine (x_get0 f160_163 rfl rfl).trans ?_
      refine g_c ?_
      refine (x_iconst f160_166 rfl).trans ?_
      refine (x_iadd f160_167 rfl).trans ?_
      refine (x_put0 f160_168 rfl rfl).trans ?_
      refine g_c ?_
      refine (x_aload f160_171 rfl rfl).trans ?_
      refine (x_iload f160_172 rfl rfl).trans ?_
      refine (x_invokevirtual (G := grd (kd l0 = 9) (bnI (sem 157 0 [aA l0, aI l3, aU] [] (up s l0 5 (w32 ((s l0 5) + 1)))) fun a2 s1 => sem 160 176 [aA l0, aI l1, aI l2, aI l3, aI l4, aU, aU] [aI a2] s1)) f160_173 rfl rfl).trans ?_
      refine g_c ?_
      refine bI_c fun a2 s1 => ?_
      refine (x_istore (l2 := [aA l0, aI l1, aI l2, aI l3, aI l4, aI a2, aU]) f160_176 rfl rfl).trans ?_
      refine (x_iconst f160_178 rfl).trans ?_
      refine (x_iload f160_179 rfl rfl).trans ?_
      refine (x_imul f160_181 rfl).trans ?_
      refine (x_aload f160_182 rfl rfl).trans ?_
      refine (x_aload f160_183 rfl rfl).trans ?_
      refine (x_iconst f160_184 rfl).trans ?_
      refine (x_iconst f160_186 rfl).trans ?_
      refine (x_iload f160_187 rfl rfl).trans ?_
      refine (x_imul f160_189 rfl).trans ?_
      refine (x_iadd f160_190 rfl).trans ?_
      refine (x_iconst f160_191 rfl).trans ?_
      refine (x_invokevirtual (G := grd (kd l0 = 9) (bnI (sem 158 0 [aA l0, aI (w32 (10 + (w32 (3 * a2)))), aI 3, aU, aU] [] s1) fun a4 s3 => sem 160 195 [aA l0, aI l1, aI l2, aI l3, aI l4, aI a2, aU] [aI a4, aA l0, aI (w32 (3 * a2))] s3)) f160_192 rfl rfl).trans ?_
      refine g_c ?_
      refine bI_c fun a4 s3 => ?_
      refine (x_invokevirtual (G := grd (kd l0 = 9) (bnI (sem 157 0 [aA l0, aI a4, aU] [] s3) fun a6 s5 => sem 160 198 [aA l0, aI l1, aI l2, aI l3, aI l4, aI a2, aU] [aI a6, aI (w32 (3 * a2))] s5)) f160_195 rfl rfl).trans ?_
      refine g_c ?_
      refine bI_c fun a6 s5 => ?_
      refine (x_iadd f160_198 rfl).trans ?_
      refine (x_istore (l2 := [aA l0, aI l1, aI l2, aI l3, aI l4, aI a2, aI (w32 ((w32 (3 * a2)) + a6))]) f160_199 rfl rfl).trans ?_
      refine (x_aload f160_201 rfl rfl).trans ?_
      refine (x_get2 f160_202 rfl rfl).trans ?_
      refine g_c ?_
      refine g_c ?_
      refine (x_iconst f160_205 rfl).trans ?_
      refine (x_iload f160_207 rfl rfl).trans ?_
      refine (x_iadd f160_209 rfl).trans ?_
      refine (x_iconst f160_210 rfl).trans ?_
      refine (x_bastore f160_211 rfl).trans ?_
      refine g_c ?_
      refine g_c ?_
      refine g_c ?_
      refine (x_aload f160_212 rfl rfl).trans ?_
      refine (x_get2 f160_213 rfl rfl).trans ?_
      refine g_c ?_
      refine g_c ?_
      refine (x_iconst f160_216 rfl).trans ?_
      refine (x_iload f160_218 rfl rfl).trans ?_
      refine (x_iadd f160_220 rfl).trans ?_
      refine (x_aload f160_221 rfl rfl).trans ?_
      refine (x_iconst f160_222 rfl).trans ?_
      refine (x_invokevirtual (G := grd (kd l0 = 9) (bnI (sem 157 0 [aA l0, aI 15, aU] [] (up s5 (s5 l0 2) (w32 (10 + (w32 ((w32 (3 * a2)) + a6)))) 1)) fun a8 s7 => sem 160 227 [aA l0, aI l1, aI l2, aI l3, aI l4, aI a2, aI (w32 ((w32 (3 * a2)) + a6))] [aI a8, aI (w32 (10 + (w32 ((w32 (3 * a2)) + a6)))), aA ((up s5 (s5 l0 2) (w32 (10 + (w32 ((w32 (3 * a2)) + a6)))) 1) l0 0)] s7)) f160_224 rfl rfl).trans ?_
      refine g_c ?_
      refine bI_c fun a8 s7 => ?_
      refine (x_iastore f160_227 rfl).trans ?_
      refine g_c ?_
      refine g_c ?_
      refine (x_aload f160_228 rfl rfl).trans ?_
      refine (x_get2 f160_229 rfl rfl).trans ?_
      refine g_c ?_
      refine g_c ?_
      refine (x_iconst f160_232 rfl).trans ?_
      refine (x_iload f160_234 rfl rfl).trans ?_
      refine (x_iadd f160_236 rfl).trans ?_
      refine (x_aload f160_237 rfl rfl).trans ?_
      refine (x_iconst f160_238 rfl).trans ?_
      refine (x_invokevirtual (G := grd (kd l0 = 9) (bnI (sem 157 0 [aA l0, aI 1023, aU] [] (up s7 ((up s5 (s5 l0 2) (w32 (10 + (w32 ((w32 (3 * a2)) + a6)))) 1) l0 0) (w32 (10 + (w32 ((w32 (3 * a2)) + a6)))) a8)) fun a10 s9 => sem 160 244 [aA l0, aI l1, aI l2, aI l3, aI l4, aI a2, aI (w32 ((w32 (3 * a2)) + a6))] [aI a10, aI (w32 (19 + (w32 ((w32 (3 * a2)) + a6)))), aA ((up s7 ((up s5 (s5 l0 2) (w32 (10 + (w32 ((w32 (3 * a2)) + a6)))) 1) l0 0) (w32 (10 + (w32 ((w32 (3 * a2)) + a6)))) a8) l0 0)] s9)) f160_241 rfl rfl).trans ?_
      refine g_c ?_
      refine bI_c fun a10 s9 => ?_
      refine (x_iastore f160_244 rfl).trans ?_
      refine g_c ?_
      refine g_c ?_
      refine (x_goto (tg := 407) f160_245 rfl rfl).trans ?_
      refine (x_kil (l2 := [aU, aU, aU, aU, aU, aU, aU]) f160_407 rfl).trans ?_
      exact x_return f160_407 rfl
  · exact x_kil f160_248 rfl
set_option maxRecDepth 10000 in
theorem e160_248 (l0 l1 l2 l4 : Int) (s : SG) : sem 160 248 [aA l0, aI l1, aI l2, aU, aI l4, aU, aU] [] s = if l1 = 71 then if (1 : Int) < l2 then grd (kd l0 = 9) (bnI (sem 158 0 [aA l0, aI 7, aI l2, aU, aU] [] s) fun a2 s1 => if a2 = 0 then sem 160 332 [aA l0, aU, aU, aU, aI l4, aU, aU] [] s1 else grd (kd l0 = 9) (grd (kd l0 = 9) (grd (kd l0 = 9) (bnI (sem 158 0 [aA l0, aI 7, aI l2, aU, aU] [] (up s1 l0 5 (w32 ((s1 l0 5) + 1)))) fun a4 s3 => grd (kd l0 = 9) (bnI (sem 157 0 [aA l0, aI a4, aU] [] s3) fun a6 s5 => grd (kd l0 = 9) (grd (0 ≤ s5 l0 2) (grd (kd (s5 l0 2) = 102) (grd ((0 : Int) ≤ (w32 (7 + a6)) ∧ (w32 (7 + a6)) < kl (s5 l0 2)) (grd ((1 : Int) = 0 ∨ (1 : Int) = 1) (grd (kd l0 = 9) (grd (0 ≤ (up s5 (s5 l0 2) (w32 (7 + a6)) 1) l0 0) (grd (kd l0 = 9) (bnI (sem 157 0 [aA l0, aI (iandA (w32 ((ishlA 1 l2) - 1)) (ixorA (ishlA 1 a6) ((-1)))), aU] [] (up s5 (s5 l0 2) (w32 (7 + a6)) 1)) fun a8 s7 => grd (kd ((up s5 (s5 l0 2) (w32 (7 + a6)) 1) l0 0) = 101) (grd ((0 : Int) ≤ (w32 (7 + a6)) ∧ (w32 (7 + a6)) < kl ((up s5 (s5 l0 2) (w32 (7 + a6)) 1) l0 0)) (some (aU, up s7 ((up s5 (s5 l0 2) (w32 (7 + a6)) 1) l0 0) (w32 (7 + a6)) a8)))))))))))))))) else sem 160 332 [aA l0, aU, aU, aU, aI l4, aU, aU] [] s else sem 160 332 [aA l0, aU, aU, aU, aI l4, aU, aU] [] s := by
  refine (x_iload f160_248 rfl rfl).trans ?_
  refine (x_iconst f160_249 rfl).trans ?_
  refine (x_icmp_ne (tg := 332) f160_251 rfl rfl).trans (i_c ?_ ?_)
  · refine (x_iload f160_254 rfl rfl).trans ?_
    refine (x_iconst f160_255 rfl).trans ?_
    refine (x_icmp_le (tg := 332) f160_256 rfl rfl).trans (i_c ?_ ?_)
    · refine (x_aload f160_259 rfl rfl).trans ?_
      refine (x_iconst f160_260 rfl).trans ?_
      refine (x_iload f160_262 rfl rfl).trans ?_
      refine (x_invokevirtual (G := grd (kd l0 = 9) (bnI (sem 158 0 [aA l0, aI 7, aI l2, aU, aU] [] s) fun a2 s1 => sem 160 266 [aA l0, aI l1, aI l2, aU, aI l4, aU, aU] [aI a2] s1)) f160_263 rfl rfl).trans ?_
      refine g_c ?_
      refine bI_c fun a2 s1 => ?_
      refine (x_if_eq (tg := 332) f160_266 rfl rfl).trans (i_c ?_ ?_)
      · exact x_kil f160_332 rfl
      · refine (x_aload f160_269 rfl rfl).trans ?_
        refine (x_dup f160_270 rfl rfl).trans ?_
        refine (x_get0 f160_271 rfl rfl).trans ?_
        refine g_c ?_
        refine (x_iconst f160_274 rfl).trans ?_
        refine (x_iadd f160_275 rfl).trans ?_
        refine (x_put0 f160_276 rfl rfl).trans ?_
        refine g_c ?_
        refine (x_aload f160_279 rfl rfl).trans ?_
        refine (x_aload f160_280 rfl rfl).trans ?_
        refine (x_iconst f160_281 rfl).trans ?_
        refine (x_iload f160_283 rfl rfl).trans ?_
        refine (x_invokevirtual (G := grd (kd l0 = 9) (bnI (sem 158 0 [aA l0, aI 7, aI l2, aU, aU] [] (up s1 l0 5 (w32 ((s1 l0 5) + 1)))) fun a4 s3 => sem 160 287 [aA l0, aI l1, aI l2, aU, aI l4, aU, aU] [aI a4, aA l0] s3)) f160_284 rfl rfl).trans ?_
        refine g_c ?_
        refine bI_c fun a4 s3 => ?_
        refine (x_invokevirtual (G := grd (kd l0 = 9) (bnI (sem 157 0 [aA l0, aI a4, aU] [] s3) fun a6 s5 => sem 160 290 [aA l0, aI l1, aI l2, aU, aI l4, aU, aU] [aI a6] s5)) f160_287 rfl rfl).trans ?_
        refine g_c ?_
        refine bI_c fun a6 s5 => ?_
        refine (x_istore (l2 := [aA l0, aI l1, aI l2, aU, aI l4, aI a6, aU]) f160_290 rfl rfl).trans ?_
        refine (x_aload f160_292 rfl rfl).trans ?_
        refine (x_get2 f160_293 rfl rfl).trans ?_
        refine g_c ?_
        refine g_c ?_
        refine (x_iconst f160_296 rfl).trans ?_
        refine (x_iload f160_298 rfl rfl).trans ?_
        refine (x_iadd f160_300 rfl).trans ?_
        refine (x_iconst f160_301 rfl).trans ?_
        refine (x_bastore f160_302 rfl).trans ?_
        refine g_c ?_
        refine g_c ?_
        refine g_c ?_
        refine (x_aload f160_303 rfl rfl).trans ?_
        refine (x_get2 f160_304 rfl rfl).trans ?_
        refine g_c ?_
        refine g_c ?_
        refine (x_iconst f160_307 rfl).trans ?_
        refine (x_iload f160_309 rfl rfl).trans ?_
        refine (x_iadd f160_311 rfl).trans ?_
        refine (x_aload f160_312 rfl rfl).trans ?_
        refine (x_iconst f160_313 rfl).trans ?_
        refine (x_iload f160_314 rfl rfl).trans ?_
        refine (x_ishl f160_315 rfl).trans ?_
        refine (x_iconst f160_316 rfl).trans ?_
        refine (x_isub f160_317 rfl).trans ?_
        refine (x_iconst f160_318 rfl).trans ?_
        refine (x_iload f160_319 rfl rfl).trans ?_
        refine (x_ishl f160_321 rfl).trans ?_
        refine (x_iconst f160_322 rfl).trans ?_
        refine (x_ixor f160_323 rfl).trans ?_
        refine (x_iand f160_324 rfl).trans ?_
        refine (x_invokevirtual (G := grd (kd l0 = 9) (bnI (sem 157 0 [aA l0, aI (iandA (w32 ((ishlA 1 l2) - 1)) (ixorA (ishlA 1 a6) ((-1)))), aU] [] (up s5 (s5 l0 2) (w32 (7 + a6)) 1)) fun a8 s7 => sem 160 328 [aA l0, aI l1, aI l2, aU, aI l4, aI a6, aU] [aI a8, aI (w32 (7 + a6)), aA ((up s5 (s5 l0 2) (w32 (7 + a6)) 1) l0 0)] s7)) f160_325 rfl rfl).trans ?_
        refine g_c ?_
        refine bI_c fun a8 s7 => ?_
        refine (x_iastore f160_328 rfl).trans ?_
        refine g_c ?_
        refine g_c ?_
        refine (x_goto (tg := 407) f160_329 rfl rfl).trans ?_
        refine (x_kil (l2 := [aU, aU, aU, aU, aU, aU, aU]) f160_407 rfl).trans ?_
        exact x_return f160_407 rfl
    · exact x_kil f160_332 rfl
  · exact x_kil f160_332 rfl
set_option maxRecDepth 10000 in
theorem e160_332 (l0 l4 : Int) (s : SG) : sem 160 332 [aA l0, aU, aU, aU, aI l4, aU, aU] [] s = if l4 = ((-9)) then grd (kd l0 = 9) (grd (kd l0 = 9) (some (aU, up s l0 6 (s l0 5)))) else grd (kd l0 = 9) (grd (0 ≤ s l0 2) (grd (kd (s l0 2) = 102) (grd ((0 : Int) ≤ l4 ∧ l4 < kl (s l0 2)) (if (s (s l0 2) l4) = 0 then grd (kd l0 = 9) (grd (kd l0 = 9) (grd (kd l0 = 9) (grd (0 ≤ (up s l0 5 (w32 ((s l0 5) + 1))) l0 2) (grd (kd ((up s l0 5 (w32 ((s l0 5) + 1))) l0 2) = 102) (grd ((0 : Int) ≤ l4 ∧ l4 < kl ((up s l0 5 (w32 ((s l0 5) + 1))) l0 2)) (grd ((1 : Int) = 0 ∨ (1 : Int) = 1) (grd (kd l0 = 9) (bnI (sem 157 0 [aA l0, aI 1023, aU] [] (up (up s l0 5 (w32 ((s l0 5) + 1))) ((up s l0 5 (w32 ((s l0 5) + 1))) l0 2) l4 1)) fun a2 s1 => grd (kd l0 = 9) (grd (0 ≤ s1 l0 0) (grd (kd l0 = 9) (bnI (sem 157 0 [aA l0, aI 1023, aU] [] s1) fun a4 s3 => grd (kd (s1 l0 0) = 101) (grd ((0 : Int) ≤ l4 ∧ l4 < kl (s1 l0 0)) (some (aU, up s3 (s1 l0 0) l4 (w32 ((w32 (10 * a2)) + a4)))))))))))))))) else grd (kd l0 = 9) (grd (kd l0 = 9) (some (aU, up s l0 6 (s l0 5)))))))) := by
  refine (x_iload f160_332 rfl rfl).trans ?_
  refine (x_iconst f160_334 rfl).trans ?_
  refine (x_icmp_eq (tg := 399) f160_336 rfl rfl).trans (i_c ?_ ?_)
  · refine (x_kil (l2 := [aA l0, aU, aU, aU, aU, aU, aU]) f160_399 rfl).trans ?_
    refine (x_aload f160_399 rfl rfl).trans ?_
    refine (x_aload f160_400 rfl rfl).trans ?_
    refine (x_get0 f160_401 rfl rfl).trans ?_
    refine g_c ?_
    refine (x_put0 f160_404 rfl rfl).trans ?_
    refine g_c ?_
    refine (x_kil (l2 := [aU, aU, aU, aU, aU, aU, aU]) f160_407 rfl).trans ?_
    exact x_return f160_407 rfl
  · refine (x_aload f160_339 rfl rfl).trans ?_
    refine (x_get2 f160_340 rfl rfl).trans ?_
    refine g_c ?_
    refine g_c ?_
    refine (x_iload f160_343 rfl rfl).trans ?_
    refine (x_baload f160_345 rfl).trans ?_
    refine g_c ?_
    refine g_c ?_
    refine (x_if_ne (tg := 399) f160_346 rfl rfl).trans (i_c ?_ ?_)
    · refine (x_aload f160_349 rfl rfl).trans ?_
      refine (x_dup f160_350 rfl rfl).trans ?_
      refine (x_get0 f160_351 rfl rfl).trans ?_
      refine g_c ?_
      refine (x_iconst f160_354 rfl).trans ?_
      refine (x_iadd f160_355 rfl).trans ?_
      refine (x_put0 f160_356 rfl rfl).trans ?_
      refine g_c ?_
      refine (x_aload f160_359 rfl rfl).trans ?_
      refine (x_get2 f160_360 rfl rfl).trans ?_
      refine g_c ?_
      refine g_c ?_
      refine (x_iload f160_363 rfl rfl).trans ?_
      refine (x_iconst f160_365 rfl).trans ?_
      refine (x_bastore f160_366 rfl).trans ?_
      refine g_c ?_
      refine g_c ?_
      refine g_c ?_
      refine (x_aload f160_367 rfl rfl).trans ?_
      refine (x_iconst f160_368 rfl).trans ?_
      refine (x_invokevirtual (G := grd (kd l0 = 9) (bnI (sem 157 0 [aA l0, aI 1023, aU] [] (up (up s l0 5 (w32 ((s l0 5) + 1))) ((up s l0 5 (w32 ((s l0 5) + 1))) l0 2) l4 1)) fun a2 s1 => sem 160 374 [aA l0, aU, aU, aU, aI l4, aU, aU] [aI a2] s1)) f160_371 rfl rfl).trans ?_
      refine g_c ?_
      refine bI_c fun a2 s1 => ?_
      refine (x_istore (l2 := [aA l0, aU, aU, aU, aI l4, aI a2, aU]) f160_374 rfl rfl).trans ?_
      refine (x_aload f160_376 rfl rfl).trans ?_
      refine (x_get2 f160_377 rfl rfl).trans ?_
      refine g_c ?_
      refine g_c ?_
      refine (x_iload f160_380 rfl rfl).trans ?_
      refine (x_iconst f160_382 rfl).trans ?_
      refine (x_iload f160_384 rfl rfl).trans ?_
      refine (x_imul f160_386 rfl).trans ?_
      refine (x_aload f160_387 rfl rfl).trans ?_
      refine (x_iconst f160_388 rfl).trans ?_
      refine (x_invokevirtual (G := grd (kd l0 = 9) (bnI (sem 157 0 [aA l0, aI 1023, aU] [] s1) fun a4 s3 => sem 160 394 [aA l0, aU, aU, aU, aI l4, aI a2, aU] [aI a4, aI (w32 (10 * a2)), aI l4, aA (s1 l0 0)] s3)) f160_391 rfl rfl).trans ?_
      refine g_c ?_
      refine bI_c fun a4 s3 => ?_
      refine (x_iadd f160_394 rfl).trans ?_
      refine (x_iastore f160_395 rfl).trans ?_
      refine g_c ?_
      refine g_c ?_
      refine (x_goto (tg := 407) f160_396 rfl rfl).trans ?_
      refine (x_kil (l2 := [aU, aU, aU, aU, aU, aU, aU]) f160_407 rfl).trans ?_
      exact x_return f160_407 rfl
    · refine (x_kil (l2 := [aA l0, aU, aU, aU, aU, aU, aU]) f160_399 rfl).trans ?_
      refine (x_aload f160_399 rfl rfl).trans ?_
      refine (x_aload f160_400 rfl rfl).trans ?_
      refine (x_get0 f160_401 rfl rfl).trans ?_
      refine g_c ?_
      refine (x_put0 f160_404 rfl rfl).trans ?_
      refine g_c ?_
      refine (x_kil (l2 := [aU, aU, aU, aU, aU, aU, aU]) f160_407 rfl).trans ?_
      exact x_return f160_407 rfl
theorem f161_0 : fch 161 0 = some (.aload 0, 1, []) := by decide +kernel
theorem f161_1 : fch 161 1 = some (.invokevirtual 159, 4, []) := by decide +kernel
theorem f161_4 : fch 161 4 = some (.ireturn, 5, []) := by decide +kernel
set_option maxRecDepth 10000 in
theorem e161_0 (l0 : Int) (s : SG) : sem 161 0 [aA l0] [] s = grd (kd l0 = 9) (bnI (sem 159 0 [aA l0] [] s) fun a2 s1 => some (aI a2, s1)) := by
  refine (x_aload f161_0 rfl rfl).trans ?_
  refine (x_invokevirtual (G := grd (kd l0 = 9) (bnI (sem 159 0 [aA l0] [] s) fun a2 s1 => sem 161 4 [aA l0] [aI a2] s1)) f161_1 rfl rfl).trans ?_
  refine g_c ?_
  refine bI_c fun a2 s1 => ?_
  exact x_ireturn f161_4 rfl
theorem f162_0 : fch 162 0 = some (.aload 0, 1, []) := by decide +kernel
theorem f162_1 : fch 162 1 = some (.invokevirtual 159, 4, []) := by decide +kernel
theorem f162_4 : fch 162 4 = some (.iconst (-9), 6, []) := by decide +kernel
theorem f162_6 : fch 162 6 = some (.if_icmp .eq 12, 9, []) := by decide +kernel
theorem f162_9 : fch 162 9 = some (.iconst (-3), 11, []) := by decide +kernel
theorem f162_11 : fch 162 11 = some (.ireturn, 12, []) := by decide +kernel
theorem f162_12 : fch 162 12 = some (.aload 0, 13, []) := by decide +kernel
theorem f162_13 : fch 162 13 = some (.invokevirtual 154, 16, []) := by decide +kernel
theorem f162_16 : fch 162 16 = some (.aload 0, 17, []) := by decide +kernel
theorem f162_17 : fch 162 17 = some (.invokeinterface 9 7, 20, []) := by decide +kernel
theorem f162_20 : fch 162 20 = some (.ireturn, 21, []) := by decide +kernel
set_option maxRecDepth 10000 in
theorem e162_0 (l0 : Int) (s : SG) : sem 162 0 [aA l0] [] s = grd (kd l0 = 9) (bnI (sem 159 0 [aA l0] [] s) fun a2 s1 => if a2 = ((-9)) then grd (kd l0 = 9) (bnV (sem 154 0 [aA l0, aU] [] s1) fun s3 => grd (kd l0 = 9) (some (aI (s3 l0 7), s3))) else some (aI ((-3)), s1)) := by
  refine (x_aload f162_0 rfl rfl).trans ?_
  refine (x_invokevirtual (G := grd (kd l0 = 9) (bnI (sem 159 0 [aA l0] [] s) fun a2 s1 => sem 162 4 [aA l0] [aI a2] s1)) f162_1 rfl rfl).trans ?_
  refine g_c ?_
  refine bI_c fun a2 s1 => ?_
  refine (x_iconst f162_4 rfl).trans ?_
  refine (x_icmp_eq (tg := 12) f162_6 rfl rfl).trans (i_c ?_ ?_)
  · refine (x_aload f162_12 rfl rfl).trans ?_
    refine (x_invokevirtual (G := grd (kd l0 = 9) (bnV (sem 154 0 [aA l0, aU] [] s1) fun s3 => sem 162 16 [aA l0] [] s3)) f162_13 rfl rfl).trans ?_
    refine g_c ?_
    refine bV_c fun s3 => ?_
    refine (x_aload f162_16 rfl rfl).trans ?_
    refine (x_get0 f162_17 rfl rfl).trans ?_
    refine g_c ?_
    exact x_ireturn f162_20 rfl
  · refine (x_iconst f162_9 rfl).trans ?_
    exact x_ireturn f162_11 rfl
theorem f163_0 : fch 163 0 = some (.iload 1, 1, []) := by decide +kernel
theorem f163_1 : fch 163 1 = some (.i2l, 2, []) := by decide +kernel
theorem f163_2 : fch 163 2 = some (.sipush 0, 3, []) := by decide +kernel
theorem f163_3 : fch 163 3 = some (.aload 0, 4, []) := by decide +kernel
theorem f163_4 : fch 163 4 = some (.invokeinterface 9 1, 7, []) := by decide +kernel
theorem f163_7 : fch 163 7 = some (.iconst 0, 8, []) := by decide +kernel
theorem f163_8 : fch 163 8 = some (.iaload, 9, []) := by decide +kernel
theorem f163_9 : fch 163 9 = some (.iconst 1, 10, []) := by decide +kernel
theorem f163_10 : fch 163 10 = some (.isub, 11, []) := by decide +kernel
theorem f163_11 : fch 163 11 = some (.i2l, 12, []) := by decide +kernel
theorem f163_12 : fch 163 12 = some (.invokestatic 152, 15, []) := by decide +kernel
theorem f163_15 : fch 163 15 = some (.ireturn, 16, []) := by decide +kernel
set_option maxRecDepth 10000 in
theorem e163_0 (l0 l1 : Int) (s : SG) : sem 163 0 [aA l0, aI l1] [] s = grd (kd l0 = 9) (grd (0 ≤ s l0 1) (grd (kd (s l0 1) = 101) (grd ((0 : Int) ≤ 0 ∧ 0 < kl (s l0 1)) (bnI (sem 152 0 [aL l1, aU, aL 0, aU, aL (w32 ((s (s l0 1) 0) - 1)), aU] [] s) fun a2 s1 => grd (a2 = 0 ∨ a2 = 1) (some (aI a2, s1)))))) := by
  refine (x_iload f163_0 rfl rfl).trans ?_
  refine (x_i2l f163_1 rfl).trans ?_
  refine (x_lconst f163_2 rfl).trans ?_
  refine (x_aload f163_3 rfl rfl).trans ?_
  refine (x_get2 f163_4 rfl rfl).trans ?_
  refine g_c ?_
  refine g_c ?_
  refine (x_iconst f163_7 rfl).trans ?_
  refine (x_iaload f163_8 rfl).trans ?_
  refine g_c ?_
  refine g_c ?_
  refine (x_iconst f163_9 rfl).trans ?_
  refine (x_isub f163_10 rfl).trans ?_
  refine (x_i2l f163_11 rfl).trans ?_
  refine (x_invokestatic (G := bnI (sem 152 0 [aL l1, aU, aL 0, aU, aL (w32 ((s (s l0 1) 0) - 1)), aU] [] s) fun a2 s1 => sem 163 15 [aA l0, aI l1] [aI a2] s1) f163_12 rfl rfl).trans ?_
  refine bI_c fun a2 s1 => ?_
  exact x_zreturn f163_15 rfl
theorem f164_0 : fch 164 0 = some (.iload 0, 1, []) := by decide +kernel
theorem f164_1 : fch 164 1 = some (.i2l, 2, []) := by decide +kernel
theorem f164_2 : fch 164 2 = some (.sipush 0, 3, []) := by decide +kernel
theorem f164_3 : fch 164 3 = some (.sipush 2, 6, []) := by decide +kernel
theorem f164_6 : fch 164 6 = some (.invokestatic 152, 9, []) := by decide +kernel
theorem f164_9 : fch 164 9 = some (.ireturn, 10, []) := by decide +kernel
set_option maxRecDepth 10000 in
theorem e164_0 (l0 : Int) (s : SG) : sem 164 0 [aI l0] [] s = bnI (sem 152 0 [aL l0, aU, aL 0, aU, aL 2, aU] [] s) fun a2 s1 => grd (a2 = 0 ∨ a2 = 1) (some (aI a2, s1)) := by
  refine (x_iload f164_0 rfl rfl).trans ?_
  refine (x_i2l f164_1 rfl).trans ?_
  refine (x_lconst f164_2 rfl).trans ?_
  refine (x_lconst f164_3 rfl).trans ?_
  refine (x_invokestatic (G := bnI (sem 152 0 [aL l0, aU, aL 0, aU, aL 2, aU] [] s) fun a2 s1 => sem 164 9 [aI l0] [aI a2] s1) f164_6 rfl rfl).trans ?_
  refine bI_c fun a2 s1 => ?_
  exact x_zreturn f164_9 rfl
theorem f165_0 : fch 165 0 = some (.aload 0, 1, []) := by decide +kernel
theorem f165_1 : fch 165 1 = some (.iload 1, 2, []) := by decide +kernel
theorem f165_2 : fch 165 2 = some (.invokevirtual 163, 5, []) := by decide +kernel
theorem f165_5 : fch 165 5 = some (.ifCond .eq 15, 8, []) := by decide +kernel
theorem f165_8 : fch 165 8 = some (.iload 2, 9, []) := by decide +kernel
theorem f165_9 : fch 165 9 = some (.invokestatic 164, 12, []) := by decide +kernel
theorem f165_12 : fch 165 12 = some (.ifCond .ne 17, 15, []) := by decide +kernel
theorem f165_15 : fch 165 15 = some (.iconst (-1), 16, [0, 1, 2, 3]) := by decide +kernel
theorem f165_16 : fch 165 16 = some (.ireturn, 17, []) := by decide +kernel
theorem f165_17 : fch 165 17 = some (.iload 3, 18, []) := by decide +kernel
theorem f165_18 : fch 165 18 = some (.ifCond .ne 37, 21, []) := by decide +kernel
theorem f165_21 : fch 165 21 = some (.aload 0, 22, []) := by decide +kernel
theorem f165_22 : fch 165 22 = some (.invokeinterface 9 1, 25, []) := by decide +kernel
theorem f165_25 : fch 165 25 = some (.iconst 10, 27, []) := by decide +kernel
theorem f165_27 : fch 165 27 = some (.iconst 3, 28, []) := by decide +kernel
theorem f165_28 : fch 165 28 = some (.iload 1, 29, []) := by decide +kernel
theorem f165_29 : fch 165 29 = some (.imul, 30, []) := by decide +kernel
theorem f165_30 : fch 165 30 = some (.iadd, 31, []) := by decide +kernel
theorem f165_31 : fch 165 31 = some (.iload 2, 32, []) := by decide +kernel
theorem f165_32 : fch 165 32 = some (.iadd, 33, []) := by decide +kernel
theorem f165_33 : fch 165 33 = some (.iaload, 34, []) := by decide +kernel
theorem f165_34 : fch 165 34 = some (.goto 60, 37, []) := by decide +kernel
theorem f165_37 : fch 165 37 = some (.iload 3, 38, []) := by decide +kernel
theorem f165_38 : fch 165 38 = some (.iconst 1, 39, []) := by decide +kernel
theorem f165_39 : fch 165 39 = some (.if_icmp .ne 58, 42, []) := by decide +kernel
theorem f165_42 : fch 165 42 = some (.aload 0, 43, []) := by decide +kernel
theorem f165_43 : fch 165 43 = some (.invokeinterface 9 1, 46, []) := by decide +kernel
theorem f165_46 : fch 165 46 = some (.iconst 19, 48, []) := by decide +kernel
theorem f165_48 : fch 165 48 = some (.iconst 3, 49, []) := by decide +kernel
theorem f165_49 : fch 165 49 = some (.iload 1, 50, []) := by decide +kernel
theorem f165_50 : fch 165 50 = some (.imul, 51, []) := by decide +kernel
theorem f165_51 : fch 165 51 = some (.iadd, 52, []) := by decide +kernel
theorem f165_52 : fch 165 52 = some (.iload 2, 53, []) := by decide +kernel
theorem f165_53 : fch 165 53 = some (.iadd, 54, []) := by decide +kernel
theorem f165_54 : fch 165 54 = some (.iaload, 55, []) := by decide +kernel
theorem f165_55 : fch 165 55 = some (.goto 60, 58, []) := by decide +kernel
theorem f165_58 : fch 165 58 = some (.iconst (-2), 60, []) := by decide +kernel
theorem f165_60 : fch 165 60 = some (.ireturn, 61, [0, 1, 2, 3]) := by decide +kernel
set_option maxRecDepth 10000 in
theorem e165_0 (l0 l1 l2 l3 : Int) (s : SG) : sem 165 0 [aA l0, aI l1, aI l2, aI l3] [] s = grd (kd l0 = 9) (bnI (sem 163 0 [aA l0, aI l1] [] s) fun a2 s1 => if a2 = 0 then some (aI ((-1)), s1) else bnI (sem 164 0 [aI l2] [] s1) fun a4 s3 => if a4 = 0 then some (aI ((-1)), s3) else if l3 = 0 then grd (kd l0 = 9) (grd (0 ≤ s3 l0 1) (grd (kd (s3 l0 1) = 101) (grd ((0 : Int) ≤ (w32 ((w32 (10 + (w32 (3 * l1)))) + l2)) ∧ (w32 ((w32 (10 + (w32 (3 * l1)))) + l2)) < kl (s3 l0 1)) (some (aI (s3 (s3 l0 1) (w32 ((w32 (10 + (w32 (3 * l1)))) + l2))), s3))))) else if l3 = 1 then grd (kd l0 = 9) (grd (0 ≤ s3 l0 1) (grd (kd (s3 l0 1) = 101) (grd ((0 : Int) ≤ (w32 ((w32 (19 + (w32 (3 * l1)))) + l2)) ∧ (w32 ((w32 (19 + (w32 (3 * l1)))) + l2)) < kl (s3 l0 1)) (some (aI (s3 (s3 l0 1) (w32 ((w32 (19 + (w32 (3 * l1)))) + l2))), s3))))) else some (aI ((-2)), s3)) := by
  refine (x_aload f165_0 rfl rfl).trans ?_
  refine (x_iload f165_1 rfl rfl).trans ?_
  refine (x_invokevirtual (G := grd (kd l0 = 9) (bnI (sem 163 0 [aA l0, aI l1] [] s) fun a2 s1 => sem 165 5 [aA l0, aI l1, aI l2, aI l3] [aI a2] s1)) f165_2 rfl rfl).trans ?_
  refine g_c ?_
  refine bI_c fun a2 s1 => ?_
  refine (x_if_eq (tg := 15) f165_5 rfl rfl).trans (i_c ?_ ?_)
  · refine (x_kil (l2 := [aU, aU, aU, aU]) f165_15 rfl).trans ?_
    refine (x_iconst f165_15 rfl).trans ?_
    exact x_ireturn f165_16 rfl
  · refine (x_iload f165_8 rfl rfl).trans ?_
    refine (x_invokestatic (G := bnI (sem 164 0 [aI l2] [] s1) fun a4 s3 => sem 165 12 [aA l0, aI l1, aI l2, aI l3] [aI a4] s3) f165_9 rfl rfl).trans ?_
    refine bI_c fun a4 s3 => ?_
    refine (x_if_ne (tg := 17) f165_12 rfl rfl).trans (i_c ?_ ?_)
    · refine (x_kil (l2 := [aU, aU, aU, aU]) f165_15 rfl).trans ?_
      refine (x_iconst f165_15 rfl).trans ?_
      exact x_ireturn f165_16 rfl
    · refine (x_iload f165_17 rfl rfl).trans ?_
      refine (x_if_ne (tg := 37) f165_18 rfl rfl).trans (i_c ?_ ?_)
      · refine (x_aload f165_21 rfl rfl).trans ?_
        refine (x_get2 f165_22 rfl rfl).trans ?_
        refine g_c ?_
        refine g_c ?_
        refine (x_iconst f165_25 rfl).trans ?_
        refine (x_iconst f165_27 rfl).trans ?_
        refine (x_iload f165_28 rfl rfl).trans ?_
        refine (x_imul f165_29 rfl).trans ?_
        refine (x_iadd f165_30 rfl).trans ?_
        refine (x_iload f165_31 rfl rfl).trans ?_
        refine (x_iadd f165_32 rfl).trans ?_
        refine (x_iaload f165_33 rfl).trans ?_
        refine g_c ?_
        refine g_c ?_
        refine (x_goto (tg := 60) f165_34 rfl rfl).trans ?_
        refine (x_kil (l2 := [aU, aU, aU, aU]) f165_60 rfl).trans ?_
        exact x_ireturn f165_60 rfl
      · refine (x_iload f165_37 rfl rfl).trans ?_
        refine (x_iconst f165_38 rfl).trans ?_
        refine (x_icmp_ne (tg := 58) f165_39 rfl rfl).trans (i_c ?_ ?_)
        · refine (x_aload f165_42 rfl rfl).trans ?_
          refine (x_get2 f165_43 rfl rfl).trans ?_
          refine g_c ?_
          refine g_c ?_
          refine (x_iconst f165_46 rfl).trans ?_
          refine (x_iconst f165_48 rfl).trans ?_
          refine (x_iload f165_49 rfl rfl).trans ?_
          refine (x_imul f165_50 rfl).trans ?_
          refine (x_iadd f165_51 rfl).trans ?_
          refine (x_iload f165_52 rfl rfl).trans ?_
          refine (x_iadd f165_53 rfl).trans ?_
          refine (x_iaload f165_54 rfl).trans ?_
          refine g_c ?_
          refine g_c ?_
          refine (x_goto (tg := 60) f165_55 rfl rfl).trans ?_
          refine (x_kil (l2 := [aU, aU, aU, aU]) f165_60 rfl).trans ?_
          exact x_ireturn f165_60 rfl
        · refine (x_iconst f165_58 rfl).trans ?_
          refine (x_kil (l2 := [aU, aU, aU, aU]) f165_60 rfl).trans ?_
          exact x_ireturn f165_60 rfl
theorem f166_0 : fch 166 0 = some (.iload 1, 1, []) := by decide +kernel
theorem f166_1 : fch 166 1 = some (.i2l, 2, []) := by decide +kernel
theorem f166_2 : fch 166 2 = some (.sipush 0, 3, []) := by decide +kernel
theorem f166_3 : fch 166 3 = some (.sipush 9, 6, []) := by decide +kernel
theorem f166_6 : fch 166 6 = some (.invokestatic 152, 9, []) := by decide +kernel
theorem f166_9 : fch 166 9 = some (.ifCond .ne 15, 12, []) := by decide +kernel
theorem f166_12 : fch 166 12 = some (.iconst (-2), 14, []) := by decide +kernel
theorem f166_14 : fch 166 14 = some (.ireturn, 15, []) := by decide +kernel
theorem f166_15 : fch 166 15 = some (.iload 1, 16, []) := by decide +kernel
theorem f166_16 : fch 166 16 = some (.iconst 6, 18, []) := by decide +kernel
theorem f166_18 : fch 166 18 = some (.if_icmp .le 36, 21, []) := by decide +kernel
theorem f166_21 : fch 166 21 = some (.aload 0, 22, []) := by decide +kernel
theorem f166_22 : fch 166 22 = some (.iload 1, 23, []) := by decide +kernel
theorem f166_23 : fch 166 23 = some (.iconst 7, 25, []) := by decide +kernel
theorem f166_25 : fch 166 25 = some (.isub, 26, []) := by decide +kernel
theorem f166_26 : fch 166 26 = some (.invokevirtual 163, 29, []) := by decide +kernel
theorem f166_29 : fch 166 29 = some (.ifCond .ne 36, 32, []) := by decide +kernel
theorem f166_32 : fch 166 32 = some (.iconst (-1), 33, []) := by decide +kernel
theorem f166_33 : fch 166 33 = some (.goto 42, 36, []) := by decide +kernel
theorem f166_36 : fch 166 36 = some (.aload 0, 37, []) := by decide +kernel
theorem f166_37 : fch 166 37 = some (.invokeinterface 9 1, 40, []) := by decide +kernel
theorem f166_40 : fch 166 40 = some (.iload 1, 41, []) := by decide +kernel
theorem f166_41 : fch 166 41 = some (.iaload, 42, []) := by decide +kernel
theorem f166_42 : fch 166 42 = some (.ireturn, 43, [0, 1]) := by decide +kernel
set_option maxRecDepth 10000 in
theorem e166_0 (l0 l1 : Int) (s : SG) : sem 166 0 [aA l0, aI l1] [] s = bnI (sem 152 0 [aL l1, aU, aL 0, aU, aL 9, aU] [] s) fun a2 s1 => if a2 = 0 then some (aI ((-2)), s1) else if (6 : Int) < l1 then grd (kd l0 = 9) (bnI (sem 163 0 [aA l0, aI (w32 (l1 - 7))] [] s1) fun a4 s3 => if a4 = 0 then some (aI ((-1)), s3) else grd (kd l0 = 9) (grd (0 ≤ s3 l0 1) (grd (kd (s3 l0 1) = 101) (grd ((0 : Int) ≤ l1 ∧ l1 < kl (s3 l0 1)) (some (aI (s3 (s3 l0 1) l1), s3)))))) else grd (kd l0 = 9) (grd (0 ≤ s1 l0 1) (grd (kd (s1 l0 1) = 101) (grd ((0 : Int) ≤ l1 ∧ l1 < kl (s1 l0 1)) (some (aI (s1 (s1 l0 1) l1), s1))))) := by
  refine (x_iload f166_0 rfl rfl).trans ?_
  refine (x_i2l f166_1 rfl).trans ?_
  refine (x_lconst f166_2 rfl).trans ?_
  refine (x_lconst f166_3 rfl).trans ?_
  refine (x_invokestatic (G := bnI (sem 152 0 [aL l1, aU, aL 0, aU, aL 9, aU] [] s) fun a2 s1 => sem 166 9 [aA l0, aI l1] [aI a2] s1) f166_6 rfl rfl).trans ?_
  refine bI_c fun a2 s1 => ?_
  refine (x_if_ne (tg := 15) f166_9 rfl rfl).trans (i_c ?_ ?_)
  · refine (x_iconst f166_12 rfl).trans ?_
    exact x_ireturn f166_14 rfl
  · refine (x_iload f166_15 rfl rfl).trans ?_
    refine (x_iconst f166_16 rfl).trans ?_
    refine (x_icmp_le (tg := 36) f166_18 rfl rfl).trans (i_c ?_ ?_)
    · refine (x_aload f166_21 rfl rfl).trans ?_
      refine (x_iload f166_22 rfl rfl).trans ?_
      refine (x_iconst f166_23 rfl).trans ?_
      refine (x_isub f166_25 rfl).trans ?_
      refine (x_invokevirtual (G := grd (kd l0 = 9) (bnI (sem 163 0 [aA l0, aI (w32 (l1 - 7))] [] s1) fun a4 s3 => sem 166 29 [aA l0, aI l1] [aI a4] s3)) f166_26 rfl rfl).trans ?_
      refine g_c ?_
      refine bI_c fun a4 s3 => ?_
      refine (x_if_ne (tg := 36) f166_29 rfl rfl).trans (i_c ?_ ?_)
      · refine (x_iconst f166_32 rfl).trans ?_
        refine (x_goto (tg := 42) f166_33 rfl rfl).trans ?_
        refine (x_kil (l2 := [aU, aU]) f166_42 rfl).trans ?_
        exact x_ireturn f166_42 rfl
      · refine (x_aload f166_36 rfl rfl).trans ?_
        refine (x_get2 f166_37 rfl rfl).trans ?_
        refine g_c ?_
        refine g_c ?_
        refine (x_iload f166_40 rfl rfl).trans ?_
        refine (x_iaload f166_41 rfl).trans ?_
        refine g_c ?_
        refine g_c ?_
        refine (x_kil (l2 := [aU, aU]) f166_42 rfl).trans ?_
        exact x_ireturn f166_42 rfl
    · refine (x_aload f166_36 rfl rfl).trans ?_
      refine (x_get2 f166_37 rfl rfl).trans ?_
      refine g_c ?_
      refine g_c ?_
      refine (x_iload f166_40 rfl rfl).trans ?_
      refine (x_iaload f166_41 rfl).trans ?_
      refine g_c ?_
      refine g_c ?_
      refine (x_kil (l2 := [aU, aU]) f166_42 rfl).trans ?_
      exact x_ireturn f166_42 rfl
theorem f167_0 : fch 167 0 = some (.sipush 1000000, 3, []) := by decide +kernel
theorem f167_3 : fch 167 3 = some (.aload 0, 4, []) := by decide +kernel
theorem f167_4 : fch 167 4 = some (.invokeinterface 9 1, 7, []) := by decide +kernel
theorem f167_7 : fch 167 7 = some (.iconst 1, 8, []) := by decide +kernel
theorem f167_8 : fch 167 8 = some (.iaload, 9, []) := by decide +kernel
theorem f167_9 : fch 167 9 = some (.aload 0, 10, []) := by decide +kernel
theorem f167_10 : fch 167 10 = some (.invokeinterface 9 1, 13, []) := by decide +kernel
theorem f167_13 : fch 167 13 = some (.iconst 2, 14, []) := by decide +kernel
theorem f167_14 : fch 167 14 = some (.iaload, 15, []) := by decide +kernel
theorem f167_15 : fch 167 15 = some (.iadd, 16, []) := by decide +kernel
theorem f167_16 : fch 167 16 = some (.aload 0, 17, []) := by decide +kernel
theorem f167_17 : fch 167 17 = some (.invokeinterface 9 1, 20, []) := by decide +kernel
theorem f167_20 : fch 167 20 = some (.iconst 3, 21, []) := by decide +kernel
theorem f167_21 : fch 167 21 = some (.iaload, 22, []) := by decide +kernel
theorem f167_22 : fch 167 22 = some (.iadd, 23, []) := by decide +kernel
theorem f167_23 : fch 167 23 = some (.i2l, 24, []) := by decide +kernel
theorem f167_24 : fch 167 24 = some (.lmul, 25, []) := by decide +kernel
theorem f167_25 : fch 167 25 = some (.lreturn, 26, []) := by decide +kernel
set_option maxRecDepth 10000 in
theorem e167_0 (l0 : Int) (s : SG) : sem 167 0 [aA l0] [] s = grd (kd l0 = 9) (grd (0 ≤ s l0 1) (grd (kd (s l0 1) = 101) (grd ((0 : Int) ≤ 1 ∧ 1 < kl (s l0 1)) (grd (kd l0 = 9) (grd (0 ≤ s l0 1) (grd (kd (s l0 1) = 101) (grd ((0 : Int) ≤ 2 ∧ 2 < kl (s l0 1)) (grd (kd l0 = 9) (grd (0 ≤ s l0 1) (grd (kd (s l0 1) = 101) (grd ((0 : Int) ≤ 3 ∧ 3 < kl (s l0 1)) (some (aL (w64 (1000000 * (w32 ((w32 ((s (s l0 1) 1) + (s (s l0 1) 2))) + (s (s l0 1) 3))))), s))))))))))))) := by
  refine (x_lconst f167_0 rfl).trans ?_
  refine (x_aload f167_3 rfl rfl).trans ?_
  refine (x_get2 f167_4 rfl rfl).trans ?_
  refine g_c ?_
  refine g_c ?_
  refine (x_iconst f167_7 rfl).trans ?_
  refine (x_iaload f167_8 rfl).trans ?_
  refine g_c ?_
  refine g_c ?_
  refine (x_aload f167_9 rfl rfl).trans ?_
  refine (x_get2 f167_10 rfl rfl).trans ?_
  refine g_c ?_
  refine g_c ?_
  refine (x_iconst f167_13 rfl).trans ?_
  refine (x_iaload f167_14 rfl).trans ?_
  refine g_c ?_
  refine g_c ?_
  refine (x_iadd f167_15 rfl).trans ?_
  refine (x_aload f167_16 rfl rfl).trans ?_
  refine (x_get2 f167_17 rfl rfl).trans ?_
  refine g_c ?_
  refine g_c ?_
  refine (x_iconst f167_20 rfl).trans ?_
  refine (x_iaload f167_21 rfl).trans ?_
  refine g_c ?_
  refine g_c ?_
  refine (x_iadd f167_22 rfl).trans ?_
  refine (x_i2l f167_23 rfl).trans ?_
  refine (x_lmul f167_24 rfl).trans ?_
  exact x_lreturn f167_25 rfl
theorem f168_0 : fch 168 0 = some (.aload 0, 1, []) := by decide +kernel
theorem f168_1 : fch 168 1 = some (.invokeinterface 9 1, 4, []) := by decide +kernel
theorem f168_4 : fch 168 4 = some (.iconst 19, 6, []) := by decide +kernel
theorem f168_6 : fch 168 6 = some (.iconst 3, 7, []) := by decide +kernel
theorem f168_7 : fch 168 7 = some (.iload 1, 8, []) := by decide +kernel
theorem f168_8 : fch 168 8 = some (.imul, 9, []) := by decide +kernel
theorem f168_9 : fch 168 9 = some (.iadd, 10, []) := by decide +kernel
theorem f168_10 : fch 168 10 = some (.iload 2, 11, []) := by decide +kernel
theorem f168_11 : fch 168 11 = some (.iadd, 12, []) := by decide +kernel
theorem f168_12 : fch 168 12 = some (.iaload, 13, []) := by decide +kernel
theorem f168_13 : fch 168 13 = some (.istore 4, 15, []) := by decide +kernel
theorem f168_15 : fch 168 15 = some (.sipush 1, 16, []) := by decide +kernel
theorem f168_16 : fch 168 16 = some (.lstore 5, 18, []) := by decide +kernel
theorem f168_18 : fch 168 18 = some (.iconst 0, 19, []) := by decide +kernel
theorem f168_19 : fch 168 19 = some (.istore 7, 21, []) := by decide +kernel
theorem f168_21 : fch 168 21 = some (.iload 7, 23, [0, 1, 2]) := by decide +kernel
theorem f168_23 : fch 168 23 = some (.iconst 6, 25, []) := by decide +kernel
theorem f168_25 : fch 168 25 = some (.if_icmp .ge 57, 28, []) := by decide +kernel
theorem f168_28 : fch 168 28 = some (.lload 5, 30, []) := by decide +kernel
theorem f168_30 : fch 168 30 = some (.iload 7, 32, []) := by decide +kernel
theorem f168_32 : fch 168 32 = some (.iload 3, 33, []) := by decide +kernel
theorem f168_33 : fch 168 33 = some (.if_icmp .ge 42, 36, []) := by decide +kernel
theorem f168_36 : fch 168 36 = some (.iload 4, 38, []) := by decide +kernel
theorem f168_38 : fch 168 38 = some (.i2l, 39, []) := by decide +kernel
theorem f168_39 : fch 168 39 = some (.goto 48, 42, []) := by decide +kernel
theorem f168_42 : fch 168 42 = some (.iconst 10, 44, []) := by decide +kernel
theorem f168_44 : fch 168 44 = some (.iload 4, 46, []) := by decide +kernel
theorem f168_46 : fch 168 46 = some (.isub, 47, []) := by decide +kernel
theorem f168_47 : fch 168 47 = some (.i2l, 48, []) := by decide +kernel
theorem f168_48 : fch 168 48 = some (.lmul, 49, [0, 1, 2, 5]) := by decide +kernel
theorem f168_49 : fch 168 49 = some (.lstore 5, 51, []) := by decide +kernel
theorem f168_51 : fch 168 51 = some (.iinc 7 1, 54, []) := by decide +kernel
theorem f168_54 : fch 168 54 = some (.goto 21, 57, []) := by decide +kernel
theorem f168_57 : fch 168 57 = some (.iload 3, 58, []) := by decide +kernel
theorem f168_58 : fch 168 58 = some (.ifCond .eq 67, 61, []) := by decide +kernel
theorem f168_61 : fch 168 61 = some (.iload 3, 62, []) := by decide +kernel
theorem f168_62 : fch 168 62 = some (.iconst 6, 64, []) := by decide +kernel
theorem f168_64 : fch 168 64 = some (.if_icmp .ne 71, 67, []) := by decide +kernel
theorem f168_67 : fch 168 67 = some (.sipush 1, 68, [0, 1, 2, 3, 4, 7]) := by decide +kernel
theorem f168_68 : fch 168 68 = some (.goto 101, 71, []) := by decide +kernel
theorem f168_71 : fch 168 71 = some (.iload 3, 72, []) := by decide +kernel
theorem f168_72 : fch 168 72 = some (.iconst 1, 73, []) := by decide +kernel
theorem f168_73 : fch 168 73 = some (.if_icmp .eq 81, 76, []) := by decide +kernel
theorem f168_76 : fch 168 76 = some (.iload 3, 77, []) := by decide +kernel
theorem f168_77 : fch 168 77 = some (.iconst 5, 78, []) := by decide +kernel
theorem f168_78 : fch 168 78 = some (.if_icmp .ne 87, 81, []) := by decide +kernel
theorem f168_81 : fch 168 81 = some (.sipush 6, 84, [0, 1, 2, 3, 4, 7]) := by decide +kernel
theorem f168_84 : fch 168 84 = some (.goto 101, 87, []) := by decide +kernel
theorem f168_87 : fch 168 87 = some (.iload 3, 88, []) := by decide +kernel
theorem f168_88 : fch 168 88 = some (.iconst 3, 89, []) := by decide +kernel
theorem f168_89 : fch 168 89 = some (.if_icmp .ne 98, 92, []) := by decide +kernel
theorem f168_92 : fch 168 92 = some (.sipush 20, 95, []) := by decide +kernel
theorem f168_95 : fch 168 95 = some (.goto 101, 98, []) := by decide +kernel
theorem f168_98 : fch 168 98 = some (.sipush 15, 101, []) := by decide +kernel
theorem f168_101 : fch 168 101 = some (.lstore 7, 103, [0, 1, 2, 3, 4, 7]) := by decide +kernel
theorem f168_103 : fch 168 103 = some (.lload 5, 105, []) := by decide +kernel
theorem f168_105 : fch 168 105 = some (.lload 7, 107, []) := by decide +kernel
theorem f168_107 : fch 168 107 = some (.lmul, 108, []) := by decide +kernel
theorem f168_108 : fch 168 108 = some (.lreturn, 109, []) := by decide +kernel
set_option maxRecDepth 10000 in
theorem e168_0 (l0 l1 l2 l3 : Int) (s : SG) : sem 168 0 [aA l0, aI l1, aI l2, aI l3, aU, aU, aU, aU, aU] [] s = grd (kd l0 = 9) (grd (0 ≤ s l0 1) (grd (kd (s l0 1) = 101) (grd ((0 : Int) ≤ (w32 ((w32 (19 + (w32 (3 * l1)))) + l2)) ∧ (w32 ((w32 (19 + (w32 (3 * l1)))) + l2)) < kl (s l0 1)) (sem 168 21 [aU, aU, aU, aI l3, aI (s (s l0 1) (w32 ((w32 (19 + (w32 (3 * l1)))) + l2))), aL 1, aU, aI 0, aU] [] s)))) := by
  refine (x_aload f168_0 rfl rfl).trans ?_
  refine (x_get2 f168_1 rfl rfl).trans ?_
  refine g_c ?_
  refine g_c ?_
  refine (x_iconst f168_4 rfl).trans ?_
  refine (x_iconst f168_6 rfl).trans ?_
  refine (x_iload f168_7 rfl rfl).trans ?_
  refine (x_imul f168_8 rfl).trans ?_
  refine (x_iadd f168_9 rfl).trans ?_
  refine (x_iload f168_10 rfl rfl).trans ?_
  refine (x_iadd f168_11 rfl).trans ?_
  refine (x_iaload f168_12 rfl).trans ?_
  refine g_c ?_
  refine g_c ?_
  refine (x_istore (l2 := [aA l0, aI l1, aI l2, aI l3, aI (s (s l0 1) (w32 ((w32 (19 + (w32 (3 * l1)))) + l2))), aU, aU, aU, aU]) f168_13 rfl rfl).trans ?_
  refine (x_lconst f168_15 rfl).trans ?_
  refine (x_lstore (l2 := [aA l0, aI l1, aI l2, aI l3, aI (s (s l0 1) (w32 ((w32 (19 + (w32 (3 * l1)))) + l2))), aL 1, aU, aU, aU]) f168_16 rfl rfl).trans ?_
  refine (x_iconst f168_18 rfl).trans ?_
  refine (x_istore (l2 := [aA l0, aI l1, aI l2, aI l3, aI (s (s l0 1) (w32 ((w32 (19 + (w32 (3 * l1)))) + l2))), aL 1, aU, aI 0, aU]) f168_19 rfl rfl).trans ?_
  exact x_kil f168_21 rfl
set_option maxRecDepth 10000 in
theorem e168_21 (l3 l4 l5 l7 : Int) (s : SG) : sem 168 21 [aU, aU, aU, aI l3, aI l4, aL l5, aU, aI l7, aU] [] s = if l7 < 6 then sem 168 21 [aU, aU, aU, aI l3, aI l4, aL (w64 (l5 * (if l7 < l3 then l4 else w32 (10 - l4)))), aU, aI (w32 (l7 + 1)), aU] [] s else some (aL (w64 (l5 * (if l3 = 0 then 1 else if l3 = 6 then 1 else if l3 = 1 then 6 else if l3 = 5 then 6 else if l3 = 3 then 20 else 15))), s) := by
  refine (x_iload f168_21 rfl rfl).trans ?_
  refine (x_iconst f168_23 rfl).trans ?_
  refine (x_icmp_ge (tg := 57) f168_25 rfl rfl).trans (i_c ?_ ?_)
  · refine (x_lload f168_28 rfl rfl).trans ?_
    refine (x_iload f168_30 rfl rfl).trans ?_
    refine (x_iload f168_32 rfl rfl).trans ?_
    refine (x_icmp_ge (tg := 42) f168_33 rfl rfl).trans ?_
    refine Eq.trans (b := if l7 < l3 then sem 168 48 [aU, aU, aU, aI l3, aI l4, aU, aU, aI l7, aU] [aL l4, aL l5] s else sem 168 48 [aU, aU, aU, aI l3, aI l4, aU, aU, aI l7, aU] [aL (w32 (10 - l4)), aL l5] s) (i_c ?_ ?_) ?_
    · refine (x_iload f168_36 rfl rfl).trans ?_
      refine (x_i2l f168_38 rfl).trans ?_
      refine (x_goto (tg := 48) f168_39 rfl rfl).trans ?_
      exact x_kil f168_48 rfl
    · refine (x_iconst f168_42 rfl).trans ?_
      refine (x_iload f168_44 rfl rfl).trans ?_
      refine (x_isub f168_46 rfl).trans ?_
      refine (x_i2l f168_47 rfl).trans ?_
      exact x_kil f168_48 rfl
    refine m_L.trans ?_
    refine (x_lmul f168_48 rfl).trans ?_
    refine (x_lstore (l2 := [aU, aU, aU, aI l3, aI l4, aL (w64 (l5 * (if l7 < l3 then l4 else w32 (10 - l4)))), aU, aI l7, aU]) f168_49 rfl rfl).trans ?_
    refine (x_iinc (l2 := [aU, aU, aU, aI l3, aI l4, aL (w64 (l5 * (if l7 < l3 then l4 else w32 (10 - l4)))), aU, aI (w32 (l7 + 1)), aU]) f168_51 rfl rfl rfl).trans ?_
    refine (x_goto (tg := 21) f168_54 rfl rfl).trans ?_
    rfl
  · refine (x_iload f168_57 rfl rfl).trans ?_
    refine (x_if_eq (tg := 67) f168_58 rfl rfl).trans ?_
    refine Eq.trans (b := if l3 = 0 then sem 168 101 [aU, aU, aU, aU, aU, aL l5, aU, aU, aU] [aL 1] s else sem 168 101 [aU, aU, aU, aU, aU, aL l5, aU, aU, aU] [aL (if l3 = 6 then 1 else if l3 = 1 then 6 else if l3 = 5 then 6 else if l3 = 3 then 20 else 15)] s) (i_c ?_ ?_) ?_
    · refine (x_kil (l2 := [aU, aU, aU, aU, aU, aL l5, aU, aU, aU]) f168_67 rfl).trans ?_
      refine (x_lconst f168_67 rfl).trans ?_
      refine (x_goto (tg := 101) f168_68 rfl rfl).trans ?_
      rfl
    · refine (x_iload f168_61 rfl rfl).trans ?_
      refine (x_iconst f168_62 rfl).trans ?_
      refine (x_icmp_ne (tg := 71) f168_64 rfl rfl).trans ?_
      refine Eq.trans (b := if l3 = 6 then sem 168 101 [aU, aU, aU, aU, aU, aL l5, aU, aU, aU] [aL 1] s else sem 168 101 [aU, aU, aU, aU, aU, aL l5, aU, aU, aU] [aL (if l3 = 1 then 6 else if l3 = 5 then 6 else if l3 = 3 then 20 else 15)] s) (i_c ?_ ?_) ?_
      · refine (x_kil (l2 := [aU, aU, aU, aU, aU, aL l5, aU, aU, aU]) f168_67 rfl).trans ?_
        refine (x_lconst f168_67 rfl).trans ?_
        refine (x_goto (tg := 101) f168_68 rfl rfl).trans ?_
        rfl
      · refine (x_iload f168_71 rfl rfl).trans ?_
        refine (x_iconst f168_72 rfl).trans ?_
        refine (x_icmp_eq (tg := 81) f168_73 rfl rfl).trans ?_
        refine Eq.trans (b := if l3 = 1 then sem 168 101 [aU, aU, aU, aU, aU, aL l5, aU, aU, aU] [aL 6] s else sem 168 101 [aU, aU, aU, aU, aU, aL l5, aU, aU, aU] [aL (if l3 = 5 then 6 else if l3 = 3 then 20 else 15)] s) (i_c ?_ ?_) ?_
        · refine (x_kil (l2 := [aU, aU, aU, aU, aU, aL l5, aU, aU, aU]) f168_81 rfl).trans ?_
          refine (x_lconst f168_81 rfl).trans ?_
          refine (x_goto (tg := 101) f168_84 rfl rfl).trans ?_
          rfl
        · refine (x_iload f168_76 rfl rfl).trans ?_
          refine (x_iconst f168_77 rfl).trans ?_
          refine (x_icmp_ne (tg := 87) f168_78 rfl rfl).trans ?_
          refine Eq.trans (b := if l3 = 5 then sem 168 101 [aU, aU, aU, aU, aU, aL l5, aU, aU, aU] [aL 6] s else sem 168 101 [aU, aU, aU, aU, aU, aL l5, aU, aU, aU] [aL (if l3 = 3 then 20 else 15)] s) (i_c ?_ ?_) ?_
          · refine (x_kil (l2 := [aU, aU, aU, aU, aU, aL l5, aU, aU, aU]) f168_81 rfl).trans ?_
            refine (x_lconst f168_81 rfl).trans ?_
            refine (x_goto (tg := 101) f168_84 rfl rfl).trans ?_
            rfl
          · refine (x_iload f168_87 rfl rfl).trans ?_
            refine (x_iconst f168_88 rfl).trans ?_
            refine (x_icmp_ne (tg := 98) f168_89 rfl rfl).trans ?_
            refine Eq.trans (b := if l3 = 3 then sem 168 101 [aU, aU, aU, aU, aU, aL l5, aU, aU, aU] [aL 20] s else sem 168 101 [aU, aU, aU, aU, aU, aL l5, aU, aU, aU] [aL 15] s) (i_c ?_ ?_) ?_
            · refine (x_lconst f168_92 rfl).trans ?_
              refine (x_goto (tg := 101) f168_95 rfl rfl).trans ?_
              exact x_kil f168_101 rfl
            · refine (x_lconst f168_98 rfl).trans ?_
              exact x_kil f168_101 rfl
            refine m_L.trans ?_
            rfl
          refine m_L.trans ?_
          rfl
        refine m_L.trans ?_
        rfl
      refine m_L.trans ?_
      rfl
    refine m_L.trans ?_
    refine (x_lstore (l2 := [aU, aU, aU, aU, aU, aL l5, aU, aL (if l3 = 0 then 1 else if l3 = 6 then 1 else if l3 = 1 then 6 else if l3 = 5 then 6 else if l3 = 3 then 20 else 15), aU]) f168_101 rfl rfl).trans ?_
    refine (x_lload f168_103 rfl rfl).trans ?_
    refine (x_lload f168_105 rfl rfl).trans ?_
    refine (x_lmul f168_107 rfl).trans ?_
    exact x_lreturn f168_108 rfl
theorem f169_0 : fch 169 0 = some (.sipush 0, 1, []) := by decide +kernel
theorem f169_1 : fch 169 1 = some (.lstore 4, 3, []) := by decide +kernel
theorem f169_3 : fch 169 3 = some (.iconst 0, 4, []) := by decide +kernel
theorem f169_4 : fch 169 4 = some (.istore 6, 6, []) := by decide +kernel
theorem f169_6 : fch 169 6 = some (.iload 6, 8, [7, 8, 9]) := by decide +kernel
theorem f169_8 : fch 169 8 = some (.iconst 3, 9, []) := by decide +kernel
theorem f169_9 : fch 169 9 = some (.if_icmp .ge 118, 12, []) := by decide +kernel
theorem f169_12 : fch 169 12 = some (.iconst 0, 13, []) := by decide +kernel
theorem f169_13 : fch 169 13 = some (.istore 7, 15, []) := by decide +kernel
theorem f169_15 : fch 169 15 = some (.iload 7, 17, [8, 9]) := by decide +kernel
theorem f169_17 : fch 169 17 = some (.iconst 7, 19, []) := by decide +kernel
theorem f169_19 : fch 169 19 = some (.if_icmp .ge 112, 22, []) := by decide +kernel
theorem f169_22 : fch 169 22 = some (.iconst 6, 24, []) := by decide +kernel
theorem f169_24 : fch 169 24 = some (.aload 0, 25, []) := by decide +kernel
theorem f169_25 : fch 169 25 = some (.invokeinterface 9 1, 28, []) := by decide +kernel
theorem f169_28 : fch 169 28 = some (.iconst 10, 30, []) := by decide +kernel
theorem f169_30 : fch 169 30 = some (.iconst 3, 31, []) := by decide +kernel
theorem f169_31 : fch 169 31 = some (.iload 1, 32, []) := by decide +kernel
theorem f169_32 : fch 169 32 = some (.imul, 33, []) := by decide +kernel
theorem f169_33 : fch 169 33 = some (.iadd, 34, []) := by decide +kernel
theorem f169_34 : fch 169 34 = some (.iload 6, 36, []) := by decide +kernel
theorem f169_36 : fch 169 36 = some (.iadd, 37, []) := by decide +kernel
theorem f169_37 : fch 169 37 = some (.iaload, 38, []) := by decide +kernel
theorem f169_38 : fch 169 38 = some (.imul, 39, []) := by decide +kernel
theorem f169_39 : fch 169 39 = some (.iload 7, 41, []) := by decide +kernel
theorem f169_41 : fch 169 41 = some (.iadd, 42, []) := by decide +kernel
theorem f169_42 : fch 169 42 = some (.istore 8, 44, []) := by decide +kernel
theorem f169_44 : fch 169 44 = some (.iload 3, 45, []) := by decide +kernel
theorem f169_45 : fch 169 45 = some (.ifCond .eq 62, 48, []) := by decide +kernel
theorem f169_48 : fch 169 48 = some (.iload 8, 50, []) := by decide +kernel
theorem f169_50 : fch 169 50 = some (.iload 2, 51, []) := by decide +kernel
theorem f169_51 : fch 169 51 = some (.if_icmp .le 58, 54, []) := by decide +kernel
theorem f169_54 : fch 169 54 = some (.sipush 1, 55, []) := by decide +kernel
theorem f169_55 : fch 169 55 = some (.goto 76, 58, []) := by decide +kernel
theorem f169_58 : fch 169 58 = some (.sipush 0, 59, []) := by decide +kernel
theorem f169_59 : fch 169 59 = some (.goto 76, 62, []) := by decide +kernel
theorem f169_62 : fch 169 62 = some (.iload 8, 64, []) := by decide +kernel
theorem f169_64 : fch 169 64 = some (.iload 2, 65, []) := by decide +kernel
theorem f169_65 : fch 169 65 = some (.if_icmp .ge 74, 68, []) := by decide +kernel
theorem f169_68 : fch 169 68 = some (.iload 8, 70, []) := by decide +kernel
theorem f169_70 : fch 169 70 = some (.i2l, 71, []) := by decide +kernel
theorem f169_71 : fch 169 71 = some (.goto 76, 74, []) := by decide +kernel
theorem f169_74 : fch 169 74 = some (.iload 2, 75, []) := by decide +kernel
theorem f169_75 : fch 169 75 = some (.i2l, 76, []) := by decide +kernel
theorem f169_76 : fch 169 76 = some (.lstore 9, 78, [8, 9]) := by decide +kernel
theorem f169_78 : fch 169 78 = some (.lload 4, 80, []) := by decide +kernel
theorem f169_80 : fch 169 80 = some (.aload 0, 81, []) := by decide +kernel
theorem f169_81 : fch 169 81 = some (.invokeinterface 9 1, 84, []) := by decide +kernel
theorem f169_84 : fch 169 84 = some (.iconst 1, 85, []) := by decide +kernel
theorem f169_85 : fch 169 85 = some (.iload 6, 87, []) := by decide +kernel
theorem f169_87 : fch 169 87 = some (.iadd, 88, []) := by decide +kernel
theorem f169_88 : fch 169 88 = some (.iaload, 89, []) := by decide +kernel
theorem f169_89 : fch 169 89 = some (.i2l, 90, []) := by decide +kernel
theorem f169_90 : fch 169 90 = some (.aload 0, 91, []) := by decide +kernel
theorem f169_91 : fch 169 91 = some (.iload 1, 92, []) := by decide +kernel
theorem f169_92 : fch 169 92 = some (.iload 6, 94, []) := by decide +kernel
theorem f169_94 : fch 169 94 = some (.iload 7, 96, []) := by decide +kernel
theorem f169_96 : fch 169 96 = some (.invokevirtual 168, 99, []) := by decide +kernel
theorem f169_99 : fch 169 99 = some (.lmul, 100, []) := by decide +kernel
theorem f169_100 : fch 169 100 = some (.lload 9, 102, []) := by decide +kernel
theorem f169_102 : fch 169 102 = some (.lmul, 103, []) := by decide +kernel
theorem f169_103 : fch 169 103 = some (.ladd, 104, []) := by decide +kernel
theorem f169_104 : fch 169 104 = some (.lstore 4, 106, []) := by decide +kernel
theorem f169_106 : fch 169 106 = some (.iinc 7 1, 109, []) := by decide +kernel
theorem f169_109 : fch 169 109 = some (.goto 15, 112, []) := by decide +kernel
theorem f169_112 : fch 169 112 = some (.iinc 6 1, 115, []) := by decide +kernel
theorem f169_115 : fch 169 115 = some (.goto 6, 118, []) := by decide +kernel
theorem f169_118 : fch 169 118 = some (.lload 4, 120, []) := by decide +kernel
theorem f169_120 : fch 169 120 = some (.lreturn, 121, []) := by decide +kernel
set_option maxRecDepth 10000 in
theorem e169_0 (l0 l1 l2 l3 : Int) (s : SG) : sem 169 0 [aA l0, aI l1, aI l2, aI l3, aU, aU, aU, aU, aU, aU, aU] [] s = sem 169 6 [aA l0, aI l1, aI l2, aI l3, aL 0, aU, aI 0, aU, aU, aU, aU] [] s := by
  refine (x_lconst f169_0 rfl).trans ?_
  refine (x_lstore (l2 := [aA l0, aI l1, aI l2, aI l3, aL 0, aU, aU, aU, aU, aU, aU]) f169_1 rfl rfl).trans ?_
  refine (x_iconst f169_3 rfl).trans ?_
  refine (x_istore (l2 := [aA l0, aI l1, aI l2, aI l3, aL 0, aU, aI 0, aU, aU, aU, aU]) f169_4 rfl rfl).trans ?_
  rfl
set_option maxRecDepth 10000 in
theorem e169_6 (l0 l1 l2 l3 l4 l6 : Int) (s : SG) : sem 169 6 [aA l0, aI l1, aI l2, aI l3, aL l4, aU, aI l6, aU, aU, aU, aU] [] s = if l6 < 3 then sem 169 15 [aA l0, aI l1, aI l2, aI l3, aL l4, aU, aI l6, aI 0, aU, aU, aU] [] s else some (aL l4, s) := by
  refine (x_iload f169_6 rfl rfl).trans ?_
  refine (x_iconst f169_8 rfl).trans ?_
  refine (x_icmp_ge (tg := 118) f169_9 rfl rfl).trans (i_c ?_ ?_)
  · refine (x_iconst f169_12 rfl).trans ?_
    refine (x_istore (l2 := [aA l0, aI l1, aI l2, aI l3, aL l4, aU, aI l6, aI 0, aU, aU, aU]) f169_13 rfl rfl).trans ?_
    rfl
  · refine (x_lload f169_118 rfl rfl).trans ?_
    exact x_lreturn f169_120 rfl
set_option maxRecDepth 10000 in
theorem e169_15 (l0 l1 l2 l3 l4 l6 l7 : Int) (s : SG) : sem 169 15 [aA l0, aI l1, aI l2, aI l3, aL l4, aU, aI l6, aI l7, aU, aU, aU] [] s = if l7 < 7 then grd (kd l0 = 9) (grd (0 ≤ s l0 1) (grd (kd (s l0 1) = 101) (grd ((0 : Int) ≤ (w32 ((w32 (10 + (w32 (3 * l1)))) + l6)) ∧ (w32 ((w32 (10 + (w32 (3 * l1)))) + l6)) < kl (s l0 1)) (grd (kd l0 = 9) (grd (0 ≤ s l0 1) (grd (kd (s l0 1) = 101) (grd ((0 : Int) ≤ (w32 (1 + l6)) ∧ (w32 (1 + l6)) < kl (s l0 1)) (grd (kd l0 = 9) (bnL (sem 168 0 [aA l0, aI l1, aI l6, aI l7, aU, aU, aU, aU, aU] [] s) fun a2 s1 => sem 169 15 [aA l0, aI l1, aI l2, aI l3, aL (w64 (l4 + (w64 ((w64 ((s (s l0 1) (w32 (1 + l6))) * a2)) * (if l3 = 0 then if (w32 ((w32 (6 * (s (s l0 1) (w32 ((w32 (10 + (w32 (3 * l1)))) + l6))))) + l7)) < l2 then w32 ((w32 (6 * (s (s l0 1) (w32 ((w32 (10 + (w32 (3 * l1)))) + l6))))) + l7) else l2 else if l2 < (w32 ((w32 (6 * (s (s l0 1) (w32 ((w32 (10 + (w32 (3 * l1)))) + l6))))) + l7)) then 1 else 0))))), aU, aI l6, aI (w32 (l7 + 1)), aU, aU, aU] [] s1))))))))) else sem 169 6 [aA l0, aI l1, aI l2, aI l3, aL l4, aU, aI (w32 (l6 + 1)), aU, aU, aU, aU] [] s := by
  refine (x_iload f169_15 rfl rfl).trans ?_
  refine (x_iconst f169_17 rfl).trans ?_
  refine (x_icmp_ge (tg := 112) f169_19 rfl rfl).trans (i_c ?_ ?_)
  · refine (x_iconst f169_22 rfl).trans ?_
    refine (x_aload f169_24 rfl rfl).trans ?_
    refine (x_get2 f169_25 rfl rfl).trans ?_
    refine g_c ?_
    refine g_c ?_
    refine (x_iconst f169_28 rfl).trans ?_
    refine (x_iconst f169_30 rfl).trans ?_
    refine (x_iload f169_31 rfl rfl).trans ?_
    refine (x_imul f169_32 rfl).trans ?_
    refine (x_iadd f169_33 rfl).trans ?_
    refine (x_iload f169_34 rfl rfl).trans ?_
    refine (x_iadd f169_36 rfl).trans ?_
    refine (x_iaload f169_37 rfl).trans ?_
    refine g_c ?_
    refine g_c ?_
    refine (x_imul f169_38 rfl).trans ?_
    refine (x_iload f169_39 rfl rfl).trans ?_
    refine (x_iadd f169_41 rfl).trans ?_
    refine (x_istore (l2 := [aA l0, aI l1, aI l2, aI l3, aL l4, aU, aI l6, aI l7, aI (w32 ((w32 (6 * (s (s l0 1) (w32 ((w32 (10 + (w32 (3 * l1)))) + l6))))) + l7)), aU, aU]) f169_42 rfl rfl).trans ?_
    refine (x_iload f169_44 rfl rfl).trans ?_
    refine (x_if_eq (tg := 62) f169_45 rfl rfl).trans ?_
    refine Eq.trans (b := if l3 = 0 then sem 169 76 [aA l0, aI l1, aI l2, aI l3, aL l4, aU, aI l6, aI l7, aU, aU, aU] [aL (if (w32 ((w32 (6 * (s (s l0 1) (w32 ((w32 (10 + (w32 (3 * l1)))) + l6))))) + l7)) < l2 then w32 ((w32 (6 * (s (s l0 1) (w32 ((w32 (10 + (w32 (3 * l1)))) + l6))))) + l7) else l2)] s else sem 169 76 [aA l0, aI l1, aI l2, aI l3, aL l4, aU, aI l6, aI l7, aU, aU, aU] [aL (if l2 < (w32 ((w32 (6 * (s (s l0 1) (w32 ((w32 (10 + (w32 (3 * l1)))) + l6))))) + l7)) then 1 else 0)] s) (i_c ?_ ?_) ?_
    · refine (x_iload f169_62 rfl rfl).trans ?_
      refine (x_iload f169_64 rfl rfl).trans ?_
      refine (x_icmp_ge (tg := 74) f169_65 rfl rfl).trans ?_
      refine Eq.trans (b := if (w32 ((w32 (6 * (s (s l0 1) (w32 ((w32 (10 + (w32 (3 * l1)))) + l6))))) + l7)) < l2 then sem 169 76 [aA l0, aI l1, aI l2, aI l3, aL l4, aU, aI l6, aI l7, aU, aU, aU] [aL (w32 ((w32 (6 * (s (s l0 1) (w32 ((w32 (10 + (w32 (3 * l1)))) + l6))))) + l7))] s else sem 169 76 [aA l0, aI l1, aI l2, aI l3, aL l4, aU, aI l6, aI l7, aU, aU, aU] [aL l2] s) (i_c ?_ ?_) ?_
      · refine (x_iload f169_68 rfl rfl).trans ?_
        refine (x_i2l f169_70 rfl).trans ?_
        refine (x_goto (tg := 76) f169_71 rfl rfl).trans ?_
        exact x_kil f169_76 rfl
      · refine (x_iload f169_74 rfl rfl).trans ?_
        refine (x_i2l f169_75 rfl).trans ?_
        exact x_kil f169_76 rfl
      refine m_L.trans ?_
      rfl
    · refine (x_iload f169_48 rfl rfl).trans ?_
      refine (x_iload f169_50 rfl rfl).trans ?_
      refine (x_icmp_le (tg := 58) f169_51 rfl rfl).trans ?_
      refine Eq.trans (b := if l2 < (w32 ((w32 (6 * (s (s l0 1) (w32 ((w32 (10 + (w32 (3 * l1)))) + l6))))) + l7)) then sem 169 76 [aA l0, aI l1, aI l2, aI l3, aL l4, aU, aI l6, aI l7, aU, aU, aU] [aL 1] s else sem 169 76 [aA l0, aI l1, aI l2, aI l3, aL l4, aU, aI l6, aI l7, aU, aU, aU] [aL 0] s) (i_c ?_ ?_) ?_
      · refine (x_lconst f169_54 rfl).trans ?_
        refine (x_goto (tg := 76) f169_55 rfl rfl).trans ?_
        exact x_kil f169_76 rfl
      · refine (x_lconst f169_58 rfl).trans ?_
        refine (x_goto (tg := 76) f169_59 rfl rfl).trans ?_
        exact x_kil f169_76 rfl
      refine m_L.trans ?_
      rfl
    refine m_L.trans ?_
    refine (x_lstore (l2 := [aA l0, aI l1, aI l2, aI l3, aL l4, aU, aI l6, aI l7, aU, aL (if l3 = 0 then if (w32 ((w32 (6 * (s (s l0 1) (w32 ((w32 (10 + (w32 (3 * l1)))) + l6))))) + l7)) < l2 then w32 ((w32 (6 * (s (s l0 1) (w32 ((w32 (10 + (w32 (3 * l1)))) + l6))))) + l7) else l2 else if l2 < (w32 ((w32 (6 * (s (s l0 1) (w32 ((w32 (10 + (w32 (3 * l1)))) + l6))))) + l7)) then 1 else 0), aU]) f169_76 rfl rfl).trans ?_
    refine (x_lload f169_78 rfl rfl).trans ?_
    refine (x_aload f169_80 rfl rfl).trans ?_
    refine (x_get2 f169_81 rfl rfl).trans ?_
    refine g_c ?_
    refine g_c ?_
    refine (x_iconst f169_84 rfl).trans ?_
    refine (x_iload f169_85 rfl rfl).trans ?_
    refine (x_iadd f169_87 rfl).trans ?_
    refine (x_iaload f169_88 rfl).trans ?_
    refine g_c ?_
    refine g_c ?_
    refine (x_i2l f169_89 rfl).trans ?_
    refine (x_aload f169_90 rfl rfl).trans ?_
    refine (x_iload f169_91 rfl rfl).trans ?_
    refine (x_iload f169_92 rfl rfl).trans ?_
    refine (x_iload f169_94 rfl rfl).trans ?_
    refine (x_invokevirtual (G := grd (kd l0 = 9) (bnL (sem 168 0 [aA l0, aI l1, aI l6, aI l7, aU, aU, aU, aU, aU] [] s) fun a2 s1 => sem 169 99 [aA l0, aI l1, aI l2, aI l3, aL l4, aU, aI l6, aI l7, aU, aL (if l3 = 0 then if (w32 ((w32 (6 * (s (s l0 1) (w32 ((w32 (10 + (w32 (3 * l1)))) + l6))))) + l7)) < l2 then w32 ((w32 (6 * (s (s l0 1) (w32 ((w32 (10 + (w32 (3 * l1)))) + l6))))) + l7) else l2 else if l2 < (w32 ((w32 (6 * (s (s l0 1) (w32 ((w32 (10 + (w32 (3 * l1)))) + l6))))) + l7)) then 1 else 0), aU] [aL a2, aL (s (s l0 1) (w32 (1 + l6))), aL l4] s1)) f169_96 rfl rfl).trans ?_
    refine g_c ?_
    refine bL_c fun a2 s1 => ?_
    refine (x_lmul f169_99 rfl).trans ?_
    refine (x_lload f169_100 rfl rfl).trans ?_
    refine (x_lmul f169_102 rfl).trans ?_
    refine (x_ladd f169_103 rfl).trans ?_
    refine (x_lstore (l2 := [aA l0, aI l1, aI l2, aI l3, aL (w64 (l4 + (w64 ((w64 ((s (s l0 1) (w32 (1 + l6))) * a2)) * (if l3 = 0 then if (w32 ((w32 (6 * (s (s l0 1) (w32 ((w32 (10 + (w32 (3 * l1)))) + l6))))) + l7)) < l2 then w32 ((w32 (6 * (s (s l0 1) (w32 ((w32 (10 + (w32 (3 * l1)))) + l6))))) + l7) else l2 else if l2 < (w32 ((w32 (6 * (s (s l0 1) (w32 ((w32 (10 + (w32 (3 * l1)))) + l6))))) + l7)) then 1 else 0))))), aU, aI l6, aI l7, aU, aL (if l3 = 0 then if (w32 ((w32 (6 * (s (s l0 1) (w32 ((w32 (10 + (w32 (3 * l1)))) + l6))))) + l7)) < l2 then w32 ((w32 (6 * (s (s l0 1) (w32 ((w32 (10 + (w32 (3 * l1)))) + l6))))) + l7) else l2 else if l2 < (w32 ((w32 (6 * (s (s l0 1) (w32 ((w32 (10 + (w32 (3 * l1)))) + l6))))) + l7)) then 1 else 0), aU]) f169_104 rfl rfl).trans ?_
    refine (x_iinc (l2 := [aA l0, aI l1, aI l2, aI l3, aL (w64 (l4 + (w64 ((w64 ((s (s l0 1) (w32 (1 + l6))) * a2)) * (if l3 = 0 then if (w32 ((w32 (6 * (s (s l0 1) (w32 ((w32 (10 + (w32 (3 * l1)))) + l6))))) + l7)) < l2 then w32 ((w32 (6 * (s (s l0 1) (w32 ((w32 (10 + (w32 (3 * l1)))) + l6))))) + l7) else l2 else if l2 < (w32 ((w32 (6 * (s (s l0 1) (w32 ((w32 (10 + (w32 (3 * l1)))) + l6))))) + l7)) then 1 else 0))))), aU, aI l6, aI (w32 (l7 + 1)), aU, aL (if l3 = 0 then if (w32 ((w32 (6 * (s (s l0 1) (w32 ((w32 (10 + (w32 (3 * l1)))) + l6))))) + l7)) < l2 then w32 ((w32 (6 * (s (s l0 1) (w32 ((w32 (10 + (w32 (3 * l1)))) + l6))))) + l7) else l2 else if l2 < (w32 ((w32 (6 * (s (s l0 1) (w32 ((w32 (10 + (w32 (3 * l1)))) + l6))))) + l7)) then 1 else 0), aU]) f169_106 rfl rfl rfl).trans ?_
    refine (x_goto (tg := 15) f169_109 rfl rfl).trans ?_
    exact x_kil f169_15 rfl
  · refine (x_iinc (l2 := [aA l0, aI l1, aI l2, aI l3, aL l4, aU, aI (w32 (l6 + 1)), aI l7, aU, aU, aU]) f169_112 rfl rfl rfl).trans ?_
    refine (x_goto (tg := 6) f169_115 rfl rfl).trans ?_
    exact x_kil f169_6 rfl
theorem f170_0 : fch 170 0 = some (.lload 0, 1, []) := by decide +kernel
theorem f170_1 : fch 170 1 = some (.sipush 0, 2, []) := by decide +kernel
theorem f170_2 : fch 170 2 = some (.lcmp, 3, []) := by decide +kernel
theorem f170_3 : fch 170 3 = some (.ifCond .ge 11, 6, []) := by decide +kernel
theorem f170_6 : fch 170 6 = some (.lload 0, 7, []) := by decide +kernel
theorem f170_7 : fch 170 7 = some (.lneg, 8, []) := by decide +kernel
theorem f170_8 : fch 170 8 = some (.goto 12, 11, []) := by decide +kernel
theorem f170_11 : fch 170 11 = some (.lload 0, 12, []) := by decide +kernel
theorem f170_12 : fch 170 12 = some (.lstore 5, 14, []) := by decide +kernel
theorem f170_14 : fch 170 14 = some (.lload 2, 15, []) := by decide +kernel
theorem f170_15 : fch 170 15 = some (.lstore 7, 17, []) := by decide +kernel
theorem f170_17 : fch 170 17 = some (.lload 7, 19, [9]) := by decide +kernel
theorem f170_19 : fch 170 19 = some (.sipush 0, 20, []) := by decide +kernel
theorem f170_20 : fch 170 20 = some (.lcmp, 21, []) := by decide +kernel
theorem f170_21 : fch 170 21 = some (.ifCond .eq 42, 24, []) := by decide +kernel
theorem f170_24 : fch 170 24 = some (.lload 5, 26, []) := by decide +kernel
theorem f170_26 : fch 170 26 = some (.lload 7, 28, []) := by decide +kernel
theorem f170_28 : fch 170 28 = some (.lrem, 29, []) := by decide +kernel
theorem f170_29 : fch 170 29 = some (.lstore 9, 31, []) := by decide +kernel
theorem f170_31 : fch 170 31 = some (.lload 7, 33, []) := by decide +kernel
theorem f170_33 : fch 170 33 = some (.lstore 5, 35, []) := by decide +kernel
theorem f170_35 : fch 170 35 = some (.lload 9, 37, []) := by decide +kernel
theorem f170_37 : fch 170 37 = some (.lstore 7, 39, []) := by decide +kernel
theorem f170_39 : fch 170 39 = some (.goto 17, 42, []) := by decide +kernel
theorem f170_42 : fch 170 42 = some (.iload 4, 44, []) := by decide +kernel
theorem f170_44 : fch 170 44 = some (.ifCond .eq 54, 47, []) := by decide +kernel
theorem f170_47 : fch 170 47 = some (.lload 0, 48, []) := by decide +kernel
theorem f170_48 : fch 170 48 = some (.lload 5, 50, []) := by decide +kernel
theorem f170_50 : fch 170 50 = some (.ldiv, 51, []) := by decide +kernel
theorem f170_51 : fch 170 51 = some (.goto 58, 54, []) := by decide +kernel
theorem f170_54 : fch 170 54 = some (.lload 2, 55, []) := by decide +kernel
theorem f170_55 : fch 170 55 = some (.lload 5, 57, []) := by decide +kernel
theorem f170_57 : fch 170 57 = some (.ldiv, 58, []) := by decide +kernel
theorem f170_58 : fch 170 58 = some (.lreturn, 59, [0, 2, 4, 5, 7, 9]) := by decide +kernel
set_option maxRecDepth 10000 in
theorem e170_0 (l0 l2 l4 : Int) (s : SG) : sem 170 0 [aL l0, aU, aL l2, aU, aI l4, aU, aU, aU, aU, aU, aU] [] s = sem 170 17 [aL l0, aU, aL l2, aU, aI l4, aL (if (cmpL l0 0) < 0 then w64 (-l0) else l0), aU, aL l2, aU, aU, aU] [] s := by
  refine (x_lload f170_0 rfl rfl).trans ?_
  refine (x_lconst f170_1 rfl).trans ?_
  refine (x_lcmp f170_2 rfl).trans ?_
  refine (x_if_ge (tg := 11) f170_3 rfl rfl).trans ?_
  refine Eq.trans (b := if (cmpL l0 0) < 0 then sem 170 12 [aL l0, aU, aL l2, aU, aI l4, aU, aU, aU, aU, aU, aU] [aL (w64 (-l0))] s else sem 170 12 [aL l0, aU, aL l2, aU, aI l4, aU, aU, aU, aU, aU, aU] [aL l0] s) (i_c ?_ ?_) ?_
  · refine (x_lload f170_6 rfl rfl).trans ?_
    refine (x_lneg f170_7 rfl).trans ?_
    refine (x_goto (tg := 12) f170_8 rfl rfl).trans ?_
    rfl
  · refine (x_lload f170_11 rfl rfl).trans ?_
    rfl
  refine m_L.trans ?_
  refine (x_lstore (l2 := [aL l0, aU, aL l2, aU, aI l4, aL (if (cmpL l0 0) < 0 then w64 (-l0) else l0), aU, aU, aU, aU, aU]) f170_12 rfl rfl).trans ?_
  refine (x_lload f170_14 rfl rfl).trans ?_
  refine (x_lstore (l2 := [aL l0, aU, aL l2, aU, aI l4, aL (if (cmpL l0 0) < 0 then w64 (-l0) else l0), aU, aL l2, aU, aU, aU]) f170_15 rfl rfl).trans ?_
  rfl
set_option maxRecDepth 10000 in
theorem e170_17 (l0 l2 l4 l5 l7 : Int) (s : SG) : sem 170 17 [aL l0, aU, aL l2, aU, aI l4, aL l5, aU, aL l7, aU, aU, aU] [] s = if (cmpL l7 0) = 0 then if l4 = 0 then grd (l5 ≠ 0) (some (aL (w64 (Int.tdiv l2 l5)), s)) else grd (l5 ≠ 0) (some (aL (w64 (Int.tdiv l0 l5)), s)) else grd (l7 ≠ 0) (sem 170 17 [aL l0, aU, aL l2, aU, aI l4, aL l7, aU, aL (remA l5 l7), aU, aU, aU] [] s) := by
  refine (x_lload f170_17 rfl rfl).trans ?_
  refine (x_lconst f170_19 rfl).trans ?_
  refine (x_lcmp f170_20 rfl).trans ?_
  refine (x_if_eq (tg := 42) f170_21 rfl rfl).trans (i_c ?_ ?_)
  · refine (x_iload f170_42 rfl rfl).trans ?_
    refine (x_if_eq (tg := 54) f170_44 rfl rfl).trans (i_c ?_ ?_)
    · refine (x_lload f170_54 rfl rfl).trans ?_
      refine (x_lload f170_55 rfl rfl).trans ?_
      refine (x_ldiv f170_57 rfl).trans ?_
      refine g_c ?_
      refine (x_kil (l2 := [aU, aU, aU, aU, aU, aU, aU, aU, aU, aU, aU]) f170_58 rfl).trans ?_
      exact x_lreturn f170_58 rfl
    · refine (x_lload f170_47 rfl rfl).trans ?_
      refine (x_lload f170_48 rfl rfl).trans ?_
      refine (x_ldiv f170_50 rfl).trans ?_
      refine g_c ?_
      refine (x_goto (tg := 58) f170_51 rfl rfl).trans ?_
      refine (x_kil (l2 := [aU, aU, aU, aU, aU, aU, aU, aU, aU, aU, aU]) f170_58 rfl).trans ?_
      exact x_lreturn f170_58 rfl
  · refine (x_lload f170_24 rfl rfl).trans ?_
    refine (x_lload f170_26 rfl rfl).trans ?_
    refine (x_lrem f170_28 rfl).trans ?_
    refine g_c ?_
    refine (x_lstore (l2 := [aL l0, aU, aL l2, aU, aI l4, aL l5, aU, aL l7, aU, aL (remA l5 l7), aU]) f170_29 rfl rfl).trans ?_
    refine (x_lload f170_31 rfl rfl).trans ?_
    refine (x_lstore (l2 := [aL l0, aU, aL l2, aU, aI l4, aL l7, aU, aL l7, aU, aL (remA l5 l7), aU]) f170_33 rfl rfl).trans ?_
    refine (x_lload f170_35 rfl rfl).trans ?_
    refine (x_lstore (l2 := [aL l0, aU, aL l2, aU, aI l4, aL l7, aU, aL (remA l5 l7), aU, aL (remA l5 l7), aU]) f170_37 rfl rfl).trans ?_
    refine (x_goto (tg := 17) f170_39 rfl rfl).trans ?_
    exact x_kil f170_17 rfl
theorem f171_0 : fch 171 0 = some (.aload 0, 1, []) := by decide +kernel
theorem f171_1 : fch 171 1 = some (.iload 1, 2, []) := by decide +kernel
theorem f171_2 : fch 171 2 = some (.invokevirtual 163, 5, []) := by decide +kernel
theorem f171_5 : fch 171 5 = some (.ifCond .ne 12, 8, []) := by decide +kernel
theorem f171_8 : fch 171 8 = some (.sipush (-1), 11, []) := by decide +kernel
theorem f171_11 : fch 171 11 = some (.lreturn, 12, []) := by decide +kernel
theorem f171_12 : fch 171 12 = some (.iload 2, 13, []) := by decide +kernel
theorem f171_13 : fch 171 13 = some (.i2l, 14, []) := by decide +kernel
theorem f171_14 : fch 171 14 = some (.sipush 0, 15, []) := by decide +kernel
theorem f171_15 : fch 171 15 = some (.sipush 60, 18, []) := by decide +kernel
theorem f171_18 : fch 171 18 = some (.invokestatic 152, 21, []) := by decide +kernel
theorem f171_21 : fch 171 21 = some (.ifCond .eq 42, 24, []) := by decide +kernel
theorem f171_24 : fch 171 24 = some (.aload 0, 25, []) := by decide +kernel
theorem f171_25 : fch 171 25 = some (.iload 1, 26, []) := by decide +kernel
theorem f171_26 : fch 171 26 = some (.iload 2, 27, []) := by decide +kernel
theorem f171_27 : fch 171 27 = some (.iconst 0, 28, []) := by decide +kernel
theorem f171_28 : fch 171 28 = some (.invokevirtual 169, 31, []) := by decide +kernel
theorem f171_31 : fch 171 31 = some (.aload 0, 32, []) := by decide +kernel
theorem f171_32 : fch 171 32 = some (.invokevirtual 167, 35, []) := by decide +kernel
theorem f171_35 : fch 171 35 = some (.iload 3, 36, []) := by decide +kernel
theorem f171_36 : fch 171 36 = some (.invokestatic 170, 39, []) := by decide +kernel
theorem f171_39 : fch 171 39 = some (.goto 45, 42, []) := by decide +kernel
theorem f171_42 : fch 171 42 = some (.sipush (-2), 45, []) := by decide +kernel
theorem f171_45 : fch 171 45 = some (.lreturn, 46, [0, 1, 2, 3]) := by decide +kernel
set_option maxRecDepth 10000 in
theorem e171_0 (l0 l1 l2 l3 : Int) (s : SG) : sem 171 0 [aA l0, aI l1, aI l2, aI l3] [] s = grd (kd l0 = 9) (bnI (sem 163 0 [aA l0, aI l1] [] s) fun a2 s1 => if a2 = 0 then some (aL ((-1)), s1) else bnI (sem 152 0 [aL l2, aU, aL 0, aU, aL 60, aU] [] s1) fun a4 s3 => if a4 = 0 then some (aL ((-2)), s3) else grd (kd l0 = 9) (bnL (sem 169 0 [aA l0, aI l1, aI l2, aI 0, aU, aU, aU, aU, aU, aU, aU] [] s3) fun a6 s5 => grd (kd l0 = 9) (bnL (sem 167 0 [aA l0] [] s5) fun a8 s7 => bnL (sem 170 0 [aL a6, aU, aL a8, aU, aI l3, aU, aU, aU, aU, aU, aU] [] s7) fun a10 s9 => some (aL a10, s9)))) := by
  refine (x_aload f171_0 rfl rfl).trans ?_
  refine (x_iload f171_1 rfl rfl).trans ?_
  refine (x_invokevirtual (G := grd (kd l0 = 9) (bnI (sem 163 0 [aA l0, aI l1] [] s) fun a2 s1 => sem 171 5 [aA l0, aI l1, aI l2, aI l3] [aI a2] s1)) f171_2 rfl rfl).trans ?_
  refine g_c ?_
  refine bI_c fun a2 s1 => ?_
  refine (x_if_ne (tg := 12) f171_5 rfl rfl).trans (i_c ?_ ?_)
  · refine (x_lconst f171_8 rfl).trans ?_
    exact x_lreturn f171_11 rfl
  · refine (x_iload f171_12 rfl rfl).trans ?_
    refine (x_i2l f171_13 rfl).trans ?_
    refine (x_lconst f171_14 rfl).trans ?_
    refine (x_lconst f171_15 rfl).trans ?_
    refine (x_invokestatic (G := bnI (sem 152 0 [aL l2, aU, aL 0, aU, aL 60, aU] [] s1) fun a4 s3 => sem 171 21 [aA l0, aI l1, aI l2, aI l3] [aI a4] s3) f171_18 rfl rfl).trans ?_
    refine bI_c fun a4 s3 => ?_
    refine (x_if_eq (tg := 42) f171_21 rfl rfl).trans (i_c ?_ ?_)
    · refine (x_lconst f171_42 rfl).trans ?_
      refine (x_kil (l2 := [aU, aU, aU, aU]) f171_45 rfl).trans ?_
      exact x_lreturn f171_45 rfl
    · refine (x_aload f171_24 rfl rfl).trans ?_
      refine (x_iload f171_25 rfl rfl).trans ?_
      refine (x_iload f171_26 rfl rfl).trans ?_
      refine (x_iconst f171_27 rfl).trans ?_
      refine (x_invokevirtual (G := grd (kd l0 = 9) (bnL (sem 169 0 [aA l0, aI l1, aI l2, aI 0, aU, aU, aU, aU, aU, aU, aU] [] s3) fun a6 s5 => sem 171 31 [aA l0, aI l1, aI l2, aI l3] [aL a6] s5)) f171_28 rfl rfl).trans ?_
      refine g_c ?_
      refine bL_c fun a6 s5 => ?_
      refine (x_aload f171_31 rfl rfl).trans ?_
      refine (x_invokevirtual (G := grd (kd l0 = 9) (bnL (sem 167 0 [aA l0] [] s5) fun a8 s7 => sem 171 35 [aA l0, aI l1, aI l2, aI l3] [aL a8, aL a6] s7)) f171_32 rfl rfl).trans ?_
      refine g_c ?_
      refine bL_c fun a8 s7 => ?_
      refine (x_iload f171_35 rfl rfl).trans ?_
      refine (x_invokestatic (G := bnL (sem 170 0 [aL a6, aU, aL a8, aU, aI l3, aU, aU, aU, aU, aU, aU] [] s7) fun a10 s9 => sem 171 39 [aA l0, aI l1, aI l2, aI l3] [aL a10] s9) f171_36 rfl rfl).trans ?_
      refine bL_c fun a10 s9 => ?_
      refine (x_goto (tg := 45) f171_39 rfl rfl).trans ?_
      refine (x_kil (l2 := [aU, aU, aU, aU]) f171_45 rfl).trans ?_
      exact x_lreturn f171_45 rfl
theorem f172_0 : fch 172 0 = some (.aload 0, 1, []) := by decide +kernel
theorem f172_1 : fch 172 1 = some (.iload 1, 2, []) := by decide +kernel
theorem f172_2 : fch 172 2 = some (.invokevirtual 163, 5, []) := by decide +kernel
theorem f172_5 : fch 172 5 = some (.ifCond .ne 12, 8, []) := by decide +kernel
theorem f172_8 : fch 172 8 = some (.sipush (-1), 11, []) := by decide +kernel
theorem f172_11 : fch 172 11 = some (.lreturn, 12, []) := by decide +kernel
theorem f172_12 : fch 172 12 = some (.iload 2, 13, []) := by decide +kernel
theorem f172_13 : fch 172 13 = some (.i2l, 14, []) := by decide +kernel
theorem f172_14 : fch 172 14 = some (.sipush 0, 15, []) := by decide +kernel
theorem f172_15 : fch 172 15 = some (.sipush 60, 18, []) := by decide +kernel
theorem f172_18 : fch 172 18 = some (.invokestatic 152, 21, []) := by decide +kernel
theorem f172_21 : fch 172 21 = some (.ifCond .eq 42, 24, []) := by decide +kernel
theorem f172_24 : fch 172 24 = some (.aload 0, 25, []) := by decide +kernel
theorem f172_25 : fch 172 25 = some (.iload 1, 26, []) := by decide +kernel
theorem f172_26 : fch 172 26 = some (.iload 2, 27, []) := by decide +kernel
theorem f172_27 : fch 172 27 = some (.iconst 1, 28, []) := by decide +kernel
theorem f172_28 : fch 172 28 = some (.invokevirtual 169, 31, []) := by decide +kernel
theorem f172_31 : fch 172 31 = some (.aload 0, 32, []) := by decide +kernel
theorem f172_32 : fch 172 32 = some (.invokevirtual 167, 35, []) := by decide +kernel
theorem f172_35 : fch 172 35 = some (.iload 3, 36, []) := by decide +kernel
theorem f172_36 : fch 172 36 = some (.invokestatic 170, 39, []) := by decide +kernel
theorem f172_39 : fch 172 39 = some (.goto 45, 42, []) := by decide +kernel
theorem f172_42 : fch 172 42 = some (.sipush (-2), 45, []) := by decide +kernel
theorem f172_45 : fch 172 45 = some (.lreturn, 46, [0, 1, 2, 3]) := by decide +kernel
set_option maxRecDepth 10000 in
theorem e172_0 (l0 l1 l2 l3 : Int) (s : SG) : sem 172 0 [aA l0, aI l1, aI l2, aI l3] [] s = grd (kd l0 = 9) (bnI (sem 163 0 [aA l0, aI l1] [] s) fun a2 s1 => if a2 = 0 then some (aL ((-1)), s1) else bnI (sem 152 0 [aL l2, aU, aL 0, aU, aL 60, aU] [] s1) fun a4 s3 => if a4 = 0 then some (aL ((-2)), s3) else grd (kd l0 = 9) (bnL (sem 169 0 [aA l0, aI l1, aI l2, aI 1, aU, aU, aU, aU, aU, aU, aU] [] s3) fun a6 s5 => grd (kd l0 = 9) (bnL (sem 167 0 [aA l0] [] s5) fun a8 s7 => bnL (sem 170 0 [aL a6, aU, aL a8, aU, aI l3, aU, aU, aU, aU, aU, aU] [] s7) fun a10 s9 => some (aL a10, s9)))) := by
  refine (x_aload f172_0 rfl rfl).trans ?_
  refine (x_iload f172_1 rfl rfl).trans ?_
  refine (x_invokevirtual (G := grd (kd l0 = 9) (bnI (sem 163 0 [aA l0, aI l1] [] s) fun a2 s1 => sem 172 5 [aA l0, aI l1, aI l2, aI l3] [aI a2] s1)) f172_2 rfl rfl).trans ?_
  refine g_c ?_
  refine bI_c fun a2 s1 => ?_
  refine (x_if_ne (tg := 12) f172_5 rfl rfl).trans (i_c ?_ ?_)
  · refine (x_lconst f172_8 rfl).trans ?_
    exact x_lreturn f172_11 rfl
  · refine (x_iload f172_12 rfl rfl).trans ?_
    refine (x_i2l f172_13 rfl).trans ?_
    refine (x_lconst f172_14 rfl).trans ?_
    refine (x_lconst f172_15 rfl).trans ?_
    refine (x_invokestatic (G := bnI (sem 152 0 [aL l2, aU, aL 0, aU, aL 60, aU] [] s1) fun a4 s3 => sem 172 21 [aA l0, aI l1, aI l2, aI l3] [aI a4] s3) f172_18 rfl rfl).trans ?_
    refine bI_c fun a4 s3 => ?_
    refine (x_if_eq (tg := 42) f172_21 rfl rfl).trans (i_c ?_ ?_)
    · refine (x_lconst f172_42 rfl).trans ?_
      refine (x_kil (l2 := [aU, aU, aU, aU]) f172_45 rfl).trans ?_
      exact x_lreturn f172_45 rfl
    · refine (x_aload f172_24 rfl rfl).trans ?_
      refine (x_iload f172_25 rfl rfl).trans ?_
      refine (x_iload f172_26 rfl rfl).trans ?_
      refine (x_iconst f172_27 rfl).trans ?_
      refine (x_invokevirtual (G := grd (kd l0 = 9) (bnL (sem 169 0 [aA l0, aI l1, aI l2, aI 1, aU, aU, aU, aU, aU, aU, aU] [] s3) fun a6 s5 => sem 172 31 [aA l0, aI l1, aI l2, aI l3] [aL a6] s5)) f172_28 rfl rfl).trans ?_
      refine g_c ?_
      refine bL_c fun a6 s5 => ?_
      refine (x_aload f172_31 rfl rfl).trans ?_
      refine (x_invokevirtual (G := grd (kd l0 = 9) (bnL (sem 167 0 [aA l0] [] s5) fun a8 s7 => sem 172 35 [aA l0, aI l1, aI l2, aI l3] [aL a8, aL a6] s7)) f172_32 rfl rfl).trans ?_
      refine g_c ?_
      refine bL_c fun a8 s7 => ?_
      refine (x_iload f172_35 rfl rfl).trans ?_
      refine (x_invokestatic (G := bnL (sem 170 0 [aL a6, aU, aL a8, aU, aI l3, aU, aU, aU, aU, aU, aU] [] s7) fun a10 s9 => sem 172 39 [aA l0, aI l1, aI l2, aI l3] [aL a10] s9) f172_36 rfl rfl).trans ?_
      refine bL_c fun a10 s9 => ?_
      refine (x_goto (tg := 45) f172_39 rfl rfl).trans ?_
      refine (x_kil (l2 := [aU, aU, aU, aU]) f172_45 rfl).trans ?_
      exact x_lreturn f172_45 rfl
theorem f173_0 : fch 173 0 = some (.iconst 0, 1, []) := by decide +kernel
theorem f173_1 : fch 173 1 = some (.istore 3, 2, []) := by decide +kernel
theorem f173_2 : fch 173 2 = some (.iload 3, 3, []) := by decide +kernel
theorem f173_3 : fch 173 3 = some (.iconst 3, 4, []) := by decide +kernel
theorem f173_4 : fch 173 4 = some (.if_icmp .ge 20, 7, []) := by decide +kernel
theorem f173_7 : fch 173 7 = some (.aload 0, 8, []) := by decide +kernel
theorem f173_8 : fch 173 8 = some (.invokeinterface 9 8, 11, []) := by decide +kernel
theorem f173_11 : fch 173 11 = some (.iload 3, 12, []) := by decide +kernel
theorem f173_12 : fch 173 12 = some (.iconst 0, 13, []) := by decide +kernel
theorem f173_13 : fch 173 13 = some (.iastore, 14, []) := by decide +kernel
theorem f173_14 : fch 173 14 = some (.iinc 3 1, 17, []) := by decide +kernel
theorem f173_17 : fch 173 17 = some (.goto 2, 20, []) := by decide +kernel
theorem f173_20 : fch 173 20 = some (.iconst 0, 21, []) := by decide +kernel
theorem f173_21 : fch 173 21 = some (.istore 3, 22, []) := by decide +kernel
theorem f173_22 : fch 173 22 = some (.iload 3, 23, [4, 5, 7, 8]) := by decide +kernel
theorem f173_23 : fch 173 23 = some (.iload 1, 24, []) := by decide +kernel
theorem f173_24 : fch 173 24 = some (.if_icmp .ge 142, 27, []) := by decide +kernel
theorem f173_27 : fch 173 27 = some (.iconst (-9), 29, []) := by decide +kernel
theorem f173_29 : fch 173 29 = some (.istore 4, 31, []) := by decide +kernel
theorem f173_31 : fch 173 31 = some (.sipush (-1), 34, []) := by decide +kernel
theorem f173_34 : fch 173 34 = some (.lstore 5, 36, []) := by decide +kernel
theorem f173_36 : fch 173 36 = some (.iconst 0, 37, []) := by decide +kernel
theorem f173_37 : fch 173 37 = some (.istore 7, 39, []) := by decide +kernel
theorem f173_39 : fch 173 39 = some (.iload 7, 41, [8]) := by decide +kernel
theorem f173_41 : fch 173 41 = some (.aload 0, 42, []) := by decide +kernel
theorem f173_42 : fch 173 42 = some (.invokeinterface 9 1, 45, []) := by decide +kernel
theorem f173_45 : fch 173 45 = some (.iconst 0, 46, []) := by decide +kernel
theorem f173_46 : fch 173 46 = some (.iaload, 47, []) := by decide +kernel
theorem f173_47 : fch 173 47 = some (.if_icmp .ge 118, 50, []) := by decide +kernel
theorem f173_50 : fch 173 50 = some (.iload 7, 52, []) := by decide +kernel
theorem f173_52 : fch 173 52 = some (.iload 2, 53, []) := by decide +kernel
theorem f173_53 : fch 173 53 = some (.if_icmp .ne 62, 56, []) := by decide +kernel
theorem f173_56 : fch 173 56 = some (.sipush (-1), 59, []) := by decide +kernel
theorem f173_59 : fch 173 59 = some (.goto 76, 62, []) := by decide +kernel
theorem f173_62 : fch 173 62 = some (.aload 0, 63, []) := by decide +kernel
theorem f173_63 : fch 173 63 = some (.iload 7, 65, []) := by decide +kernel
theorem f173_65 : fch 173 65 = some (.aload 0, 66, []) := by decide +kernel
theorem f173_66 : fch 173 66 = some (.invokeinterface 9 8, 69, []) := by decide +kernel
theorem f173_69 : fch 173 69 = some (.iload 7, 71, []) := by decide +kernel
theorem f173_71 : fch 173 71 = some (.iaload, 72, []) := by decide +kernel
theorem f173_72 : fch 173 72 = some (.iconst 1, 73, []) := by decide +kernel
theorem f173_73 : fch 173 73 = some (.invokevirtual 169, 76, []) := by decide +kernel
theorem f173_76 : fch 173 76 = some (.lstore 8, 78, [8]) := by decide +kernel
theorem f173_78 : fch 173 78 = some (.lload 8, 80, []) := by decide +kernel
theorem f173_80 : fch 173 80 = some (.lload 5, 82, []) := by decide +kernel
theorem f173_82 : fch 173 82 = some (.lcmp, 83, []) := by decide +kernel
theorem f173_83 : fch 173 83 = some (.ifCond .le 91, 86, []) := by decide +kernel
theorem f173_86 : fch 173 86 = some (.iload 7, 88, []) := by decide +kernel
theorem f173_88 : fch 173 88 = some (.goto 93, 91, []) := by decide +kernel
theorem f173_91 : fch 173 91 = some (.iload 4, 93, []) := by decide +kernel
theorem f173_93 : fch 173 93 = some (.istore 4, 95, [4]) := by decide +kernel
theorem f173_95 : fch 173 95 = some (.lload 8, 97, []) := by decide +kernel
theorem f173_97 : fch 173 97 = some (.lload 5, 99, []) := by decide +kernel
theorem f173_99 : fch 173 99 = some (.lcmp, 100, []) := by decide +kernel
theorem f173_100 : fch 173 100 = some (.ifCond .le 108, 103, []) := by decide +kernel
theorem f173_103 : fch 173 103 = some (.lload 8, 105, []) := by decide +kernel
theorem f173_105 : fch 173 105 = some (.goto 110, 108, []) := by decide +kernel
theorem f173_108 : fch 173 108 = some (.lload 5, 110, []) := by decide +kernel
theorem f173_110 : fch 173 110 = some (.lstore 5, 112, [5, 8]) := by decide +kernel
theorem f173_112 : fch 173 112 = some (.iinc 7 1, 115, []) := by decide +kernel
theorem f173_115 : fch 173 115 = some (.goto 39, 118, []) := by decide +kernel
theorem f173_118 : fch 173 118 = some (.iload 4, 120, []) := by decide +kernel
theorem f173_120 : fch 173 120 = some (.iconst (-9), 122, []) := by decide +kernel
theorem f173_122 : fch 173 122 = some (.if_icmp .eq 136, 125, []) := by decide +kernel
theorem f173_125 : fch 173 125 = some (.aload 0, 126, []) := by decide +kernel
theorem f173_126 : fch 173 126 = some (.invokeinterface 9 8, 129, []) := by decide +kernel
theorem f173_129 : fch 173 129 = some (.iload 4, 131, []) := by decide +kernel
theorem f173_131 : fch 173 131 = some (.dup2, 132, []) := by decide +kernel
theorem f173_132 : fch 173 132 = some (.iaload, 133, []) := by decide +kernel
theorem f173_133 : fch 173 133 = some (.iconst 1, 134, []) := by decide +kernel
theorem f173_134 : fch 173 134 = some (.iadd, 135, []) := by decide +kernel
theorem f173_135 : fch 173 135 = some (.iastore, 136, []) := by decide +kernel
theorem f173_136 : fch 173 136 = some (.iinc 3 1, 139, [4, 5, 7, 8]) := by decide +kernel
theorem f173_139 : fch 173 139 = some (.goto 22, 142, []) := by decide +kernel
theorem f173_142 : fch 173 142 = some (.return_, 143, []) := by decide +kernel
set_option maxRecDepth 10000 in
theorem e173_0 (l0 l1 l2 : Int) (s : SG) : sem 173 0 [aA l0, aI l1, aI l2, aU, aU, aU, aU, aU, aU, aU] [] s = sem 173 2 [aA l0, aI l1, aI l2, aI 0, aU, aU, aU, aU, aU, aU] [] s := by
  refine (x_iconst f173_0 rfl).trans ?_
  refine (x_istore (l2 := [aA l0, aI l1, aI l2, aI 0, aU, aU, aU, aU, aU, aU]) f173_1 rfl rfl).trans ?_
  rfl
set_option maxRecDepth 10000 in
theorem e173_2 (l0 l1 l2 l3 : Int) (s : SG) : sem 173 2 [aA l0, aI l1, aI l2, aI l3, aU, aU, aU, aU, aU, aU] [] s = if l3 < 3 then grd (kd l0 = 9) (grd (0 ≤ s l0 8) (grd (kd (s l0 8) = 101) (grd ((0 : Int) ≤ l3 ∧ l3 < kl (s l0 8)) (sem 173 2 [aA l0, aI l1, aI l2, aI (w32 (l3 + 1)), aU, aU, aU, aU, aU, aU] [] (up s (s l0 8) l3 0))))) else sem 173 22 [aA l0, aI l1, aI l2, aI 0, aU, aU, aU, aU, aU, aU] [] s := by
  refine (x_iload f173_2 rfl rfl).trans ?_
  refine (x_iconst f173_3 rfl).trans ?_
  refine (x_icmp_ge (tg := 20) f173_4 rfl rfl).trans (i_c ?_ ?_)
  · refine (x_aload f173_7 rfl rfl).trans ?_
    refine (x_get2 f173_8 rfl rfl).trans ?_
    refine g_c ?_
    refine g_c ?_
    refine (x_iload f173_11 rfl rfl).trans ?_
    refine (x_iconst f173_12 rfl).trans ?_
    refine (x_iastore f173_13 rfl).trans ?_
    refine g_c ?_
    refine g_c ?_
    refine (x_iinc (l2 := [aA l0, aI l1, aI l2, aI (w32 (l3 + 1)), aU, aU, aU, aU, aU, aU]) f173_14 rfl rfl rfl).trans ?_
    refine (x_goto (tg := 2) f173_17 rfl rfl).trans ?_
    rfl
  · refine (x_iconst f173_20 rfl).trans ?_
    refine (x_istore (l2 := [aA l0, aI l1, aI l2, aI 0, aU, aU, aU, aU, aU, aU]) f173_21 rfl rfl).trans ?_
    rfl
set_option maxRecDepth 10000 in
theorem e173_22 (l0 l1 l2 l3 : Int) (s : SG) : sem 173 22 [aA l0, aI l1, aI l2, aI l3, aU, aU, aU, aU, aU, aU] [] s = if l3 < l1 then sem 173 39 [aA l0, aI l1, aI l2, aI l3, aI ((-9)), aL ((-1)), aU, aI 0, aU, aU] [] s else some (aU, s) := by
  refine (x_iload f173_22 rfl rfl).trans ?_
  refine (x_iload f173_23 rfl rfl).trans ?_
  refine (x_icmp_ge (tg := 142) f173_24 rfl rfl).trans (i_c ?_ ?_)
  · refine (x_iconst f173_27 rfl).trans ?_
    refine (x_istore (l2 := [aA l0, aI l1, aI l2, aI l3, aI ((-9)), aU, aU, aU, aU, aU]) f173_29 rfl rfl).trans ?_
    refine (x_lconst f173_31 rfl).trans ?_
    refine (x_lstore (l2 := [aA l0, aI l1, aI l2, aI l3, aI ((-9)), aL ((-1)), aU, aU, aU, aU]) f173_34 rfl rfl).trans ?_
    refine (x_iconst f173_36 rfl).trans ?_
    refine (x_istore (l2 := [aA l0, aI l1, aI l2, aI l3, aI ((-9)), aL ((-1)), aU, aI 0, aU, aU]) f173_37 rfl rfl).trans ?_
    rfl
  · exact x_return f173_142 rfl
set_option maxRecDepth 10000 in
theorem e173_39 (l0 l1 l2 l3 l4 l5 l7 : Int) (s : SG) : sem 173 39 [aA l0, aI l1, aI l2, aI l3, aI l4, aL l5, aU, aI l7, aU, aU] [] s = grd (kd l0 = 9) (grd (0 ≤ s l0 1) (grd (kd (s l0 1) = 101) (grd ((0 : Int) ≤ 0 ∧ 0 < kl (s l0 1)) (if l7 < (s (s l0 1) 0) then if l7 = l2 then sem 173 76 [aA l0, aI l1, aI l2, aI l3, aI l4, aL l5, aU, aI l7, aU, aU] [aL ((-1))] s else grd (kd l0 = 9) (grd (0 ≤ s l0 8) (grd (kd (s l0 8) = 101) (grd ((0 : Int) ≤ l7 ∧ l7 < kl (s l0 8)) (grd (kd l0 = 9) (bnL (sem 169 0 [aA l0, aI l7, aI (s (s l0 8) l7), aI 1, aU, aU, aU, aU, aU, aU, aU] [] s) fun a2 s1 => sem 173 76 [aA l0, aI l1, aI l2, aI l3, aI l4, aL l5, aU, aI l7, aU, aU] [aL a2] s1))))) else if l4 = ((-9)) then sem 173 22 [aA l0, aI l1, aI l2, aI (w32 (l3 + 1)), aU, aU, aU, aU, aU, aU] [] s else grd (kd l0 = 9) (grd (0 ≤ s l0 8) (grd (kd (s l0 8) = 101) (grd ((0 : Int) ≤ l4 ∧ l4 < kl (s l0 8)) (grd (kd (s l0 8) = 101) (grd ((0 : Int) ≤ l4 ∧ l4 < kl (s l0 8)) (sem 173 22 [aA l0, aI l1, aI l2, aI (w32 (l3 + 1)), aU, aU, aU, aU, aU, aU] [] (up s (s l0 8) l4 (w32 ((s (s l0 8) l4) + 1))))))))))))) := by
  refine (x_iload f173_39 rfl rfl).trans ?_
  refine (x_aload f173_41 rfl rfl).trans ?_
  refine (x_get2 f173_42 rfl rfl).trans ?_
  refine g_c ?_
  refine g_c ?_
  refine (x_iconst f173_45 rfl).trans ?_
  refine (x_iaload f173_46 rfl).trans ?_
  refine g_c ?_
  refine g_c ?_
  refine (x_icmp_ge (tg := 118) f173_47 rfl rfl).trans (i_c ?_ ?_)
  · refine (x_iload f173_50 rfl rfl).trans ?_
    refine (x_iload f173_52 rfl rfl).trans ?_
    refine (x_icmp_ne (tg := 62) f173_53 rfl rfl).trans (i_c ?_ ?_)
    · refine (x_lconst f173_56 rfl).trans ?_
      refine (x_goto (tg := 76) f173_59 rfl rfl).trans ?_
      rfl
    · refine (x_aload f173_62 rfl rfl).trans ?_
      refine (x_iload f173_63 rfl rfl).trans ?_
      refine (x_aload f173_65 rfl rfl).trans ?_
      refine (x_get2 f173_66 rfl rfl).trans ?_
      refine g_c ?_
      refine g_c ?_
      refine (x_iload f173_69 rfl rfl).trans ?_
      refine (x_iaload f173_71 rfl).trans ?_
      refine g_c ?_
      refine g_c ?_
      refine (x_iconst f173_72 rfl).trans ?_
      refine (x_invokevirtual (G := grd (kd l0 = 9) (bnL (sem 169 0 [aA l0, aI l7, aI (s (s l0 8) l7), aI 1, aU, aU, aU, aU, aU, aU, aU] [] s) fun a2 s1 => sem 173 76 [aA l0, aI l1, aI l2, aI l3, aI l4, aL l5, aU, aI l7, aU, aU] [aL a2] s1)) f173_73 rfl rfl).trans ?_
      refine g_c ?_
      refine bL_c fun a2 s1 => ?_
      rfl
  · refine (x_iload f173_118 rfl rfl).trans ?_
    refine (x_iconst f173_120 rfl).trans ?_
    refine (x_icmp_eq (tg := 136) f173_122 rfl rfl).trans (i_c ?_ ?_)
    · refine (x_kil (l2 := [aA l0, aI l1, aI l2, aI l3, aU, aU, aU, aU, aU, aU]) f173_136 rfl).trans ?_
      refine (x_iinc (l2 := [aA l0, aI l1, aI l2, aI (w32 (l3 + 1)), aU, aU, aU, aU, aU, aU]) f173_136 rfl rfl rfl).trans ?_
      refine (x_goto (tg := 22) f173_139 rfl rfl).trans ?_
      rfl
    · refine (x_aload f173_125 rfl rfl).trans ?_
      refine (x_get2 f173_126 rfl rfl).trans ?_
      refine g_c ?_
      refine g_c ?_
      refine (x_iload f173_129 rfl rfl).trans ?_
      refine (x_dup2 f173_131 rfl rfl).trans ?_
      refine (x_iaload f173_132 rfl).trans ?_
      refine g_c ?_
      refine g_c ?_
      refine (x_iconst f173_133 rfl).trans ?_
      refine (x_iadd f173_134 rfl).trans ?_
      refine (x_iastore f173_135 rfl).trans ?_
      refine g_c ?_
      refine g_c ?_
      refine (x_kil (l2 := [aA l0, aI l1, aI l2, aI l3, aU, aU, aU, aU, aU, aU]) f173_136 rfl).trans ?_
      refine (x_iinc (l2 := [aA l0, aI l1, aI l2, aI (w32 (l3 + 1)), aU, aU, aU, aU, aU, aU]) f173_136 rfl rfl rfl).trans ?_
      refine (x_goto (tg := 22) f173_139 rfl rfl).trans ?_
      rfl
set_option maxRecDepth 10000 in
theorem e173_76 (l0 l1 l2 l3 l4 l5 l7 v0 : Int) (s : SG) : sem 173 76 [aA l0, aI l1, aI l2, aI l3, aI l4, aL l5, aU, aI l7, aU, aU] [aL v0] s = sem 173 39 [aA l0, aI l1, aI l2, aI l3, aI (if (0 : Int) < (cmpL v0 l5) then l7 else l4), aL (if (0 : Int) < (cmpL v0 l5) then v0 else l5), aU, aI (w32 (l7 + 1)), aU, aU] [] s := by
  refine (x_lstore (l2 := [aA l0, aI l1, aI l2, aI l3, aI l4, aL l5, aU, aI l7, aL v0, aU]) f173_76 rfl rfl).trans ?_
  refine (x_lload f173_78 rfl rfl).trans ?_
  refine (x_lload f173_80 rfl rfl).trans ?_
  refine (x_lcmp f173_82 rfl).trans ?_
  refine (x_if_le (tg := 91) f173_83 rfl rfl).trans ?_
  refine Eq.trans (b := if (0 : Int) < (cmpL v0 l5) then sem 173 93 [aA l0, aI l1, aI l2, aI l3, aU, aL l5, aU, aI l7, aL v0, aU] [aI l7] s else sem 173 93 [aA l0, aI l1, aI l2, aI l3, aU, aL l5, aU, aI l7, aL v0, aU] [aI l4] s) (i_c ?_ ?_) ?_
  · refine (x_iload f173_86 rfl rfl).trans ?_
    refine (x_goto (tg := 93) f173_88 rfl rfl).trans ?_
    exact x_kil f173_93 rfl
  · refine (x_iload f173_91 rfl rfl).trans ?_
    exact x_kil f173_93 rfl
  refine m_I.trans ?_
  refine (x_istore (l2 := [aA l0, aI l1, aI l2, aI l3, aI (if (0 : Int) < (cmpL v0 l5) then l7 else l4), aL l5, aU, aI l7, aL v0, aU]) f173_93 rfl rfl).trans ?_
  refine (x_lload f173_95 rfl rfl).trans ?_
  refine (x_lload f173_97 rfl rfl).trans ?_
  refine (x_lcmp f173_99 rfl).trans ?_
  refine (x_if_le (tg := 108) f173_100 rfl rfl).trans ?_
  refine Eq.trans (b := if (0 : Int) < (cmpL v0 l5) then sem 173 110 [aA l0, aI l1, aI l2, aI l3, aI (if (0 : Int) < (cmpL v0 l5) then l7 else l4), aU, aU, aI l7, aU, aU] [aL v0] s else sem 173 110 [aA l0, aI l1, aI l2, aI l3, aI (if (0 : Int) < (cmpL v0 l5) then l7 else l4), aU, aU, aI l7, aU, aU] [aL l5] s) (i_c ?_ ?_) ?_
  · refine (x_lload f173_103 rfl rfl).trans ?_
    refine (x_goto (tg := 110) f173_105 rfl rfl).trans ?_
    exact x_kil f173_110 rfl
  · refine (x_lload f173_108 rfl rfl).trans ?_
    exact x_kil f173_110 rfl
  refine m_L.trans ?_
  refine (x_lstore (l2 := [aA l0, aI l1, aI l2, aI l3, aI (if (0 : Int) < (cmpL v0 l5) then l7 else l4), aL (if (0 : Int) < (cmpL v0 l5) then v0 else l5), aU, aI l7, aU, aU]) f173_110 rfl rfl).trans ?_
  refine (x_iinc (l2 := [aA l0, aI l1, aI l2, aI l3, aI (if (0 : Int) < (cmpL v0 l5) then l7 else l4), aL (if (0 : Int) < (cmpL v0 l5) then v0 else l5), aU, aI (w32 (l7 + 1)), aU, aU]) f173_112 rfl rfl rfl).trans ?_
  refine (x_goto (tg := 39) f173_115 rfl rfl).trans ?_
  rfl
theorem f174_0 : fch 174 0 = some (.sipush 0, 1, []) := by decide +kernel
theorem f174_1 : fch 174 1 = some (.lstore 2, 2, []) := by decide +kernel
theorem f174_2 : fch 174 2 = some (.iconst 0, 3, []) := by decide +kernel
theorem f174_3 : fch 174 3 = some (.istore 4, 5, []) := by decide +kernel
theorem f174_5 : fch 174 5 = some (.iload 4, 7, []) := by decide +kernel
theorem f174_7 : fch 174 7 = some (.aload 0, 8, []) := by decide +kernel
theorem f174_8 : fch 174 8 = some (.invokeinterface 9 1, 11, []) := by decide +kernel
theorem f174_11 : fch 174 11 = some (.iconst 0, 12, []) := by decide +kernel
theorem f174_12 : fch 174 12 = some (.iaload, 13, []) := by decide +kernel
theorem f174_13 : fch 174 13 = some (.if_icmp .ge 39, 16, []) := by decide +kernel
theorem f174_16 : fch 174 16 = some (.lload 2, 17, []) := by decide +kernel
theorem f174_17 : fch 174 17 = some (.aload 0, 18, []) := by decide +kernel
theorem f174_18 : fch 174 18 = some (.iload 4, 20, []) := by decide +kernel
theorem f174_20 : fch 174 20 = some (.aload 0, 21, []) := by decide +kernel
theorem f174_21 : fch 174 21 = some (.invokeinterface 9 8, 24, []) := by decide +kernel
theorem f174_24 : fch 174 24 = some (.iload 4, 26, []) := by decide +kernel
theorem f174_26 : fch 174 26 = some (.iaload, 27, []) := by decide +kernel
theorem f174_27 : fch 174 27 = some (.iconst 0, 28, []) := by decide +kernel
theorem f174_28 : fch 174 28 = some (.invokevirtual 169, 31, []) := by decide +kernel
theorem f174_31 : fch 174 31 = some (.ladd, 32, []) := by decide +kernel
theorem f174_32 : fch 174 32 = some (.lstore 2, 33, []) := by decide +kernel
theorem f174_33 : fch 174 33 = some (.iinc 4 1, 36, []) := by decide +kernel
theorem f174_36 : fch 174 36 = some (.goto 5, 39, []) := by decide +kernel
theorem f174_39 : fch 174 39 = some (.lload 2, 40, []) := by decide +kernel
theorem f174_40 : fch 174 40 = some (.aload 0, 41, []) := by decide +kernel
theorem f174_41 : fch 174 41 = some (.invokeinterface 9 1, 44, []) := by decide +kernel
theorem f174_44 : fch 174 44 = some (.iconst 5, 45, []) := by decide +kernel
theorem f174_45 : fch 174 45 = some (.iaload, 46, []) := by decide +kernel
theorem f174_46 : fch 174 46 = some (.i2l, 47, []) := by decide +kernel
theorem f174_47 : fch 174 47 = some (.lmul, 48, []) := by decide +kernel
theorem f174_48 : fch 174 48 = some (.iload 1, 49, []) := by decide +kernel
theorem f174_49 : fch 174 49 = some (.i2l, 50, []) := by decide +kernel
theorem f174_50 : fch 174 50 = some (.aload 0, 51, []) := by decide +kernel
theorem f174_51 : fch 174 51 = some (.invokevirtual 167, 54, []) := by decide +kernel
theorem f174_54 : fch 174 54 = some (.lmul, 55, []) := by decide +kernel
theorem f174_55 : fch 174 55 = some (.lload 2, 56, []) := by decide +kernel
theorem f174_56 : fch 174 56 = some (.lsub, 57, []) := by decide +kernel
theorem f174_57 : fch 174 57 = some (.aload 0, 58, []) := by decide +kernel
theorem f174_58 : fch 174 58 = some (.invokeinterface 9 1, 61, []) := by decide +kernel
theorem f174_61 : fch 174 61 = some (.iconst 6, 63, []) := by decide +kernel
theorem f174_63 : fch 174 63 = some (.iaload, 64, []) := by decide +kernel
theorem f174_64 : fch 174 64 = some (.i2l, 65, []) := by decide +kernel
theorem f174_65 : fch 174 65 = some (.lmul, 66, []) := by decide +kernel
theorem f174_66 : fch 174 66 = some (.ladd, 67, []) := by decide +kernel
theorem f174_67 : fch 174 67 = some (.iload 1, 68, []) := by decide +kernel
theorem f174_68 : fch 174 68 = some (.i2l, 69, []) := by decide +kernel
theorem f174_69 : fch 174 69 = some (.aload 0, 70, []) := by decide +kernel
theorem f174_70 : fch 174 70 = some (.invokevirtual 167, 73, []) := by decide +kernel
theorem f174_73 : fch 174 73 = some (.lmul, 74, []) := by decide +kernel
theorem f174_74 : fch 174 74 = some (.aload 0, 75, []) := by decide +kernel
theorem f174_75 : fch 174 75 = some (.invokeinterface 9 1, 78, []) := by decide +kernel
theorem f174_78 : fch 174 78 = some (.iconst 4, 79, []) := by decide +kernel
theorem f174_79 : fch 174 79 = some (.iaload, 80, []) := by decide +kernel
theorem f174_80 : fch 174 80 = some (.i2l, 81, []) := by decide +kernel
theorem f174_81 : fch 174 81 = some (.lmul, 82, []) := by decide +kernel
theorem f174_82 : fch 174 82 = some (.lsub, 83, []) := by decide +kernel
theorem f174_83 : fch 174 83 = some (.lreturn, 84, []) := by decide +kernel
set_option maxRecDepth 10000 in
theorem e174_0 (l0 l1 : Int) (s : SG) : sem 174 0 [aA l0, aI l1, aU, aU, aU] [] s = sem 174 5 [aA l0, aI l1, aL 0, aU, aI 0] [] s := by
  refine (x_lconst f174_0 rfl).trans ?_
  refine (x_lstore (l2 := [aA l0, aI l1, aL 0, aU, aU]) f174_1 rfl rfl).trans ?_
  refine (x_iconst f174_2 rfl).trans ?_
  refine (x_istore (l2 := [aA l0, aI l1, aL 0, aU, aI 0]) f174_3 rfl rfl).trans ?_
  rfl
set_option maxRecDepth 10000 in
theorem e174_5 (l0 l1 l2 l4 : Int) (s : SG) : sem 174 5 [aA l0, aI l1, aL l2, aU, aI l4] [] s = grd (kd l0 = 9) (grd (0 ≤ s l0 1) (grd (kd (s l0 1) = 101) (grd ((0 : Int) ≤ 0 ∧ 0 < kl (s l0 1)) (if l4 < (s (s l0 1) 0) then grd (kd l0 = 9) (grd (0 ≤ s l0 8) (grd (kd (s l0 8) = 101) (grd ((0 : Int) ≤ l4 ∧ l4 < kl (s l0 8)) (grd (kd l0 = 9) (bnL (sem 169 0 [aA l0, aI l4, aI (s (s l0 8) l4), aI 0, aU, aU, aU, aU, aU, aU, aU] [] s) fun a2 s1 => sem 174 5 [aA l0, aI l1, aL (w64 (l2 + a2)), aU, aI (w32 (l4 + 1))] [] s1))))) else grd (kd l0 = 9) (grd (0 ≤ s l0 1) (grd (kd (s l0 1) = 101) (grd ((0 : Int) ≤ 5 ∧ 5 < kl (s l0 1)) (grd (kd l0 = 9) (bnL (sem 167 0 [aA l0] [] s) fun a4 s3 => grd (kd l0 = 9) (grd (0 ≤ s3 l0 1) (grd (kd (s3 l0 1) = 101) (grd ((0 : Int) ≤ 6 ∧ 6 < kl (s3 l0 1)) (grd (kd l0 = 9) (bnL (sem 167 0 [aA l0] [] s3) fun a6 s5 => grd (kd l0 = 9) (grd (0 ≤ s5 l0 1) (grd (kd (s5 l0 1) = 101) (grd ((0 : Int) ≤ 4 ∧ 4 < kl (s5 l0 1)) (some (aL (w64 ((w64 ((w64 (l2 * (s (s l0 1) 5))) + (w64 ((w64 ((w64 (l1 * a4)) - l2)) * (s3 (s3 l0 1) 6))))) - (w64 ((w64 (l1 * a6)) * (s5 (s5 l0 1) 4))))), s5))))))))))))))))))) := by
  refine (x_iload f174_5 rfl rfl).trans ?_
  refine (x_aload f174_7 rfl rfl).trans ?_
  refine (x_get2 f174_8 rfl rfl).trans ?_
  refine g_c ?_
  refine g_c ?_
  refine (x_iconst f174_11 rfl).trans ?_
  refine (x_iaload f174_12 rfl).trans ?_
  refine g_c ?_
  refine g_c ?_
  refine (x_icmp_ge (tg := 39) f174_13 rfl rfl).trans (i_c ?_ ?_)
  · refine (x_lload f174_16 rfl rfl).trans ?_
    refine (x_aload f174_17 rfl rfl).trans ?_
    refine (x_iload f174_18 rfl rfl).trans ?_
    refine (x_aload f174_20 rfl rfl).trans ?_
    refine (x_get2 f174_21 rfl rfl).trans ?_
    refine g_c ?_
    refine g_c ?_
    refine (x_iload f174_24 rfl rfl).trans ?_
    refine (x_iaload f174_26 rfl).trans ?_
    refine g_c ?_
    refine g_c ?_
    refine (x_iconst f174_27 rfl).trans ?_
    refine (x_invokevirtual (G := grd (kd l0 = 9) (bnL (sem 169 0 [aA l0, aI l4, aI (s (s l0 8) l4), aI 0, aU, aU, aU, aU, aU, aU, aU] [] s) fun a2 s1 => sem 174 31 [aA l0, aI l1, aL l2, aU, aI l4] [aL a2, aL l2] s1)) f174_28 rfl rfl).trans ?_
    refine g_c ?_
    refine bL_c fun a2 s1 => ?_
    refine (x_ladd f174_31 rfl).trans ?_
    refine (x_lstore (l2 := [aA l0, aI l1, aL (w64 (l2 + a2)), aU, aI l4]) f174_32 rfl rfl).trans ?_
    refine (x_iinc (l2 := [aA l0, aI l1, aL (w64 (l2 + a2)), aU, aI (w32 (l4 + 1))]) f174_33 rfl rfl rfl).trans ?_
    refine (x_goto (tg := 5) f174_36 rfl rfl).trans ?_
    rfl
  · refine (x_lload f174_39 rfl rfl).trans ?_
    refine (x_aload f174_40 rfl rfl).trans ?_
    refine (x_get2 f174_41 rfl rfl).trans ?_
    refine g_c ?_
    refine g_c ?_
    refine (x_iconst f174_44 rfl).trans ?_
    refine (x_iaload f174_45 rfl).trans ?_
    refine g_c ?_
    refine g_c ?_
    refine (x_i2l f174_46 rfl).trans ?_
    refine (x_lmul f174_47 rfl).trans ?_
    refine (x_iload f174_48 rfl rfl).trans ?_
    refine (x_i2l f174_49 rfl).trans ?_
    refine (x_aload f174_50 rfl rfl).trans ?_
    refine (x_invokevirtual (G := grd (kd l0 = 9) (bnL (sem 167 0 [aA l0] [] s) fun a4 s3 => sem 174 54 [aA l0, aI l1, aL l2, aU, aI l4] [aL a4, aL l1, aL (w64 (l2 * (s (s l0 1) 5)))] s3)) f174_51 rfl rfl).trans ?_
    refine g_c ?_
    refine bL_c fun a4 s3 => ?_
    refine (x_lmul f174_54 rfl).trans ?_
    refine (x_lload f174_55 rfl rfl).trans ?_
    refine (x_lsub f174_56 rfl).trans ?_
    refine (x_aload f174_57 rfl rfl).trans ?_
    refine (x_get2 f174_58 rfl rfl).trans ?_
    refine g_c ?_
    refine g_c ?_
    refine (x_iconst f174_61 rfl).trans ?_
    refine (x_iaload f174_63 rfl).trans ?_
    refine g_c ?_
    refine g_c ?_
    refine (x_i2l f174_64 rfl).trans ?_
    refine (x_lmul f174_65 rfl).trans ?_
    refine (x_ladd f174_66 rfl).trans ?_
    refine (x_iload f174_67 rfl rfl).trans ?_
    refine (x_i2l f174_68 rfl).trans ?_
    refine (x_aload f174_69 rfl rfl).trans ?_
    refine (x_invokevirtual (G := grd (kd l0 = 9) (bnL (sem 167 0 [aA l0] [] s3) fun a6 s5 => sem 174 73 [aA l0, aI l1, aL l2, aU, aI l4] [aL a6, aL l1, aL (w64 ((w64 (l2 * (s (s l0 1) 5))) + (w64 ((w64 ((w64 (l1 * a4)) - l2)) * (s3 (s3 l0 1) 6)))))] s5)) f174_70 rfl rfl).trans ?_
    refine g_c ?_
    refine bL_c fun a6 s5 => ?_
    refine (x_lmul f174_73 rfl).trans ?_
    refine (x_aload f174_74 rfl rfl).trans ?_
    refine (x_get2 f174_75 rfl rfl).trans ?_
    refine g_c ?_
    refine g_c ?_
    refine (x_iconst f174_78 rfl).trans ?_
    refine (x_iaload f174_79 rfl).trans ?_
    refine g_c ?_
    refine g_c ?_
    refine (x_i2l f174_80 rfl).trans ?_
    refine (x_lmul f174_81 rfl).trans ?_
    refine (x_lsub f174_82 rfl).trans ?_
    exact x_lreturn f174_83 rfl
theorem f175_0 : fch 175 0 = some (.aload 0, 1, []) := by decide +kernel
theorem f175_1 : fch 175 1 = some (.iload 2, 2, []) := by decide +kernel
theorem f175_2 : fch 175 2 = some (.invokevirtual 163, 5, []) := by decide +kernel
theorem f175_5 : fch 175 5 = some (.ifCond .ne 10, 8, []) := by decide +kernel
theorem f175_8 : fch 175 8 = some (.iconst (-1), 9, []) := by decide +kernel
theorem f175_9 : fch 175 9 = some (.ireturn, 10, []) := by decide +kernel
theorem f175_10 : fch 175 10 = some (.iload 1, 11, []) := by decide +kernel
theorem f175_11 : fch 175 11 = some (.i2l, 12, []) := by decide +kernel
theorem f175_12 : fch 175 12 = some (.sipush 0, 13, []) := by decide +kernel
theorem f175_13 : fch 175 13 = some (.sipush 60, 16, []) := by decide +kernel
theorem f175_16 : fch 175 16 = some (.invokestatic 152, 19, []) := by decide +kernel
theorem f175_19 : fch 175 19 = some (.ifCond .ne 25, 22, []) := by decide +kernel
theorem f175_22 : fch 175 22 = some (.iconst (-2), 24, []) := by decide +kernel
theorem f175_24 : fch 175 24 = some (.ireturn, 25, []) := by decide +kernel
theorem f175_25 : fch 175 25 = some (.aload 0, 26, []) := by decide +kernel
theorem f175_26 : fch 175 26 = some (.iload 1, 27, []) := by decide +kernel
theorem f175_27 : fch 175 27 = some (.iconst (-1), 28, []) := by decide +kernel
theorem f175_28 : fch 175 28 = some (.invokevirtual 173, 31, []) := by decide +kernel
theorem f175_31 : fch 175 31 = some (.aload 0, 32, []) := by decide +kernel
theorem f175_32 : fch 175 32 = some (.invokeinterface 9 8, 35, []) := by decide +kernel
theorem f175_35 : fch 175 35 = some (.iload 2, 36, []) := by decide +kernel
theorem f175_36 : fch 175 36 = some (.iaload, 37, []) := by decide +kernel
theorem f175_37 : fch 175 37 = some (.ireturn, 38, []) := by decide +kernel
set_option maxRecDepth 10000 in
theorem e175_0 (l0 l1 l2 : Int) (s : SG) : sem 175 0 [aA l0, aI l1, aI l2] [] s = grd (kd l0 = 9) (bnI (sem 163 0 [aA l0, aI l2] [] s) fun a2 s1 => if a2 = 0 then some (aI ((-1)), s1) else bnI (sem 152 0 [aL l1, aU, aL 0, aU, aL 60, aU] [] s1) fun a4 s3 => if a4 = 0 then some (aI ((-2)), s3) else grd (kd l0 = 9) (bnV (sem 173 0 [aA l0, aI l1, aI ((-1)), aU, aU, aU, aU, aU, aU, aU] [] s3) fun s5 => grd (kd l0 = 9) (grd (0 ≤ s5 l0 8) (grd (kd (s5 l0 8) = 101) (grd ((0 : Int) ≤ l2 ∧ l2 < kl (s5 l0 8)) (some (aI (s5 (s5 l0 8) l2), s5))))))) := by
  refine (x_aload f175_0 rfl rfl).trans ?_
  refine (x_iload f175_1 rfl rfl).trans ?_
  refine (x_invokevirtual (G := grd (kd l0 = 9) (bnI (sem 163 0 [aA l0, aI l2] [] s) fun a2 s1 => sem 175 5 [aA l0, aI l1, aI l2] [aI a2] s1)) f175_2 rfl rfl).trans ?_
  refine g_c ?_
  refine bI_c fun a2 s1 => ?_
  refine (x_if_ne (tg := 10) f175_5 rfl rfl).trans (i_c ?_ ?_)
  · refine (x_iconst f175_8 rfl).trans ?_
    exact x_ireturn f175_9 rfl
  · refine (x_iload f175_10 rfl rfl).trans ?_
    refine (x_i2l f175_11 rfl).trans ?_
    refine (x_lconst f175_12 rfl).trans ?_
    refine (x_lconst f175_13 rfl).trans ?_
    refine (x_invokestatic (G := bnI (sem 152 0 [aL l1, aU, aL 0, aU, aL 60, aU] [] s1) fun a4 s3 => sem 175 19 [aA l0, aI l1, aI l2] [aI a4] s3) f175_16 rfl rfl).trans ?_
    refine bI_c fun a4 s3 => ?_
    refine (x_if_ne (tg := 25) f175_19 rfl rfl).trans (i_c ?_ ?_)
    · refine (x_iconst f175_22 rfl).trans ?_
      exact x_ireturn f175_24 rfl
    · refine (x_aload f175_25 rfl rfl).trans ?_
      refine (x_iload f175_26 rfl rfl).trans ?_
      refine (x_iconst f175_27 rfl).trans ?_
      refine (x_invokevirtual (G := grd (kd l0 = 9) (bnV (sem 173 0 [aA l0, aI l1, aI ((-1)), aU, aU, aU, aU, aU, aU, aU] [] s3) fun s5 => sem 175 31 [aA l0, aI l1, aI l2] [] s5)) f175_28 rfl rfl).trans ?_
      refine g_c ?_
      refine bV_c fun s5 => ?_
      refine (x_aload f175_31 rfl rfl).trans ?_
      refine (x_get2 f175_32 rfl rfl).trans ?_
      refine g_c ?_
      refine g_c ?_
      refine (x_iload f175_35 rfl rfl).trans ?_
      refine (x_iaload f175_36 rfl).trans ?_
      refine g_c ?_
      refine g_c ?_
      exact x_ireturn f175_37 rfl
theorem f176_0 : fch 176 0 = some (.iload 1, 1, []) := by decide +kernel
theorem f176_1 : fch 176 1 = some (.i2l, 2, []) := by decide +kernel
theorem f176_2 : fch 176 2 = some (.sipush 0, 3, []) := by decide +kernel
theorem f176_3 : fch 176 3 = some (.sipush 60, 6, []) := by decide +kernel
theorem f176_6 : fch 176 6 = some (.invokestatic 152, 9, []) := by decide +kernel
theorem f176_9 : fch 176 9 = some (.ifCond .ne 16, 12, []) := by decide +kernel
theorem f176_12 : fch 176 12 = some (.sipush (-2), 15, []) := by decide +kernel
theorem f176_15 : fch 176 15 = some (.lreturn, 16, []) := by decide +kernel
theorem f176_16 : fch 176 16 = some (.aload 0, 17, []) := by decide +kernel
theorem f176_17 : fch 176 17 = some (.iload 1, 18, []) := by decide +kernel
theorem f176_18 : fch 176 18 = some (.iconst (-1), 19, []) := by decide +kernel
theorem f176_19 : fch 176 19 = some (.invokevirtual 173, 22, []) := by decide +kernel
theorem f176_22 : fch 176 22 = some (.aload 0, 23, []) := by decide +kernel
theorem f176_23 : fch 176 23 = some (.iload 1, 24, []) := by decide +kernel
theorem f176_24 : fch 176 24 = some (.invokevirtual 174, 27, []) := by decide +kernel
theorem f176_27 : fch 176 27 = some (.aload 0, 28, []) := by decide +kernel
theorem f176_28 : fch 176 28 = some (.invokevirtual 167, 31, []) := by decide +kernel
theorem f176_31 : fch 176 31 = some (.iload 2, 32, []) := by decide +kernel
theorem f176_32 : fch 176 32 = some (.invokestatic 170, 35, []) := by decide +kernel
theorem f176_35 : fch 176 35 = some (.lstore 3, 36, []) := by decide +kernel
theorem f176_36 : fch 176 36 = some (.iload 2, 37, []) := by decide +kernel
theorem f176_37 : fch 176 37 = some (.ifCond .eq 48, 40, []) := by decide +kernel
theorem f176_40 : fch 176 40 = some (.sipush 1000000, 43, []) := by decide +kernel
theorem f176_43 : fch 176 43 = some (.lload 3, 44, []) := by decide +kernel
theorem f176_44 : fch 176 44 = some (.ladd, 45, []) := by decide +kernel
theorem f176_45 : fch 176 45 = some (.goto 49, 48, []) := by decide +kernel
theorem f176_48 : fch 176 48 = some (.lload 3, 49, []) := by decide +kernel
theorem f176_49 : fch 176 49 = some (.lreturn, 50, [0, 1, 2, 3]) := by decide +kernel
set_option maxRecDepth 10000 in
theorem e176_0 (l0 l1 l2 : Int) (s : SG) : sem 176 0 [aA l0, aI l1, aI l2, aU, aU] [] s = bnI (sem 152 0 [aL l1, aU, aL 0, aU, aL 60, aU] [] s) fun a2 s1 => if a2 = 0 then some (aL ((-2)), s1) else grd (kd l0 = 9) (bnV (sem 173 0 [aA l0, aI l1, aI ((-1)), aU, aU, aU, aU, aU, aU, aU] [] s1) fun s3 => grd (kd l0 = 9) (bnL (sem 174 0 [aA l0, aI l1, aU, aU, aU] [] s3) fun a5 s4 => grd (kd l0 = 9) (bnL (sem 167 0 [aA l0] [] s4) fun a7 s6 => bnL (sem 170 0 [aL a5, aU, aL a7, aU, aI l2, aU, aU, aU, aU, aU, aU] [] s6) fun a9 s8 => if l2 = 0 then some (aL a9, s8) else some (aL (w64 (1000000 + a9)), s8)))) := by
  refine (x_iload f176_0 rfl rfl).trans ?_
  refine (x_i2l f176_1 rfl).trans ?_
  refine (x_lconst f176_2 rfl).trans ?_
  refine (x_lconst f176_3 rfl).trans ?_
  refine (x_invokestatic (G := bnI (sem 152 0 [aL l1, aU, aL 0, aU, aL 60, aU] [] s) fun a2 s1 => sem 176 9 [aA l0, aI l1, aI l2, aU, aU] [aI a2] s1) f176_6 rfl rfl).trans ?_
  refine bI_c fun a2 s1 => ?_
  refine (x_if_ne (tg := 16) f176_9 rfl rfl).trans (i_c ?_ ?_)
  · refine (x_lconst f176_12 rfl).trans ?_
    exact x_lreturn f176_15 rfl
  · refine (x_aload f176_16 rfl rfl).trans ?_
    refine (x_iload f176_17 rfl rfl).trans ?_
    refine (x_iconst f176_18 rfl).trans ?_
    refine (x_invokevirtual (G := grd (kd l0 = 9) (bnV (sem 173 0 [aA l0, aI l1, aI ((-1)), aU, aU, aU, aU, aU, aU, aU] [] s1) fun s3 => sem 176 22 [aA l0, aI l1, aI l2, aU, aU] [] s3)) f176_19 rfl rfl).trans ?_
    refine g_c ?_
    refine bV_c fun s3 => ?_
    refine (x_aload f176_22 rfl rfl).trans ?_
    refine (x_iload f176_23 rfl rfl).trans ?_
    refine (x_invokevirtual (G := grd (kd l0 = 9) (bnL (sem 174 0 [aA l0, aI l1, aU, aU, aU] [] s3) fun a5 s4 => sem 176 27 [aA l0, aI l1, aI l2, aU, aU] [aL a5] s4)) f176_24 rfl rfl).trans ?_
    refine g_c ?_
    refine bL_c fun a5 s4 => ?_
    refine (x_aload f176_27 rfl rfl).trans ?_
    refine (x_invokevirtual (G := grd (kd l0 = 9) (bnL (sem 167 0 [aA l0] [] s4) fun a7 s6 => sem 176 31 [aA l0, aI l1, aI l2, aU, aU] [aL a7, aL a5] s6)) f176_28 rfl rfl).trans ?_
    refine g_c ?_
    refine bL_c fun a7 s6 => ?_
    refine (x_iload f176_31 rfl rfl).trans ?_
    refine (x_invokestatic (G := bnL (sem 170 0 [aL a5, aU, aL a7, aU, aI l2, aU, aU, aU, aU, aU, aU] [] s6) fun a9 s8 => sem 176 35 [aA l0, aI l1, aI l2, aU, aU] [aL a9] s8) f176_32 rfl rfl).trans ?_
    refine bL_c fun a9 s8 => ?_
    refine (x_lstore (l2 := [aA l0, aI l1, aI l2, aL a9, aU]) f176_35 rfl rfl).trans ?_
    refine (x_iload f176_36 rfl rfl).trans ?_
    refine (x_if_eq (tg := 48) f176_37 rfl rfl).trans (i_c ?_ ?_)
    · refine (x_lload f176_48 rfl rfl).trans ?_
      refine (x_kil (l2 := [aU, aU, aU, aU, aU]) f176_49 rfl).trans ?_
      exact x_lreturn f176_49 rfl
    · refine (x_lconst f176_40 rfl).trans ?_
      refine (x_lload f176_43 rfl rfl).trans ?_
      refine (x_ladd f176_44 rfl).trans ?_
      refine (x_goto (tg := 49) f176_45 rfl rfl).trans ?_
      refine (x_kil (l2 := [aU, aU, aU, aU, aU]) f176_49 rfl).trans ?_
      exact x_lreturn f176_49 rfl
theorem f177_0 : fch 177 0 = some (.iconst 0, 1, []) := by decide +kernel
theorem f177_1 : fch 177 1 = some (.istore 1, 2, []) := by decide +kernel
theorem f177_2 : fch 177 2 = some (.sipush 0, 3, []) := by decide +kernel
theorem f177_3 : fch 177 3 = some (.lstore 2, 4, []) := by decide +kernel
theorem f177_4 : fch 177 4 = some (.iconst 0, 5, []) := by decide +kernel
theorem f177_5 : fch 177 5 = some (.istore 4, 7, []) := by decide +kernel
theorem f177_7 : fch 177 7 = some (.iload 4, 9, [5]) := by decide +kernel
theorem f177_9 : fch 177 9 = some (.iconst 61, 11, []) := by decide +kernel
theorem f177_11 : fch 177 11 = some (.if_icmp .ge 73, 14, []) := by decide +kernel
theorem f177_14 : fch 177 14 = some (.aload 0, 15, []) := by decide +kernel
theorem f177_15 : fch 177 15 = some (.iload 4, 17, []) := by decide +kernel
theorem f177_17 : fch 177 17 = some (.iconst (-1), 18, []) := by decide +kernel
theorem f177_18 : fch 177 18 = some (.invokevirtual 173, 21, []) := by decide +kernel
theorem f177_21 : fch 177 21 = some (.aload 0, 22, []) := by decide +kernel
theorem f177_22 : fch 177 22 = some (.iload 4, 24, []) := by decide +kernel
theorem f177_24 : fch 177 24 = some (.invokevirtual 174, 27, []) := by decide +kernel
theorem f177_27 : fch 177 27 = some (.lstore 5, 29, []) := by decide +kernel
theorem f177_29 : fch 177 29 = some (.iload 4, 31, []) := by decide +kernel
theorem f177_31 : fch 177 31 = some (.ifCond .eq 41, 34, []) := by decide +kernel
theorem f177_34 : fch 177 34 = some (.lload 5, 36, []) := by decide +kernel
theorem f177_36 : fch 177 36 = some (.lload 2, 37, []) := by decide +kernel
theorem f177_37 : fch 177 37 = some (.lcmp, 38, []) := by decide +kernel
theorem f177_38 : fch 177 38 = some (.ifCond .le 46, 41, []) := by decide +kernel
theorem f177_41 : fch 177 41 = some (.iload 4, 43, [1]) := by decide +kernel
theorem f177_43 : fch 177 43 = some (.goto 47, 46, []) := by decide +kernel
theorem f177_46 : fch 177 46 = some (.iload 1, 47, []) := by decide +kernel
theorem f177_47 : fch 177 47 = some (.istore 1, 48, [1]) := by decide +kernel
theorem f177_48 : fch 177 48 = some (.iload 4, 50, []) := by decide +kernel
theorem f177_50 : fch 177 50 = some (.ifCond .eq 60, 53, []) := by decide +kernel
theorem f177_53 : fch 177 53 = some (.lload 5, 55, []) := by decide +kernel
theorem f177_55 : fch 177 55 = some (.lload 2, 56, []) := by decide +kernel
theorem f177_56 : fch 177 56 = some (.lcmp, 57, []) := by decide +kernel
theorem f177_57 : fch 177 57 = some (.ifCond .le 65, 60, []) := by decide +kernel
theorem f177_60 : fch 177 60 = some (.lload 5, 62, [2]) := by decide +kernel
theorem f177_62 : fch 177 62 = some (.goto 66, 65, []) := by decide +kernel
theorem f177_65 : fch 177 65 = some (.lload 2, 66, []) := by decide +kernel
theorem f177_66 : fch 177 66 = some (.lstore 2, 67, [2, 5]) := by decide +kernel
theorem f177_67 : fch 177 67 = some (.iinc 4 1, 70, []) := by decide +kernel
theorem f177_70 : fch 177 70 = some (.goto 7, 73, []) := by decide +kernel
theorem f177_73 : fch 177 73 = some (.iload 1, 74, []) := by decide +kernel
theorem f177_74 : fch 177 74 = some (.ireturn, 75, []) := by decide +kernel
set_option maxRecDepth 10000 in
theorem e177_0 (l0 : Int) (s : SG) : sem 177 0 [aA l0, aU, aU, aU, aU, aU, aU] [] s = sem 177 7 [aA l0, aI 0, aL 0, aU, aI 0, aU, aU] [] s := by
  refine (x_iconst f177_0 rfl).trans ?_
  refine (x_istore (l2 := [aA l0, aI 0, aU, aU, aU, aU, aU]) f177_1 rfl rfl).trans ?_
  refine (x_lconst f177_2 rfl).trans ?_
  refine (x_lstore (l2 := [aA l0, aI 0, aL 0, aU, aU, aU, aU]) f177_3 rfl rfl).trans ?_
  refine (x_iconst f177_4 rfl).trans ?_
  refine (x_istore (l2 := [aA l0, aI 0, aL 0, aU, aI 0, aU, aU]) f177_5 rfl rfl).trans ?_
  rfl
set_option maxRecDepth 10000 in
theorem e177_7 (l0 l1 l2 l4 : Int) (s : SG) : sem 177 7 [aA l0, aI l1, aL l2, aU, aI l4, aU, aU] [] s = if l4 < 61 then grd (kd l0 = 9) (bnV (sem 173 0 [aA l0, aI l4, aI ((-1)), aU, aU, aU, aU, aU, aU, aU] [] s) fun s1 => grd (kd l0 = 9) (bnL (sem 174 0 [aA l0, aI l4, aU, aU, aU] [] s1) fun a3 s2 => sem 177 7 [aA l0, aI (if l4 = 0 then l4 else if (0 : Int) < (cmpL a3 l2) then l4 else l1), aL (if l4 = 0 then a3 else if (0 : Int) < (cmpL a3 l2) then a3 else l2), aU, aI (w32 (l4 + 1)), aU, aU] [] s2)) else some (aI l1, s) := by
  refine (x_iload f177_7 rfl rfl).trans ?_
  refine (x_iconst f177_9 rfl).trans ?_
  refine (x_icmp_ge (tg := 73) f177_11 rfl rfl).trans (i_c ?_ ?_)
  · refine (x_aload f177_14 rfl rfl).trans ?_
    refine (x_iload f177_15 rfl rfl).trans ?_
    refine (x_iconst f177_17 rfl).trans ?_
    refine (x_invokevirtual (G := grd (kd l0 = 9) (bnV (sem 173 0 [aA l0, aI l4, aI ((-1)), aU, aU, aU, aU, aU, aU, aU] [] s) fun s1 => sem 177 21 [aA l0, aI l1, aL l2, aU, aI l4, aU, aU] [] s1)) f177_18 rfl rfl).trans ?_
    refine g_c ?_
    refine bV_c fun s1 => ?_
    refine (x_aload f177_21 rfl rfl).trans ?_
    refine (x_iload f177_22 rfl rfl).trans ?_
    refine (x_invokevirtual (G := grd (kd l0 = 9) (bnL (sem 174 0 [aA l0, aI l4, aU, aU, aU] [] s1) fun a3 s2 => sem 177 27 [aA l0, aI l1, aL l2, aU, aI l4, aU, aU] [aL a3] s2)) f177_24 rfl rfl).trans ?_
    refine g_c ?_
    refine bL_c fun a3 s2 => ?_
    refine (x_lstore (l2 := [aA l0, aI l1, aL l2, aU, aI l4, aL a3, aU]) f177_27 rfl rfl).trans ?_
    refine (x_iload f177_29 rfl rfl).trans ?_
    refine (x_if_eq (tg := 41) f177_31 rfl rfl).trans ?_
    refine Eq.trans (b := if l4 = 0 then sem 177 47 [aA l0, aU, aL l2, aU, aI l4, aL a3, aU] [aI l4] s2 else sem 177 47 [aA l0, aU, aL l2, aU, aI l4, aL a3, aU] [aI (if (0 : Int) < (cmpL a3 l2) then l4 else l1)] s2) (i_c ?_ ?_) ?_
    · refine (x_kil (l2 := [aA l0, aU, aL l2, aU, aI l4, aL a3, aU]) f177_41 rfl).trans ?_
      refine (x_iload f177_41 rfl rfl).trans ?_
      refine (x_goto (tg := 47) f177_43 rfl rfl).trans ?_
      rfl
    · refine (x_lload f177_34 rfl rfl).trans ?_
      refine (x_lload f177_36 rfl rfl).trans ?_
      refine (x_lcmp f177_37 rfl).trans ?_
      refine (x_if_le (tg := 46) f177_38 rfl rfl).trans ?_
      refine Eq.trans (b := if (0 : Int) < (cmpL a3 l2) then sem 177 47 [aA l0, aU, aL l2, aU, aI l4, aL a3, aU] [aI l4] s2 else sem 177 47 [aA l0, aU, aL l2, aU, aI l4, aL a3, aU] [aI l1] s2) (i_c ?_ ?_) ?_
      · refine (x_kil (l2 := [aA l0, aU, aL l2, aU, aI l4, aL a3, aU]) f177_41 rfl).trans ?_
        refine (x_iload f177_41 rfl rfl).trans ?_
        refine (x_goto (tg := 47) f177_43 rfl rfl).trans ?_
        rfl
      · refine (x_iload f177_46 rfl rfl).trans ?_
        exact x_kil f177_47 rfl
      refine m_I.trans ?_
      rfl
    refine m_I.trans ?_
    refine (x_istore (l2 := [aA l0, aI (if l4 = 0 then l4 else if (0 : Int) < (cmpL a3 l2) then l4 else l1), aL l2, aU, aI l4, aL a3, aU]) f177_47 rfl rfl).trans ?_
    refine (x_iload f177_48 rfl rfl).trans ?_
    refine (x_if_eq (tg := 60) f177_50 rfl rfl).trans ?_
    refine Eq.trans (b := if l4 = 0 then sem 177 66 [aA l0, aI (if l4 = 0 then l4 else if (0 : Int) < (cmpL a3 l2) then l4 else l1), aU, aU, aI l4, aU, aU] [aL a3] s2 else sem 177 66 [aA l0, aI (if l4 = 0 then l4 else if (0 : Int) < (cmpL a3 l2) then l4 else l1), aU, aU, aI l4, aU, aU] [aL (if (0 : Int) < (cmpL a3 l2) then a3 else l2)] s2) (i_c ?_ ?_) ?_
    · refine (x_kil (l2 := [aA l0, aI (if l4 = 0 then l4 else if (0 : Int) < (cmpL a3 l2) then l4 else l1), aU, aU, aI l4, aL a3, aU]) f177_60 rfl).trans ?_
      refine (x_lload f177_60 rfl rfl).trans ?_
      refine (x_goto (tg := 66) f177_62 rfl rfl).trans ?_
      exact x_kil f177_66 rfl
    · refine (x_lload f177_53 rfl rfl).trans ?_
      refine (x_lload f177_55 rfl rfl).trans ?_
      refine (x_lcmp f177_56 rfl).trans ?_
      refine (x_if_le (tg := 65) f177_57 rfl rfl).trans ?_
      refine Eq.trans (b := if (0 : Int) < (cmpL a3 l2) then sem 177 66 [aA l0, aI (if l4 = 0 then l4 else if (0 : Int) < (cmpL a3 l2) then l4 else l1), aU, aU, aI l4, aU, aU] [aL a3] s2 else sem 177 66 [aA l0, aI (if l4 = 0 then l4 else if (0 : Int) < (cmpL a3 l2) then l4 else l1), aU, aU, aI l4, aU, aU] [aL l2] s2) (i_c ?_ ?_) ?_
      · refine (x_kil (l2 := [aA l0, aI (if l4 = 0 then l4 else if (0 : Int) < (cmpL a3 l2) then l4 else l1), aU, aU, aI l4, aL a3, aU]) f177_60 rfl).trans ?_
        refine (x_lload f177_60 rfl rfl).trans ?_
        refine (x_goto (tg := 66) f177_62 rfl rfl).trans ?_
        exact x_kil f177_66 rfl
      · refine (x_lload f177_65 rfl rfl).trans ?_
        exact x_kil f177_66 rfl
      refine m_L.trans ?_
      rfl
    refine m_L.trans ?_
    refine (x_lstore (l2 := [aA l0, aI (if l4 = 0 then l4 else if (0 : Int) < (cmpL a3 l2) then l4 else l1), aL (if l4 = 0 then a3 else if (0 : Int) < (cmpL a3 l2) then a3 else l2), aU, aI l4, aU, aU]) f177_66 rfl rfl).trans ?_
    refine (x_iinc (l2 := [aA l0, aI (if l4 = 0 then l4 else if (0 : Int) < (cmpL a3 l2) then l4 else l1), aL (if l4 = 0 then a3 else if (0 : Int) < (cmpL a3 l2) then a3 else l2), aU, aI (w32 (l4 + 1)), aU, aU]) f177_67 rfl rfl rfl).trans ?_
    refine (x_goto (tg := 7) f177_70 rfl rfl).trans ?_
    rfl
  · refine (x_iload f177_73 rfl rfl).trans ?_
    exact x_ireturn f177_74 rfl
