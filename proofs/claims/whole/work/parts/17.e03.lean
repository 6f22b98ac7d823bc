theorem f178_0 : fch 178 0 = some (.aload 0, 1, []) := by decide +kernel
theorem f178_1 : fch 178 1 = some (.iload 2, 2, []) := by decide +kernel
theorem f178_2 : fch 178 2 = some (.invokevirtual 163, 5, []) := by decide +kernel
theorem f178_5 : fch 178 5 = some (.ifCond .ne 12, 8, []) := by decide +kernel
theorem f178_8 : fch 178 8 = some (.sipush (-1), 11, []) := by decide +kernel
theorem f178_11 : fch 178 11 = some (.lreturn, 12, []) := by decide +kernel
theorem f178_12 : fch 178 12 = some (.iload 1, 13, []) := by decide +kernel
theorem f178_13 : fch 178 13 = some (.i2l, 14, []) := by decide +kernel
theorem f178_14 : fch 178 14 = some (.sipush 0, 15, []) := by decide +kernel
theorem f178_15 : fch 178 15 = some (.sipush 60, 18, []) := by decide +kernel
theorem f178_18 : fch 178 18 = some (.invokestatic 152, 21, []) := by decide +kernel
theorem f178_21 : fch 178 21 = some (.ifCond .eq 35, 24, []) := by decide +kernel
theorem f178_24 : fch 178 24 = some (.iload 3, 25, []) := by decide +kernel
theorem f178_25 : fch 178 25 = some (.i2l, 26, []) := by decide +kernel
theorem f178_26 : fch 178 26 = some (.sipush 0, 27, []) := by decide +kernel
theorem f178_27 : fch 178 27 = some (.iload 1, 28, []) := by decide +kernel
theorem f178_28 : fch 178 28 = some (.i2l, 29, []) := by decide +kernel
theorem f178_29 : fch 178 29 = some (.invokestatic 152, 32, []) := by decide +kernel
theorem f178_32 : fch 178 32 = some (.ifCond .ne 39, 35, []) := by decide +kernel
theorem f178_35 : fch 178 35 = some (.sipush (-2), 38, [0, 1, 2, 3, 4]) := by decide +kernel
theorem f178_38 : fch 178 38 = some (.lreturn, 39, []) := by decide +kernel
theorem f178_39 : fch 178 39 = some (.aload 0, 40, []) := by decide +kernel
theorem f178_40 : fch 178 40 = some (.iload 1, 41, []) := by decide +kernel
theorem f178_41 : fch 178 41 = some (.iconst (-1), 42, []) := by decide +kernel
theorem f178_42 : fch 178 42 = some (.invokevirtual 173, 45, []) := by decide +kernel
theorem f178_45 : fch 178 45 = some (.aload 0, 46, []) := by decide +kernel
theorem f178_46 : fch 178 46 = some (.iload 1, 47, []) := by decide +kernel
theorem f178_47 : fch 178 47 = some (.invokevirtual 174, 50, []) := by decide +kernel
theorem f178_50 : fch 178 50 = some (.lstore 5, 52, []) := by decide +kernel
theorem f178_52 : fch 178 52 = some (.aload 0, 53, []) := by decide +kernel
theorem f178_53 : fch 178 53 = some (.iload 1, 54, []) := by decide +kernel
theorem f178_54 : fch 178 54 = some (.iload 3, 55, []) := by decide +kernel
theorem f178_55 : fch 178 55 = some (.isub, 56, []) := by decide +kernel
theorem f178_56 : fch 178 56 = some (.iload 2, 57, []) := by decide +kernel
theorem f178_57 : fch 178 57 = some (.invokevirtual 173, 60, []) := by decide +kernel
theorem f178_60 : fch 178 60 = some (.aload 0, 61, []) := by decide +kernel
theorem f178_61 : fch 178 61 = some (.invokeinterface 9 8, 64, []) := by decide +kernel
theorem f178_64 : fch 178 64 = some (.iload 2, 65, []) := by decide +kernel
theorem f178_65 : fch 178 65 = some (.iload 3, 66, []) := by decide +kernel
theorem f178_66 : fch 178 66 = some (.iastore, 67, []) := by decide +kernel
theorem f178_67 : fch 178 67 = some (.lload 5, 69, []) := by decide +kernel
theorem f178_69 : fch 178 69 = some (.aload 0, 70, []) := by decide +kernel
theorem f178_70 : fch 178 70 = some (.iload 1, 71, []) := by decide +kernel
theorem f178_71 : fch 178 71 = some (.invokevirtual 174, 74, []) := by decide +kernel
theorem f178_74 : fch 178 74 = some (.lsub, 75, []) := by decide +kernel
theorem f178_75 : fch 178 75 = some (.aload 0, 76, []) := by decide +kernel
theorem f178_76 : fch 178 76 = some (.invokevirtual 167, 79, []) := by decide +kernel
theorem f178_79 : fch 178 79 = some (.iload 4, 81, []) := by decide +kernel
theorem f178_81 : fch 178 81 = some (.invokestatic 170, 84, []) := by decide +kernel
theorem f178_84 : fch 178 84 = some (.lreturn, 85, []) := by decide +kernel
set_option maxRecDepth 10000 in
theorem e178_0 (l0 l1 l2 l3 l4 : Int) (s : SG) : sem 178 0 [aA l0, aI l1, aI l2, aI l3, aI l4, aU, aU] [] s = grd (kd l0 = 9) (bnI (sem 163 0 [aA l0, aI l2] [] s) fun a2 s1 => if a2 = 0 then some (aL ((-1)), s1) else bnI (sem 152 0 [aL l1, aU, aL 0, aU, aL 60, aU] [] s1) fun a4 s3 => if a4 = 0 then some (aL ((-2)), s3) else bnI (sem 152 0 [aL l3, aU, aL 0, aU, aL l1, aU] [] s3) fun a6 s5 => if a6 = 0 then some (aL ((-2)), s5) else grd (kd l0 = 9) (bnV (sem 173 0 [aA l0, aI l1, aI ((-1)), aU, aU, aU, aU, aU, aU, aU] [] s5) fun s7 => grd (kd l0 = 9) (bnL (sem 174 0 [aA l0, aI l1, aU, aU, aU] [] s7) fun a9 s8 => grd (kd l0 = 9) (bnV (sem 173 0 [aA l0, aI (w32 (l1 - l3)), aI l2, aU, aU, aU, aU, aU, aU, aU] [] s8) fun s10 => grd (kd l0 = 9) (grd (0 ≤ s10 l0 8) (grd (kd (s10 l0 8) = 101) (grd ((0 : Int) ≤ l2 ∧ l2 < kl (s10 l0 8)) (grd (kd l0 = 9) (bnL (sem 174 0 [aA l0, aI l1, aU, aU, aU] [] (up s10 (s10 l0 8) l2 l3)) fun a12 s11 => grd (kd l0 = 9) (bnL (sem 167 0 [aA l0] [] s11) fun a14 s13 => bnL (sem 170 0 [aL (w64 (a9 - a12)), aU, aL a14, aU, aI l4, aU, aU, aU, aU, aU, aU] [] s13) fun a16 s15 => some (aL a16, s15))))))))))) := by
  refine (x_aload f178_0 rfl rfl).trans ?_
  refine (x_iload f178_1 rfl rfl).trans ?_
  refine (x_invokevirtual (G := grd (kd l0 = 9) (bnI (sem 163 0 [aA l0, aI l2] [] s) fun a2 s1 => sem 178 5 [aA l0, aI l1, aI l2, aI l3, aI l4, aU, aU] [aI a2] s1)) f178_2 rfl rfl).trans ?_
  refine g_c ?_
  refine bI_c fun a2 s1 => ?_
  refine (x_if_ne (tg := 12) f178_5 rfl rfl).trans (i_c ?_ ?_)
  · refine (x_lconst f178_8 rfl).trans ?_
    exact x_lreturn f178_11 rfl
  · refine (x_iload f178_12 rfl rfl).trans ?_
    refine (x_i2l f178_13 rfl).trans ?_
    refine (x_lconst f178_14 rfl).trans ?_
    refine (x_lconst f178_15 rfl).trans ?_
    refine (x_invokestatic (G := bnI (sem 152 0 [aL l1, aU, aL 0, aU, aL 60, aU] [] s1) fun a4 s3 => sem 178 21 [aA l0, aI l1, aI l2, aI l3, aI l4, aU, aU] [aI a4] s3) f178_18 rfl rfl).trans ?_
    refine bI_c fun a4 s3 => ?_
    refine (x_if_eq (tg := 35) f178_21 rfl rfl).trans (i_c ?_ ?_)
    · refine (x_kil (l2 := [aU, aU, aU, aU, aU, aU, aU]) f178_35 rfl).trans ?_
      refine (x_lconst f178_35 rfl).trans ?_
      exact x_lreturn f178_38 rfl
    · refine (x_iload f178_24 rfl rfl).trans ?_
      refine (x_i2l f178_25 rfl).trans ?_
      refine (x_lconst f178_26 rfl).trans ?_
      refine (x_iload f178_27 rfl rfl).trans ?_
      refine (x_i2l f178_28 rfl).trans ?_
      refine (x_invokestatic (G := bnI (sem 152 0 [aL l3, aU, aL 0, aU, aL l1, aU] [] s3) fun a6 s5 => sem 178 32 [aA l0, aI l1, aI l2, aI l3, aI l4, aU, aU] [aI a6] s5) f178_29 rfl rfl).trans ?_
      refine bI_c fun a6 s5 => ?_
      refine (x_if_ne (tg := 39) f178_32 rfl rfl).trans (i_c ?_ ?_)
      · refine (x_kil (l2 := [aU, aU, aU, aU, aU, aU, aU]) f178_35 rfl).trans ?_
        refine (x_lconst f178_35 rfl).trans ?_
        exact x_lreturn f178_38 rfl
      · refine (x_aload f178_39 rfl rfl).trans ?_
        refine (x_iload f178_40 rfl rfl).trans ?_
        refine (x_iconst f178_41 rfl).trans ?_
        refine (x_invokevirtual (G := grd (kd l0 = 9) (bnV (sem 173 0 [aA l0, aI l1, aI ((-1)), aU, aU, aU, aU, aU, aU, aU] [] s5) fun s7 => sem 178 45 [aA l0, aI l1, aI l2, aI l3, aI l4, aU, aU] [] s7)) f178_42 rfl rfl).trans ?_
        refine g_c ?_
        refine bV_c fun s7 => ?_
        refine (x_aload f178_45 rfl rfl).trans ?_
        refine (x_iload f178_46 rfl rfl).trans ?_
        refine (x_invokevirtual (G := grd (kd l0 = 9) (bnL (sem 174 0 [aA l0, aI l1, aU, aU, aU] [] s7) fun a9 s8 => sem 178 50 [aA l0, aI l1, aI l2, aI l3, aI l4, aU, aU] [aL a9] s8)) f178_47 rfl rfl).trans ?_
        refine g_c ?_
        refine bL_c fun a9 s8 => ?_
        refine (x_lstore (l2 := [aA l0, aI l1, aI l2, aI l3, aI l4, aL a9, aU]) f178_50 rfl rfl).trans ?_
        refine (x_aload f178_52 rfl rfl).trans ?_
        refine (x_iload f178_53 rfl rfl).trans ?_
        refine (x_iload f178_54 rfl rfl).trans ?_
        refine (x_isub f178_55 rfl).trans ?_
        refine (x_iload f178_56 rfl rfl).trans ?_
        refine (x_invokevirtual (G := grd (kd l0 = 9) (bnV (sem 173 0 [aA l0, aI (w32 (l1 - l3)), aI l2, aU, aU, aU, aU, aU, aU, aU] [] s8) fun s10 => sem 178 60 [aA l0, aI l1, aI l2, aI l3, aI l4, aL a9, aU] [] s10)) f178_57 rfl rfl).trans ?_
        refine g_c ?_
        refine bV_c fun s10 => ?_
        refine (x_aload f178_60 rfl rfl).trans ?_
        refine (x_get2 f178_61 rfl rfl).trans ?_
        refine g_c ?_
        refine g_c ?_
        refine (x_iload f178_64 rfl rfl).trans ?_
        refine (x_iload f178_65 rfl rfl).trans ?_
        refine (x_iastore f178_66 rfl).trans ?_
        refine g_c ?_
        refine g_c ?_
        refine (x_lload f178_67 rfl rfl).trans ?_
        refine (x_aload f178_69 rfl rfl).trans ?_
        refine (x_iload f178_70 rfl rfl).trans ?_
        refine (x_invokevirtual (G := grd (kd l0 = 9) (bnL (sem 174 0 [aA l0, aI l1, aU, aU, aU] [] (up s10 (s10 l0 8) l2 l3)) fun a12 s11 => sem 178 74 [aA l0, aI l1, aI l2, aI l3, aI l4, aL a9, aU] [aL a12, aL a9] s11)) f178_71 rfl rfl).trans ?_
        refine g_c ?_
        refine bL_c fun a12 s11 => ?_
        refine (x_lsub f178_74 rfl).trans ?_
        refine (x_aload f178_75 rfl rfl).trans ?_
        refine (x_invokevirtual (G := grd (kd l0 = 9) (bnL (sem 167 0 [aA l0] [] s11) fun a14 s13 => sem 178 79 [aA l0, aI l1, aI l2, aI l3, aI l4, aL a9, aU] [aL a14, aL (w64 (a9 - a12))] s13)) f178_76 rfl rfl).trans ?_
        refine g_c ?_
        refine bL_c fun a14 s13 => ?_
        refine (x_iload f178_79 rfl rfl).trans ?_
        refine (x_invokestatic (G := bnL (sem 170 0 [aL (w64 (a9 - a12)), aU, aL a14, aU, aI l4, aU, aU, aU, aU, aU, aU] [] s13) fun a16 s15 => sem 178 84 [aA l0, aI l1, aI l2, aI l3, aI l4, aL a9, aU] [aL a16] s15) f178_81 rfl rfl).trans ?_
        refine bL_c fun a16 s15 => ?_
        exact x_lreturn f178_84 rfl
theorem f179_0 : fch 179 0 = some (.aload 0, 1, []) := by decide +kernel
theorem f179_1 : fch 179 1 = some (.iload 1, 2, []) := by decide +kernel
theorem f179_2 : fch 179 2 = some (.invokevirtual 163, 5, []) := by decide +kernel
theorem f179_5 : fch 179 5 = some (.ifCond .ne 10, 8, []) := by decide +kernel
theorem f179_8 : fch 179 8 = some (.iconst (-1), 9, []) := by decide +kernel
theorem f179_9 : fch 179 9 = some (.ireturn, 10, []) := by decide +kernel
theorem f179_10 : fch 179 10 = some (.iload 2, 11, []) := by decide +kernel
theorem f179_11 : fch 179 11 = some (.i2l, 12, []) := by decide +kernel
theorem f179_12 : fch 179 12 = some (.sipush 0, 13, []) := by decide +kernel
theorem f179_13 : fch 179 13 = some (.sipush 9, 16, []) := by decide +kernel
theorem f179_16 : fch 179 16 = some (.invokestatic 152, 19, []) := by decide +kernel
theorem f179_19 : fch 179 19 = some (.ifCond .ne 25, 22, []) := by decide +kernel
theorem f179_22 : fch 179 22 = some (.iconst (-2), 24, []) := by decide +kernel
theorem f179_24 : fch 179 24 = some (.ireturn, 25, []) := by decide +kernel
theorem f179_25 : fch 179 25 = some (.aload 0, 26, []) := by decide +kernel
theorem f179_26 : fch 179 26 = some (.invokeinterface 9 9, 29, []) := by decide +kernel
theorem f179_29 : fch 179 29 = some (.iconst 8, 31, []) := by decide +kernel
theorem f179_31 : fch 179 31 = some (.if_icmp .ne 37, 34, []) := by decide +kernel
theorem f179_34 : fch 179 34 = some (.iconst (-4), 36, []) := by decide +kernel
theorem f179_36 : fch 179 36 = some (.ireturn, 37, []) := by decide +kernel
theorem f179_37 : fch 179 37 = some (.aload 0, 38, []) := by decide +kernel
theorem f179_38 : fch 179 38 = some (.invokeinterface 9 10, 41, []) := by decide +kernel
theorem f179_41 : fch 179 41 = some (.aload 0, 42, []) := by decide +kernel
theorem f179_42 : fch 179 42 = some (.invokeinterface 9 9, 45, []) := by decide +kernel
theorem f179_45 : fch 179 45 = some (.iload 1, 46, []) := by decide +kernel
theorem f179_46 : fch 179 46 = some (.iastore, 47, []) := by decide +kernel
theorem f179_47 : fch 179 47 = some (.aload 0, 48, []) := by decide +kernel
theorem f179_48 : fch 179 48 = some (.invokeinterface 9 11, 51, []) := by decide +kernel
theorem f179_51 : fch 179 51 = some (.aload 0, 52, []) := by decide +kernel
theorem f179_52 : fch 179 52 = some (.invokeinterface 9 9, 55, []) := by decide +kernel
theorem f179_55 : fch 179 55 = some (.iload 2, 56, []) := by decide +kernel
theorem f179_56 : fch 179 56 = some (.iastore, 57, []) := by decide +kernel
theorem f179_57 : fch 179 57 = some (.aload 0, 58, []) := by decide +kernel
theorem f179_58 : fch 179 58 = some (.dup, 59, []) := by decide +kernel
theorem f179_59 : fch 179 59 = some (.invokeinterface 9 9, 62, []) := by decide +kernel
theorem f179_62 : fch 179 62 = some (.iconst 1, 63, []) := by decide +kernel
theorem f179_63 : fch 179 63 = some (.iadd, 64, []) := by decide +kernel
theorem f179_64 : fch 179 64 = some (.multianewarray 9 9, 67, []) := by decide +kernel
theorem f179_67 : fch 179 67 = some (.aload 0, 68, []) := by decide +kernel
theorem f179_68 : fch 179 68 = some (.invokeinterface 9 9, 71, []) := by decide +kernel
theorem f179_71 : fch 179 71 = some (.ireturn, 72, []) := by decide +kernel
set_option maxRecDepth 10000 in
theorem e179_0 (l0 l1 l2 : Int) (s : SG) : sem 179 0 [aA l0, aI l1, aI l2] [] s = grd (kd l0 = 9) (bnI (sem 163 0 [aA l0, aI l1] [] s) fun a2 s1 => if a2 = 0 then some (aI ((-1)), s1) else bnI (sem 152 0 [aL l2, aU, aL 0, aU, aL 9, aU] [] s1) fun a4 s3 => if a4 = 0 then some (aI ((-2)), s3) else grd (kd l0 = 9) (if (s3 l0 9) = 8 then some (aI ((-4)), s3) else grd (kd l0 = 9) (grd (0 ≤ s3 l0 10) (grd (kd l0 = 9) (grd (kd (s3 l0 10) = 101) (grd ((0 : Int) ≤ (s3 l0 9) ∧ (s3 l0 9) < kl (s3 l0 10)) (grd (kd l0 = 9) (grd (0 ≤ (up s3 (s3 l0 10) (s3 l0 9) l1) l0 11) (grd (kd l0 = 9) (grd (kd ((up s3 (s3 l0 10) (s3 l0 9) l1) l0 11) = 101) (grd ((0 : Int) ≤ ((up s3 (s3 l0 10) (s3 l0 9) l1) l0 9) ∧ ((up s3 (s3 l0 10) (s3 l0 9) l1) l0 9) < kl ((up s3 (s3 l0 10) (s3 l0 9) l1) l0 11)) (grd (kd l0 = 9) (grd (kd l0 = 9) (sem 179 67 [aA l0, aI l1, aI l2] [] (up (up (up s3 (s3 l0 10) (s3 l0 9) l1) ((up s3 (s3 l0 10) (s3 l0 9) l1) l0 11) ((up s3 (s3 l0 10) (s3 l0 9) l1) l0 9) l2) l0 9 (w32 (((up (up s3 (s3 l0 10) (s3 l0 9) l1) ((up s3 (s3 l0 10) (s3 l0 9) l1) l0 11) ((up s3 (s3 l0 10) (s3 l0 9) l1) l0 9) l2) l0 9) + 1))))))))))))))))) := by
  refine (x_aload f179_0 rfl rfl).trans ?_
  refine (x_iload f179_1 rfl rfl).trans ?_
  refine (x_invokevirtual (G := grd (kd l0 = 9) (bnI (sem 163 0 [aA l0, aI l1] [] s) fun a2 s1 => sem 179 5 [aA l0, aI l1, aI l2] [aI a2] s1)) f179_2 rfl rfl).trans ?_
  refine g_c ?_
  refine bI_c fun a2 s1 => ?_
  refine (x_if_ne (tg := 10) f179_5 rfl rfl).trans (i_c ?_ ?_)
  · refine (x_iconst f179_8 rfl).trans ?_
    exact x_ireturn f179_9 rfl
  · refine (x_iload f179_10 rfl rfl).trans ?_
    refine (x_i2l f179_11 rfl).trans ?_
    refine (x_lconst f179_12 rfl).trans ?_
    refine (x_lconst f179_13 rfl).trans ?_
    refine (x_invokestatic (G := bnI (sem 152 0 [aL l2, aU, aL 0, aU, aL 9, aU] [] s1) fun a4 s3 => sem 179 19 [aA l0, aI l1, aI l2] [aI a4] s3) f179_16 rfl rfl).trans ?_
    refine bI_c fun a4 s3 => ?_
    refine (x_if_ne (tg := 25) f179_19 rfl rfl).trans (i_c ?_ ?_)
    · refine (x_iconst f179_22 rfl).trans ?_
      exact x_ireturn f179_24 rfl
    · refine (x_aload f179_25 rfl rfl).trans ?_
      refine (x_get0 f179_26 rfl rfl).trans ?_
      refine g_c ?_
      refine (x_iconst f179_29 rfl).trans ?_
      refine (x_icmp_ne (tg := 37) f179_31 rfl rfl).trans (i_c ?_ ?_)
      · refine (x_iconst f179_34 rfl).trans ?_
        exact x_ireturn f179_36 rfl
      · refine (x_aload f179_37 rfl rfl).trans ?_
        refine (x_get2 f179_38 rfl rfl).trans ?_
        refine g_c ?_
        refine g_c ?_
        refine (x_aload f179_41 rfl rfl).trans ?_
        refine (x_get0 f179_42 rfl rfl).trans ?_
        refine g_c ?_
        refine (x_iload f179_45 rfl rfl).trans ?_
        refine (x_iastore f179_46 rfl).trans ?_
        refine g_c ?_
        refine g_c ?_
        refine (x_aload f179_47 rfl rfl).trans ?_
        refine (x_get2 f179_48 rfl rfl).trans ?_
        refine g_c ?_
        refine g_c ?_
        refine (x_aload f179_51 rfl rfl).trans ?_
        refine (x_get0 f179_52 rfl rfl).trans ?_
        refine g_c ?_
        refine (x_iload f179_55 rfl rfl).trans ?_
        refine (x_iastore f179_56 rfl).trans ?_
        refine g_c ?_
        refine g_c ?_
        refine (x_aload f179_57 rfl rfl).trans ?_
        refine (x_dup f179_58 rfl rfl).trans ?_
        refine (x_get0 f179_59 rfl rfl).trans ?_
        refine g_c ?_
        refine (x_iconst f179_62 rfl).trans ?_
        refine (x_iadd f179_63 rfl).trans ?_
        refine (x_put0 f179_64 rfl rfl).trans ?_
        refine g_c ?_
        rfl
set_option maxRecDepth 10000 in
theorem e179_67 (l0 l1 l2 : Int) (s : SG) : sem 179 67 [aA l0, aI l1, aI l2] [] s = grd (kd l0 = 9) (some (aI (s l0 9), s)) := by
  refine (x_aload f179_67 rfl rfl).trans ?_
  refine (x_get0 f179_68 rfl rfl).trans ?_
  refine g_c ?_
  exact x_ireturn f179_71 rfl
theorem f180_0 : fch 180 0 = some (.aload 0, 1, []) := by decide +kernel
theorem f180_1 : fch 180 1 = some (.invokeinterface 9 9, 4, []) := by decide +kernel
theorem f180_4 : fch 180 4 = some (.istore 1, 5, []) := by decide +kernel
theorem f180_5 : fch 180 5 = some (.aload 0, 6, []) := by decide +kernel
theorem f180_6 : fch 180 6 = some (.iconst 0, 7, []) := by decide +kernel
theorem f180_7 : fch 180 7 = some (.multianewarray 9 9, 10, []) := by decide +kernel
theorem f180_10 : fch 180 10 = some (.iload 1, 11, []) := by decide +kernel
theorem f180_11 : fch 180 11 = some (.ireturn, 12, []) := by decide +kernel
set_option maxRecDepth 10000 in
theorem e180_0 (l0 : Int) (s : SG) : sem 180 0 [aA l0, aU] [] s = grd (kd l0 = 9) (grd (kd l0 = 9) (some (aI (s l0 9), up s l0 9 0))) := by
  refine (x_aload f180_0 rfl rfl).trans ?_
  refine (x_get0 f180_1 rfl rfl).trans ?_
  refine g_c ?_
  refine (x_istore (l2 := [aA l0, aI (s l0 9)]) f180_4 rfl rfl).trans ?_
  refine (x_aload f180_5 rfl rfl).trans ?_
  refine (x_iconst f180_6 rfl).trans ?_
  refine (x_put0 f180_7 rfl rfl).trans ?_
  refine g_c ?_
  refine (x_iload f180_10 rfl rfl).trans ?_
  exact x_ireturn f180_11 rfl
theorem f181_0 : fch 181 0 = some (.aload 0, 1, []) := by decide +kernel
theorem f181_1 : fch 181 1 = some (.invokeinterface 9 1, 4, []) := by decide +kernel
theorem f181_4 : fch 181 4 = some (.iconst 1, 5, []) := by decide +kernel
theorem f181_5 : fch 181 5 = some (.iload 1, 6, []) := by decide +kernel
theorem f181_6 : fch 181 6 = some (.iadd, 7, []) := by decide +kernel
theorem f181_7 : fch 181 7 = some (.iaload, 8, []) := by decide +kernel
theorem f181_8 : fch 181 8 = some (.i2l, 9, []) := by decide +kernel
theorem f181_9 : fch 181 9 = some (.lstore 2, 10, []) := by decide +kernel
theorem f181_10 : fch 181 10 = some (.iconst 0, 11, []) := by decide +kernel
theorem f181_11 : fch 181 11 = some (.istore 4, 13, []) := by decide +kernel
theorem f181_13 : fch 181 13 = some (.iload 4, 15, [5, 6]) := by decide +kernel
theorem f181_15 : fch 181 15 = some (.aload 0, 16, []) := by decide +kernel
theorem f181_16 : fch 181 16 = some (.invokeinterface 9 9, 19, []) := by decide +kernel
theorem f181_19 : fch 181 19 = some (.if_icmp .ge 115, 22, []) := by decide +kernel
theorem f181_22 : fch 181 22 = some (.aload 0, 23, []) := by decide +kernel
theorem f181_23 : fch 181 23 = some (.invokeinterface 9 1, 26, []) := by decide +kernel
theorem f181_26 : fch 181 26 = some (.iconst 10, 28, []) := by decide +kernel
theorem f181_28 : fch 181 28 = some (.iconst 3, 29, []) := by decide +kernel
theorem f181_29 : fch 181 29 = some (.aload 0, 30, []) := by decide +kernel
theorem f181_30 : fch 181 30 = some (.invokeinterface 9 10, 33, []) := by decide +kernel
theorem f181_33 : fch 181 33 = some (.iload 4, 35, []) := by decide +kernel
theorem f181_35 : fch 181 35 = some (.iaload, 36, []) := by decide +kernel
theorem f181_36 : fch 181 36 = some (.imul, 37, []) := by decide +kernel
theorem f181_37 : fch 181 37 = some (.iadd, 38, []) := by decide +kernel
theorem f181_38 : fch 181 38 = some (.iload 1, 39, []) := by decide +kernel
theorem f181_39 : fch 181 39 = some (.iadd, 40, []) := by decide +kernel
theorem f181_40 : fch 181 40 = some (.iaload, 41, []) := by decide +kernel
theorem f181_41 : fch 181 41 = some (.istore 5, 43, []) := by decide +kernel
theorem f181_43 : fch 181 43 = some (.aload 0, 44, []) := by decide +kernel
theorem f181_44 : fch 181 44 = some (.invokeinterface 9 1, 47, []) := by decide +kernel
theorem f181_47 : fch 181 47 = some (.iconst 19, 49, []) := by decide +kernel
theorem f181_49 : fch 181 49 = some (.iconst 3, 50, []) := by decide +kernel
theorem f181_50 : fch 181 50 = some (.aload 0, 51, []) := by decide +kernel
theorem f181_51 : fch 181 51 = some (.invokeinterface 9 10, 54, []) := by decide +kernel
theorem f181_54 : fch 181 54 = some (.iload 4, 56, []) := by decide +kernel
theorem f181_56 : fch 181 56 = some (.iaload, 57, []) := by decide +kernel
theorem f181_57 : fch 181 57 = some (.imul, 58, []) := by decide +kernel
theorem f181_58 : fch 181 58 = some (.iadd, 59, []) := by decide +kernel
theorem f181_59 : fch 181 59 = some (.iload 1, 60, []) := by decide +kernel
theorem f181_60 : fch 181 60 = some (.iadd, 61, []) := by decide +kernel
theorem f181_61 : fch 181 61 = some (.iaload, 62, []) := by decide +kernel
theorem f181_62 : fch 181 62 = some (.istore 6, 64, []) := by decide +kernel
theorem f181_64 : fch 181 64 = some (.lload 2, 65, []) := by decide +kernel
theorem f181_65 : fch 181 65 = some (.aload 0, 66, []) := by decide +kernel
theorem f181_66 : fch 181 66 = some (.invokeinterface 9 11, 69, []) := by decide +kernel
theorem f181_69 : fch 181 69 = some (.iload 4, 71, []) := by decide +kernel
theorem f181_71 : fch 181 71 = some (.iaload, 72, []) := by decide +kernel
theorem f181_72 : fch 181 72 = some (.iload 5, 74, []) := by decide +kernel
theorem f181_74 : fch 181 74 = some (.iconst 1, 75, []) := by decide +kernel
theorem f181_75 : fch 181 75 = some (.iadd, 76, []) := by decide +kernel
theorem f181_76 : fch 181 76 = some (.if_icmp .ne 85, 79, []) := by decide +kernel
theorem f181_79 : fch 181 79 = some (.iload 6, 81, []) := by decide +kernel
theorem f181_81 : fch 181 81 = some (.i2l, 82, []) := by decide +kernel
theorem f181_82 : fch 181 82 = some (.goto 107, 85, []) := by decide +kernel
theorem f181_85 : fch 181 85 = some (.aload 0, 86, []) := by decide +kernel
theorem f181_86 : fch 181 86 = some (.invokeinterface 9 11, 89, []) := by decide +kernel
theorem f181_89 : fch 181 89 = some (.iload 4, 91, []) := by decide +kernel
theorem f181_91 : fch 181 91 = some (.iaload, 92, []) := by decide +kernel
theorem f181_92 : fch 181 92 = some (.iload 5, 94, []) := by decide +kernel
theorem f181_94 : fch 181 94 = some (.if_icmp .ne 106, 97, []) := by decide +kernel
theorem f181_97 : fch 181 97 = some (.iconst 10, 99, []) := by decide +kernel
theorem f181_99 : fch 181 99 = some (.iload 6, 101, []) := by decide +kernel
theorem f181_101 : fch 181 101 = some (.isub, 102, []) := by decide +kernel
theorem f181_102 : fch 181 102 = some (.i2l, 103, []) := by decide +kernel
theorem f181_103 : fch 181 103 = some (.goto 107, 106, []) := by decide +kernel
theorem f181_106 : fch 181 106 = some (.sipush 0, 107, []) := by decide +kernel
theorem f181_107 : fch 181 107 = some (.lmul, 108, [2, 5, 6]) := by decide +kernel
theorem f181_108 : fch 181 108 = some (.lstore 2, 109, []) := by decide +kernel
theorem f181_109 : fch 181 109 = some (.iinc 4 1, 112, []) := by decide +kernel
theorem f181_112 : fch 181 112 = some (.goto 13, 115, []) := by decide +kernel
theorem f181_115 : fch 181 115 = some (.lload 2, 116, []) := by decide +kernel
theorem f181_116 : fch 181 116 = some (.lreturn, 117, []) := by decide +kernel
set_option maxRecDepth 10000 in
theorem e181_0 (l0 l1 : Int) (s : SG) : sem 181 0 [aA l0, aI l1, aU, aU, aU, aU, aU] [] s = grd (kd l0 = 9) (grd (0 ≤ s l0 1) (grd (kd (s l0 1) = 101) (grd ((0 : Int) ≤ (w32 (1 + l1)) ∧ (w32 (1 + l1)) < kl (s l0 1)) (sem 181 13 [aA l0, aI l1, aL (s (s l0 1) (w32 (1 + l1))), aU, aI 0, aU, aU] [] s)))) := by
  refine (x_aload f181_0 rfl rfl).trans ?_
  refine (x_get2 f181_1 rfl rfl).trans ?_
  refine g_c ?_
  refine g_c ?_
  refine (x_iconst f181_4 rfl).trans ?_
  refine (x_iload f181_5 rfl rfl).trans ?_
  refine (x_iadd f181_6 rfl).trans ?_
  refine (x_iaload f181_7 rfl).trans ?_
  refine g_c ?_
  refine g_c ?_
  refine (x_i2l f181_8 rfl).trans ?_
  refine (x_lstore (l2 := [aA l0, aI l1, aL (s (s l0 1) (w32 (1 + l1))), aU, aU, aU, aU]) f181_9 rfl rfl).trans ?_
  refine (x_iconst f181_10 rfl).trans ?_
  refine (x_istore (l2 := [aA l0, aI l1, aL (s (s l0 1) (w32 (1 + l1))), aU, aI 0, aU, aU]) f181_11 rfl rfl).trans ?_
  rfl
set_option maxRecDepth 10000 in
theorem e181_13 (l0 l1 l2 l4 : Int) (s : SG) : sem 181 13 [aA l0, aI l1, aL l2, aU, aI l4, aU, aU] [] s = grd (kd l0 = 9) (if l4 < (s l0 9) then grd (kd l0 = 9) (grd (0 ≤ s l0 1) (grd (kd l0 = 9) (grd (0 ≤ s l0 10) (grd (kd (s l0 10) = 101) (grd ((0 : Int) ≤ l4 ∧ l4 < kl (s l0 10)) (grd (kd (s l0 1) = 101) (grd ((0 : Int) ≤ (w32 ((w32 (10 + (w32 (3 * (s (s l0 10) l4))))) + l1)) ∧ (w32 ((w32 (10 + (w32 (3 * (s (s l0 10) l4))))) + l1)) < kl (s l0 1)) (grd (kd l0 = 9) (grd (0 ≤ s l0 1) (grd (kd l0 = 9) (grd (0 ≤ s l0 10) (grd (kd (s l0 10) = 101) (grd ((0 : Int) ≤ l4 ∧ l4 < kl (s l0 10)) (grd (kd (s l0 1) = 101) (grd ((0 : Int) ≤ (w32 ((w32 (19 + (w32 (3 * (s (s l0 10) l4))))) + l1)) ∧ (w32 ((w32 (19 + (w32 (3 * (s (s l0 10) l4))))) + l1)) < kl (s l0 1)) (grd (kd l0 = 9) (grd (0 ≤ s l0 11) (grd (kd (s l0 11) = 101) (grd ((0 : Int) ≤ l4 ∧ l4 < kl (s l0 11)) (if (s (s l0 11) l4) = (w32 ((s (s l0 1) (w32 ((w32 (10 + (w32 (3 * (s (s l0 10) l4))))) + l1))) + 1)) then sem 181 13 [aA l0, aI l1, aL (w64 (l2 * (s (s l0 1) (w32 ((w32 (19 + (w32 (3 * (s (s l0 10) l4))))) + l1))))), aU, aI (w32 (l4 + 1)), aU, aU] [] s else grd (kd l0 = 9) (grd (0 ≤ s l0 11) (grd (kd (s l0 11) = 101) (grd ((0 : Int) ≤ l4 ∧ l4 < kl (s l0 11)) (sem 181 13 [aA l0, aI l1, aL (w64 (l2 * (if (s (s l0 11) l4) = (s (s l0 1) (w32 ((w32 (10 + (w32 (3 * (s (s l0 10) l4))))) + l1))) then w32 (10 - (s (s l0 1) (w32 ((w32 (19 + (w32 (3 * (s (s l0 10) l4))))) + l1)))) else 0))), aU, aI (w32 (l4 + 1)), aU, aU] [] s)))))))))))))))))))))))) else some (aL l2, s)) := by
  refine (x_iload f181_13 rfl rfl).trans ?_
  refine (x_aload f181_15 rfl rfl).trans ?_
  refine (x_get0 f181_16 rfl rfl).trans ?_
  refine g_c ?_
  refine (x_icmp_ge (tg := 115) f181_19 rfl rfl).trans (i_c ?_ ?_)
  · refine (x_aload f181_22 rfl rfl).trans ?_
    refine (x_get2 f181_23 rfl rfl).trans ?_
    refine g_c ?_
    refine g_c ?_
    refine (x_iconst f181_26 rfl).trans ?_
    refine (x_iconst f181_28 rfl).trans ?_
    refine (x_aload f181_29 rfl rfl).trans ?_
    refine (x_get2 f181_30 rfl rfl).trans ?_
    refine g_c ?_
    refine g_c ?_
    refine (x_iload f181_33 rfl rfl).trans ?_
    refine (x_iaload f181_35 rfl).trans ?_
    refine g_c ?_
    refine g_c ?_
    refine (x_imul f181_36 rfl).trans ?_
    refine (x_iadd f181_37 rfl).trans ?_
    refine (x_iload f181_38 rfl rfl).trans ?_
    refine (x_iadd f181_39 rfl).trans ?_
    refine (x_iaload f181_40 rfl).trans ?_
    refine g_c ?_
    refine g_c ?_
    refine (x_istore (l2 := [aA l0, aI l1, aL l2, aU, aI l4, aI (s (s l0 1) (w32 ((w32 (10 + (w32 (3 * (s (s l0 10) l4))))) + l1))), aU]) f181_41 rfl rfl).trans ?_
    refine (x_aload f181_43 rfl rfl).trans ?_
    refine (x_get2 f181_44 rfl rfl).trans ?_
    refine g_c ?_
    refine g_c ?_
    refine (x_iconst f181_47 rfl).trans ?_
    refine (x_iconst f181_49 rfl).trans ?_
    refine (x_aload f181_50 rfl rfl).trans ?_
    refine (x_get2 f181_51 rfl rfl).trans ?_
    refine g_c ?_
    refine g_c ?_
    refine (x_iload f181_54 rfl rfl).trans ?_
    refine (x_iaload f181_56 rfl).trans ?_
    refine g_c ?_
    refine g_c ?_
    refine (x_imul f181_57 rfl).trans ?_
    refine (x_iadd f181_58 rfl).trans ?_
    refine (x_iload f181_59 rfl rfl).trans ?_
    refine (x_iadd f181_60 rfl).trans ?_
    refine (x_iaload f181_61 rfl).trans ?_
    refine g_c ?_
    refine g_c ?_
    refine (x_istore (l2 := [aA l0, aI l1, aL l2, aU, aI l4, aI (s (s l0 1) (w32 ((w32 (10 + (w32 (3 * (s (s l0 10) l4))))) + l1))), aI (s (s l0 1) (w32 ((w32 (19 + (w32 (3 * (s (s l0 10) l4))))) + l1)))]) f181_62 rfl rfl).trans ?_
    refine (x_lload f181_64 rfl rfl).trans ?_
    refine (x_aload f181_65 rfl rfl).trans ?_
    refine (x_get2 f181_66 rfl rfl).trans ?_
    refine g_c ?_
    refine g_c ?_
    refine (x_iload f181_69 rfl rfl).trans ?_
    refine (x_iaload f181_71 rfl).trans ?_
    refine g_c ?_
    refine g_c ?_
    refine (x_iload f181_72 rfl rfl).trans ?_
    refine (x_iconst f181_74 rfl).trans ?_
    refine (x_iadd f181_75 rfl).trans ?_
    refine (x_icmp_ne (tg := 85) f181_76 rfl rfl).trans (i_c ?_ ?_)
    · refine (x_iload f181_79 rfl rfl).trans ?_
      refine (x_i2l f181_81 rfl).trans ?_
      refine (x_goto (tg := 107) f181_82 rfl rfl).trans ?_
      refine (x_kil (l2 := [aA l0, aI l1, aU, aU, aI l4, aU, aU]) f181_107 rfl).trans ?_
      refine (x_lmul f181_107 rfl).trans ?_
      refine (x_lstore (l2 := [aA l0, aI l1, aL (w64 (l2 * (s (s l0 1) (w32 ((w32 (19 + (w32 (3 * (s (s l0 10) l4))))) + l1))))), aU, aI l4, aU, aU]) f181_108 rfl rfl).trans ?_
      refine (x_iinc (l2 := [aA l0, aI l1, aL (w64 (l2 * (s (s l0 1) (w32 ((w32 (19 + (w32 (3 * (s (s l0 10) l4))))) + l1))))), aU, aI (w32 (l4 + 1)), aU, aU]) f181_109 rfl rfl rfl).trans ?_
      refine (x_goto (tg := 13) f181_112 rfl rfl).trans ?_
      rfl
    · refine (x_aload f181_85 rfl rfl).trans ?_
      refine (x_get2 f181_86 rfl rfl).trans ?_
      refine g_c ?_
      refine g_c ?_
      refine (x_iload f181_89 rfl rfl).trans ?_
      refine (x_iaload f181_91 rfl).trans ?_
      refine g_c ?_
      refine g_c ?_
      refine (x_iload f181_92 rfl rfl).trans ?_
      refine (x_icmp_ne (tg := 106) f181_94 rfl rfl).trans ?_
      refine Eq.trans (b := if (s (s l0 11) l4) = (s (s l0 1) (w32 ((w32 (10 + (w32 (3 * (s (s l0 10) l4))))) + l1))) then sem 181 107 [aA l0, aI l1, aU, aU, aI l4, aU, aU] [aL (w32 (10 - (s (s l0 1) (w32 ((w32 (19 + (w32 (3 * (s (s l0 10) l4))))) + l1))))), aL l2] s else sem 181 107 [aA l0, aI l1, aU, aU, aI l4, aU, aU] [aL 0, aL l2] s) (i_c ?_ ?_) ?_
      · refine (x_iconst f181_97 rfl).trans ?_
        refine (x_iload f181_99 rfl rfl).trans ?_
        refine (x_isub f181_101 rfl).trans ?_
        refine (x_i2l f181_102 rfl).trans ?_
        refine (x_goto (tg := 107) f181_103 rfl rfl).trans ?_
        exact x_kil f181_107 rfl
      · refine (x_lconst f181_106 rfl).trans ?_
        exact x_kil f181_107 rfl
      refine m_L.trans ?_
      refine (x_lmul f181_107 rfl).trans ?_
      refine (x_lstore (l2 := [aA l0, aI l1, aL (w64 (l2 * (if (s (s l0 11) l4) = (s (s l0 1) (w32 ((w32 (10 + (w32 (3 * (s (s l0 10) l4))))) + l1))) then w32 (10 - (s (s l0 1) (w32 ((w32 (19 + (w32 (3 * (s (s l0 10) l4))))) + l1)))) else 0))), aU, aI l4, aU, aU]) f181_108 rfl rfl).trans ?_
      refine (x_iinc (l2 := [aA l0, aI l1, aL (w64 (l2 * (if (s (s l0 11) l4) = (s (s l0 1) (w32 ((w32 (10 + (w32 (3 * (s (s l0 10) l4))))) + l1))) then w32 (10 - (s (s l0 1) (w32 ((w32 (19 + (w32 (3 * (s (s l0 10) l4))))) + l1)))) else 0))), aU, aI (w32 (l4 + 1)), aU, aU]) f181_109 rfl rfl rfl).trans ?_
      refine (x_goto (tg := 13) f181_112 rfl rfl).trans ?_
      rfl
  · refine (x_lload f181_115 rfl rfl).trans ?_
    exact x_lreturn f181_116 rfl
theorem f182_0 : fch 182 0 = some (.aload 0, 1, []) := by decide +kernel
theorem f182_1 : fch 182 1 = some (.iconst 0, 2, []) := by decide +kernel
theorem f182_2 : fch 182 2 = some (.invokevirtual 181, 5, []) := by decide +kernel
theorem f182_5 : fch 182 5 = some (.aload 0, 6, []) := by decide +kernel
theorem f182_6 : fch 182 6 = some (.iconst 1, 7, []) := by decide +kernel
theorem f182_7 : fch 182 7 = some (.invokevirtual 181, 10, []) := by decide +kernel
theorem f182_10 : fch 182 10 = some (.ladd, 11, []) := by decide +kernel
theorem f182_11 : fch 182 11 = some (.aload 0, 12, []) := by decide +kernel
theorem f182_12 : fch 182 12 = some (.iconst 2, 13, []) := by decide +kernel
theorem f182_13 : fch 182 13 = some (.invokevirtual 181, 16, []) := by decide +kernel
theorem f182_16 : fch 182 16 = some (.ladd, 17, []) := by decide +kernel
theorem f182_17 : fch 182 17 = some (.lreturn, 18, []) := by decide +kernel
set_option maxRecDepth 10000 in
theorem e182_0 (l0 : Int) (s : SG) : sem 182 0 [aA l0] [] s = grd (kd l0 = 9) (bnL (sem 181 0 [aA l0, aI 0, aU, aU, aU, aU, aU] [] s) fun a2 s1 => grd (kd l0 = 9) (bnL (sem 181 0 [aA l0, aI 1, aU, aU, aU, aU, aU] [] s1) fun a4 s3 => grd (kd l0 = 9) (bnL (sem 181 0 [aA l0, aI 2, aU, aU, aU, aU, aU] [] s3) fun a6 s5 => some (aL (w64 ((w64 (a2 + a4)) + a6)), s5)))) := by
  refine (x_aload f182_0 rfl rfl).trans ?_
  refine (x_iconst f182_1 rfl).trans ?_
  refine (x_invokevirtual (G := grd (kd l0 = 9) (bnL (sem 181 0 [aA l0, aI 0, aU, aU, aU, aU, aU] [] s) fun a2 s1 => sem 182 5 [aA l0] [aL a2] s1)) f182_2 rfl rfl).trans ?_
  refine g_c ?_
  refine bL_c fun a2 s1 => ?_
  refine (x_aload f182_5 rfl rfl).trans ?_
  refine (x_iconst f182_6 rfl).trans ?_
  refine (x_invokevirtual (G := grd (kd l0 = 9) (bnL (sem 181 0 [aA l0, aI 1, aU, aU, aU, aU, aU] [] s1) fun a4 s3 => sem 182 10 [aA l0] [aL a4, aL a2] s3)) f182_7 rfl rfl).trans ?_
  refine g_c ?_
  refine bL_c fun a4 s3 => ?_
  refine (x_ladd f182_10 rfl).trans ?_
  refine (x_aload f182_11 rfl rfl).trans ?_
  refine (x_iconst f182_12 rfl).trans ?_
  refine (x_invokevirtual (G := grd (kd l0 = 9) (bnL (sem 181 0 [aA l0, aI 2, aU, aU, aU, aU, aU] [] s3) fun a6 s5 => sem 182 16 [aA l0] [aL a6, aL (w64 (a2 + a4))] s5)) f182_13 rfl rfl).trans ?_
  refine g_c ?_
  refine bL_c fun a6 s5 => ?_
  refine (x_ladd f182_16 rfl).trans ?_
  exact x_lreturn f182_17 rfl
theorem f183_0 : fch 183 0 = some (.iload 1, 1, []) := by decide +kernel
theorem f183_1 : fch 183 1 = some (.invokestatic 164, 4, []) := by decide +kernel
theorem f183_4 : fch 183 4 = some (.ifCond .ne 11, 7, []) := by decide +kernel
theorem f183_7 : fch 183 7 = some (.sipush (-1), 10, []) := by decide +kernel
theorem f183_10 : fch 183 10 = some (.lreturn, 11, []) := by decide +kernel
theorem f183_11 : fch 183 11 = some (.aload 0, 12, []) := by decide +kernel
theorem f183_12 : fch 183 12 = some (.invokevirtual 182, 15, []) := by decide +kernel
theorem f183_15 : fch 183 15 = some (.sipush 0, 16, []) := by decide +kernel
theorem f183_16 : fch 183 16 = some (.lcmp, 17, []) := by decide +kernel
theorem f183_17 : fch 183 17 = some (.ifCond .ne 26, 20, []) := by decide +kernel
theorem f183_20 : fch 183 20 = some (.sipush (-3), 23, []) := by decide +kernel
theorem f183_23 : fch 183 23 = some (.goto 39, 26, []) := by decide +kernel
theorem f183_26 : fch 183 26 = some (.aload 0, 27, []) := by decide +kernel
theorem f183_27 : fch 183 27 = some (.iload 1, 28, []) := by decide +kernel
theorem f183_28 : fch 183 28 = some (.invokevirtual 181, 31, []) := by decide +kernel
theorem f183_31 : fch 183 31 = some (.aload 0, 32, []) := by decide +kernel
theorem f183_32 : fch 183 32 = some (.invokevirtual 182, 35, []) := by decide +kernel
theorem f183_35 : fch 183 35 = some (.iload 2, 36, []) := by decide +kernel
theorem f183_36 : fch 183 36 = some (.invokestatic 170, 39, []) := by decide +kernel
theorem f183_39 : fch 183 39 = some (.lreturn, 40, [0, 1, 2]) := by decide +kernel
set_option maxRecDepth 10000 in
theorem e183_0 (l0 l1 l2 : Int) (s : SG) : sem 183 0 [aA l0, aI l1, aI l2] [] s = bnI (sem 164 0 [aI l1] [] s) fun a2 s1 => if a2 = 0 then some (aL ((-1)), s1) else grd (kd l0 = 9) (bnL (sem 182 0 [aA l0] [] s1) fun a4 s3 => if (cmpL a4 0) = 0 then some (aL ((-3)), s3) else grd (kd l0 = 9) (bnL (sem 181 0 [aA l0, aI l1, aU, aU, aU, aU, aU] [] s3) fun a6 s5 => grd (kd l0 = 9) (bnL (sem 182 0 [aA l0] [] s5) fun a8 s7 => bnL (sem 170 0 [aL a6, aU, aL a8, aU, aI l2, aU, aU, aU, aU, aU, aU] [] s7) fun a10 s9 => some (aL a10, s9)))) := by
  refine (x_iload f183_0 rfl rfl).trans ?_
  refine (x_invokestatic (G := bnI (sem 164 0 [aI l1] [] s) fun a2 s1 => sem 183 4 [aA l0, aI l1, aI l2] [aI a2] s1) f183_1 rfl rfl).trans ?_
  refine bI_c fun a2 s1 => ?_
  refine (x_if_ne (tg := 11) f183_4 rfl rfl).trans (i_c ?_ ?_)
  · refine (x_lconst f183_7 rfl).trans ?_
    exact x_lreturn f183_10 rfl
  · refine (x_aload f183_11 rfl rfl).trans ?_
    refine (x_invokevirtual (G := grd (kd l0 = 9) (bnL (sem 182 0 [aA l0] [] s1) fun a4 s3 => sem 183 15 [aA l0, aI l1, aI l2] [aL a4] s3)) f183_12 rfl rfl).trans ?_
    refine g_c ?_
    refine bL_c fun a4 s3 => ?_
    refine (x_lconst f183_15 rfl).trans ?_
    refine (x_lcmp f183_16 rfl).trans ?_
    refine (x_if_ne (tg := 26) f183_17 rfl rfl).trans (i_c ?_ ?_)
    · refine (x_lconst f183_20 rfl).trans ?_
      refine (x_goto (tg := 39) f183_23 rfl rfl).trans ?_
      refine (x_kil (l2 := [aU, aU, aU]) f183_39 rfl).trans ?_
      exact x_lreturn f183_39 rfl
    · refine (x_aload f183_26 rfl rfl).trans ?_
      refine (x_iload f183_27 rfl rfl).trans ?_
      refine (x_invokevirtual (G := grd (kd l0 = 9) (bnL (sem 181 0 [aA l0, aI l1, aU, aU, aU, aU, aU] [] s3) fun a6 s5 => sem 183 31 [aA l0, aI l1, aI l2] [aL a6] s5)) f183_28 rfl rfl).trans ?_
      refine g_c ?_
      refine bL_c fun a6 s5 => ?_
      refine (x_aload f183_31 rfl rfl).trans ?_
      refine (x_invokevirtual (G := grd (kd l0 = 9) (bnL (sem 182 0 [aA l0] [] s5) fun a8 s7 => sem 183 35 [aA l0, aI l1, aI l2] [aL a8, aL a6] s7)) f183_32 rfl rfl).trans ?_
      refine g_c ?_
      refine bL_c fun a8 s7 => ?_
      refine (x_iload f183_35 rfl rfl).trans ?_
      refine (x_invokestatic (G := bnL (sem 170 0 [aL a6, aU, aL a8, aU, aI l2, aU, aU, aU, aU, aU, aU] [] s7) fun a10 s9 => sem 183 39 [aA l0, aI l1, aI l2] [aL a10] s9) f183_36 rfl rfl).trans ?_
      refine bL_c fun a10 s9 => ?_
      refine (x_kil (l2 := [aU, aU, aU]) f183_39 rfl).trans ?_
      exact x_lreturn f183_39 rfl
theorem f184_0 : fch 184 0 = some (.aload 0, 1, []) := by decide +kernel
theorem f184_1 : fch 184 1 = some (.invokevirtual 182, 4, []) := by decide +kernel
theorem f184_4 : fch 184 4 = some (.sipush 0, 5, []) := by decide +kernel
theorem f184_5 : fch 184 5 = some (.lcmp, 6, []) := by decide +kernel
theorem f184_6 : fch 184 6 = some (.ifCond .ne 12, 9, []) := by decide +kernel
theorem f184_9 : fch 184 9 = some (.iconst (-3), 11, []) := by decide +kernel
theorem f184_11 : fch 184 11 = some (.ireturn, 12, []) := by decide +kernel
theorem f184_12 : fch 184 12 = some (.aload 0, 13, []) := by decide +kernel
theorem f184_13 : fch 184 13 = some (.iconst 1, 14, []) := by decide +kernel
theorem f184_14 : fch 184 14 = some (.invokevirtual 181, 17, []) := by decide +kernel
theorem f184_17 : fch 184 17 = some (.aload 0, 18, []) := by decide +kernel
theorem f184_18 : fch 184 18 = some (.iconst 0, 19, []) := by decide +kernel
theorem f184_19 : fch 184 19 = some (.invokevirtual 181, 22, []) := by decide +kernel
theorem f184_22 : fch 184 22 = some (.lcmp, 23, []) := by decide +kernel
theorem f184_23 : fch 184 23 = some (.ifCond .le 30, 26, []) := by decide +kernel
theorem f184_26 : fch 184 26 = some (.iconst 1, 27, []) := by decide +kernel
theorem f184_27 : fch 184 27 = some (.goto 31, 30, []) := by decide +kernel
theorem f184_30 : fch 184 30 = some (.iconst 0, 31, []) := by decide +kernel
theorem f184_31 : fch 184 31 = some (.istore 1, 32, []) := by decide +kernel
theorem f184_32 : fch 184 32 = some (.aload 0, 33, []) := by decide +kernel
theorem f184_33 : fch 184 33 = some (.iconst 2, 34, []) := by decide +kernel
theorem f184_34 : fch 184 34 = some (.invokevirtual 181, 37, []) := by decide +kernel
theorem f184_37 : fch 184 37 = some (.aload 0, 38, []) := by decide +kernel
theorem f184_38 : fch 184 38 = some (.iload 1, 39, []) := by decide +kernel
theorem f184_39 : fch 184 39 = some (.invokevirtual 181, 42, []) := by decide +kernel
theorem f184_42 : fch 184 42 = some (.lcmp, 43, []) := by decide +kernel
theorem f184_43 : fch 184 43 = some (.ifCond .le 50, 46, []) := by decide +kernel
theorem f184_46 : fch 184 46 = some (.iconst 2, 47, []) := by decide +kernel
theorem f184_47 : fch 184 47 = some (.goto 51, 50, []) := by decide +kernel
theorem f184_50 : fch 184 50 = some (.iload 1, 51, []) := by decide +kernel
theorem f184_51 : fch 184 51 = some (.ireturn, 52, [0, 1]) := by decide +kernel
set_option maxRecDepth 10000 in
theorem e184_0 (l0 : Int) (s : SG) : sem 184 0 [aA l0, aU] [] s = grd (kd l0 = 9) (bnL (sem 182 0 [aA l0] [] s) fun a2 s1 => if (cmpL a2 0) = 0 then some (aI ((-3)), s1) else grd (kd l0 = 9) (bnL (sem 181 0 [aA l0, aI 1, aU, aU, aU, aU, aU] [] s1) fun a4 s3 => grd (kd l0 = 9) (bnL (sem 181 0 [aA l0, aI 0, aU, aU, aU, aU, aU] [] s3) fun a6 s5 => grd (kd l0 = 9) (bnL (sem 181 0 [aA l0, aI 2, aU, aU, aU, aU, aU] [] s5) fun a8 s7 => grd (kd l0 = 9) (bnL (sem 181 0 [aA l0, aI (if (0 : Int) < (cmpL a4 a6) then 1 else 0), aU, aU, aU, aU, aU] [] s7) fun a10 s9 => if (0 : Int) < (cmpL a8 a10) then some (aI 2, s9) else some (aI (if (0 : Int) < (cmpL a4 a6) then 1 else 0), s9)))))) := by
  refine (x_aload f184_0 rfl rfl).trans ?_
  refine (x_invokevirtual (G := grd (kd l0 = 9) (bnL (sem 182 0 [aA l0] [] s) fun a2 s1 => sem 184 4 [aA l0, aU] [aL a2] s1)) f184_1 rfl rfl).trans ?_
  refine g_c ?_
  refine bL_c fun a2 s1 => ?_
  refine (x_lconst f184_4 rfl).trans ?_
  refine (x_lcmp f184_5 rfl).trans ?_
  refine (x_if_ne (tg := 12) f184_6 rfl rfl).trans (i_c ?_ ?_)
  · refine (x_iconst f184_9 rfl).trans ?_
    exact x_ireturn f184_11 rfl
  · refine (x_aload f184_12 rfl rfl).trans ?_
    refine (x_iconst f184_13 rfl).trans ?_
    refine (x_invokevirtual (G := grd (kd l0 = 9) (bnL (sem 181 0 [aA l0, aI 1, aU, aU, aU, aU, aU] [] s1) fun a4 s3 => sem 184 17 [aA l0, aU] [aL a4] s3)) f184_14 rfl rfl).trans ?_
    refine g_c ?_
    refine bL_c fun a4 s3 => ?_
    refine (x_aload f184_17 rfl rfl).trans ?_
    refine (x_iconst f184_18 rfl).trans ?_
    refine (x_invokevirtual (G := grd (kd l0 = 9) (bnL (sem 181 0 [aA l0, aI 0, aU, aU, aU, aU, aU] [] s3) fun a6 s5 => sem 184 22 [aA l0, aU] [aL a6, aL a4] s5)) f184_19 rfl rfl).trans ?_
    refine g_c ?_
    refine bL_c fun a6 s5 => ?_
    refine (x_lcmp f184_22 rfl).trans ?_
    refine (x_if_le (tg := 30) f184_23 rfl rfl).trans ?_
    refine Eq.trans (b := if (0 : Int) < (cmpL a4 a6) then sem 184 31 [aA l0, aU] [aI 1] s5 else sem 184 31 [aA l0, aU] [aI 0] s5) (i_c ?_ ?_) ?_
    · refine (x_iconst f184_26 rfl).trans ?_
      refine (x_goto (tg := 31) f184_27 rfl rfl).trans ?_
      rfl
    · refine (x_iconst f184_30 rfl).trans ?_
      rfl
    refine m_I.trans ?_
    refine (x_istore (l2 := [aA l0, aI (if (0 : Int) < (cmpL a4 a6) then 1 else 0)]) f184_31 rfl rfl).trans ?_
    refine (x_aload f184_32 rfl rfl).trans ?_
    refine (x_iconst f184_33 rfl).trans ?_
    refine (x_invokevirtual (G := grd (kd l0 = 9) (bnL (sem 181 0 [aA l0, aI 2, aU, aU, aU, aU, aU] [] s5) fun a8 s7 => sem 184 37 [aA l0, aI (if (0 : Int) < (cmpL a4 a6) then 1 else 0)] [aL a8] s7)) f184_34 rfl rfl).trans ?_
    refine g_c ?_
    refine bL_c fun a8 s7 => ?_
    refine (x_aload f184_37 rfl rfl).trans ?_
    refine (x_iload f184_38 rfl rfl).trans ?_
    refine (x_invokevirtual (G := grd (kd l0 = 9) (bnL (sem 181 0 [aA l0, aI (if (0 : Int) < (cmpL a4 a6) then 1 else 0), aU, aU, aU, aU, aU] [] s7) fun a10 s9 => sem 184 42 [aA l0, aI (if (0 : Int) < (cmpL a4 a6) then 1 else 0)] [aL a10, aL a8] s9)) f184_39 rfl rfl).trans ?_
    refine g_c ?_
    refine bL_c fun a10 s9 => ?_
    refine (x_lcmp f184_42 rfl).trans ?_
    refine (x_if_le (tg := 50) f184_43 rfl rfl).trans (i_c ?_ ?_)
    · refine (x_iconst f184_46 rfl).trans ?_
      refine (x_goto (tg := 51) f184_47 rfl rfl).trans ?_
      refine (x_kil (l2 := [aU, aU]) f184_51 rfl).trans ?_
      exact x_ireturn f184_51 rfl
    · refine (x_iload f184_50 rfl rfl).trans ?_
      refine (x_kil (l2 := [aU, aU]) f184_51 rfl).trans ?_
      exact x_ireturn f184_51 rfl
theorem f185_0 : fch 185 0 = some (.iconst 10, 2, []) := by decide +kernel
theorem f185_2 : fch 185 2 = some (.aload 0, 3, []) := by decide +kernel
theorem f185_3 : fch 185 3 = some (.invokeinterface 9 1, 6, []) := by decide +kernel
theorem f185_6 : fch 185 6 = some (.iconst 10, 8, []) := by decide +kernel
theorem f185_8 : fch 185 8 = some (.iconst 3, 9, []) := by decide +kernel
theorem f185_9 : fch 185 9 = some (.iload 1, 10, []) := by decide +kernel
theorem f185_10 : fch 185 10 = some (.imul, 11, []) := by decide +kernel
theorem f185_11 : fch 185 11 = some (.iadd, 12, []) := by decide +kernel
theorem f185_12 : fch 185 12 = some (.iload 2, 13, []) := by decide +kernel
theorem f185_13 : fch 185 13 = some (.iadd, 14, []) := by decide +kernel
theorem f185_14 : fch 185 14 = some (.iaload, 15, []) := by decide +kernel
theorem f185_15 : fch 185 15 = some (.imul, 16, []) := by decide +kernel
theorem f185_16 : fch 185 16 = some (.aload 0, 17, []) := by decide +kernel
theorem f185_17 : fch 185 17 = some (.invokeinterface 9 1, 20, []) := by decide +kernel
theorem f185_20 : fch 185 20 = some (.iconst 19, 22, []) := by decide +kernel
theorem f185_22 : fch 185 22 = some (.iconst 3, 23, []) := by decide +kernel
theorem f185_23 : fch 185 23 = some (.iload 1, 24, []) := by decide +kernel
theorem f185_24 : fch 185 24 = some (.imul, 25, []) := by decide +kernel
theorem f185_25 : fch 185 25 = some (.iadd, 26, []) := by decide +kernel
theorem f185_26 : fch 185 26 = some (.iload 2, 27, []) := by decide +kernel
theorem f185_27 : fch 185 27 = some (.iadd, 28, []) := by decide +kernel
theorem f185_28 : fch 185 28 = some (.iaload, 29, []) := by decide +kernel
theorem f185_29 : fch 185 29 = some (.iadd, 30, []) := by decide +kernel
theorem f185_30 : fch 185 30 = some (.ireturn, 31, []) := by decide +kernel
set_option maxRecDepth 10000 in
theorem e185_0 (l0 l1 l2 : Int) (s : SG) : sem 185 0 [aA l0, aI l1, aI l2] [] s = grd (kd l0 = 9) (grd (0 ≤ s l0 1) (grd (kd (s l0 1) = 101) (grd ((0 : Int) ≤ (w32 ((w32 (10 + (w32 (3 * l1)))) + l2)) ∧ (w32 ((w32 (10 + (w32 (3 * l1)))) + l2)) < kl (s l0 1)) (grd (kd l0 = 9) (grd (0 ≤ s l0 1) (grd (kd (s l0 1) = 101) (grd ((0 : Int) ≤ (w32 ((w32 (19 + (w32 (3 * l1)))) + l2)) ∧ (w32 ((w32 (19 + (w32 (3 * l1)))) + l2)) < kl (s l0 1)) (some (aI (w32 ((w32 (10 * (s (s l0 1) (w32 ((w32 (10 + (w32 (3 * l1)))) + l2))))) + (s (s l0 1) (w32 ((w32 (19 + (w32 (3 * l1)))) + l2))))), s))))))))) := by
  refine (x_iconst f185_0 rfl).trans ?_
  refine (x_aload f185_2 rfl rfl).trans ?_
  refine (x_get2 f185_3 rfl rfl).trans ?_
  refine g_c ?_
  refine g_c ?_
  refine (x_iconst f185_6 rfl).trans ?_
  refine (x_iconst f185_8 rfl).trans ?_
  refine (x_iload f185_9 rfl rfl).trans ?_
  refine (x_imul f185_10 rfl).trans ?_
  refine (x_iadd f185_11 rfl).trans ?_
  refine (x_iload f185_12 rfl rfl).trans ?_
  refine (x_iadd f185_13 rfl).trans ?_
  refine (x_iaload f185_14 rfl).trans ?_
  refine g_c ?_
  refine g_c ?_
  refine (x_imul f185_15 rfl).trans ?_
  refine (x_aload f185_16 rfl rfl).trans ?_
  refine (x_get2 f185_17 rfl rfl).trans ?_
  refine g_c ?_
  refine g_c ?_
  refine (x_iconst f185_20 rfl).trans ?_
  refine (x_iconst f185_22 rfl).trans ?_
  refine (x_iload f185_23 rfl rfl).trans ?_
  refine (x_imul f185_24 rfl).trans ?_
  refine (x_iadd f185_25 rfl).trans ?_
  refine (x_iload f185_26 rfl rfl).trans ?_
  refine (x_iadd f185_27 rfl).trans ?_
  refine (x_iaload f185_28 rfl).trans ?_
  refine g_c ?_
  refine g_c ?_
  refine (x_iadd f185_29 rfl).trans ?_
  exact x_ireturn f185_30 rfl
theorem f186_0 : fch 186 0 = some (.aload 0, 1, []) := by decide +kernel
theorem f186_1 : fch 186 1 = some (.invokevirtual 182, 4, []) := by decide +kernel
theorem f186_4 : fch 186 4 = some (.sipush 0, 5, []) := by decide +kernel
theorem f186_5 : fch 186 5 = some (.lcmp, 6, []) := by decide +kernel
theorem f186_6 : fch 186 6 = some (.ifCond .ne 12, 9, []) := by decide +kernel
theorem f186_9 : fch 186 9 = some (.iconst (-3), 11, []) := by decide +kernel
theorem f186_11 : fch 186 11 = some (.ireturn, 12, []) := by decide +kernel
theorem f186_12 : fch 186 12 = some (.iconst 0, 13, []) := by decide +kernel
theorem f186_13 : fch 186 13 = some (.istore 1, 14, []) := by decide +kernel
theorem f186_14 : fch 186 14 = some (.iconst 0, 15, []) := by decide +kernel
theorem f186_15 : fch 186 15 = some (.istore 2, 16, []) := by decide +kernel
theorem f186_16 : fch 186 16 = some (.iconst 0, 17, []) := by decide +kernel
theorem f186_17 : fch 186 17 = some (.istore 3, 18, []) := by decide +kernel
theorem f186_18 : fch 186 18 = some (.iload 3, 19, [4, 5, 6, 7]) := by decide +kernel
theorem f186_19 : fch 186 19 = some (.aload 0, 20, []) := by decide +kernel
theorem f186_20 : fch 186 20 = some (.invokeinterface 9 1, 23, []) := by decide +kernel
theorem f186_23 : fch 186 23 = some (.iconst 0, 24, []) := by decide +kernel
theorem f186_24 : fch 186 24 = some (.iaload, 25, []) := by decide +kernel
theorem f186_25 : fch 186 25 = some (.if_icmp .ge 166, 28, []) := by decide +kernel
theorem f186_28 : fch 186 28 = some (.iconst 0, 29, []) := by decide +kernel
theorem f186_29 : fch 186 29 = some (.istore 4, 31, []) := by decide +kernel
theorem f186_31 : fch 186 31 = some (.iconst 0, 32, []) := by decide +kernel
theorem f186_32 : fch 186 32 = some (.istore 5, 34, []) := by decide +kernel
theorem f186_34 : fch 186 34 = some (.iload 5, 36, [6, 7]) := by decide +kernel
theorem f186_36 : fch 186 36 = some (.iconst 3, 37, []) := by decide +kernel
theorem f186_37 : fch 186 37 = some (.if_icmp .ge 135, 40, []) := by decide +kernel
theorem f186_40 : fch 186 40 = some (.aload 0, 41, []) := by decide +kernel
theorem f186_41 : fch 186 41 = some (.iload 5, 43, []) := by decide +kernel
theorem f186_43 : fch 186 43 = some (.invokevirtual 181, 46, []) := by decide +kernel
theorem f186_46 : fch 186 46 = some (.sipush 0, 47, []) := by decide +kernel
theorem f186_47 : fch 186 47 = some (.lcmp, 48, []) := by decide +kernel
theorem f186_48 : fch 186 48 = some (.ifCond .le 55, 51, []) := by decide +kernel
theorem f186_51 : fch 186 51 = some (.iconst 1, 52, []) := by decide +kernel
theorem f186_52 : fch 186 52 = some (.goto 56, 55, []) := by decide +kernel
theorem f186_55 : fch 186 55 = some (.iconst 0, 56, []) := by decide +kernel
theorem f186_56 : fch 186 56 = some (.istore 6, 58, [6, 7]) := by decide +kernel
theorem f186_58 : fch 186 58 = some (.iconst 0, 59, []) := by decide +kernel
theorem f186_59 : fch 186 59 = some (.istore 7, 61, []) := by decide +kernel
theorem f186_61 : fch 186 61 = some (.iload 7, 63, []) := by decide +kernel
theorem f186_63 : fch 186 63 = some (.iload 5, 65, []) := by decide +kernel
theorem f186_65 : fch 186 65 = some (.if_icmp .ge 114, 68, []) := by decide +kernel
theorem f186_68 : fch 186 68 = some (.iload 6, 70, []) := by decide +kernel
theorem f186_70 : fch 186 70 = some (.ifCond .eq 105, 73, []) := by decide +kernel
theorem f186_73 : fch 186 73 = some (.aload 0, 74, []) := by decide +kernel
theorem f186_74 : fch 186 74 = some (.iload 7, 76, []) := by decide +kernel
theorem f186_76 : fch 186 76 = some (.invokevirtual 181, 79, []) := by decide +kernel
theorem f186_79 : fch 186 79 = some (.sipush 0, 80, []) := by decide +kernel
theorem f186_80 : fch 186 80 = some (.lcmp, 81, []) := by decide +kernel
theorem f186_81 : fch 186 81 = some (.ifCond .eq 101, 84, []) := by decide +kernel
theorem f186_84 : fch 186 84 = some (.aload 0, 85, []) := by decide +kernel
theorem f186_85 : fch 186 85 = some (.iload 3, 86, []) := by decide +kernel
theorem f186_86 : fch 186 86 = some (.iload 7, 88, []) := by decide +kernel
theorem f186_88 : fch 186 88 = some (.invokevirtual 185, 91, []) := by decide +kernel
theorem f186_91 : fch 186 91 = some (.aload 0, 92, []) := by decide +kernel
theorem f186_92 : fch 186 92 = some (.iload 3, 93, []) := by decide +kernel
theorem f186_93 : fch 186 93 = some (.iload 5, 95, []) := by decide +kernel
theorem f186_95 : fch 186 95 = some (.invokevirtual 185, 98, []) := by decide +kernel
theorem f186_98 : fch 186 98 = some (.if_icmp .eq 105, 101, []) := by decide +kernel
theorem f186_101 : fch 186 101 = some (.iconst 1, 102, [6]) := by decide +kernel
theorem f186_102 : fch 186 102 = some (.goto 106, 105, []) := by decide +kernel
theorem f186_105 : fch 186 105 = some (.iconst 0, 106, [6]) := by decide +kernel
theorem f186_106 : fch 186 106 = some (.istore 6, 108, [6]) := by decide +kernel
theorem f186_108 : fch 186 108 = some (.iinc 7 1, 111, []) := by decide +kernel
theorem f186_111 : fch 186 111 = some (.goto 61, 114, []) := by decide +kernel
theorem f186_114 : fch 186 114 = some (.iload 4, 116, []) := by decide +kernel
theorem f186_116 : fch 186 116 = some (.iload 6, 118, []) := by decide +kernel
theorem f186_118 : fch 186 118 = some (.ifCond .eq 125, 121, []) := by decide +kernel
theorem f186_121 : fch 186 121 = some (.iconst 1, 122, []) := by decide +kernel
theorem f186_122 : fch 186 122 = some (.goto 126, 125, []) := by decide +kernel
theorem f186_125 : fch 186 125 = some (.iconst 0, 126, []) := by decide +kernel
theorem f186_126 : fch 186 126 = some (.iadd, 127, [4, 6, 7]) := by decide +kernel
theorem f186_127 : fch 186 127 = some (.istore 4, 129, []) := by decide +kernel
theorem f186_129 : fch 186 129 = some (.iinc 5 1, 132, []) := by decide +kernel
theorem f186_132 : fch 186 132 = some (.goto 34, 135, []) := by decide +kernel
theorem f186_135 : fch 186 135 = some (.iload 4, 137, []) := by decide +kernel
theorem f186_137 : fch 186 137 = some (.iload 2, 138, []) := by decide +kernel
theorem f186_138 : fch 186 138 = some (.if_icmp .le 145, 141, []) := by decide +kernel
theorem f186_141 : fch 186 141 = some (.iload 3, 142, []) := by decide +kernel
theorem f186_142 : fch 186 142 = some (.goto 146, 145, []) := by decide +kernel
theorem f186_145 : fch 186 145 = some (.iload 1, 146, []) := by decide +kernel
theorem f186_146 : fch 186 146 = some (.istore 1, 147, [1, 5, 6, 7]) := by decide +kernel
theorem f186_147 : fch 186 147 = some (.iload 4, 149, []) := by decide +kernel
theorem f186_149 : fch 186 149 = some (.iload 2, 150, []) := by decide +kernel
theorem f186_150 : fch 186 150 = some (.if_icmp .le 158, 153, []) := by decide +kernel
theorem f186_153 : fch 186 153 = some (.iload 4, 155, []) := by decide +kernel
theorem f186_155 : fch 186 155 = some (.goto 159, 158, []) := by decide +kernel
theorem f186_158 : fch 186 158 = some (.iload 2, 159, []) := by decide +kernel
theorem f186_159 : fch 186 159 = some (.istore 2, 160, [2, 4, 5, 6, 7]) := by decide +kernel
theorem f186_160 : fch 186 160 = some (.iinc 3 1, 163, []) := by decide +kernel
theorem f186_163 : fch 186 163 = some (.goto 18, 166, []) := by decide +kernel
theorem f186_166 : fch 186 166 = some (.iload 1, 167, []) := by decide +kernel
theorem f186_167 : fch 186 167 = some (.ireturn, 168, []) := by decide +kernel
set_option maxRecDepth 10000 in
theorem e186_0 (l0 : Int) (s : SG) : sem 186 0 [aA l0, aU, aU, aU, aU, aU, aU, aU] [] s = grd (kd l0 = 9) (bnL (sem 182 0 [aA l0] [] s) fun a2 s1 => if (cmpL a2 0) = 0 then some (aI ((-3)), s1) else sem 186 18 [aA l0, aI 0, aI 0, aI 0, aU, aU, aU, aU] [] s1) := by
  refine (x_aload f186_0 rfl rfl).trans ?_
  refine (x_invokevirtual (G := grd (kd l0 = 9) (bnL (sem 182 0 [aA l0] [] s) fun a2 s1 => sem 186 4 [aA l0, aU, aU, aU, aU, aU, aU, aU] [aL a2] s1)) f186_1 rfl rfl).trans ?_
  refine g_c ?_
  refine bL_c fun a2 s1 => ?_
  refine (x_lconst f186_4 rfl).trans ?_
  refine (x_lcmp f186_5 rfl).trans ?_
  refine (x_if_ne (tg := 12) f186_6 rfl rfl).trans (i_c ?_ ?_)
  · refine (x_iconst f186_9 rfl).trans ?_
    exact x_ireturn f186_11 rfl
  · refine (x_iconst f186_12 rfl).trans ?_
    refine (x_istore (l2 := [aA l0, aI 0, aU, aU, aU, aU, aU, aU]) f186_13 rfl rfl).trans ?_
    refine (x_iconst f186_14 rfl).trans ?_
    refine (x_istore (l2 := [aA l0, aI 0, aI 0, aU, aU, aU, aU, aU]) f186_15 rfl rfl).trans ?_
    refine (x_iconst f186_16 rfl).trans ?_
    refine (x_istore (l2 := [aA l0, aI 0, aI 0, aI 0, aU, aU, aU, aU]) f186_17 rfl rfl).trans ?_
    rfl
set_option maxRecDepth 10000 in
theorem e186_18 (l0 l1 l2 l3 : Int) (s : SG) : sem 186 18 [aA l0, aI l1, aI l2, aI l3, aU, aU, aU, aU] [] s = grd (kd l0 = 9) (grd (0 ≤ s l0 1) (grd (kd (s l0 1) = 101) (grd ((0 : Int) ≤ 0 ∧ 0 < kl (s l0 1)) (if l3 < (s (s l0 1) 0) then sem 186 34 [aA l0, aI l1, aI l2, aI l3, aI 0, aI 0, aU, aU] [] s else some (aI l1, s))))) := by
  refine (x_iload f186_18 rfl rfl).trans ?_
  refine (x_aload f186_19 rfl rfl).trans ?_
  refine (x_get2 f186_20 rfl rfl).trans ?_
  refine g_c ?_
  refine g_c ?_
  refine (x_iconst f186_23 rfl).trans ?_
  refine (x_iaload f186_24 rfl).trans ?_
  refine g_c ?_
  refine g_c ?_
  refine (x_icmp_ge (tg := 166) f186_25 rfl rfl).trans (i_c ?_ ?_)
  · refine (x_iconst f186_28 rfl).trans ?_
    refine (x_istore (l2 := [aA l0, aI l1, aI l2, aI l3, aI 0, aU, aU, aU]) f186_29 rfl rfl).trans ?_
    refine (x_iconst f186_31 rfl).trans ?_
    refine (x_istore (l2 := [aA l0, aI l1, aI l2, aI l3, aI 0, aI 0, aU, aU]) f186_32 rfl rfl).trans ?_
    rfl
  · refine (x_iload f186_166 rfl rfl).trans ?_
    exact x_ireturn f186_167 rfl
set_option maxRecDepth 10000 in
theorem e186_34 (l0 l1 l2 l3 l4 l5 : Int) (s : SG) : sem 186 34 [aA l0, aI l1, aI l2, aI l3, aI l4, aI l5, aU, aU] [] s = if l5 < 3 then grd (kd l0 = 9) (bnL (sem 181 0 [aA l0, aI l5, aU, aU, aU, aU, aU] [] s) fun a2 s1 => sem 186 61 [aA l0, aI l1, aI l2, aI l3, aI l4, aI l5, aI (if (0 : Int) < (cmpL a2 0) then 1 else 0), aI 0] [] s1) else sem 186 18 [aA l0, aI (if l2 < l4 then l3 else l1), aI (if l2 < l4 then l4 else l2), aI (w32 (l3 + 1)), aU, aU, aU, aU] [] s := by
  refine (x_iload f186_34 rfl rfl).trans ?_
  refine (x_iconst f186_36 rfl).trans ?_
  refine (x_icmp_ge (tg := 135) f186_37 rfl rfl).trans (i_c ?_ ?_)
  · refine (x_aload f186_40 rfl rfl).trans ?_
    refine (x_iload f186_41 rfl rfl).trans ?_
    refine (x_invokevirtual (G := grd (kd l0 = 9) (bnL (sem 181 0 [aA l0, aI l5, aU, aU, aU, aU, aU] [] s) fun a2 s1 => sem 186 46 [aA l0, aI l1, aI l2, aI l3, aI l4, aI l5, aU, aU] [aL a2] s1)) f186_43 rfl rfl).trans ?_
    refine g_c ?_
    refine bL_c fun a2 s1 => ?_
    refine (x_lconst f186_46 rfl).trans ?_
    refine (x_lcmp f186_47 rfl).trans ?_
    refine (x_if_le (tg := 55) f186_48 rfl rfl).trans ?_
    refine Eq.trans (b := if (0 : Int) < (cmpL a2 0) then sem 186 56 [aA l0, aI l1, aI l2, aI l3, aI l4, aI l5, aU, aU] [aI 1] s1 else sem 186 56 [aA l0, aI l1, aI l2, aI l3, aI l4, aI l5, aU, aU] [aI 0] s1) (i_c ?_ ?_) ?_
    · refine (x_iconst f186_51 rfl).trans ?_
      refine (x_goto (tg := 56) f186_52 rfl rfl).trans ?_
      rfl
    · refine (x_iconst f186_55 rfl).trans ?_
      rfl
    refine m_I.trans ?_
    refine (x_istore (l2 := [aA l0, aI l1, aI l2, aI l3, aI l4, aI l5, aI (if (0 : Int) < (cmpL a2 0) then 1 else 0), aU]) f186_56 rfl rfl).trans ?_
    refine (x_iconst f186_58 rfl).trans ?_
    refine (x_istore (l2 := [aA l0, aI l1, aI l2, aI l3, aI l4, aI l5, aI (if (0 : Int) < (cmpL a2 0) then 1 else 0), aI 0]) f186_59 rfl rfl).trans ?_
    rfl
  · refine (x_iload f186_135 rfl rfl).trans ?_
    refine (x_iload f186_137 rfl rfl).trans ?_
    refine (x_icmp_le (tg := 145) f186_138 rfl rfl).trans ?_
    refine Eq.trans (b := if l2 < l4 then sem 186 146 [aA l0, aU, aI l2, aI l3, aI l4, aU, aU, aU] [aI l3] s else sem 186 146 [aA l0, aU, aI l2, aI l3, aI l4, aU, aU, aU] [aI l1] s) (i_c ?_ ?_) ?_
    · refine (x_iload f186_141 rfl rfl).trans ?_
      refine (x_goto (tg := 146) f186_142 rfl rfl).trans ?_
      exact x_kil f186_146 rfl
    · refine (x_iload f186_145 rfl rfl).trans ?_
      exact x_kil f186_146 rfl
    refine m_I.trans ?_
    refine (x_istore (l2 := [aA l0, aI (if l2 < l4 then l3 else l1), aI l2, aI l3, aI l4, aU, aU, aU]) f186_146 rfl rfl).trans ?_
    refine (x_iload f186_147 rfl rfl).trans ?_
    refine (x_iload f186_149 rfl rfl).trans ?_
    refine (x_icmp_le (tg := 158) f186_150 rfl rfl).trans ?_
    refine Eq.trans (b := if l2 < l4 then sem 186 159 [aA l0, aI (if l2 < l4 then l3 else l1), aU, aI l3, aU, aU, aU, aU] [aI l4] s else sem 186 159 [aA l0, aI (if l2 < l4 then l3 else l1), aU, aI l3, aU, aU, aU, aU] [aI l2] s) (i_c ?_ ?_) ?_
    · refine (x_iload f186_153 rfl rfl).trans ?_
      refine (x_goto (tg := 159) f186_155 rfl rfl).trans ?_
      exact x_kil f186_159 rfl
    · refine (x_iload f186_158 rfl rfl).trans ?_
      exact x_kil f186_159 rfl
    refine m_I.trans ?_
    refine (x_istore (l2 := [aA l0, aI (if l2 < l4 then l3 else l1), aI (if l2 < l4 then l4 else l2), aI l3, aU, aU, aU, aU]) f186_159 rfl rfl).trans ?_
    refine (x_iinc (l2 := [aA l0, aI (if l2 < l4 then l3 else l1), aI (if l2 < l4 then l4 else l2), aI (w32 (l3 + 1)), aU, aU, aU, aU]) f186_160 rfl rfl rfl).trans ?_
    refine (x_goto (tg := 18) f186_163 rfl rfl).trans ?_
    rfl
set_option maxRecDepth 10000 in
theorem e186_61 (l0 l1 l2 l3 l4 l5 l6 l7 : Int) (s : SG) : sem 186 61 [aA l0, aI l1, aI l2, aI l3, aI l4, aI l5, aI l6, aI l7] [] s = if l7 < l5 then if l6 = 0 then sem 186 61 [aA l0, aI l1, aI l2, aI l3, aI l4, aI l5, aI 0, aI (w32 (l7 + 1))] [] s else grd (kd l0 = 9) (bnL (sem 181 0 [aA l0, aI l7, aU, aU, aU, aU, aU] [] s) fun a2 s1 => if (cmpL a2 0) = 0 then sem 186 61 [aA l0, aI l1, aI l2, aI l3, aI l4, aI l5, aI 1, aI (w32 (l7 + 1))] [] s1 else grd (kd l0 = 9) (bnI (sem 185 0 [aA l0, aI l3, aI l7] [] s1) fun a4 s3 => grd (kd l0 = 9) (bnI (sem 185 0 [aA l0, aI l3, aI l5] [] s3) fun a6 s5 => sem 186 61 [aA l0, aI l1, aI l2, aI l3, aI l4, aI l5, aI (if a4 = a6 then 0 else 1), aI (w32 (l7 + 1))] [] s5))) else sem 186 34 [aA l0, aI l1, aI l2, aI l3, aI (w32 (l4 + (if l6 = 0 then 0 else 1))), aI (w32 (l5 + 1)), aU, aU] [] s := by
  refine (x_iload f186_61 rfl rfl).trans ?_
  refine (x_iload f186_63 rfl rfl).trans ?_
  refine (x_icmp_ge (tg := 114) f186_65 rfl rfl).trans (i_c ?_ ?_)
  · refine (x_iload f186_68 rfl rfl).trans ?_
    refine (x_if_eq (tg := 105) f186_70 rfl rfl).trans (i_c ?_ ?_)
    · refine (x_kil (l2 := [aA l0, aI l1, aI l2, aI l3, aI l4, aI l5, aU, aI l7]) f186_105 rfl).trans ?_
      refine (x_iconst f186_105 rfl).trans ?_
      refine (x_istore (l2 := [aA l0, aI l1, aI l2, aI l3, aI l4, aI l5, aI 0, aI l7]) f186_106 rfl rfl).trans ?_
      refine (x_iinc (l2 := [aA l0, aI l1, aI l2, aI l3, aI l4, aI l5, aI 0, aI (w32 (l7 + 1))]) f186_108 rfl rfl rfl).trans ?_
      refine (x_goto (tg := 61) f186_111 rfl rfl).trans ?_
      rfl
    · refine (x_aload f186_73 rfl rfl).trans ?_
      refine (x_iload f186_74 rfl rfl).trans ?_
      refine (x_invokevirtual (G := grd (kd l0 = 9) (bnL (sem 181 0 [aA l0, aI l7, aU, aU, aU, aU, aU] [] s) fun a2 s1 => sem 186 79 [aA l0, aI l1, aI l2, aI l3, aI l4, aI l5, aI l6, aI l7] [aL a2] s1)) f186_76 rfl rfl).trans ?_
      refine g_c ?_
      refine bL_c fun a2 s1 => ?_
      refine (x_lconst f186_79 rfl).trans ?_
      refine (x_lcmp f186_80 rfl).trans ?_
      refine (x_if_eq (tg := 101) f186_81 rfl rfl).trans (i_c ?_ ?_)
      · refine (x_kil (l2 := [aA l0, aI l1, aI l2, aI l3, aI l4, aI l5, aU, aI l7]) f186_101 rfl).trans ?_
        refine (x_iconst f186_101 rfl).trans ?_
        refine (x_goto (tg := 106) f186_102 rfl rfl).trans ?_
        refine (x_istore (l2 := [aA l0, aI l1, aI l2, aI l3, aI l4, aI l5, aI 1, aI l7]) f186_106 rfl rfl).trans ?_
        refine (x_iinc (l2 := [aA l0, aI l1, aI l2, aI l3, aI l4, aI l5, aI 1, aI (w32 (l7 + 1))]) f186_108 rfl rfl rfl).trans ?_
        refine (x_goto (tg := 61) f186_111 rfl rfl).trans ?_
        rfl
      · refine (x_aload f186_84 rfl rfl).trans ?_
        refine (x_iload f186_85 rfl rfl).trans ?_
        refine (x_iload f186_86 rfl rfl).trans ?_
        refine (x_invokevirtual (G := grd (kd l0 = 9) (bnI (sem 185 0 [aA l0, aI l3, aI l7] [] s1) fun a4 s3 => sem 186 91 [aA l0, aI l1, aI l2, aI l3, aI l4, aI l5, aI l6, aI l7] [aI a4] s3)) f186_88 rfl rfl).trans ?_
        refine g_c ?_
        refine bI_c fun a4 s3 => ?_
        refine (x_aload f186_91 rfl rfl).trans ?_
        refine (x_iload f186_92 rfl rfl).trans ?_
        refine (x_iload f186_93 rfl rfl).trans ?_
        refine (x_invokevirtual (G := grd (kd l0 = 9) (bnI (sem 185 0 [aA l0, aI l3, aI l5] [] s3) fun a6 s5 => sem 186 98 [aA l0, aI l1, aI l2, aI l3, aI l4, aI l5, aI l6, aI l7] [aI a6, aI a4] s5)) f186_95 rfl rfl).trans ?_
        refine g_c ?_
        refine bI_c fun a6 s5 => ?_
        refine (x_icmp_eq (tg := 105) f186_98 rfl rfl).trans ?_
        refine Eq.trans (b := if a4 = a6 then sem 186 106 [aA l0, aI l1, aI l2, aI l3, aI l4, aI l5, aU, aI l7] [aI 0] s5 else sem 186 106 [aA l0, aI l1, aI l2, aI l3, aI l4, aI l5, aU, aI l7] [aI 1] s5) (i_c ?_ ?_) ?_
        · refine (x_kil (l2 := [aA l0, aI l1, aI l2, aI l3, aI l4, aI l5, aU, aI l7]) f186_105 rfl).trans ?_
          refine (x_iconst f186_105 rfl).trans ?_
          rfl
        · refine (x_kil (l2 := [aA l0, aI l1, aI l2, aI l3, aI l4, aI l5, aU, aI l7]) f186_101 rfl).trans ?_
          refine (x_iconst f186_101 rfl).trans ?_
          refine (x_goto (tg := 106) f186_102 rfl rfl).trans ?_
          rfl
        refine m_I.trans ?_
        refine (x_istore (l2 := [aA l0, aI l1, aI l2, aI l3, aI l4, aI l5, aI (if a4 = a6 then 0 else 1), aI l7]) f186_106 rfl rfl).trans ?_
        refine (x_iinc (l2 := [aA l0, aI l1, aI l2, aI l3, aI l4, aI l5, aI (if a4 = a6 then 0 else 1), aI (w32 (l7 + 1))]) f186_108 rfl rfl rfl).trans ?_
        refine (x_goto (tg := 61) f186_111 rfl rfl).trans ?_
        rfl
  · refine (x_iload f186_114 rfl rfl).trans ?_
    refine (x_iload f186_116 rfl rfl).trans ?_
    refine (x_if_eq (tg := 125) f186_118 rfl rfl).trans ?_
    refine Eq.trans (b := if l6 = 0 then sem 186 126 [aA l0, aI l1, aI l2, aI l3, aU, aI l5, aU, aU] [aI 0, aI l4] s else sem 186 126 [aA l0, aI l1, aI l2, aI l3, aU, aI l5, aU, aU] [aI 1, aI l4] s) (i_c ?_ ?_) ?_
    · refine (x_iconst f186_125 rfl).trans ?_
      exact x_kil f186_126 rfl
    · refine (x_iconst f186_121 rfl).trans ?_
      refine (x_goto (tg := 126) f186_122 rfl rfl).trans ?_
      exact x_kil f186_126 rfl
    refine m_I.trans ?_
    refine (x_iadd f186_126 rfl).trans ?_
    refine (x_istore (l2 := [aA l0, aI l1, aI l2, aI l3, aI (w32 (l4 + (if l6 = 0 then 0 else 1))), aI l5, aU, aU]) f186_127 rfl rfl).trans ?_
    refine (x_iinc (l2 := [aA l0, aI l1, aI l2, aI l3, aI (w32 (l4 + (if l6 = 0 then 0 else 1))), aI (w32 (l5 + 1)), aU, aU]) f186_129 rfl rfl rfl).trans ?_
    refine (x_goto (tg := 34) f186_132 rfl rfl).trans ?_
    rfl
theorem f187_0 : fch 187 0 = some (.iconst 169, 3, []) := by decide +kernel
theorem f187_3 : fch 187 3 = some (.iload 0, 4, []) := by decide +kernel
theorem f187_4 : fch 187 4 = some (.imul, 5, []) := by decide +kernel
theorem f187_5 : fch 187 5 = some (.iconst 13, 7, []) := by decide +kernel
theorem f187_7 : fch 187 7 = some (.iload 1, 8, []) := by decide +kernel
theorem f187_8 : fch 187 8 = some (.imul, 9, []) := by decide +kernel
theorem f187_9 : fch 187 9 = some (.iadd, 10, []) := by decide +kernel
theorem f187_10 : fch 187 10 = some (.iload 2, 11, []) := by decide +kernel
theorem f187_11 : fch 187 11 = some (.iadd, 12, []) := by decide +kernel
theorem f187_12 : fch 187 12 = some (.ireturn, 13, []) := by decide +kernel
set_option maxRecDepth 10000 in
theorem e187_0 (l0 l1 l2 : Int) (s : SG) : sem 187 0 [aI l0, aI l1, aI l2] [] s = some (aI (w32 ((w32 ((w32 (169 * l0)) + (w32 (13 * l1)))) + l2)), s) := by
  refine (x_iconst f187_0 rfl).trans ?_
  refine (x_iload f187_3 rfl rfl).trans ?_
  refine (x_imul f187_4 rfl).trans ?_
  refine (x_iconst f187_5 rfl).trans ?_
  refine (x_iload f187_7 rfl rfl).trans ?_
  refine (x_imul f187_8 rfl).trans ?_
  refine (x_iadd f187_9 rfl).trans ?_
  refine (x_iload f187_10 rfl rfl).trans ?_
  refine (x_iadd f187_11 rfl).trans ?_
  exact x_ireturn f187_12 rfl
theorem f188_0 : fch 188 0 = some (.iload 0, 1, []) := by decide +kernel
theorem f188_1 : fch 188 1 = some (.iload 1, 2, []) := by decide +kernel
theorem f188_2 : fch 188 2 = some (.if_icmp .ge 9, 5, []) := by decide +kernel
theorem f188_5 : fch 188 5 = some (.iload 0, 6, []) := by decide +kernel
theorem f188_6 : fch 188 6 = some (.goto 10, 9, []) := by decide +kernel
theorem f188_9 : fch 188 9 = some (.iload 1, 10, []) := by decide +kernel
theorem f188_10 : fch 188 10 = some (.ireturn, 11, [0, 1]) := by decide +kernel
set_option maxRecDepth 10000 in
theorem e188_0 (l0 l1 : Int) (s : SG) : sem 188 0 [aI l0, aI l1] [] s = if l0 < l1 then some (aI l0, s) else some (aI l1, s) := by
  refine (x_iload f188_0 rfl rfl).trans ?_
  refine (x_iload f188_1 rfl rfl).trans ?_
  refine (x_icmp_ge (tg := 9) f188_2 rfl rfl).trans (i_c ?_ ?_)
  · refine (x_iload f188_5 rfl rfl).trans ?_
    refine (x_goto (tg := 10) f188_6 rfl rfl).trans ?_
    refine (x_kil (l2 := [aU, aU]) f188_10 rfl).trans ?_
    exact x_ireturn f188_10 rfl
  · refine (x_iload f188_9 rfl rfl).trans ?_
    refine (x_kil (l2 := [aU, aU]) f188_10 rfl).trans ?_
    exact x_ireturn f188_10 rfl
theorem f189_0 : fch 189 0 = some (.aload 0, 1, []) := by decide +kernel
theorem f189_1 : fch 189 1 = some (.invokeinterface 9 1, 4, []) := by decide +kernel
theorem f189_4 : fch 189 4 = some (.iconst 10, 6, []) := by decide +kernel
theorem f189_6 : fch 189 6 = some (.iconst 3, 7, []) := by decide +kernel
theorem f189_7 : fch 189 7 = some (.iload 1, 8, []) := by decide +kernel
theorem f189_8 : fch 189 8 = some (.imul, 9, []) := by decide +kernel
theorem f189_9 : fch 189 9 = some (.iadd, 10, []) := by decide +kernel
theorem f189_10 : fch 189 10 = some (.iload 3, 11, []) := by decide +kernel
theorem f189_11 : fch 189 11 = some (.iadd, 12, []) := by decide +kernel
theorem f189_12 : fch 189 12 = some (.iaload, 13, []) := by decide +kernel
theorem f189_13 : fch 189 13 = some (.istore 9, 15, []) := by decide +kernel
theorem f189_15 : fch 189 15 = some (.aload 0, 16, []) := by decide +kernel
theorem f189_16 : fch 189 16 = some (.invokeinterface 9 1, 19, []) := by decide +kernel
theorem f189_19 : fch 189 19 = some (.iconst 19, 21, []) := by decide +kernel
theorem f189_21 : fch 189 21 = some (.iconst 3, 22, []) := by decide +kernel
theorem f189_22 : fch 189 22 = some (.iload 1, 23, []) := by decide +kernel
theorem f189_23 : fch 189 23 = some (.imul, 24, []) := by decide +kernel
theorem f189_24 : fch 189 24 = some (.iadd, 25, []) := by decide +kernel
theorem f189_25 : fch 189 25 = some (.iload 3, 26, []) := by decide +kernel
theorem f189_26 : fch 189 26 = some (.iadd, 27, []) := by decide +kernel
theorem f189_27 : fch 189 27 = some (.iaload, 28, []) := by decide +kernel
theorem f189_28 : fch 189 28 = some (.istore 10, 30, []) := by decide +kernel
theorem f189_30 : fch 189 30 = some (.aload 0, 31, []) := by decide +kernel
theorem f189_31 : fch 189 31 = some (.invokeinterface 9 1, 34, []) := by decide +kernel
theorem f189_34 : fch 189 34 = some (.iconst 10, 36, []) := by decide +kernel
theorem f189_36 : fch 189 36 = some (.iconst 3, 37, []) := by decide +kernel
theorem f189_37 : fch 189 37 = some (.iload 2, 38, []) := by decide +kernel
theorem f189_38 : fch 189 38 = some (.imul, 39, []) := by decide +kernel
theorem f189_39 : fch 189 39 = some (.iadd, 40, []) := by decide +kernel
theorem f189_40 : fch 189 40 = some (.iload 3, 41, []) := by decide +kernel
theorem f189_41 : fch 189 41 = some (.iadd, 42, []) := by decide +kernel
theorem f189_42 : fch 189 42 = some (.iaload, 43, []) := by decide +kernel
theorem f189_43 : fch 189 43 = some (.istore 11, 45, []) := by decide +kernel
theorem f189_45 : fch 189 45 = some (.aload 0, 46, []) := by decide +kernel
theorem f189_46 : fch 189 46 = some (.invokeinterface 9 1, 49, []) := by decide +kernel
theorem f189_49 : fch 189 49 = some (.iconst 19, 51, []) := by decide +kernel
theorem f189_51 : fch 189 51 = some (.iconst 3, 52, []) := by decide +kernel
theorem f189_52 : fch 189 52 = some (.iload 2, 53, []) := by decide +kernel
theorem f189_53 : fch 189 53 = some (.imul, 54, []) := by decide +kernel
theorem f189_54 : fch 189 54 = some (.iadd, 55, []) := by decide +kernel
theorem f189_55 : fch 189 55 = some (.iload 3, 56, []) := by decide +kernel
theorem f189_56 : fch 189 56 = some (.iadd, 57, []) := by decide +kernel
theorem f189_57 : fch 189 57 = some (.iaload, 58, []) := by decide +kernel
theorem f189_58 : fch 189 58 = some (.istore 12, 60, []) := by decide +kernel
theorem f189_60 : fch 189 60 = some (.sipush 0, 61, []) := by decide +kernel
theorem f189_61 : fch 189 61 = some (.lstore 13, 63, []) := by decide +kernel
theorem f189_63 : fch 189 63 = some (.iconst 0, 64, []) := by decide +kernel
theorem f189_64 : fch 189 64 = some (.istore 15, 66, []) := by decide +kernel
theorem f189_66 : fch 189 66 = some (.iload 15, 68, [1, 2, 3, 16, 17, 18]) := by decide +kernel
theorem f189_68 : fch 189 68 = some (.iconst 4, 69, []) := by decide +kernel
theorem f189_69 : fch 189 69 = some (.if_icmp .ge 182, 72, []) := by decide +kernel
theorem f189_72 : fch 189 72 = some (.iload 15, 74, []) := by decide +kernel
theorem f189_74 : fch 189 74 = some (.iconst 2, 75, []) := by decide +kernel
theorem f189_75 : fch 189 75 = some (.irem, 76, []) := by decide +kernel
theorem f189_76 : fch 189 76 = some (.ifCond .ne 87, 79, []) := by decide +kernel
theorem f189_79 : fch 189 79 = some (.iconst 10, 81, []) := by decide +kernel
theorem f189_81 : fch 189 81 = some (.iload 10, 83, []) := by decide +kernel
theorem f189_83 : fch 189 83 = some (.isub, 84, []) := by decide +kernel
theorem f189_84 : fch 189 84 = some (.goto 89, 87, []) := by decide +kernel
theorem f189_87 : fch 189 87 = some (.iload 10, 89, []) := by decide +kernel
theorem f189_89 : fch 189 89 = some (.iload 15, 91, [1, 2, 3, 16, 17, 18]) := by decide +kernel
theorem f189_91 : fch 189 91 = some (.iconst 2, 92, []) := by decide +kernel
theorem f189_92 : fch 189 92 = some (.idiv, 93, []) := by decide +kernel
theorem f189_93 : fch 189 93 = some (.ifCond .ne 104, 96, []) := by decide +kernel
theorem f189_96 : fch 189 96 = some (.iconst 10, 98, []) := by decide +kernel
theorem f189_98 : fch 189 98 = some (.iload 12, 100, []) := by decide +kernel
theorem f189_100 : fch 189 100 = some (.isub, 101, []) := by decide +kernel
theorem f189_101 : fch 189 101 = some (.goto 106, 104, []) := by decide +kernel
theorem f189_104 : fch 189 104 = some (.iload 12, 106, []) := by decide +kernel
theorem f189_106 : fch 189 106 = some (.imul, 107, [1, 2, 3, 16, 17, 18]) := by decide +kernel
theorem f189_107 : fch 189 107 = some (.istore 16, 109, []) := by decide +kernel
theorem f189_109 : fch 189 109 = some (.iload 4, 111, []) := by decide +kernel
theorem f189_111 : fch 189 111 = some (.iload 9, 113, []) := by decide +kernel
theorem f189_113 : fch 189 113 = some (.iload 15, 115, []) := by decide +kernel
theorem f189_115 : fch 189 115 = some (.iconst 2, 116, []) := by decide +kernel
theorem f189_116 : fch 189 116 = some (.irem, 117, []) := by decide +kernel
theorem f189_117 : fch 189 117 = some (.iadd, 118, []) := by decide +kernel
theorem f189_118 : fch 189 118 = some (.invokestatic 188, 121, []) := by decide +kernel
theorem f189_121 : fch 189 121 = some (.istore 17, 123, []) := by decide +kernel
theorem f189_123 : fch 189 123 = some (.iload 5, 125, []) := by decide +kernel
theorem f189_125 : fch 189 125 = some (.iload 11, 127, []) := by decide +kernel
theorem f189_127 : fch 189 127 = some (.iload 15, 129, []) := by decide +kernel
theorem f189_129 : fch 189 129 = some (.iconst 2, 130, []) := by decide +kernel
theorem f189_130 : fch 189 130 = some (.idiv, 131, []) := by decide +kernel
theorem f189_131 : fch 189 131 = some (.iadd, 132, []) := by decide +kernel
theorem f189_132 : fch 189 132 = some (.invokestatic 188, 135, []) := by decide +kernel
theorem f189_135 : fch 189 135 = some (.istore 18, 137, []) := by decide +kernel
theorem f189_137 : fch 189 137 = some (.lload 13, 139, []) := by decide +kernel
theorem f189_139 : fch 189 139 = some (.iload 16, 141, []) := by decide +kernel
theorem f189_141 : fch 189 141 = some (.i2l, 142, []) := by decide +kernel
theorem f189_142 : fch 189 142 = some (.iload 17, 144, []) := by decide +kernel
theorem f189_144 : fch 189 144 = some (.iload 18, 146, []) := by decide +kernel
theorem f189_146 : fch 189 146 = some (.iadd, 147, []) := by decide +kernel
theorem f189_147 : fch 189 147 = some (.i2l, 148, []) := by decide +kernel
theorem f189_148 : fch 189 148 = some (.lload 7, 150, []) := by decide +kernel
theorem f189_150 : fch 189 150 = some (.lmul, 151, []) := by decide +kernel
theorem f189_151 : fch 189 151 = some (.aload 0, 152, []) := by decide +kernel
theorem f189_152 : fch 189 152 = some (.invokeinterface 9 13, 155, []) := by decide +kernel
theorem f189_155 : fch 189 155 = some (.iload 4, 157, []) := by decide +kernel
theorem f189_157 : fch 189 157 = some (.iload 17, 159, []) := by decide +kernel
theorem f189_159 : fch 189 159 = some (.isub, 160, []) := by decide +kernel
theorem f189_160 : fch 189 160 = some (.iload 5, 162, []) := by decide +kernel
theorem f189_162 : fch 189 162 = some (.iload 18, 164, []) := by decide +kernel
theorem f189_164 : fch 189 164 = some (.isub, 165, []) := by decide +kernel
theorem f189_165 : fch 189 165 = some (.iload 6, 167, []) := by decide +kernel
theorem f189_167 : fch 189 167 = some (.invokestatic 187, 170, []) := by decide +kernel
theorem f189_170 : fch 189 170 = some (.laload, 171, []) := by decide +kernel
theorem f189_171 : fch 189 171 = some (.ladd, 172, []) := by decide +kernel
theorem f189_172 : fch 189 172 = some (.lmul, 173, []) := by decide +kernel
theorem f189_173 : fch 189 173 = some (.ladd, 174, []) := by decide +kernel
theorem f189_174 : fch 189 174 = some (.lstore 13, 176, []) := by decide +kernel
theorem f189_176 : fch 189 176 = some (.iinc 15 1, 179, []) := by decide +kernel
theorem f189_179 : fch 189 179 = some (.goto 66, 182, []) := by decide +kernel
theorem f189_182 : fch 189 182 = some (.lload 13, 184, []) := by decide +kernel
theorem f189_184 : fch 189 184 = some (.lreturn, 185, []) := by decide +kernel
set_option maxRecDepth 10000 in
theorem e189_0 (l0 l1 l2 l3 l4 l5 l6 l7 : Int) (s : SG) : sem 189 0 [aA l0, aI l1, aI l2, aI l3, aI l4, aI l5, aI l6, aL l7, aU, aU, aU, aU, aU, aU, aU, aU, aU, aU, aU] [] s = grd (kd l0 = 9) (grd (0 ≤ s l0 1) (grd (kd (s l0 1) = 101) (grd ((0 : Int) ≤ (w32 ((w32 (10 + (w32 (3 * l1)))) + l3)) ∧ (w32 ((w32 (10 + (w32 (3 * l1)))) + l3)) < kl (s l0 1)) (grd (kd l0 = 9) (grd (0 ≤ s l0 1) (grd (kd (s l0 1) = 101) (grd ((0 : Int) ≤ (w32 ((w32 (19 + (w32 (3 * l1)))) + l3)) ∧ (w32 ((w32 (19 + (w32 (3 * l1)))) + l3)) < kl (s l0 1)) (grd (kd l0 = 9) (grd (0 ≤ s l0 1) (grd (kd (s l0 1) = 101) (grd ((0 : Int) ≤ (w32 ((w32 (10 + (w32 (3 * l2)))) + l3)) ∧ (w32 ((w32 (10 + (w32 (3 * l2)))) + l3)) < kl (s l0 1)) (grd (kd l0 = 9) (grd (0 ≤ s l0 1) (grd (kd (s l0 1) = 101) (grd ((0 : Int) ≤ (w32 ((w32 (19 + (w32 (3 * l2)))) + l3)) ∧ (w32 ((w32 (19 + (w32 (3 * l2)))) + l3)) < kl (s l0 1)) (sem 189 66 [aA l0, aU, aU, aU, aI l4, aI l5, aI l6, aL l7, aU, aI (s (s l0 1) (w32 ((w32 (10 + (w32 (3 * l1)))) + l3))), aI (s (s l0 1) (w32 ((w32 (19 + (w32 (3 * l1)))) + l3))), aI (s (s l0 1) (w32 ((w32 (10 + (w32 (3 * l2)))) + l3))), aI (s (s l0 1) (w32 ((w32 (19 + (w32 (3 * l2)))) + l3))), aL 0, aU, aI 0, aU, aU, aU] [] s)))))))))))))))) := by
  refine (x_aload f189_0 rfl rfl).trans ?_
  refine (x_get2 f189_1 rfl rfl).trans ?_
  refine g_c ?_
  refine g_c ?_
  refine (x_iconst f189_4 rfl).trans ?_
  refine (x_iconst f189_6 rfl).trans ?_
  refine (x_iload f189_7 rfl rfl).trans ?_
  refine (x_imul f189_8 rfl).trans ?_
  refine (x_iadd f189_9 rfl).trans ?_
  refine (x_iload f189_10 rfl rfl).trans ?_
  refine (x_iadd f189_11 rfl).trans ?_
  refine (x_iaload f189_12 rfl).trans ?_
  refine g_c ?_
  refine g_c ?_
  refine (x_istore (l2 := [aA l0, aI l1, aI l2, aI l3, aI l4, aI l5, aI l6, aL l7, aU, aI (s (s l0 1) (w32 ((w32 (10 + (w32 (3 * l1)))) + l3))), aU, aU, aU, aU, aU, aU, aU, aU, aU]) f189_13 rfl rfl).trans ?_
  refine (x_aload f189_15 rfl rfl).trans ?_
  refine (x_get2 f189_16 rfl rfl).trans ?_
  refine g_c ?_
  refine g_c ?_
  refine (x_iconst f189_19 rfl).trans ?_
  refine (x_iconst f189_21 rfl).trans ?_
  refine (x_iload f189_22 rfl rfl).trans ?_
  refine (x_imul f189_23 rfl).trans ?_
  refine (x_iadd f189_24 rfl).trans ?_
  refine (x_iload f189_25 rfl rfl).trans ?_
  refine (x_iadd f189_26 rfl).trans ?_
  refine (x_iaload f189_27 rfl).trans ?_
  refine g_c ?_
  refine g_c ?_
  refine (x_istore (l2 := [aA l0, aI l1, aI l2, aI l3, aI l4, aI l5, aI l6, aL l7, aU, aI (s (s l0 1) (w32 ((w32 (10 + (w32 (3 * l1)))) + l3))), aI (s (s l0 1) (w32 ((w32 (19 + (w32 (3 * l1)))) + l3))), aU, aU, aU, aU, aU, aU, aU, aU]) f189_28 rfl rfl).trans ?_
  refine (x_aload f189_30 rfl rfl).trans ?_
  refine (x_get2 f189_31 rfl rfl).trans ?_
  refine g_c ?_
  refine g_c ?_
  refine (x_iconst f189_34 rfl).trans ?_
  refine (x_iconst f189_36 rfl).trans ?_
  refine (x_iload f189_37 rfl rfl).trans ?_
  refine (x_imul f189_38 rfl).trans ?_
  refine (x_iadd f189_39 rfl).trans ?_
  refine (x_iload f189_40 rfl rfl).trans ?_
  refine (x_iadd f189_41 rfl).trans ?_
  refine (x_iaload f189_42 rfl).trans ?_
  refine g_c ?_
  refine g_c ?_
  refine (x_istore (l2 := [aA l0, aI l1, aI l2, aI l3, aI l4, aI l5, aI l6, aL l7, aU, aI (s (s l0 1) (w32 ((w32 (10 + (w32 (3 * l1)))) + l3))), aI (s (s l0 1) (w32 ((w32 (19 + (w32 (3 * l1)))) + l3))), aI (s (s l0 1) (w32 ((w32 (10 + (w32 (3 * l2)))) + l3))), aU, aU, aU, aU, aU, aU, aU]) f189_43 rfl rfl).trans ?_
  refine (x_aload f189_45 rfl rfl).trans ?_
  refine (x_get2 f189_46 rfl rfl).trans ?_
  refine g_c ?_
  refine g_c ?_
  refine (x_iconst f189_49 rfl).trans ?_
  refine (x_iconst f189_51 rfl).trans ?_
  refine (x_iload f189_52 rfl rfl).trans ?_
  refine (x_imul f189_53 rfl).trans ?_
  refine (x_iadd f189_54 rfl).trans ?_
  refine (x_iload f189_55 rfl rfl).trans ?_
  refine (x_iadd f189_56 rfl).trans ?_
  refine (x_iaload f189_57 rfl).trans ?_
  refine g_c ?_
  refine g_c ?_
  refine (x_istore (l2 := [aA l0, aI l1, aI l2, aI l3, aI l4, aI l5, aI l6, aL l7, aU, aI (s (s l0 1) (w32 ((w32 (10 + (w32 (3 * l1)))) + l3))), aI (s (s l0 1) (w32 ((w32 (19 + (w32 (3 * l1)))) + l3))), aI (s (s l0 1) (w32 ((w32 (10 + (w32 (3 * l2)))) + l3))), aI (s (s l0 1) (w32 ((w32 (19 + (w32 (3 * l2)))) + l3))), aU, aU, aU, aU, aU, aU]) f189_58 rfl rfl).trans ?_
  refine (x_lconst f189_60 rfl).trans ?_
  refine (x_lstore (l2 := [aA l0, aI l1, aI l2, aI l3, aI l4, aI l5, aI l6, aL l7, aU, aI (s (s l0 1) (w32 ((w32 (10 + (w32 (3 * l1)))) + l3))), aI (s (s l0 1) (w32 ((w32 (19 + (w32 (3 * l1)))) + l3))), aI (s (s l0 1) (w32 ((w32 (10 + (w32 (3 * l2)))) + l3))), aI (s (s l0 1) (w32 ((w32 (19 + (w32 (3 * l2)))) + l3))), aL 0, aU, aU, aU, aU, aU]) f189_61 rfl rfl).trans ?_
  refine (x_iconst f189_63 rfl).trans ?_
  refine (x_istore (l2 := [aA l0, aI l1, aI l2, aI l3, aI l4, aI l5, aI l6, aL l7, aU, aI (s (s l0 1) (w32 ((w32 (10 + (w32 (3 * l1)))) + l3))), aI (s (s l0 1) (w32 ((w32 (19 + (w32 (3 * l1)))) + l3))), aI (s (s l0 1) (w32 ((w32 (10 + (w32 (3 * l2)))) + l3))), aI (s (s l0 1) (w32 ((w32 (19 + (w32 (3 * l2)))) + l3))), aL 0, aU, aI 0, aU, aU, aU]) f189_64 rfl rfl).trans ?_
  exact x_kil f189_66 rfl
set_option maxRecDepth 10000 in
theorem e189_66 (l0 l4 l5 l6 l7 l9 l10 l11 l12 l13 l15 : Int) (s : SG) : sem 189 66 [aA l0, aU, aU, aU, aI l4, aI l5, aI l6, aL l7, aU, aI l9, aI l10, aI l11, aI l12, aL l13, aU, aI l15, aU, aU, aU] [] s = if l15 < 4 then grd ((2 : Int) ≠ 0) (grd ((2 : Int) ≠ 0) (grd ((2 : Int) ≠ 0) (bnI (sem 188 0 [aI l4, aI (w32 (l9 + (remA l15 2)))] [] s) fun a2 s1 => grd ((2 : Int) ≠ 0) (bnI (sem 188 0 [aI l5, aI (w32 (l11 + (w32 (Int.tdiv l15 2))))] [] s1) fun a4 s3 => grd (kd l0 = 9) (grd (0 ≤ s3 l0 13) (bnI (sem 187 0 [aI (w32 (l4 - a2)), aI (w32 (l5 - a4)), aI l6] [] s3) fun a6 s5 => grd (kd (s3 l0 13) = 103) (grd ((0 : Int) ≤ a6 ∧ a6 < kl (s3 l0 13)) (sem 189 66 [aA l0, aU, aU, aU, aI l4, aI l5, aI l6, aL l7, aU, aI l9, aI l10, aI l11, aI l12, aL (w64 (l13 + (w64 ((w32 ((if (remA l15 2) = 0 then w32 (10 - l10) else l10) * (if (w32 (Int.tdiv l15 2)) = 0 then w32 (10 - l12) else l12))) * (w64 ((w64 ((w32 (a2 + a4)) * l7)) + (s5 (s3 l0 13) a6))))))), aU, aI (w32 (l15 + 1)), aU, aU, aU] [] s5)))))))) else some (aL l13, s) := by
  refine (x_iload f189_66 rfl rfl).trans ?_
  refine (x_iconst f189_68 rfl).trans ?_
  refine (x_icmp_ge (tg := 182) f189_69 rfl rfl).trans (i_c ?_ ?_)
  · refine (x_iload f189_72 rfl rfl).trans ?_
    refine (x_iconst f189_74 rfl).trans ?_
    refine (x_irem f189_75 rfl).trans ?_
    refine g_c ?_
    refine (x_if_ne (tg := 87) f189_76 rfl rfl).trans ?_
    refine Eq.trans (b := if (remA l15 2) = 0 then sem 189 89 [aA l0, aU, aU, aU, aI l4, aI l5, aI l6, aL l7, aU, aI l9, aI l10, aI l11, aI l12, aL l13, aU, aI l15, aU, aU, aU] [aI (w32 (10 - l10))] s else sem 189 89 [aA l0, aU, aU, aU, aI l4, aI l5, aI l6, aL l7, aU, aI l9, aI l10, aI l11, aI l12, aL l13, aU, aI l15, aU, aU, aU] [aI l10] s) (i_c ?_ ?_) ?_
    · refine (x_iconst f189_79 rfl).trans ?_
      refine (x_iload f189_81 rfl rfl).trans ?_
      refine (x_isub f189_83 rfl).trans ?_
      refine (x_goto (tg := 89) f189_84 rfl rfl).trans ?_
      rfl
    · refine (x_iload f189_87 rfl rfl).trans ?_
      rfl
    refine m_I.trans ?_
    refine (x_iload f189_89 rfl rfl).trans ?_
    refine (x_iconst f189_91 rfl).trans ?_
    refine (x_idiv f189_92 rfl).trans ?_
    refine g_c ?_
    refine (x_if_ne (tg := 104) f189_93 rfl rfl).trans ?_
    refine Eq.trans (b := if (w32 (Int.tdiv l15 2)) = 0 then sem 189 106 [aA l0, aU, aU, aU, aI l4, aI l5, aI l6, aL l7, aU, aI l9, aI l10, aI l11, aI l12, aL l13, aU, aI l15, aU, aU, aU] [aI (w32 (10 - l12)), aI (if (remA l15 2) = 0 then w32 (10 - l10) else l10)] s else sem 189 106 [aA l0, aU, aU, aU, aI l4, aI l5, aI l6, aL l7, aU, aI l9, aI l10, aI l11, aI l12, aL l13, aU, aI l15, aU, aU, aU] [aI l12, aI (if (remA l15 2) = 0 then w32 (10 - l10) else l10)] s) (i_c ?_ ?_) ?_
    · refine (x_iconst f189_96 rfl).trans ?_
      refine (x_iload f189_98 rfl rfl).trans ?_
      refine (x_isub f189_100 rfl).trans ?_
      refine (x_goto (tg := 106) f189_101 rfl rfl).trans ?_
      rfl
    · refine (x_iload f189_104 rfl rfl).trans ?_
      rfl
    refine m_I.trans ?_
    refine (x_imul f189_106 rfl).trans ?_
    refine (x_istore (l2 := [aA l0, aU, aU, aU, aI l4, aI l5, aI l6, aL l7, aU, aI l9, aI l10, aI l11, aI l12, aL l13, aU, aI l15, aI (w32 ((if (remA l15 2) = 0 then w32 (10 - l10) else l10) * (if (w32 (Int.tdiv l15 2)) = 0 then w32 (10 - l12) else l12))), aU, aU]) f189_107 rfl rfl).trans ?_
    refine (x_iload f189_109 rfl rfl).trans ?_
    refine (x_iload f189_111 rfl rfl).trans ?_
    refine (x_iload f189_113 rfl rfl).trans ?_
    refine (x_iconst f189_115 rfl).trans ?_
    refine (x_irem f189_116 rfl).trans ?_
    refine g_c ?_
    refine (x_iadd f189_117 rfl).trans ?_
    refine (x_invokestatic (G := bnI (sem 188 0 [aI l4, aI (w32 (l9 + (remA l15 2)))] [] s) fun a2 s1 => sem 189 121 [aA l0, aU, aU, aU, aI l4, aI l5, aI l6, aL l7, aU, aI l9, aI l10, aI l11, aI l12, aL l13, aU, aI l15, aI (w32 ((if (remA l15 2) = 0 then w32 (10 - l10) else l10) * (if (w32 (Int.tdiv l15 2)) = 0 then w32 (10 - l12) else l12))), aU, aU] [aI a2] s1) f189_118 rfl rfl).trans ?_
    refine bI_c fun a2 s1 => ?_
    refine (x_istore (l2 := [aA l0, aU, aU, aU, aI l4, aI l5, aI l6, aL l7, aU, aI l9, aI l10, aI l11, aI l12, aL l13, aU, aI l15, aI (w32 ((if (remA l15 2) = 0 then w32 (10 - l10) else l10) * (if (w32 (Int.tdiv l15 2)) = 0 then w32 (10 - l12) else l12))), aI a2, aU]) f189_121 rfl rfl).trans ?_
    refine (x_iload f189_123 rfl rfl).trans ?_
    refine (x_iload f189_125 rfl rfl).trans ?_
    refine (x_iload f189_127 rfl rfl).trans ?_
    refine (x_iconst f189_129 rfl).trans ?_
    refine (x_idiv f189_130 rfl).trans ?_
    refine g_c ?_
    refine (x_iadd f189_131 rfl).trans ?_
    refine (x_invokestatic (G := bnI (sem 188 0 [aI l5, aI (w32 (l11 + (w32 (Int.tdiv l15 2))))] [] s1) fun a4 s3 => sem 189 135 [aA l0, aU, aU, aU, aI l4, aI l5, aI l6, aL l7, aU, aI l9, aI l10, aI l11, aI l12, aL l13, aU, aI l15, aI (w32 ((if (remA l15 2) = 0 then w32 (10 - l10) else l10) * (if (w32 (Int.tdiv l15 2)) = 0 then w32 (10 - l12) else l12))), aI a2, aU] [aI a4] s3) f189_132 rfl rfl).trans ?_
    refine bI_c fun a4 s3 => ?_
    refine (x_istore (l2 := [aA l0, aU, aU, aU, aI l4, aI l5, aI l6, aL l7, aU, aI l9, aI l10, aI l11, aI l12, aL l13, aU, aI l15, aI (w32 ((if (remA l15 2) = 0 then w32 (10 - l10) else l10) * (if (w32 (Int.tdiv l15 2)) = 0 then w32 (10 - l12) else l12))), aI a2, aI a4]) f189_135 rfl rfl).trans ?_
    refine (x_lload f189_137 rfl rfl).trans ?_
    refine (x_iload f189_139 rfl rfl).trans ?_
    refine (x_i2l f189_141 rfl).trans ?_
    refine (x_iload f189_142 rfl rfl).trans ?_
    refine (x_iload f189_144 rfl rfl).trans ?_
    refine (x_iadd f189_146 rfl).trans ?_
    refine (x_i2l f189_147 rfl).trans ?_
    refine (x_lload f189_148 rfl rfl).trans ?_
    refine (x_lmul f189_150 rfl).trans ?_
    refine (x_aload f189_151 rfl rfl).trans ?_
    refine (x_get2 f189_152 rfl rfl).trans ?_
    refine g_c ?_
    refine g_c ?_
    refine (x_iload f189_155 rfl rfl).trans ?_
    refine (x_iload f189_157 rfl rfl).trans ?_
    refine (x_isub f189_159 rfl).trans ?_
    refine (x_iload f189_160 rfl rfl).trans ?_
    refine (x_iload f189_162 rfl rfl).trans ?_
    refine (x_isub f189_164 rfl).trans ?_
    refine (x_iload f189_165 rfl rfl).trans ?_
    refine (x_invokestatic (G := bnI (sem 187 0 [aI (w32 (l4 - a2)), aI (w32 (l5 - a4)), aI l6] [] s3) fun a6 s5 => sem 189 170 [aA l0, aU, aU, aU, aI l4, aI l5, aI l6, aL l7, aU, aI l9, aI l10, aI l11, aI l12, aL l13, aU, aI l15, aI (w32 ((if (remA l15 2) = 0 then w32 (10 - l10) else l10) * (if (w32 (Int.tdiv l15 2)) = 0 then w32 (10 - l12) else l12))), aI a2, aI a4] [aI a6, aA (s3 l0 13), aL (w64 ((w32 (a2 + a4)) * l7)), aL (w32 ((if (remA l15 2) = 0 then w32 (10 - l10) else l10) * (if (w32 (Int.tdiv l15 2)) = 0 then w32 (10 - l12) else l12))), aL l13] s5) f189_167 rfl rfl).trans ?_
    refine bI_c fun a6 s5 => ?_
    refine (x_laload f189_170 rfl).trans ?_
    refine g_c ?_
    refine g_c ?_
    refine (x_ladd f189_171 rfl).trans ?_
    refine (x_lmul f189_172 rfl).trans ?_
    refine (x_ladd f189_173 rfl).trans ?_
    refine (x_lstore (l2 := [aA l0, aU, aU, aU, aI l4, aI l5, aI l6, aL l7, aU, aI l9, aI l10, aI l11, aI l12, aL (w64 (l13 + (w64 ((w32 ((if (remA l15 2) = 0 then w32 (10 - l10) else l10) * (if (w32 (Int.tdiv l15 2)) = 0 then w32 (10 - l12) else l12))) * (w64 ((w64 ((w32 (a2 + a4)) * l7)) + (s5 (s3 l0 13) a6))))))), aU, aI l15, aI (w32 ((if (remA l15 2) = 0 then w32 (10 - l10) else l10) * (if (w32 (Int.tdiv l15 2)) = 0 then w32 (10 - l12) else l12))), aI a2, aI a4]) f189_174 rfl rfl).trans ?_
    refine (x_iinc (l2 := [aA l0, aU, aU, aU, aI l4, aI l5, aI l6, aL l7, aU, aI l9, aI l10, aI l11, aI l12, aL (w64 (l13 + (w64 ((w32 ((if (remA l15 2) = 0 then w32 (10 - l10) else l10) * (if (w32 (Int.tdiv l15 2)) = 0 then w32 (10 - l12) else l12))) * (w64 ((w64 ((w32 (a2 + a4)) * l7)) + (s5 (s3 l0 13) a6))))))), aU, aI (w32 (l15 + 1)), aI (w32 ((if (remA l15 2) = 0 then w32 (10 - l10) else l10) * (if (w32 (Int.tdiv l15 2)) = 0 then w32 (10 - l12) else l12))), aI a2, aI a4]) f189_176 rfl rfl rfl).trans ?_
    refine (x_goto (tg := 66) f189_179 rfl rfl).trans ?_
    exact x_kil f189_66 rfl
  · refine (x_lload f189_182 rfl rfl).trans ?_
    exact x_lreturn f189_184 rfl
theorem f190_0 : fch 190 0 = some (.aload 0, 1, []) := by decide +kernel
theorem f190_1 : fch 190 1 = some (.iload 1, 2, []) := by decide +kernel
theorem f190_2 : fch 190 2 = some (.iload 2, 3, []) := by decide +kernel
theorem f190_3 : fch 190 3 = some (.iload 3, 4, []) := by decide +kernel
theorem f190_4 : fch 190 4 = some (.iload 4, 6, []) := by decide +kernel
theorem f190_6 : fch 190 6 = some (.iload 5, 8, []) := by decide +kernel
theorem f190_8 : fch 190 8 = some (.iload 6, 10, []) := by decide +kernel
theorem f190_10 : fch 190 10 = some (.lload 7, 12, []) := by decide +kernel
theorem f190_12 : fch 190 12 = some (.invokevirtual 189, 15, []) := by decide +kernel
theorem f190_15 : fch 190 15 = some (.lstore 9, 17, []) := by decide +kernel
theorem f190_17 : fch 190 17 = some (.aload 0, 18, []) := by decide +kernel
theorem f190_18 : fch 190 18 = some (.iconst 0, 19, []) := by decide +kernel
theorem f190_19 : fch 190 19 = some (.multianewarray 9 14, 22, []) := by decide +kernel
theorem f190_22 : fch 190 22 = some (.iconst 1, 23, []) := by decide +kernel
theorem f190_23 : fch 190 23 = some (.istore 11, 25, []) := by decide +kernel
theorem f190_25 : fch 190 25 = some (.iload 11, 27, [12, 14]) := by decide +kernel
theorem f190_27 : fch 190 27 = some (.iload 6, 29, []) := by decide +kernel
theorem f190_29 : fch 190 29 = some (.if_icmp .gt 163, 32, []) := by decide +kernel
theorem f190_32 : fch 190 32 = some (.aload 0, 33, []) := by decide +kernel
theorem f190_33 : fch 190 33 = some (.iload 1, 34, []) := by decide +kernel
theorem f190_34 : fch 190 34 = some (.iload 2, 35, []) := by decide +kernel
theorem f190_35 : fch 190 35 = some (.iload 3, 36, []) := by decide +kernel
theorem f190_36 : fch 190 36 = some (.iload 4, 38, []) := by decide +kernel
theorem f190_38 : fch 190 38 = some (.iload 11, 40, []) := by decide +kernel
theorem f190_40 : fch 190 40 = some (.iadd, 41, []) := by decide +kernel
theorem f190_41 : fch 190 41 = some (.iload 5, 43, []) := by decide +kernel
theorem f190_43 : fch 190 43 = some (.iload 6, 45, []) := by decide +kernel
theorem f190_45 : fch 190 45 = some (.iload 11, 47, []) := by decide +kernel
theorem f190_47 : fch 190 47 = some (.isub, 48, []) := by decide +kernel
theorem f190_48 : fch 190 48 = some (.lload 7, 50, []) := by decide +kernel
theorem f190_50 : fch 190 50 = some (.invokevirtual 189, 53, []) := by decide +kernel
theorem f190_53 : fch 190 53 = some (.lstore 12, 55, []) := by decide +kernel
theorem f190_55 : fch 190 55 = some (.aload 0, 56, []) := by decide +kernel
theorem f190_56 : fch 190 56 = some (.lload 12, 58, []) := by decide +kernel
theorem f190_58 : fch 190 58 = some (.lload 9, 60, []) := by decide +kernel
theorem f190_60 : fch 190 60 = some (.lcmp, 61, []) := by decide +kernel
theorem f190_61 : fch 190 61 = some (.ifCond .le 69, 64, []) := by decide +kernel
theorem f190_64 : fch 190 64 = some (.iload 11, 66, []) := by decide +kernel
theorem f190_66 : fch 190 66 = some (.goto 73, 69, []) := by decide +kernel
theorem f190_69 : fch 190 69 = some (.aload 0, 70, []) := by decide +kernel
theorem f190_70 : fch 190 70 = some (.invokeinterface 9 14, 73, []) := by decide +kernel
theorem f190_73 : fch 190 73 = some (.multianewarray 9 14, 76, [14]) := by decide +kernel
theorem f190_76 : fch 190 76 = some (.lload 12, 78, []) := by decide +kernel
theorem f190_78 : fch 190 78 = some (.lload 9, 80, []) := by decide +kernel
theorem f190_80 : fch 190 80 = some (.lcmp, 81, []) := by decide +kernel
theorem f190_81 : fch 190 81 = some (.ifCond .le 89, 84, []) := by decide +kernel
theorem f190_84 : fch 190 84 = some (.lload 12, 86, []) := by decide +kernel
theorem f190_86 : fch 190 86 = some (.goto 91, 89, []) := by decide +kernel
theorem f190_89 : fch 190 89 = some (.lload 9, 91, []) := by decide +kernel
theorem f190_91 : fch 190 91 = some (.lstore 9, 93, [9, 12, 14]) := by decide +kernel
theorem f190_93 : fch 190 93 = some (.aload 0, 94, []) := by decide +kernel
theorem f190_94 : fch 190 94 = some (.iload 1, 95, []) := by decide +kernel
theorem f190_95 : fch 190 95 = some (.iload 2, 96, []) := by decide +kernel
theorem f190_96 : fch 190 96 = some (.iload 3, 97, []) := by decide +kernel
theorem f190_97 : fch 190 97 = some (.iload 4, 99, []) := by decide +kernel
theorem f190_99 : fch 190 99 = some (.iload 5, 101, []) := by decide +kernel
theorem f190_101 : fch 190 101 = some (.iload 11, 103, []) := by decide +kernel
theorem f190_103 : fch 190 103 = some (.iadd, 104, []) := by decide +kernel
theorem f190_104 : fch 190 104 = some (.iload 6, 106, []) := by decide +kernel
theorem f190_106 : fch 190 106 = some (.iload 11, 108, []) := by decide +kernel
theorem f190_108 : fch 190 108 = some (.isub, 109, []) := by decide +kernel
theorem f190_109 : fch 190 109 = some (.lload 7, 111, []) := by decide +kernel
theorem f190_111 : fch 190 111 = some (.invokevirtual 189, 114, []) := by decide +kernel
theorem f190_114 : fch 190 114 = some (.lstore 14, 116, []) := by decide +kernel
theorem f190_116 : fch 190 116 = some (.aload 0, 117, []) := by decide +kernel
theorem f190_117 : fch 190 117 = some (.lload 14, 119, []) := by decide +kernel
theorem f190_119 : fch 190 119 = some (.lload 9, 121, []) := by decide +kernel
theorem f190_121 : fch 190 121 = some (.lcmp, 122, []) := by decide +kernel
theorem f190_122 : fch 190 122 = some (.ifCond .le 133, 125, []) := by decide +kernel
theorem f190_125 : fch 190 125 = some (.iconst 100, 127, []) := by decide +kernel
theorem f190_127 : fch 190 127 = some (.iload 11, 129, []) := by decide +kernel
theorem f190_129 : fch 190 129 = some (.iadd, 130, []) := by decide +kernel
theorem f190_130 : fch 190 130 = some (.goto 137, 133, []) := by decide +kernel
theorem f190_133 : fch 190 133 = some (.aload 0, 134, []) := by decide +kernel
theorem f190_134 : fch 190 134 = some (.invokeinterface 9 14, 137, []) := by decide +kernel
theorem f190_137 : fch 190 137 = some (.multianewarray 9 14, 140, [12]) := by decide +kernel
theorem f190_140 : fch 190 140 = some (.lload 14, 142, []) := by decide +kernel
theorem f190_142 : fch 190 142 = some (.lload 9, 144, []) := by decide +kernel
theorem f190_144 : fch 190 144 = some (.lcmp, 145, []) := by decide +kernel
theorem f190_145 : fch 190 145 = some (.ifCond .le 153, 148, []) := by decide +kernel
theorem f190_148 : fch 190 148 = some (.lload 14, 150, []) := by decide +kernel
theorem f190_150 : fch 190 150 = some (.goto 155, 153, []) := by decide +kernel
theorem f190_153 : fch 190 153 = some (.lload 9, 155, []) := by decide +kernel
theorem f190_155 : fch 190 155 = some (.lstore 9, 157, [9, 12, 14]) := by decide +kernel
theorem f190_157 : fch 190 157 = some (.iinc 11 1, 160, []) := by decide +kernel
theorem f190_160 : fch 190 160 = some (.goto 25, 163, []) := by decide +kernel
theorem f190_163 : fch 190 163 = some (.lload 9, 165, []) := by decide +kernel
theorem f190_165 : fch 190 165 = some (.lreturn, 166, []) := by decide +kernel
set_option maxRecDepth 10000 in
theorem e190_0 (l0 l1 l2 l3 l4 l5 l6 l7 : Int) (s : SG) : sem 190 0 [aA l0, aI l1, aI l2, aI l3, aI l4, aI l5, aI l6, aL l7, aU, aU, aU, aU, aU, aU, aU, aU] [] s = grd (kd l0 = 9) (bnL (sem 189 0 [aA l0, aI l1, aI l2, aI l3, aI l4, aI l5, aI l6, aL l7, aU, aU, aU, aU, aU, aU, aU, aU, aU, aU, aU] [] s) fun a2 s1 => grd (kd l0 = 9) (sem 190 25 [aA l0, aI l1, aI l2, aI l3, aI l4, aI l5, aI l6, aL l7, aU, aL a2, aU, aI 1, aU, aU, aU, aU] [] (up s1 l0 14 0))) := by
  refine (x_aload f190_0 rfl rfl).trans ?_
  refine (x_iload f190_1 rfl rfl).trans ?_
  refine (x_iload f190_2 rfl rfl).trans ?_
  refine (x_iload f190_3 rfl rfl).trans ?_
  refine (x_iload f190_4 rfl rfl).trans ?_
  refine (x_iload f190_6 rfl rfl).trans ?_
  refine (x_iload f190_8 rfl rfl).trans ?_
  refine (x_lload f190_10 rfl rfl).trans ?_
  refine (x_invokevirtual (G := grd (kd l0 = 9) (bnL (sem 189 0 [aA l0, aI l1, aI l2, aI l3, aI l4, aI l5, aI l6, aL l7, aU, aU, aU, aU, aU, aU, aU, aU, aU, aU, aU] [] s) fun a2 s1 => sem 190 15 [aA l0, aI l1, aI l2, aI l3, aI l4, aI l5, aI l6, aL l7, aU, aU, aU, aU, aU, aU, aU, aU] [aL a2] s1)) f190_12 rfl rfl).trans ?_
  refine g_c ?_
  refine bL_c fun a2 s1 => ?_
  refine (x_lstore (l2 := [aA l0, aI l1, aI l2, aI l3, aI l4, aI l5, aI l6, aL l7, aU, aL a2, aU, aU, aU, aU, aU, aU]) f190_15 rfl rfl).trans ?_
  refine (x_aload f190_17 rfl rfl).trans ?_
  refine (x_iconst f190_18 rfl).trans ?_
  refine (x_put0 f190_19 rfl rfl).trans ?_
  refine g_c ?_
  refine (x_iconst f190_22 rfl).trans ?_
  refine (x_istore (l2 := [aA l0, aI l1, aI l2, aI l3, aI l4, aI l5, aI l6, aL l7, aU, aL a2, aU, aI 1, aU, aU, aU, aU]) f190_23 rfl rfl).trans ?_
  rfl
set_option maxRecDepth 10000 in
theorem e190_25 (l0 l1 l2 l3 l4 l5 l6 l7 l9 l11 : Int) (s : SG) : sem 190 25 [aA l0, aI l1, aI l2, aI l3, aI l4, aI l5, aI l6, aL l7, aU, aL l9, aU, aI l11, aU, aU, aU, aU] [] s = if l6 < l11 then some (aL l9, s) else grd (kd l0 = 9) (bnL (sem 189 0 [aA l0, aI l1, aI l2, aI l3, aI (w32 (l4 + l11)), aI l5, aI (w32 (l6 - l11)), aL l7, aU, aU, aU, aU, aU, aU, aU, aU, aU, aU, aU] [] s) fun a2 s1 => if (0 : Int) < (cmpL a2 l9) then sem 190 73 [aA l0, aI l1, aI l2, aI l3, aI l4, aI l5, aI l6, aL l7, aU, aL l9, aU, aI l11, aL a2, aU, aU, aU] [aI l11, aA l0] s1 else grd (kd l0 = 9) (sem 190 73 [aA l0, aI l1, aI l2, aI l3, aI l4, aI l5, aI l6, aL l7, aU, aL l9, aU, aI l11, aL a2, aU, aU, aU] [aI (s1 l0 14), aA l0] s1)) := by
  refine (x_iload f190_25 rfl rfl).trans ?_
  refine (x_iload f190_27 rfl rfl).trans ?_
  refine (x_icmp_gt (tg := 163) f190_29 rfl rfl).trans (i_c ?_ ?_)
  · refine (x_lload f190_163 rfl rfl).trans ?_
    exact x_lreturn f190_165 rfl
  · refine (x_aload f190_32 rfl rfl).trans ?_
    refine (x_iload f190_33 rfl rfl).trans ?_
    refine (x_iload f190_34 rfl rfl).trans ?_
    refine (x_iload f190_35 rfl rfl).trans ?_
    refine (x_iload f190_36 rfl rfl).trans ?_
    refine (x_iload f190_38 rfl rfl).trans ?_
    refine (x_iadd f190_40 rfl).trans ?_
    refine (x_iload f190_41 rfl rfl).trans ?_
    refine (x_iload f190_43 rfl rfl).trans ?_
    refine (x_iload f190_45 rfl rfl).trans ?_
    refine (x_isub f190_47 rfl).trans ?_
    refine (x_lload f190_48 rfl rfl).trans ?_
    refine (x_invokevirtual (G := grd (kd l0 = 9) (bnL (sem 189 0 [aA l0, aI l1, aI l2, aI l3, aI (w32 (l4 + l11)), aI l5, aI (w32 (l6 - l11)), aL l7, aU, aU, aU, aU, aU, aU, aU, aU, aU, aU, aU] [] s) fun a2 s1 => sem 190 53 [aA l0, aI l1, aI l2, aI l3, aI l4, aI l5, aI l6, aL l7, aU, aL l9, aU, aI l11, aU, aU, aU, aU] [aL a2] s1)) f190_50 rfl rfl).trans ?_
    refine g_c ?_
    refine bL_c fun a2 s1 => ?_
    refine (x_lstore (l2 := [aA l0, aI l1, aI l2, aI l3, aI l4, aI l5, aI l6, aL l7, aU, aL l9, aU, aI l11, aL a2, aU, aU, aU]) f190_53 rfl rfl).trans ?_
    refine (x_aload f190_55 rfl rfl).trans ?_
    refine (x_lload f190_56 rfl rfl).trans ?_
    refine (x_lload f190_58 rfl rfl).trans ?_
    refine (x_lcmp f190_60 rfl).trans ?_
    refine (x_if_le (tg := 69) f190_61 rfl rfl).trans (i_c ?_ ?_)
    · refine (x_iload f190_64 rfl rfl).trans ?_
      refine (x_goto (tg := 73) f190_66 rfl rfl).trans ?_
      rfl
    · refine (x_aload f190_69 rfl rfl).trans ?_
      refine (x_get0 f190_70 rfl rfl).trans ?_
      refine g_c ?_
      rfl
set_option maxRecDepth 10000 in
theorem e190_73 (l0 l1 l2 l3 l4 l5 l6 l7 l9 l11 l12 v0 v1 : Int) (s : SG) : sem 190 73 [aA l0, aI l1, aI l2, aI l3, aI l4, aI l5, aI l6, aL l7, aU, aL l9, aU, aI l11, aL l12, aU, aU, aU] [aI v0, aA v1] s = grd (kd v1 = 9) (grd (kd l0 = 9) (bnL (sem 189 0 [aA l0, aI l1, aI l2, aI l3, aI l4, aI (w32 (l5 + l11)), aI (w32 (l6 - l11)), aL l7, aU, aU, aU, aU, aU, aU, aU, aU, aU, aU, aU] [] (up s v1 14 v0)) fun a2 s1 => if (0 : Int) < (cmpL a2 (if (0 : Int) < (cmpL l12 l9) then l12 else l9)) then grd (kd l0 = 9) (sem 190 25 [aA l0, aI l1, aI l2, aI l3, aI l4, aI l5, aI l6, aL l7, aU, aL (if (0 : Int) < (cmpL a2 (if (0 : Int) < (cmpL l12 l9) then l12 else l9)) then a2 else if (0 : Int) < (cmpL l12 l9) then l12 else l9), aU, aI (w32 (l11 + 1)), aU, aU, aU, aU] [] (up s1 l0 14 (w32 (100 + l11)))) else grd (kd l0 = 9) (grd (kd l0 = 9) (sem 190 25 [aA l0, aI l1, aI l2, aI l3, aI l4, aI l5, aI l6, aL l7, aU, aL (if (0 : Int) < (cmpL a2 (if (0 : Int) < (cmpL l12 l9) then l12 else l9)) then a2 else if (0 : Int) < (cmpL l12 l9) then l12 else l9), aU, aI (w32 (l11 + 1)), aU, aU, aU, aU] [] (up s1 l0 14 (s1 l0 14)))))) := by
  refine (x_put0 f190_73 rfl rfl).trans ?_
  refine g_c ?_
  refine (x_lload f190_76 rfl rfl).trans ?_
  refine (x_lload f190_78 rfl rfl).trans ?_
  refine (x_lcmp f190_80 rfl).trans ?_
  refine (x_if_le (tg := 89) f190_81 rfl rfl).trans ?_
  refine Eq.trans (b := if (0 : Int) < (cmpL l12 l9) then sem 190 91 [aA l0, aI l1, aI l2, aI l3, aI l4, aI l5, aI l6, aL l7, aU, aU, aU, aI l11, aU, aU, aU, aU] [aL l12] (up s v1 14 v0) else sem 190 91 [aA l0, aI l1, aI l2, aI l3, aI l4, aI l5, aI l6, aL l7, aU, aU, aU, aI l11, aU, aU, aU, aU] [aL l9] (up s v1 14 v0)) (i_c ?_ ?_) ?_
  · refine (x_lload f190_84 rfl rfl).trans ?_
    refine (x_goto (tg := 91) f190_86 rfl rfl).trans ?_
    exact x_kil f190_91 rfl
  · refine (x_lload f190_89 rfl rfl).trans ?_
    exact x_kil f190_91 rfl
  refine m_L.trans ?_
  refine (x_lstore (l2 := [aA l0, aI l1, aI l2, aI l3, aI l4, aI l5, aI l6, aL l7, aU, aL (if (0 : Int) < (cmpL l12 l9) then l12 else l9), aU, aI l11, aU, aU, aU, aU]) f190_91 rfl rfl).trans ?_
  refine (x_aload f190_93 rfl rfl).trans ?_
  refine (x_iload f190_94 rfl rfl).trans ?_
  refine (x_iload f190_95 rfl rfl).trans ?_
  refine (x_iload f190_96 rfl rfl).trans ?_
  refine (x_iload f190_97 rfl rfl).trans ?_
  refine (x_iload f190_99 rfl rfl).trans ?_
  refine (x_iload f190_101 rfl rfl).trans ?_
  refine (x_iadd f190_103 rfl).trans ?_
  refine (x_iload f190_104 rfl rfl).trans ?_
  refine (x_iload f190_106 rfl rfl).trans ?_
  refine (x_isub f190_108 rfl).trans ?_
  refine (x_lload f190_109 rfl rfl).trans ?_
  refine (x_invokevirtual (G := grd (kd l0 = 9) (bnL (sem 189 0 [aA l0, aI l1, aI l2, aI l3, aI l4, aI (w32 (l5 + l11)), aI (w32 (l6 - l11)), aL l7, aU, aU, aU, aU, aU, aU, aU, aU, aU, aU, aU] [] (up s v1 14 v0)) fun a2 s1 => sem 190 114 [aA l0, aI l1, aI l2, aI l3, aI l4, aI l5, aI l6, aL l7, aU, aL (if (0 : Int) < (cmpL l12 l9) then l12 else l9), aU, aI l11, aU, aU, aU, aU] [aL a2] s1)) f190_111 rfl rfl).trans ?_
  refine g_c ?_
  refine bL_c fun a2 s1 => ?_
  refine (x_lstore (l2 := [aA l0, aI l1, aI l2, aI l3, aI l4, aI l5, aI l6, aL l7, aU, aL (if (0 : Int) < (cmpL l12 l9) then l12 else l9), aU, aI l11, aU, aU, aL a2, aU]) f190_114 rfl rfl).trans ?_
  refine (x_aload f190_116 rfl rfl).trans ?_
  refine (x_lload f190_117 rfl rfl).trans ?_
  refine (x_lload f190_119 rfl rfl).trans ?_
  refine (x_lcmp f190_121 rfl).trans ?_
  refine (x_if_le (tg := 133) f190_122 rfl rfl).trans (i_c ?_ ?_)
  · refine (x_iconst f190_125 rfl).trans ?_
    refine (x_iload f190_127 rfl rfl).trans ?_
    refine (x_iadd f190_129 rfl).trans ?_
    refine (x_goto (tg := 137) f190_130 rfl rfl).trans ?_
    refine (x_put0 f190_137 rfl rfl).trans ?_
    refine g_c ?_
    refine (x_lload f190_140 rfl rfl).trans ?_
    refine (x_lload f190_142 rfl rfl).trans ?_
    refine (x_lcmp f190_144 rfl).trans ?_
    refine (x_if_le (tg := 153) f190_145 rfl rfl).trans ?_
    refine Eq.trans (b := if (0 : Int) < (cmpL a2 (if (0 : Int) < (cmpL l12 l9) then l12 else l9)) then sem 190 155 [aA l0, aI l1, aI l2, aI l3, aI l4, aI l5, aI l6, aL l7, aU, aU, aU, aI l11, aU, aU, aU, aU] [aL a2] (up s1 l0 14 (w32 (100 + l11))) else sem 190 155 [aA l0, aI l1, aI l2, aI l3, aI l4, aI l5, aI l6, aL l7, aU, aU, aU, aI l11, aU, aU, aU, aU] [aL (if (0 : Int) < (cmpL l12 l9) then l12 else l9)] (up s1 l0 14 (w32 (100 + l11)))) (i_c ?_ ?_) ?_
    · refine (x_lload f190_148 rfl rfl).trans ?_
      refine (x_goto (tg := 155) f190_150 rfl rfl).trans ?_
      exact x_kil f190_155 rfl
    · refine (x_lload f190_153 rfl rfl).trans ?_
      exact x_kil f190_155 rfl
    refine m_L.trans ?_
    refine (x_lstore (l2 := [aA l0, aI l1, aI l2, aI l3, aI l4, aI l5, aI l6, aL l7, aU, aL (if (0 : Int) < (cmpL a2 (if (0 : Int) < (cmpL l12 l9) then l12 else l9)) then a2 else if (0 : Int) < (cmpL l12 l9) then l12 else l9), aU, aI l11, aU, aU, aU, aU]) f190_155 rfl rfl).trans ?_
    refine (x_iinc (l2 := [aA l0, aI l1, aI l2, aI l3, aI l4, aI l5, aI l6, aL l7, aU, aL (if (0 : Int) < (cmpL a2 (if (0 : Int) < (cmpL l12 l9) then l12 else l9)) then a2 else if (0 : Int) < (cmpL l12 l9) then l12 else l9), aU, aI (w32 (l11 + 1)), aU, aU, aU, aU]) f190_157 rfl rfl rfl).trans ?_
    refine (x_goto (tg := 25) f190_160 rfl rfl).trans ?_
    rfl
  · refine (x_aload f190_133 rfl rfl).trans ?_
    refine (x_get0 f190_134 rfl rfl).trans ?_
    refine g_c ?_
    refine (x_put0 f190_137 rfl rfl).trans ?_
    refine g_c ?_
    refine (x_lload f190_140 rfl rfl).trans ?_
    refine (x_lload f190_142 rfl rfl).trans ?_
    refine (x_lcmp f190_144 rfl).trans ?_
    refine (x_if_le (tg := 153) f190_145 rfl rfl).trans ?_
    refine Eq.trans (b := if (0 : Int) < (cmpL a2 (if (0 : Int) < (cmpL l12 l9) then l12 else l9)) then sem 190 155 [aA l0, aI l1, aI l2, aI l3, aI l4, aI l5, aI l6, aL l7, aU, aU, aU, aI l11, aU, aU, aU, aU] [aL a2] (up s1 l0 14 (s1 l0 14)) else sem 190 155 [aA l0, aI l1, aI l2, aI l3, aI l4, aI l5, aI l6, aL l7, aU, aU, aU, aI l11, aU, aU, aU, aU] [aL (if (0 : Int) < (cmpL l12 l9) then l12 else l9)] (up s1 l0 14 (s1 l0 14))) (i_c ?_ ?_) ?_
    · refine (x_lload f190_148 rfl rfl).trans ?_
      refine (x_goto (tg := 155) f190_150 rfl rfl).trans ?_
      exact x_kil f190_155 rfl
    · refine (x_lload f190_153 rfl rfl).trans ?_
      exact x_kil f190_155 rfl
    refine m_L.trans ?_
    refine (x_lstore (l2 := [aA l0, aI l1, aI l2, aI l3, aI l4, aI l5, aI l6, aL l7, aU, aL (if (0 : Int) < (cmpL a2 (if (0 : Int) < (cmpL l12 l9) then l12 else l9)) then a2 else if (0 : Int) < (cmpL l12 l9) then l12 else l9), aU, aI l11, aU, aU, aU, aU]) f190_155 rfl rfl).trans ?_
    refine (x_iinc (l2 := [aA l0, aI l1, aI l2, aI l3, aI l4, aI l5, aI l6, aL l7, aU, aL (if (0 : Int) < (cmpL a2 (if (0 : Int) < (cmpL l12 l9) then l12 else l9)) then a2 else if (0 : Int) < (cmpL l12 l9) then l12 else l9), aU, aI (w32 (l11 + 1)), aU, aU, aU, aU]) f190_157 rfl rfl rfl).trans ?_
    refine (x_goto (tg := 25) f190_160 rfl rfl).trans ?_
    rfl
theorem f191_0 : fch 191 0 = some (.iconst 0, 1, []) := by decide +kernel
theorem f191_1 : fch 191 1 = some (.istore 6, 3, []) := by decide +kernel
theorem f191_3 : fch 191 3 = some (.iload 6, 5, []) := by decide +kernel
theorem f191_5 : fch 191 5 = some (.iconst 2197, 8, []) := by decide +kernel
theorem f191_8 : fch 191 8 = some (.if_icmp .ge 25, 11, []) := by decide +kernel
theorem f191_11 : fch 191 11 = some (.aload 0, 12, []) := by decide +kernel
theorem f191_12 : fch 191 12 = some (.invokeinterface 9 13, 15, []) := by decide +kernel
theorem f191_15 : fch 191 15 = some (.iload 6, 17, []) := by decide +kernel
theorem f191_17 : fch 191 17 = some (.sipush 0, 18, []) := by decide +kernel
theorem f191_18 : fch 191 18 = some (.lastore, 19, []) := by decide +kernel
theorem f191_19 : fch 191 19 = some (.iinc 6 1, 22, []) := by decide +kernel
theorem f191_22 : fch 191 22 = some (.goto 3, 25, []) := by decide +kernel
theorem f191_25 : fch 191 25 = some (.sipush 1, 26, []) := by decide +kernel
theorem f191_26 : fch 191 26 = some (.lstore 6, 28, []) := by decide +kernel
theorem f191_28 : fch 191 28 = some (.iconst 0, 29, []) := by decide +kernel
theorem f191_29 : fch 191 29 = some (.istore 8, 31, []) := by decide +kernel
theorem f191_31 : fch 191 31 = some (.iload 8, 33, [9, 10, 11]) := by decide +kernel
theorem f191_33 : fch 191 33 = some (.iload 5, 35, []) := by decide +kernel
theorem f191_35 : fch 191 35 = some (.if_icmp .ge 169, 38, []) := by decide +kernel
theorem f191_38 : fch 191 38 = some (.iconst 0, 39, []) := by decide +kernel
theorem f191_39 : fch 191 39 = some (.istore 9, 41, []) := by decide +kernel
theorem f191_41 : fch 191 41 = some (.iload 9, 43, [10, 11]) := by decide +kernel
theorem f191_43 : fch 191 43 = some (.iload 4, 45, []) := by decide +kernel
theorem f191_45 : fch 191 45 = some (.if_icmp .gt 124, 48, []) := by decide +kernel
theorem f191_48 : fch 191 48 = some (.iconst 0, 49, []) := by decide +kernel
theorem f191_49 : fch 191 49 = some (.istore 10, 51, []) := by decide +kernel
theorem f191_51 : fch 191 51 = some (.iload 9, 53, [11]) := by decide +kernel
theorem f191_53 : fch 191 53 = some (.iload 10, 55, []) := by decide +kernel
theorem f191_55 : fch 191 55 = some (.iadd, 56, []) := by decide +kernel
theorem f191_56 : fch 191 56 = some (.iload 4, 58, []) := by decide +kernel
theorem f191_58 : fch 191 58 = some (.if_icmp .gt 118, 61, []) := by decide +kernel
theorem f191_61 : fch 191 61 = some (.iconst 0, 62, []) := by decide +kernel
theorem f191_62 : fch 191 62 = some (.istore 11, 64, []) := by decide +kernel
theorem f191_64 : fch 191 64 = some (.iload 9, 66, []) := by decide +kernel
theorem f191_66 : fch 191 66 = some (.iload 10, 68, []) := by decide +kernel
theorem f191_68 : fch 191 68 = some (.iadd, 69, []) := by decide +kernel
theorem f191_69 : fch 191 69 = some (.iload 11, 71, []) := by decide +kernel
theorem f191_71 : fch 191 71 = some (.iadd, 72, []) := by decide +kernel
theorem f191_72 : fch 191 72 = some (.iload 4, 74, []) := by decide +kernel
theorem f191_74 : fch 191 74 = some (.if_icmp .gt 112, 77, []) := by decide +kernel
theorem f191_77 : fch 191 77 = some (.aload 0, 78, []) := by decide +kernel
theorem f191_78 : fch 191 78 = some (.invokeinterface 9 12, 81, []) := by decide +kernel
theorem f191_81 : fch 191 81 = some (.iload 9, 83, []) := by decide +kernel
theorem f191_83 : fch 191 83 = some (.iload 10, 85, []) := by decide +kernel
theorem f191_85 : fch 191 85 = some (.iload 11, 87, []) := by decide +kernel
theorem f191_87 : fch 191 87 = some (.invokestatic 187, 90, []) := by decide +kernel
theorem f191_90 : fch 191 90 = some (.aload 0, 91, []) := by decide +kernel
theorem f191_91 : fch 191 91 = some (.iload 1, 92, []) := by decide +kernel
theorem f191_92 : fch 191 92 = some (.iload 2, 93, []) := by decide +kernel
theorem f191_93 : fch 191 93 = some (.iload 3, 94, []) := by decide +kernel
theorem f191_94 : fch 191 94 = some (.iload 9, 96, []) := by decide +kernel
theorem f191_96 : fch 191 96 = some (.iload 10, 98, []) := by decide +kernel
theorem f191_98 : fch 191 98 = some (.iload 11, 100, []) := by decide +kernel
theorem f191_100 : fch 191 100 = some (.lload 6, 102, []) := by decide +kernel
theorem f191_102 : fch 191 102 = some (.invokevirtual 190, 105, []) := by decide +kernel
theorem f191_105 : fch 191 105 = some (.lastore, 106, []) := by decide +kernel
theorem f191_106 : fch 191 106 = some (.iinc 11 1, 109, []) := by decide +kernel
theorem f191_109 : fch 191 109 = some (.goto 64, 112, []) := by decide +kernel
theorem f191_112 : fch 191 112 = some (.iinc 10 1, 115, []) := by decide +kernel
theorem f191_115 : fch 191 115 = some (.goto 51, 118, []) := by decide +kernel
theorem f191_118 : fch 191 118 = some (.iinc 9 1, 121, []) := by decide +kernel
theorem f191_121 : fch 191 121 = some (.goto 41, 124, []) := by decide +kernel
theorem f191_124 : fch 191 124 = some (.iconst 0, 125, []) := by decide +kernel
theorem f191_125 : fch 191 125 = some (.istore 9, 127, []) := by decide +kernel
theorem f191_127 : fch 191 127 = some (.iload 9, 129, [10, 11]) := by decide +kernel
theorem f191_129 : fch 191 129 = some (.iconst 2197, 132, []) := by decide +kernel
theorem f191_132 : fch 191 132 = some (.if_icmp .ge 155, 135, []) := by decide +kernel
theorem f191_135 : fch 191 135 = some (.aload 0, 136, []) := by decide +kernel
theorem f191_136 : fch 191 136 = some (.invokeinterface 9 13, 139, []) := by decide +kernel
theorem f191_139 : fch 191 139 = some (.iload 9, 141, []) := by decide +kernel
theorem f191_141 : fch 191 141 = some (.aload 0, 142, []) := by decide +kernel
theorem f191_142 : fch 191 142 = some (.invokeinterface 9 12, 145, []) := by decide +kernel
theorem f191_145 : fch 191 145 = some (.iload 9, 147, []) := by decide +kernel
theorem f191_147 : fch 191 147 = some (.laload, 148, []) := by decide +kernel
theorem f191_148 : fch 191 148 = some (.lastore, 149, []) := by decide +kernel
theorem f191_149 : fch 191 149 = some (.iinc 9 1, 152, []) := by decide +kernel
theorem f191_152 : fch 191 152 = some (.goto 127, 155, []) := by decide +kernel
theorem f191_155 : fch 191 155 = some (.lload 6, 157, []) := by decide +kernel
theorem f191_157 : fch 191 157 = some (.sipush 100, 160, []) := by decide +kernel
theorem f191_160 : fch 191 160 = some (.lmul, 161, []) := by decide +kernel
theorem f191_161 : fch 191 161 = some (.lstore 6, 163, []) := by decide +kernel
theorem f191_163 : fch 191 163 = some (.iinc 8 1, 166, []) := by decide +kernel
theorem f191_166 : fch 191 166 = some (.goto 31, 169, []) := by decide +kernel
theorem f191_169 : fch 191 169 = some (.lload 6, 171, []) := by decide +kernel
theorem f191_171 : fch 191 171 = some (.lreturn, 172, []) := by decide +kernel
set_option maxRecDepth 10000 in
theorem e191_0 (l0 l1 l2 l3 l4 l5 : Int) (s : SG) : sem 191 0 [aA l0, aI l1, aI l2, aI l3, aI l4, aI l5, aU, aU, aU, aU, aU, aU] [] s = sem 191 3 [aA l0, aI l1, aI l2, aI l3, aI l4, aI l5, aI 0, aU, aU, aU, aU, aU] [] s := by
  refine (x_iconst f191_0 rfl).trans ?_
  refine (x_istore (l2 := [aA l0, aI l1, aI l2, aI l3, aI l4, aI l5, aI 0, aU, aU, aU, aU, aU]) f191_1 rfl rfl).trans ?_
  rfl
set_option maxRecDepth 10000 in
theorem e191_3 (l0 l1 l2 l3 l4 l5 l6 : Int) (s : SG) : sem 191 3 [aA l0, aI l1, aI l2, aI l3, aI l4, aI l5, aI l6, aU, aU, aU, aU, aU] [] s = if l6 < 2197 then grd (kd l0 = 9) (grd (0 ≤ s l0 13) (grd (kd (s l0 13) = 103) (grd ((0 : Int) ≤ l6 ∧ l6 < kl (s l0 13)) (sem 191 3 [aA l0, aI l1, aI l2, aI l3, aI l4, aI l5, aI (w32 (l6 + 1)), aU, aU, aU, aU, aU] [] (up s (s l0 13) l6 0))))) else sem 191 31 [aA l0, aI l1, aI l2, aI l3, aI l4, aI l5, aL 1, aU, aI 0, aU, aU, aU] [] s := by
  refine (x_iload f191_3 rfl rfl).trans ?_
  refine (x_iconst f191_5 rfl).trans ?_
  refine (x_icmp_ge (tg := 25) f191_8 rfl rfl).trans (i_c ?_ ?_)
  · refine (x_aload f191_11 rfl rfl).trans ?_
    refine (x_get2 f191_12 rfl rfl).trans ?_
    refine g_c ?_
    refine g_c ?_
    refine (x_iload f191_15 rfl rfl).trans ?_
    refine (x_lconst f191_17 rfl).trans ?_
    refine (x_lastore f191_18 rfl).trans ?_
    refine g_c ?_
    refine g_c ?_
    refine (x_iinc (l2 := [aA l0, aI l1, aI l2, aI l3, aI l4, aI l5, aI (w32 (l6 + 1)), aU, aU, aU, aU, aU]) f191_19 rfl rfl rfl).trans ?_
    refine (x_goto (tg := 3) f191_22 rfl rfl).trans ?_
    rfl
  · refine (x_lconst f191_25 rfl).trans ?_
    refine (x_lstore (l2 := [aA l0, aI l1, aI l2, aI l3, aI l4, aI l5, aL 1, aU, aU, aU, aU, aU]) f191_26 rfl rfl).trans ?_
    refine (x_iconst f191_28 rfl).trans ?_
    refine (x_istore (l2 := [aA l0, aI l1, aI l2, aI l3, aI l4, aI l5, aL 1, aU, aI 0, aU, aU, aU]) f191_29 rfl rfl).trans ?_
    rfl
set_option maxRecDepth 10000 in
theorem e191_31 (l0 l1 l2 l3 l4 l5 l6 l8 : Int) (s : SG) : sem 191 31 [aA l0, aI l1, aI l2, aI l3, aI l4, aI l5, aL l6, aU, aI l8, aU, aU, aU] [] s = if l8 < l5 then sem 191 41 [aA l0, aI l1, aI l2, aI l3, aI l4, aI l5, aL l6, aU, aI l8, aI 0, aU, aU] [] s else some (aL l6, s) := by
  refine (x_iload f191_31 rfl rfl).trans ?_
  refine (x_iload f191_33 rfl rfl).trans ?_
  refine (x_icmp_ge (tg := 169) f191_35 rfl rfl).trans (i_c ?_ ?_)
  · refine (x_iconst f191_38 rfl).trans ?_
    refine (x_istore (l2 := [aA l0, aI l1, aI l2, aI l3, aI l4, aI l5, aL l6, aU, aI l8, aI 0, aU, aU]) f191_39 rfl rfl).trans ?_
    rfl
  · refine (x_lload f191_169 rfl rfl).trans ?_
    exact x_lreturn f191_171 rfl
set_option maxRecDepth 10000 in
theorem e191_41 (l0 l1 l2 l3 l4 l5 l6 l8 l9 : Int) (s : SG) : sem 191 41 [aA l0, aI l1, aI l2, aI l3, aI l4, aI l5, aL l6, aU, aI l8, aI l9, aU, aU] [] s = if l4 < l9 then sem 191 127 [aA l0, aI l1, aI l2, aI l3, aI l4, aI l5, aL l6, aU, aI l8, aI 0, aU, aU] [] s else sem 191 51 [aA l0, aI l1, aI l2, aI l3, aI l4, aI l5, aL l6, aU, aI l8, aI l9, aI 0, aU] [] s := by
  refine (x_iload f191_41 rfl rfl).trans ?_
  refine (x_iload f191_43 rfl rfl).trans ?_
  refine (x_icmp_gt (tg := 124) f191_45 rfl rfl).trans (i_c ?_ ?_)
  · refine (x_iconst f191_124 rfl).trans ?_
    refine (x_istore (l2 := [aA l0, aI l1, aI l2, aI l3, aI l4, aI l5, aL l6, aU, aI l8, aI 0, aU, aU]) f191_125 rfl rfl).trans ?_
    rfl
  · refine (x_iconst f191_48 rfl).trans ?_
    refine (x_istore (l2 := [aA l0, aI l1, aI l2, aI l3, aI l4, aI l5, aL l6, aU, aI l8, aI l9, aI 0, aU]) f191_49 rfl rfl).trans ?_
    rfl
set_option maxRecDepth 10000 in
theorem e191_51 (l0 l1 l2 l3 l4 l5 l6 l8 l9 l10 : Int) (s : SG) : sem 191 51 [aA l0, aI l1, aI l2, aI l3, aI l4, aI l5, aL l6, aU, aI l8, aI l9, aI l10, aU] [] s = if l4 < (w32 (l9 + l10)) then sem 191 41 [aA l0, aI l1, aI l2, aI l3, aI l4, aI l5, aL l6, aU, aI l8, aI (w32 (l9 + 1)), aU, aU] [] s else sem 191 64 [aA l0, aI l1, aI l2, aI l3, aI l4, aI l5, aL l6, aU, aI l8, aI l9, aI l10, aI 0] [] s := by
  refine (x_iload f191_51 rfl rfl).trans ?_
  refine (x_iload f191_53 rfl rfl).trans ?_
  refine (x_iadd f191_55 rfl).trans ?_
  refine (x_iload f191_56 rfl rfl).trans ?_
  refine (x_icmp_gt (tg := 118) f191_58 rfl rfl).trans (i_c ?_ ?_)
  · refine (x_iinc (l2 := [aA l0, aI l1, aI l2, aI l3, aI l4, aI l5, aL l6, aU, aI l8, aI (w32 (l9 + 1)), aI l10, aU]) f191_118 rfl rfl rfl).trans ?_
    refine (x_goto (tg := 41) f191_121 rfl rfl).trans ?_
    exact x_kil f191_41 rfl
  · refine (x_iconst f191_61 rfl).trans ?_
    refine (x_istore (l2 := [aA l0, aI l1, aI l2, aI l3, aI l4, aI l5, aL l6, aU, aI l8, aI l9, aI l10, aI 0]) f191_62 rfl rfl).trans ?_
    rfl
set_option maxRecDepth 10000 in
theorem e191_64 (l0 l1 l2 l3 l4 l5 l6 l8 l9 l10 l11 : Int) (s : SG) : sem 191 64 [aA l0, aI l1, aI l2, aI l3, aI l4, aI l5, aL l6, aU, aI l8, aI l9, aI l10, aI l11] [] s = if l4 < (w32 ((w32 (l9 + l10)) + l11)) then sem 191 51 [aA l0, aI l1, aI l2, aI l3, aI l4, aI l5, aL l6, aU, aI l8, aI l9, aI (w32 (l10 + 1)), aU] [] s else grd (kd l0 = 9) (grd (0 ≤ s l0 12) (bnI (sem 187 0 [aI l9, aI l10, aI l11] [] s) fun a2 s1 => grd (kd l0 = 9) (bnL (sem 190 0 [aA l0, aI l1, aI l2, aI l3, aI l9, aI l10, aI l11, aL l6, aU, aU, aU, aU, aU, aU, aU, aU] [] s1) fun a4 s3 => grd (kd (s l0 12) = 103) (grd ((0 : Int) ≤ a2 ∧ a2 < kl (s l0 12)) (sem 191 64 [aA l0, aI l1, aI l2, aI l3, aI l4, aI l5, aL l6, aU, aI l8, aI l9, aI l10, aI (w32 (l11 + 1))] [] (up s3 (s l0 12) a2 a4)))))) := by
  refine (x_iload f191_64 rfl rfl).trans ?_
  refine (x_iload f191_66 rfl rfl).trans ?_
  refine (x_iadd f191_68 rfl).trans ?_
  refine (x_iload f191_69 rfl rfl).trans ?_
  refine (x_iadd f191_71 rfl).trans ?_
  refine (x_iload f191_72 rfl rfl).trans ?_
  refine (x_icmp_gt (tg := 112) f191_74 rfl rfl).trans (i_c ?_ ?_)
  · refine (x_iinc (l2 := [aA l0, aI l1, aI l2, aI l3, aI l4, aI l5, aL l6, aU, aI l8, aI l9, aI (w32 (l10 + 1)), aI l11]) f191_112 rfl rfl rfl).trans ?_
    refine (x_goto (tg := 51) f191_115 rfl rfl).trans ?_
    exact x_kil f191_51 rfl
  · refine (x_aload f191_77 rfl rfl).trans ?_
    refine (x_get2 f191_78 rfl rfl).trans ?_
    refine g_c ?_
    refine g_c ?_
    refine (x_iload f191_81 rfl rfl).trans ?_
    refine (x_iload f191_83 rfl rfl).trans ?_
    refine (x_iload f191_85 rfl rfl).trans ?_
    refine (x_invokestatic (G := bnI (sem 187 0 [aI l9, aI l10, aI l11] [] s) fun a2 s1 => sem 191 90 [aA l0, aI l1, aI l2, aI l3, aI l4, aI l5, aL l6, aU, aI l8, aI l9, aI l10, aI l11] [aI a2, aA (s l0 12)] s1) f191_87 rfl rfl).trans ?_
    refine bI_c fun a2 s1 => ?_
    refine (x_aload f191_90 rfl rfl).trans ?_
    refine (x_iload f191_91 rfl rfl).trans ?_
    refine (x_iload f191_92 rfl rfl).trans ?_
    refine (x_iload f191_93 rfl rfl).trans ?_
    refine (x_iload f191_94 rfl rfl).trans ?_
    refine (x_iload f191_96 rfl rfl).trans ?_
    refine (x_iload f191_98 rfl rfl).trans ?_
    refine (x_lload f191_100 rfl rfl).trans ?_
    refine (x_invokevirtual (G := grd (kd l0 = 9) (bnL (sem 190 0 [aA l0, aI l1, aI l2, aI l3, aI l9, aI l10, aI l11, aL l6, aU, aU, aU, aU, aU, aU, aU, aU] [] s1) fun a4 s3 => sem 191 105 [aA l0, aI l1, aI l2, aI l3, aI l4, aI l5, aL l6, aU, aI l8, aI l9, aI l10, aI l11] [aL a4, aI a2, aA (s l0 12)] s3)) f191_102 rfl rfl).trans ?_
    refine g_c ?_
    refine bL_c fun a4 s3 => ?_
    refine (x_lastore f191_105 rfl).trans ?_
    refine g_c ?_
    refine g_c ?_
    refine (x_iinc (l2 := [aA l0, aI l1, aI l2, aI l3, aI l4, aI l5, aL l6, aU, aI l8, aI l9, aI l10, aI (w32 (l11 + 1))]) f191_106 rfl rfl rfl).trans ?_
    refine (x_goto (tg := 64) f191_109 rfl rfl).trans ?_
    rfl
set_option maxRecDepth 10000 in
theorem e191_127 (l0 l1 l2 l3 l4 l5 l6 l8 l9 : Int) (s : SG) : sem 191 127 [aA l0, aI l1, aI l2, aI l3, aI l4, aI l5, aL l6, aU, aI l8, aI l9, aU, aU] [] s = if l9 < 2197 then grd (kd l0 = 9) (grd (0 ≤ s l0 13) (grd (kd l0 = 9) (grd (0 ≤ s l0 12) (grd (kd (s l0 12) = 103) (grd ((0 : Int) ≤ l9 ∧ l9 < kl (s l0 12)) (grd (kd (s l0 13) = 103) (grd ((0 : Int) ≤ l9 ∧ l9 < kl (s l0 13)) (sem 191 127 [aA l0, aI l1, aI l2, aI l3, aI l4, aI l5, aL l6, aU, aI l8, aI (w32 (l9 + 1)), aU, aU] [] (up s (s l0 13) l9 (s (s l0 12) l9)))))))))) else sem 191 31 [aA l0, aI l1, aI l2, aI l3, aI l4, aI l5, aL (w64 (l6 * 100)), aU, aI (w32 (l8 + 1)), aU, aU, aU] [] s := by
  refine (x_iload f191_127 rfl rfl).trans ?_
  refine (x_iconst f191_129 rfl).trans ?_
  refine (x_icmp_ge (tg := 155) f191_132 rfl rfl).trans (i_c ?_ ?_)
  · refine (x_aload f191_135 rfl rfl).trans ?_
    refine (x_get2 f191_136 rfl rfl).trans ?_
    refine g_c ?_
    refine g_c ?_
    refine (x_iload f191_139 rfl rfl).trans ?_
    refine (x_aload f191_141 rfl rfl).trans ?_
    refine (x_get2 f191_142 rfl rfl).trans ?_
    refine g_c ?_
    refine g_c ?_
    refine (x_iload f191_145 rfl rfl).trans ?_
    refine (x_laload f191_147 rfl).trans ?_
    refine g_c ?_
    refine g_c ?_
    refine (x_lastore f191_148 rfl).trans ?_
    refine g_c ?_
    refine g_c ?_
    refine (x_iinc (l2 := [aA l0, aI l1, aI l2, aI l3, aI l4, aI l5, aL l6, aU, aI l8, aI (w32 (l9 + 1)), aU, aU]) f191_149 rfl rfl rfl).trans ?_
    refine (x_goto (tg := 127) f191_152 rfl rfl).trans ?_
    rfl
  · refine (x_lload f191_155 rfl rfl).trans ?_
    refine (x_lconst f191_157 rfl).trans ?_
    refine (x_lmul f191_160 rfl).trans ?_
    refine (x_lstore (l2 := [aA l0, aI l1, aI l2, aI l3, aI l4, aI l5, aL (w64 (l6 * 100)), aU, aI l8, aI l9, aU, aU]) f191_161 rfl rfl).trans ?_
    refine (x_iinc (l2 := [aA l0, aI l1, aI l2, aI l3, aI l4, aI l5, aL (w64 (l6 * 100)), aU, aI (w32 (l8 + 1)), aI l9, aU, aU]) f191_163 rfl rfl rfl).trans ?_
    refine (x_goto (tg := 31) f191_166 rfl rfl).trans ?_
    exact x_kil f191_31 rfl
theorem f192_0 : fch 192 0 = some (.aload 0, 1, []) := by decide +kernel
theorem f192_1 : fch 192 1 = some (.iload 1, 2, []) := by decide +kernel
theorem f192_2 : fch 192 2 = some (.invokevirtual 163, 5, []) := by decide +kernel
theorem f192_5 : fch 192 5 = some (.ifCond .eq 23, 8, []) := by decide +kernel
theorem f192_8 : fch 192 8 = some (.aload 0, 9, []) := by decide +kernel
theorem f192_9 : fch 192 9 = some (.iload 2, 10, []) := by decide +kernel
theorem f192_10 : fch 192 10 = some (.invokevirtual 163, 13, []) := by decide +kernel
theorem f192_13 : fch 192 13 = some (.ifCond .eq 23, 16, []) := by decide +kernel
theorem f192_16 : fch 192 16 = some (.iload 3, 17, []) := by decide +kernel
theorem f192_17 : fch 192 17 = some (.invokestatic 164, 20, []) := by decide +kernel
theorem f192_20 : fch 192 20 = some (.ifCond .ne 25, 23, []) := by decide +kernel
theorem f192_23 : fch 192 23 = some (.iconst (-1), 24, [0, 1, 2, 3, 4, 5, 6, 7, 8]) := by decide +kernel
theorem f192_24 : fch 192 24 = some (.ireturn, 25, []) := by decide +kernel
theorem f192_25 : fch 192 25 = some (.iload 4, 27, []) := by decide +kernel
theorem f192_27 : fch 192 27 = some (.i2l, 28, []) := by decide +kernel
theorem f192_28 : fch 192 28 = some (.sipush 0, 29, []) := by decide +kernel
theorem f192_29 : fch 192 29 = some (.sipush 12, 32, []) := by decide +kernel
theorem f192_32 : fch 192 32 = some (.invokestatic 152, 35, []) := by decide +kernel
theorem f192_35 : fch 192 35 = some (.ifCond .eq 92, 38, []) := by decide +kernel
theorem f192_38 : fch 192 38 = some (.iload 5, 40, []) := by decide +kernel
theorem f192_40 : fch 192 40 = some (.i2l, 41, []) := by decide +kernel
theorem f192_41 : fch 192 41 = some (.sipush 0, 42, []) := by decide +kernel
theorem f192_42 : fch 192 42 = some (.sipush 12, 45, []) := by decide +kernel
theorem f192_45 : fch 192 45 = some (.invokestatic 152, 48, []) := by decide +kernel
theorem f192_48 : fch 192 48 = some (.ifCond .eq 92, 51, []) := by decide +kernel
theorem f192_51 : fch 192 51 = some (.iload 6, 53, []) := by decide +kernel
theorem f192_53 : fch 192 53 = some (.i2l, 54, []) := by decide +kernel
theorem f192_54 : fch 192 54 = some (.sipush 0, 55, []) := by decide +kernel
theorem f192_55 : fch 192 55 = some (.sipush 12, 58, []) := by decide +kernel
theorem f192_58 : fch 192 58 = some (.invokestatic 152, 61, []) := by decide +kernel
theorem f192_61 : fch 192 61 = some (.ifCond .eq 92, 64, []) := by decide +kernel
theorem f192_64 : fch 192 64 = some (.iload 4, 66, []) := by decide +kernel
theorem f192_66 : fch 192 66 = some (.iload 5, 68, []) := by decide +kernel
theorem f192_68 : fch 192 68 = some (.iadd, 69, []) := by decide +kernel
theorem f192_69 : fch 192 69 = some (.iload 6, 71, []) := by decide +kernel
theorem f192_71 : fch 192 71 = some (.iadd, 72, []) := by decide +kernel
theorem f192_72 : fch 192 72 = some (.iconst 12, 74, []) := by decide +kernel
theorem f192_74 : fch 192 74 = some (.if_icmp .gt 92, 77, []) := by decide +kernel
theorem f192_77 : fch 192 77 = some (.iload 7, 79, []) := by decide +kernel
theorem f192_79 : fch 192 79 = some (.i2l, 80, []) := by decide +kernel
theorem f192_80 : fch 192 80 = some (.iload 8, 82, []) := by decide +kernel
theorem f192_82 : fch 192 82 = some (.i2l, 83, []) := by decide +kernel
theorem f192_83 : fch 192 83 = some (.sipush 6, 86, []) := by decide +kernel
theorem f192_86 : fch 192 86 = some (.invokestatic 152, 89, []) := by decide +kernel
theorem f192_89 : fch 192 89 = some (.ifCond .ne 95, 92, []) := by decide +kernel
theorem f192_92 : fch 192 92 = some (.iconst (-2), 94, [0, 1, 2, 3, 4, 5, 6, 7, 8]) := by decide +kernel
theorem f192_94 : fch 192 94 = some (.ireturn, 95, []) := by decide +kernel
theorem f192_95 : fch 192 95 = some (.iload 1, 96, []) := by decide +kernel
theorem f192_96 : fch 192 96 = some (.iload 2, 97, []) := by decide +kernel
theorem f192_97 : fch 192 97 = some (.if_icmp .ne 105, 100, []) := by decide +kernel
theorem f192_100 : fch 192 100 = some (.iconst (-3), 102, []) := by decide +kernel
theorem f192_102 : fch 192 102 = some (.goto 106, 105, []) := by decide +kernel
theorem f192_105 : fch 192 105 = some (.iconst 0, 106, []) := by decide +kernel
theorem f192_106 : fch 192 106 = some (.ireturn, 107, [0, 1, 2, 3, 4, 5, 6, 7, 8]) := by decide +kernel
set_option maxRecDepth 10000 in
theorem e192_0 (l0 l1 l2 l3 l4 l5 l6 l7 l8 : Int) (s : SG) : sem 192 0 [aA l0, aI l1, aI l2, aI l3, aI l4, aI l5, aI l6, aI l7, aI l8] [] s = grd (kd l0 = 9) (bnI (sem 163 0 [aA l0, aI l1] [] s) fun a2 s1 => if a2 = 0 then some (aI ((-1)), s1) else grd (kd l0 = 9) (bnI (sem 163 0 [aA l0, aI l2] [] s1) fun a4 s3 => if a4 = 0 then some (aI ((-1)), s3) else bnI (sem 164 0 [aI l3] [] s3) fun a6 s5 => if a6 = 0 then some (aI ((-1)), s5) else bnI (sem 152 0 [aL l4, aU, aL 0, aU, aL 12, aU] [] s5) fun a8 s7 => if a8 = 0 then some (aI ((-2)), s7) else bnI (sem 152 0 [aL l5, aU, aL 0, aU, aL 12, aU] [] s7) fun a10 s9 => if a10 = 0 then some (aI ((-2)), s9) else bnI (sem 152 0 [aL l6, aU, aL 0, aU, aL 12, aU] [] s9) fun a12 s11 => if a12 = 0 then some (aI ((-2)), s11) else if (12 : Int) < (w32 ((w32 (l4 + l5)) + l6)) then some (aI ((-2)), s11) else bnI (sem 152 0 [aL l7, aU, aL l8, aU, aL 6, aU] [] s11) fun a14 s13 => if a14 = 0 then some (aI ((-2)), s13) else if l1 = l2 then some (aI ((-3)), s13) else some (aI 0, s13))) := by
  refine (x_aload f192_0 rfl rfl).trans ?_
  refine (x_iload f192_1 rfl rfl).trans ?_
  refine (x_invokevirtual (G := grd (kd l0 = 9) (bnI (sem 163 0 [aA l0, aI l1] [] s) fun a2 s1 => sem 192 5 [aA l0, aI l1, aI l2, aI l3, aI l4, aI l5, aI l6, aI l7, aI l8] [aI a2] s1)) f192_2 rfl rfl).trans ?_
  refine g_c ?_
  refine bI_c fun a2 s1 => ?_
  refine (x_if_eq (tg := 23) f192_5 rfl rfl).trans (i_c ?_ ?_)
  · refine (x_kil (l2 := [aU, aU, aU, aU, aU, aU, aU, aU, aU]) f192_23 rfl).trans ?_
    refine (x_iconst f192_23 rfl).trans ?_
    exact x_ireturn f192_24 rfl
  · refine (x_aload f192_8 rfl rfl).trans ?_
    refine (x_iload f192_9 rfl rfl).trans ?_
    refine (x_invokevirtual (G := grd (kd l0 = 9) (bnI (sem 163 0 [aA l0, aI l2] [] s1) fun a4 s3 => sem 192 13 [aA l0, aI l1, aI l2, aI l3, aI l4, aI l5, aI l6, aI l7, aI l8] [aI a4] s3)) f192_10 rfl rfl).trans ?_
    refine g_c ?_
    refine bI_c fun a4 s3 => ?_
    refine (x_if_eq (tg := 23) f192_13 rfl rfl).trans (i_c ?_ ?_)
    · refine (x_kil (l2 := [aU, aU, aU, aU, aU, aU, aU, aU, aU]) f192_23 rfl).trans ?_
      refine (x_iconst f192_23 rfl).trans ?_
      exact x_ireturn f192_24 rfl
    · refine (x_iload f192_16 rfl rfl).trans ?_
      refine (x_invokestatic (G := bnI (sem 164 0 [aI l3] [] s3) fun a6 s5 => sem 192 20 [aA l0, aI l1, aI l2, aI l3, aI l4, aI l5, aI l6, aI l7, aI l8] [aI a6] s5) f192_17 rfl rfl).trans ?_
      refine bI_c fun a6 s5 => ?_
      refine (x_if_ne (tg := 25) f192_20 rfl rfl).trans (i_c ?_ ?_)
      · refine (x_kil (l2 := [aU, aU, aU, aU, aU, aU, aU, aU, aU]) f192_23 rfl).trans ?_
        refine (x_iconst f192_23 rfl).trans ?_
        exact x_ireturn f192_24 rfl
      · refine (x_iload f192_25 rfl rfl).trans ?_
        refine (x_i2l f192_27 rfl).trans ?_
        refine (x_lconst f192_28 rfl).trans ?_
        refine (x_lconst f192_29 rfl).trans ?_
        refine (x_invokestatic (G := bnI (sem 152 0 [aL l4, aU, aL 0, aU, aL 12, aU] [] s5) fun a8 s7 => sem 192 35 [aA l0, aI l1, aI l2, aI l3, aI l4, aI l5, aI l6, aI l7, aI l8] [aI a8] s7) f192_32 rfl rfl).trans ?_
        refine bI_c fun a8 s7 => ?_
        refine (x_if_eq (tg := 92) f192_35 rfl rfl).trans (i_c ?_ ?_)
        · refine (x_kil (l2 := [aU, aU, aU, aU, aU, aU, aU, aU, aU]) f192_92 rfl).trans ?_
          refine (x_iconst f192_92 rfl).trans ?_
          exact x_ireturn f192_94 rfl
        · refine (x_iload f192_38 rfl rfl).trans ?_
          refine (x_i2l f192_40 rfl).trans ?_
          refine (x_lconst f192_41 rfl).trans ?_
          refine (x_lconst f192_42 rfl).trans ?_
          refine (x_invokestatic (G := bnI (sem 152 0 [aL l5, aU, aL 0, aU, aL 12, aU] [] s7) fun a10 s9 => sem 192 48 [aA l0, aI l1, aI l2, aI l3, aI l4, aI l5, aI l6, aI l7, aI l8] [aI a10] s9) f192_45 rfl rfl).trans ?_
          refine bI_c fun a10 s9 => ?_
          refine (x_if_eq (tg := 92) f192_48 rfl rfl).trans (i_c ?_ ?_)
          · refine (x_kil (l2 := [aU, aU, aU, aU, aU, aU, aU, aU, aU]) f192_92 rfl).trans ?_
            refine (x_iconst f192_92 rfl).trans ?_
            exact x_ireturn f192_94 rfl
          · refine (x_iload f192_51 rfl rfl).trans ?_
            refine (x_i2l f192_53 rfl).trans ?_
            refine (x_lconst f192_54 rfl).trans ?_
            refine (x_lconst f192_55 rfl).trans ?_
            refine (x_invokestatic (G := bnI (sem 152 0 [aL l6, aU, aL 0, aU, aL 12, aU] [] s9) fun a12 s11 => sem 192 61 [aA l0, aI l1, aI l2, aI l3, aI l4, aI l5, aI l6, aI l7, aI l8] [aI a12] s11) f192_58 rfl rfl).trans ?_
            refine bI_c fun a12 s11 => ?_
            refine (x_if_eq (tg := 92) f192_61 rfl rfl).trans (i_c ?_ ?_)
            · refine (x_kil (l2 := [aU, aU, aU, aU, aU, aU, aU, aU, aU]) f192_92 rfl).trans ?_
              refine (x_iconst f192_92 rfl).trans ?_
              exact x_ireturn f192_94 rfl
            · refine (x_iload f192_64 rfl rfl).trans ?_
              refine (x_iload f192_66 rfl rfl).trans ?_
              refine (x_iadd f192_68 rfl).trans ?_
              refine (x_iload f192_69 rfl rfl).trans ?_
              refine (x_iadd f192_71 rfl).trans ?_
              refine (x_iconst f192_72 rfl).trans ?_
              refine (x_icmp_gt (tg := 92) f192_74 rfl rfl).trans (i_c ?_ ?_)
              · refine (x_kil (l2 := [aU, aU, aU, aU, aU, aU, aU, aU, aU]) f192_92 rfl).trans ?_
                refine (x_iconst f192_92 rfl).trans ?_
                exact x_ireturn f192_94 rfl
              · refine (x_iload f192_77 rfl rfl).trans ?_
                refine (x_i2l f192_79 rfl).trans ?_
                refine (x_iload f192_80 rfl rfl).trans ?_
                refine (x_i2l f192_82 rfl).trans ?_
                refine (x_lconst f192_83 rfl).trans ?_
                refine (x_invokestatic (G := bnI (sem 152 0 [aL l7, aU, aL l8, aU, aL 6, aU] [] s11) fun a14 s13 => sem 192 89 [aA l0, aI l1, aI l2, aI l3, aI l4, aI l5, aI l6, aI l7, aI l8] [aI a14] s13) f192_86 rfl rfl).trans ?_
                refine bI_c fun a14 s13 => ?_
                refine (x_if_ne (tg := 95) f192_89 rfl rfl).trans (i_c ?_ ?_)
                · refine (x_kil (l2 := [aU, aU, aU, aU, aU, aU, aU, aU, aU]) f192_92 rfl).trans ?_
                  refine (x_iconst f192_92 rfl).trans ?_
                  exact x_ireturn f192_94 rfl
                · refine (x_iload f192_95 rfl rfl).trans ?_
                  refine (x_iload f192_96 rfl rfl).trans ?_
                  refine (x_icmp_ne (tg := 105) f192_97 rfl rfl).trans (i_c ?_ ?_)
                  · refine (x_iconst f192_100 rfl).trans ?_
                    refine (x_goto (tg := 106) f192_102 rfl rfl).trans ?_
                    refine (x_kil (l2 := [aU, aU, aU, aU, aU, aU, aU, aU, aU]) f192_106 rfl).trans ?_
                    exact x_ireturn f192_106 rfl
                  · refine (x_iconst f192_105 rfl).trans ?_
                    refine (x_kil (l2 := [aU, aU, aU, aU, aU, aU, aU, aU, aU]) f192_106 rfl).trans ?_
                    exact x_ireturn f192_106 rfl
theorem f193_0 : fch 193 0 = some (.iload 1, 1, []) := by decide +kernel
theorem f193_1 : fch 193 1 = some (.iconst 10, 3, []) := by decide +kernel
theorem f193_3 : fch 193 3 = some (.idiv, 4, []) := by decide +kernel
theorem f193_4 : fch 193 4 = some (.istore 7, 6, []) := by decide +kernel
theorem f193_6 : fch 193 6 = some (.iload 1, 7, []) := by decide +kernel
theorem f193_7 : fch 193 7 = some (.iconst 10, 9, []) := by decide +kernel
theorem f193_9 : fch 193 9 = some (.irem, 10, []) := by decide +kernel
theorem f193_10 : fch 193 10 = some (.istore 8, 12, []) := by decide +kernel
theorem f193_12 : fch 193 12 = some (.iload 3, 13, []) := by decide +kernel
theorem f193_13 : fch 193 13 = some (.iconst 100, 15, []) := by decide +kernel
theorem f193_15 : fch 193 15 = some (.idiv, 16, []) := by decide +kernel
theorem f193_16 : fch 193 16 = some (.istore 9, 18, []) := by decide +kernel
theorem f193_18 : fch 193 18 = some (.iload 3, 19, []) := by decide +kernel
theorem f193_19 : fch 193 19 = some (.iconst 100, 21, []) := by decide +kernel
theorem f193_21 : fch 193 21 = some (.irem, 22, []) := by decide +kernel
theorem f193_22 : fch 193 22 = some (.istore 10, 24, []) := by decide +kernel
theorem f193_24 : fch 193 24 = some (.aload 0, 25, []) := by decide +kernel
theorem f193_25 : fch 193 25 = some (.iload 7, 27, []) := by decide +kernel
theorem f193_27 : fch 193 27 = some (.iload 8, 29, []) := by decide +kernel
theorem f193_29 : fch 193 29 = some (.iload 2, 30, []) := by decide +kernel
theorem f193_30 : fch 193 30 = some (.iload 9, 32, []) := by decide +kernel
theorem f193_32 : fch 193 32 = some (.iload 10, 34, []) := by decide +kernel
theorem f193_34 : fch 193 34 = some (.iload 4, 36, []) := by decide +kernel
theorem f193_36 : fch 193 36 = some (.iload 5, 38, []) := by decide +kernel
theorem f193_38 : fch 193 38 = some (.iconst 0, 39, []) := by decide +kernel
theorem f193_39 : fch 193 39 = some (.invokevirtual 192, 42, []) := by decide +kernel
theorem f193_42 : fch 193 42 = some (.istore 11, 44, []) := by decide +kernel
theorem f193_44 : fch 193 44 = some (.iload 11, 46, []) := by decide +kernel
theorem f193_46 : fch 193 46 = some (.ifCond .ge 53, 49, []) := by decide +kernel
theorem f193_49 : fch 193 49 = some (.iload 11, 51, []) := by decide +kernel
theorem f193_51 : fch 193 51 = some (.i2l, 52, []) := by decide +kernel
theorem f193_52 : fch 193 52 = some (.lreturn, 53, []) := by decide +kernel
theorem f193_53 : fch 193 53 = some (.aload 0, 54, []) := by decide +kernel
theorem f193_54 : fch 193 54 = some (.iload 7, 56, []) := by decide +kernel
theorem f193_56 : fch 193 56 = some (.iload 8, 58, []) := by decide +kernel
theorem f193_58 : fch 193 58 = some (.iload 2, 59, []) := by decide +kernel
theorem f193_59 : fch 193 59 = some (.iload 9, 61, []) := by decide +kernel
theorem f193_61 : fch 193 61 = some (.iload 10, 63, []) := by decide +kernel
theorem f193_63 : fch 193 63 = some (.iadd, 64, []) := by decide +kernel
theorem f193_64 : fch 193 64 = some (.iload 4, 66, []) := by decide +kernel
theorem f193_66 : fch 193 66 = some (.iadd, 67, []) := by decide +kernel
theorem f193_67 : fch 193 67 = some (.iload 5, 69, []) := by decide +kernel
theorem f193_69 : fch 193 69 = some (.invokevirtual 191, 72, []) := by decide +kernel
theorem f193_72 : fch 193 72 = some (.lstore 12, 74, []) := by decide +kernel
theorem f193_74 : fch 193 74 = some (.aload 0, 75, []) := by decide +kernel
theorem f193_75 : fch 193 75 = some (.invokeinterface 9 13, 78, []) := by decide +kernel
theorem f193_78 : fch 193 78 = some (.iload 9, 80, []) := by decide +kernel
theorem f193_80 : fch 193 80 = some (.iload 10, 82, []) := by decide +kernel
theorem f193_82 : fch 193 82 = some (.iload 4, 84, []) := by decide +kernel
theorem f193_84 : fch 193 84 = some (.invokestatic 187, 87, []) := by decide +kernel
theorem f193_87 : fch 193 87 = some (.laload, 88, []) := by decide +kernel
theorem f193_88 : fch 193 88 = some (.lload 12, 90, []) := by decide +kernel
theorem f193_90 : fch 193 90 = some (.iload 6, 92, []) := by decide +kernel
theorem f193_92 : fch 193 92 = some (.invokestatic 170, 95, []) := by decide +kernel
theorem f193_95 : fch 193 95 = some (.lreturn, 96, []) := by decide +kernel
set_option maxRecDepth 10000 in
theorem e193_0 (l0 l1 l2 l3 l4 l5 l6 : Int) (s : SG) : sem 193 0 [aA l0, aI l1, aI l2, aI l3, aI l4, aI l5, aI l6, aU, aU, aU, aU, aU, aU, aU] [] s = grd ((10 : Int) ≠ 0) (grd ((10 : Int) ≠ 0) (grd ((100 : Int) ≠ 0) (grd ((100 : Int) ≠ 0) (grd (kd l0 = 9) (bnI (sem 192 0 [aA l0, aI (w32 (Int.tdiv l1 10)), aI (remA l1 10), aI l2, aI (w32 (Int.tdiv l3 100)), aI (remA l3 100), aI l4, aI l5, aI 0] [] s) fun a2 s1 => if a2 < 0 then some (aL a2, s1) else grd (kd l0 = 9) (bnL (sem 191 0 [aA l0, aI (w32 (Int.tdiv l1 10)), aI (remA l1 10), aI l2, aI (w32 ((w32 ((w32 (Int.tdiv l3 100)) + (remA l3 100))) + l4)), aI l5, aU, aU, aU, aU, aU, aU] [] s1) fun a4 s3 => grd (kd l0 = 9) (grd (0 ≤ s3 l0 13) (bnI (sem 187 0 [aI (w32 (Int.tdiv l3 100)), aI (remA l3 100), aI l4] [] s3) fun a6 s5 => grd (kd (s3 l0 13) = 103) (grd ((0 : Int) ≤ a6 ∧ a6 < kl (s3 l0 13)) (bnL (sem 170 0 [aL (s5 (s3 l0 13) a6), aU, aL a4, aU, aI l6, aU, aU, aU, aU, aU, aU] [] s5) fun a8 s7 => some (aL a8, s7))))))))))) := by
  refine (x_iload f193_0 rfl rfl).trans ?_
  refine (x_iconst f193_1 rfl).trans ?_
  refine (x_idiv f193_3 rfl).trans ?_
  refine g_c ?_
  refine (x_istore (l2 := [aA l0, aI l1, aI l2, aI l3, aI l4, aI l5, aI l6, aI (w32 (Int.tdiv l1 10)), aU, aU, aU, aU, aU, aU]) f193_4 rfl rfl).trans ?_
  refine (x_iload f193_6 rfl rfl).trans ?_
  refine (x_iconst f193_7 rfl).trans ?_
  refine (x_irem f193_9 rfl).trans ?_
  refine g_c ?_
  refine (x_istore (l2 := [aA l0, aI l1, aI l2, aI l3, aI l4, aI l5, aI l6, aI (w32 (Int.tdiv l1 10)), aI (remA l1 10), aU, aU, aU, aU, aU]) f193_10 rfl rfl).trans ?_
  refine (x_iload f193_12 rfl rfl).trans ?_
  refine (x_iconst f193_13 rfl).trans ?_
  refine (x_idiv f193_15 rfl).trans ?_
  refine g_c ?_
  refine (x_istore (l2 := [aA l0, aI l1, aI l2, aI l3, aI l4, aI l5, aI l6, aI (w32 (Int.tdiv l1 10)), aI (remA l1 10), aI (w32 (Int.tdiv l3 100)), aU, aU, aU, aU]) f193_16 rfl rfl).trans ?_
  refine (x_iload f193_18 rfl rfl).trans ?_
  refine (x_iconst f193_19 rfl).trans ?_
  refine (x_irem f193_21 rfl).trans ?_
  refine g_c ?_
  refine (x_istore (l2 := [aA l0, aI l1, aI l2, aI l3, aI l4, aI l5, aI l6, aI (w32 (Int.tdiv l1 10)), aI (remA l1 10), aI (w32 (Int.tdiv l3 100)), aI (remA l3 100), aU, aU, aU]) f193_22 rfl rfl).trans ?_
  refine (x_aload f193_24 rfl rfl).trans ?_
  refine (x_iload f193_25 rfl rfl).trans ?_
  refine (x_iload f193_27 rfl rfl).trans ?_
  refine (x_iload f193_29 rfl rfl).trans ?_
  refine (x_iload f193_30 rfl rfl).trans ?_
  refine (x_iload f193_32 rfl rfl).trans ?_
  refine (x_iload f193_34 rfl rfl).trans ?_
  refine (x_iload f193_36 rfl rfl).trans ?_
  refine (x_iconst f193_38 rfl).trans ?_
  refine (x_invokevirtual (G := grd (kd l0 = 9) (bnI (sem 192 0 [aA l0, aI (w32 (Int.tdiv l1 10)), aI (remA l1 10), aI l2, aI (w32 (Int.tdiv l3 100)), aI (remA l3 100), aI l4, aI l5, aI 0] [] s) fun a2 s1 => sem 193 42 [aA l0, aI l1, aI l2, aI l3, aI l4, aI l5, aI l6, aI (w32 (Int.tdiv l1 10)), aI (remA l1 10), aI (w32 (Int.tdiv l3 100)), aI (remA l3 100), aU, aU, aU] [aI a2] s1)) f193_39 rfl rfl).trans ?_
  refine g_c ?_
  refine bI_c fun a2 s1 => ?_
  refine (x_istore (l2 := [aA l0, aI l1, aI l2, aI l3, aI l4, aI l5, aI l6, aI (w32 (Int.tdiv l1 10)), aI (remA l1 10), aI (w32 (Int.tdiv l3 100)), aI (remA l3 100), aI a2, aU, aU]) f193_42 rfl rfl).trans ?_
  refine (x_iload f193_44 rfl rfl).trans ?_
  refine (x_if_ge (tg := 53) f193_46 rfl rfl).trans (i_c ?_ ?_)
  · refine (x_iload f193_49 rfl rfl).trans ?_
    refine (x_i2l f193_51 rfl).trans ?_
    exact x_lreturn f193_52 rfl
  · refine (x_aload f193_53 rfl rfl).trans ?_
    refine (x_iload f193_54 rfl rfl).trans ?_
    refine (x_iload f193_56 rfl rfl).trans ?_
    refine (x_iload f193_58 rfl rfl).trans ?_
    refine (x_iload f193_59 rfl rfl).trans ?_
    refine (x_iload f193_61 rfl rfl).trans ?_
    refine (x_iadd f193_63 rfl).trans ?_
    refine (x_iload f193_64 rfl rfl).trans ?_
    refine (x_iadd f193_66 rfl).trans ?_
    refine (x_iload f193_67 rfl rfl).trans ?_
    refine (x_invokevirtual (G := grd (kd l0 = 9) (bnL (sem 191 0 [aA l0, aI (w32 (Int.tdiv l1 10)), aI (remA l1 10), aI l2, aI (w32 ((w32 ((w32 (Int.tdiv l3 100)) + (remA l3 100))) + l4)), aI l5, aU, aU, aU, aU, aU, aU] [] s1) fun a4 s3 => sem 193 72 [aA l0, aI l1, aI l2, aI l3, aI l4, aI l5, aI l6, aI (w32 (Int.tdiv l1 10)), aI (remA l1 10), aI (w32 (Int.tdiv l3 100)), aI (remA l3 100), aI a2, aU, aU] [aL a4] s3)) f193_69 rfl rfl).trans ?_
    refine g_c ?_
    refine bL_c fun a4 s3 => ?_
    refine (x_lstore (l2 := [aA l0, aI l1, aI l2, aI l3, aI l4, aI l5, aI l6, aI (w32 (Int.tdiv l1 10)), aI (remA l1 10), aI (w32 (Int.tdiv l3 100)), aI (remA l3 100), aI a2, aL a4, aU]) f193_72 rfl rfl).trans ?_
    refine (x_aload f193_74 rfl rfl).trans ?_
    refine (x_get2 f193_75 rfl rfl).trans ?_
    refine g_c ?_
    refine g_c ?_
    refine (x_iload f193_78 rfl rfl).trans ?_
    refine (x_iload f193_80 rfl rfl).trans ?_
    refine (x_iload f193_82 rfl rfl).trans ?_
    refine (x_invokestatic (G := bnI (sem 187 0 [aI (w32 (Int.tdiv l3 100)), aI (remA l3 100), aI l4] [] s3) fun a6 s5 => sem 193 87 [aA l0, aI l1, aI l2, aI l3, aI l4, aI l5, aI l6, aI (w32 (Int.tdiv l1 10)), aI (remA l1 10), aI (w32 (Int.tdiv l3 100)), aI (remA l3 100), aI a2, aL a4, aU] [aI a6, aA (s3 l0 13)] s5) f193_84 rfl rfl).trans ?_
    refine bI_c fun a6 s5 => ?_
    refine (x_laload f193_87 rfl).trans ?_
    refine g_c ?_
    refine g_c ?_
    refine (x_lload f193_88 rfl rfl).trans ?_
    refine (x_iload f193_90 rfl rfl).trans ?_
    refine (x_invokestatic (G := bnL (sem 170 0 [aL (s5 (s3 l0 13) a6), aU, aL a4, aU, aI l6, aU, aU, aU, aU, aU, aU] [] s5) fun a8 s7 => sem 193 95 [aA l0, aI l1, aI l2, aI l3, aI l4, aI l5, aI l6, aI (w32 (Int.tdiv l1 10)), aI (remA l1 10), aI (w32 (Int.tdiv l3 100)), aI (remA l3 100), aI a2, aL a4, aU] [aL a8] s7) f193_92 rfl rfl).trans ?_
    refine bL_c fun a8 s7 => ?_
    exact x_lreturn f193_95 rfl
theorem f194_0 : fch 194 0 = some (.iload 1, 1, []) := by decide +kernel
theorem f194_1 : fch 194 1 = some (.iconst 10, 3, []) := by decide +kernel
theorem f194_3 : fch 194 3 = some (.idiv, 4, []) := by decide +kernel
theorem f194_4 : fch 194 4 = some (.istore 6, 6, []) := by decide +kernel
theorem f194_6 : fch 194 6 = some (.iload 1, 7, []) := by decide +kernel
theorem f194_7 : fch 194 7 = some (.iconst 10, 9, []) := by decide +kernel
theorem f194_9 : fch 194 9 = some (.irem, 10, []) := by decide +kernel
theorem f194_10 : fch 194 10 = some (.istore 7, 12, []) := by decide +kernel
theorem f194_12 : fch 194 12 = some (.iload 3, 13, []) := by decide +kernel
theorem f194_13 : fch 194 13 = some (.iconst 100, 15, []) := by decide +kernel
theorem f194_15 : fch 194 15 = some (.idiv, 16, []) := by decide +kernel
theorem f194_16 : fch 194 16 = some (.istore 8, 18, []) := by decide +kernel
theorem f194_18 : fch 194 18 = some (.iload 3, 19, []) := by decide +kernel
theorem f194_19 : fch 194 19 = some (.iconst 100, 21, []) := by decide +kernel
theorem f194_21 : fch 194 21 = some (.irem, 22, []) := by decide +kernel
theorem f194_22 : fch 194 22 = some (.istore 9, 24, []) := by decide +kernel
theorem f194_24 : fch 194 24 = some (.aload 0, 25, []) := by decide +kernel
theorem f194_25 : fch 194 25 = some (.iload 6, 27, []) := by decide +kernel
theorem f194_27 : fch 194 27 = some (.iload 7, 29, []) := by decide +kernel
theorem f194_29 : fch 194 29 = some (.iload 2, 30, []) := by decide +kernel
theorem f194_30 : fch 194 30 = some (.iload 8, 32, []) := by decide +kernel
theorem f194_32 : fch 194 32 = some (.iload 9, 34, []) := by decide +kernel
theorem f194_34 : fch 194 34 = some (.iload 4, 36, []) := by decide +kernel
theorem f194_36 : fch 194 36 = some (.iload 5, 38, []) := by decide +kernel
theorem f194_38 : fch 194 38 = some (.iconst 1, 39, []) := by decide +kernel
theorem f194_39 : fch 194 39 = some (.invokevirtual 192, 42, []) := by decide +kernel
theorem f194_42 : fch 194 42 = some (.istore 10, 44, []) := by decide +kernel
theorem f194_44 : fch 194 44 = some (.iload 10, 46, []) := by decide +kernel
theorem f194_46 : fch 194 46 = some (.ifCond .ge 52, 49, []) := by decide +kernel
theorem f194_49 : fch 194 49 = some (.iload 10, 51, []) := by decide +kernel
theorem f194_51 : fch 194 51 = some (.ireturn, 52, []) := by decide +kernel
theorem f194_52 : fch 194 52 = some (.aload 0, 53, []) := by decide +kernel
theorem f194_53 : fch 194 53 = some (.iload 6, 55, []) := by decide +kernel
theorem f194_55 : fch 194 55 = some (.iload 7, 57, []) := by decide +kernel
theorem f194_57 : fch 194 57 = some (.iload 2, 58, []) := by decide +kernel
theorem f194_58 : fch 194 58 = some (.iload 8, 60, []) := by decide +kernel
theorem f194_60 : fch 194 60 = some (.iload 9, 62, []) := by decide +kernel
theorem f194_62 : fch 194 62 = some (.iadd, 63, []) := by decide +kernel
theorem f194_63 : fch 194 63 = some (.iload 4, 65, []) := by decide +kernel
theorem f194_65 : fch 194 65 = some (.iadd, 66, []) := by decide +kernel
theorem f194_66 : fch 194 66 = some (.iload 5, 68, []) := by decide +kernel
theorem f194_68 : fch 194 68 = some (.iconst 1, 69, []) := by decide +kernel
theorem f194_69 : fch 194 69 = some (.isub, 70, []) := by decide +kernel
theorem f194_70 : fch 194 70 = some (.invokevirtual 191, 73, []) := by decide +kernel
theorem f194_73 : fch 194 73 = some (.lstore 11, 75, []) := by decide +kernel
theorem f194_75 : fch 194 75 = some (.aload 0, 76, []) := by decide +kernel
theorem f194_76 : fch 194 76 = some (.iload 6, 78, []) := by decide +kernel
theorem f194_78 : fch 194 78 = some (.iload 7, 80, []) := by decide +kernel
theorem f194_80 : fch 194 80 = some (.iload 2, 81, []) := by decide +kernel
theorem f194_81 : fch 194 81 = some (.iload 8, 83, []) := by decide +kernel
theorem f194_83 : fch 194 83 = some (.iload 9, 85, []) := by decide +kernel
theorem f194_85 : fch 194 85 = some (.iload 4, 87, []) := by decide +kernel
theorem f194_87 : fch 194 87 = some (.lload 11, 89, []) := by decide +kernel
theorem f194_89 : fch 194 89 = some (.invokevirtual 190, 92, []) := by decide +kernel
theorem f194_92 : fch 194 92 = some (.pop2, 93, []) := by decide +kernel
theorem f194_93 : fch 194 93 = some (.aload 0, 94, []) := by decide +kernel
theorem f194_94 : fch 194 94 = some (.invokeinterface 9 14, 97, []) := by decide +kernel
theorem f194_97 : fch 194 97 = some (.ireturn, 98, []) := by decide +kernel
set_option maxRecDepth 10000 in
theorem e194_0 (l0 l1 l2 l3 l4 l5 : Int) (s : SG) : sem 194 0 [aA l0, aI l1, aI l2, aI l3, aI l4, aI l5, aU, aU, aU, aU, aU, aU, aU] [] s = grd ((10 : Int) ≠ 0) (grd ((10 : Int) ≠ 0) (grd ((100 : Int) ≠ 0) (grd ((100 : Int) ≠ 0) (grd (kd l0 = 9) (bnI (sem 192 0 [aA l0, aI (w32 (Int.tdiv l1 10)), aI (remA l1 10), aI l2, aI (w32 (Int.tdiv l3 100)), aI (remA l3 100), aI l4, aI l5, aI 1] [] s) fun a2 s1 => if a2 < 0 then some (aI a2, s1) else grd (kd l0 = 9) (bnL (sem 191 0 [aA l0, aI (w32 (Int.tdiv l1 10)), aI (remA l1 10), aI l2, aI (w32 ((w32 ((w32 (Int.tdiv l3 100)) + (remA l3 100))) + l4)), aI (w32 (l5 - 1)), aU, aU, aU, aU, aU, aU] [] s1) fun a4 s3 => grd (kd l0 = 9) (bnL (sem 190 0 [aA l0, aI (w32 (Int.tdiv l1 10)), aI (remA l1 10), aI l2, aI (w32 (Int.tdiv l3 100)), aI (remA l3 100), aI l4, aL a4, aU, aU, aU, aU, aU, aU, aU, aU] [] s3) fun a6 s5 => grd (kd l0 = 9) (some (aI (s5 l0 14), s5))))))))) := by
  refine (x_iload f194_0 rfl rfl).trans ?_
  refine (x_iconst f194_1 rfl).trans ?_
  refine (x_idiv f194_3 rfl).trans ?_
  refine g_c ?_
  refine (x_istore (l2 := [aA l0, aI l1, aI l2, aI l3, aI l4, aI l5, aI (w32 (Int.tdiv l1 10)), aU, aU, aU, aU, aU, aU]) f194_4 rfl rfl).trans ?_
  refine (x_iload f194_6 rfl rfl).trans ?_
  refine (x_iconst f194_7 rfl).trans ?_
  refine (x_irem f194_9 rfl).trans ?_
  refine g_c ?_
  refine (x_istore (l2 := [aA l0, aI l1, aI l2, aI l3, aI l4, aI l5, aI (w32 (Int.tdiv l1 10)), aI (remA l1 10), aU, aU, aU, aU, aU]) f194_10 rfl rfl).trans ?_
  refine (x_iload f194_12 rfl rfl).trans ?_
  refine (x_iconst f194_13 rfl).trans ?_
  refine (x_idiv f194_15 rfl).trans ?_
  refine g_c ?_
  refine (x_istore (l2 := [aA l0, aI l1, aI l2, aI l3, aI l4, aI l5, aI (w32 (Int.tdiv l1 10)), aI (remA l1 10), aI (w32 (Int.tdiv l3 100)), aU, aU, aU, aU]) f194_16 rfl rfl).trans ?_
  refine (x_iload f194_18 rfl rfl).trans ?_
  refine (x_iconst f194_19 rfl).trans ?_
  refine (x_irem f194_21 rfl).trans ?_
  refine g_c ?_
  refine (x_istore (l2 := [aA l0, aI l1, aI l2, aI l3, aI l4, aI l5, aI (w32 (Int.tdiv l1 10)), aI (remA l1 10), aI (w32 (Int.tdiv l3 100)), aI (remA l3 100), aU, aU, aU]) f194_22 rfl rfl).trans ?_
  refine (x_aload f194_24 rfl rfl).trans ?_
  refine (x_iload f194_25 rfl rfl).trans ?_
  refine (x_iload f194_27 rfl rfl).trans ?_
  refine (x_iload f194_29 rfl rfl).trans ?_
  refine (x_iload f194_30 rfl rfl).trans ?_
  refine (x_iload f194_32 rfl rfl).trans ?_
  refine (x_iload f194_34 rfl rfl).trans ?_
  refine (x_iload f194_36 rfl rfl).trans ?_
  refine (x_iconst f194_38 rfl).trans ?_
  refine (x_invokevirtual (G := grd (kd l0 = 9) (bnI (sem 192 0 [aA l0, aI (w32 (Int.tdiv l1 10)), aI (remA l1 10), aI l2, aI (w32 (Int.tdiv l3 100)), aI (remA l3 100), aI l4, aI l5, aI 1] [] s) fun a2 s1 => sem 194 42 [aA l0, aI l1, aI l2, aI l3, aI l4, aI l5, aI (w32 (Int.tdiv l1 10)), aI (remA l1 10), aI (w32 (Int.tdiv l3 100)), aI (remA l3 100), aU, aU, aU] [aI a2] s1)) f194_39 rfl rfl).trans ?_
  refine g_c ?_
  refine bI_c fun a2 s1 => ?_
  refine (x_istore (l2 := [aA l0, aI l1, aI l2, aI l3, aI l4, aI l5, aI (w32 (Int.tdiv l1 10)), aI (remA l1 10), aI (w32 (Int.tdiv l3 100)), aI (remA l3 100), aI a2, aU, aU]) f194_42 rfl rfl).trans ?_
  refine (x_iload f194_44 rfl rfl).trans ?_
  refine (x_if_ge (tg := 52) f194_46 rfl rfl).trans (i_c ?_ ?_)
  · refine (x_iload f194_49 rfl rfl).trans ?_
    exact x_ireturn f194_51 rfl
  · refine (x_aload f194_52 rfl rfl).trans ?_
    refine (x_iload f194_53 rfl rfl).trans ?_
    refine (x_iload f194_55 rfl rfl).trans ?_
    refine (x_iload f194_57 rfl rfl).trans ?_
    refine (x_iload f194_58 rfl rfl).trans ?_
    refine (x_iload f194_60 rfl rfl).trans ?_
    refine (x_iadd f194_62 rfl).trans ?_
    refine (x_iload f194_63 rfl rfl).trans ?_
    refine (x_iadd f194_65 rfl).trans ?_
    refine (x_iload f194_66 rfl rfl).trans ?_
    refine (x_iconst f194_68 rfl).trans ?_
    refine (x_isub f194_69 rfl).trans ?_
    refine (x_invokevirtual (G := grd (kd l0 = 9) (bnL (sem 191 0 [aA l0, aI (w32 (Int.tdiv l1 10)), aI (remA l1 10), aI l2, aI (w32 ((w32 ((w32 (Int.tdiv l3 100)) + (remA l3 100))) + l4)), aI (w32 (l5 - 1)), aU, aU, aU, aU, aU, aU] [] s1) fun a4 s3 => sem 194 73 [aA l0, aI l1, aI l2, aI l3, aI l4, aI l5, aI (w32 (Int.tdiv l1 10)), aI (remA l1 10), aI (w32 (Int.tdiv l3 100)), aI (remA l3 100), aI a2, aU, aU] [aL a4] s3)) f194_70 rfl rfl).trans ?_
    refine g_c ?_
    refine bL_c fun a4 s3 => ?_
    refine (x_lstore (l2 := [aA l0, aI l1, aI l2, aI l3, aI l4, aI l5, aI (w32 (Int.tdiv l1 10)), aI (remA l1 10), aI (w32 (Int.tdiv l3 100)), aI (remA l3 100), aI a2, aL a4, aU]) f194_73 rfl rfl).trans ?_
    refine (x_aload f194_75 rfl rfl).trans ?_
    refine (x_iload f194_76 rfl rfl).trans ?_
    refine (x_iload f194_78 rfl rfl).trans ?_
    refine (x_iload f194_80 rfl rfl).trans ?_
    refine (x_iload f194_81 rfl rfl).trans ?_
    refine (x_iload f194_83 rfl rfl).trans ?_
    refine (x_iload f194_85 rfl rfl).trans ?_
    refine (x_lload f194_87 rfl rfl).trans ?_
    refine (x_invokevirtual (G := grd (kd l0 = 9) (bnL (sem 190 0 [aA l0, aI (w32 (Int.tdiv l1 10)), aI (remA l1 10), aI l2, aI (w32 (Int.tdiv l3 100)), aI (remA l3 100), aI l4, aL a4, aU, aU, aU, aU, aU, aU, aU, aU] [] s3) fun a6 s5 => sem 194 92 [aA l0, aI l1, aI l2, aI l3, aI l4, aI l5, aI (w32 (Int.tdiv l1 10)), aI (remA l1 10), aI (w32 (Int.tdiv l3 100)), aI (remA l3 100), aI a2, aL a4, aU] [aL a6] s5)) f194_89 rfl rfl).trans ?_
    refine g_c ?_
    refine bL_c fun a6 s5 => ?_
    refine (x_pop2 f194_92 rfl).trans ?_
    refine (x_aload f194_93 rfl rfl).trans ?_
    refine (x_get0 f194_94 rfl rfl).trans ?_
    refine g_c ?_
    exact x_ireturn f194_97 rfl
theorem f195_0 : fch 195 0 = some (.iload 0, 1, []) := by decide +kernel
theorem f195_1 : fch 195 1 = some (.i2l, 2, []) := by decide +kernel
theorem f195_2 : fch 195 2 = some (.sipush 0, 3, []) := by decide +kernel
theorem f195_3 : fch 195 3 = some (.sipush 5, 6, []) := by decide +kernel
theorem f195_6 : fch 195 6 = some (.invokestatic 152, 9, []) := by decide +kernel
theorem f195_9 : fch 195 9 = some (.ireturn, 10, []) := by decide +kernel
set_option maxRecDepth 10000 in
theorem e195_0 (l0 : Int) (s : SG) : sem 195 0 [aI l0] [] s = bnI (sem 152 0 [aL l0, aU, aL 0, aU, aL 5, aU] [] s) fun a2 s1 => grd (a2 = 0 ∨ a2 = 1) (some (aI a2, s1)) := by
  refine (x_iload f195_0 rfl rfl).trans ?_
  refine (x_i2l f195_1 rfl).trans ?_
  refine (x_lconst f195_2 rfl).trans ?_
  refine (x_lconst f195_3 rfl).trans ?_
  refine (x_invokestatic (G := bnI (sem 152 0 [aL l0, aU, aL 0, aU, aL 5, aU] [] s) fun a2 s1 => sem 195 9 [aI l0] [aI a2] s1) f195_6 rfl rfl).trans ?_
  refine bI_c fun a2 s1 => ?_
  exact x_zreturn f195_9 rfl
theorem f196_0 : fch 196 0 = some (.iload 1, 1, []) := by decide +kernel
theorem f196_1 : fch 196 1 = some (.invokestatic 164, 4, []) := by decide +kernel
theorem f196_4 : fch 196 4 = some (.ifCond .ne 9, 7, []) := by decide +kernel
theorem f196_7 : fch 196 7 = some (.iconst (-1), 8, []) := by decide +kernel
theorem f196_8 : fch 196 8 = some (.ireturn, 9, []) := by decide +kernel
theorem f196_9 : fch 196 9 = some (.aload 0, 10, []) := by decide +kernel
theorem f196_10 : fch 196 10 = some (.invokeinterface 9 15, 13, []) := by decide +kernel
theorem f196_13 : fch 196 13 = some (.istore 2, 14, []) := by decide +kernel
theorem f196_14 : fch 196 14 = some (.aload 0, 15, []) := by decide +kernel
theorem f196_15 : fch 196 15 = some (.iload 1, 16, []) := by decide +kernel
theorem f196_16 : fch 196 16 = some (.multianewarray 9 15, 19, []) := by decide +kernel
theorem f196_19 : fch 196 19 = some (.iload 2, 20, []) := by decide +kernel
theorem f196_20 : fch 196 20 = some (.ireturn, 21, []) := by decide +kernel
set_option maxRecDepth 10000 in
theorem e196_0 (l0 l1 : Int) (s : SG) : sem 196 0 [aA l0, aI l1, aU] [] s = bnI (sem 164 0 [aI l1] [] s) fun a2 s1 => if a2 = 0 then some (aI ((-1)), s1) else grd (kd l0 = 9) (grd (kd l0 = 9) (some (aI (s1 l0 15), up s1 l0 15 l1))) := by
  refine (x_iload f196_0 rfl rfl).trans ?_
  refine (x_invokestatic (G := bnI (sem 164 0 [aI l1] [] s) fun a2 s1 => sem 196 4 [aA l0, aI l1, aU] [aI a2] s1) f196_1 rfl rfl).trans ?_
  refine bI_c fun a2 s1 => ?_
  refine (x_if_ne (tg := 9) f196_4 rfl rfl).trans (i_c ?_ ?_)
  · refine (x_iconst f196_7 rfl).trans ?_
    exact x_ireturn f196_8 rfl
  · refine (x_aload f196_9 rfl rfl).trans ?_
    refine (x_get0 f196_10 rfl rfl).trans ?_
    refine g_c ?_
    refine (x_istore (l2 := [aA l0, aI l1, aI (s1 l0 15)]) f196_13 rfl rfl).trans ?_
    refine (x_aload f196_14 rfl rfl).trans ?_
    refine (x_iload f196_15 rfl rfl).trans ?_
    refine (x_put0 f196_16 rfl rfl).trans ?_
    refine g_c ?_
    refine (x_iload f196_19 rfl rfl).trans ?_
    exact x_ireturn f196_20 rfl
theorem f197_0 : fch 197 0 = some (.aload 0, 1, []) := by decide +kernel
theorem f197_1 : fch 197 1 = some (.iload 1, 2, []) := by decide +kernel
theorem f197_2 : fch 197 2 = some (.invokevirtual 163, 5, []) := by decide +kernel
theorem f197_5 : fch 197 5 = some (.ifCond .ne 10, 8, []) := by decide +kernel
theorem f197_8 : fch 197 8 = some (.iconst (-1), 9, []) := by decide +kernel
theorem f197_9 : fch 197 9 = some (.ireturn, 10, []) := by decide +kernel
theorem f197_10 : fch 197 10 = some (.iload 2, 11, []) := by decide +kernel
theorem f197_11 : fch 197 11 = some (.i2l, 12, []) := by decide +kernel
theorem f197_12 : fch 197 12 = some (.sipush 0, 13, []) := by decide +kernel
theorem f197_13 : fch 197 13 = some (.sipush 60, 16, []) := by decide +kernel
theorem f197_16 : fch 197 16 = some (.invokestatic 152, 19, []) := by decide +kernel
theorem f197_19 : fch 197 19 = some (.ifCond .ne 25, 22, []) := by decide +kernel
theorem f197_22 : fch 197 22 = some (.iconst (-2), 24, []) := by decide +kernel
theorem f197_24 : fch 197 24 = some (.ireturn, 25, []) := by decide +kernel
theorem f197_25 : fch 197 25 = some (.aload 0, 26, []) := by decide +kernel
theorem f197_26 : fch 197 26 = some (.invokeinterface 9 16, 29, []) := by decide +kernel
theorem f197_29 : fch 197 29 = some (.iload 1, 30, []) := by decide +kernel
theorem f197_30 : fch 197 30 = some (.iaload, 31, []) := by decide +kernel
theorem f197_31 : fch 197 31 = some (.istore 3, 32, []) := by decide +kernel
theorem f197_32 : fch 197 32 = some (.aload 0, 33, []) := by decide +kernel
theorem f197_33 : fch 197 33 = some (.invokeinterface 9 16, 36, []) := by decide +kernel
theorem f197_36 : fch 197 36 = some (.iload 1, 37, []) := by decide +kernel
theorem f197_37 : fch 197 37 = some (.iload 2, 38, []) := by decide +kernel
theorem f197_38 : fch 197 38 = some (.iastore, 39, []) := by decide +kernel
theorem f197_39 : fch 197 39 = some (.iload 3, 40, []) := by decide +kernel
theorem f197_40 : fch 197 40 = some (.ireturn, 41, []) := by decide +kernel
set_option maxRecDepth 10000 in
theorem e197_0 (l0 l1 l2 : Int) (s : SG) : sem 197 0 [aA l0, aI l1, aI l2, aU] [] s = grd (kd l0 = 9) (bnI (sem 163 0 [aA l0, aI l1] [] s) fun a2 s1 => if a2 = 0 then some (aI ((-1)), s1) else bnI (sem 152 0 [aL l2, aU, aL 0, aU, aL 60, aU] [] s1) fun a4 s3 => if a4 = 0 then some (aI ((-2)), s3) else grd (kd l0 = 9) (grd (0 ≤ s3 l0 16) (grd (kd (s3 l0 16) = 101) (grd ((0 : Int) ≤ l1 ∧ l1 < kl (s3 l0 16)) (grd (kd l0 = 9) (grd (0 ≤ s3 l0 16) (grd (kd (s3 l0 16) = 101) (grd ((0 : Int) ≤ l1 ∧ l1 < kl (s3 l0 16)) (some (aI (s3 (s3 l0 16) l1), up s3 (s3 l0 16) l1 l2)))))))))) := by
  refine (x_aload f197_0 rfl rfl).trans ?_
  refine (x_iload f197_1 rfl rfl).trans ?_
  refine (x_invokevirtual (G := grd (kd l0 = 9) (bnI (sem 163 0 [aA l0, aI l1] [] s) fun a2 s1 => sem 197 5 [aA l0, aI l1, aI l2, aU] [aI a2] s1)) f197_2 rfl rfl).trans ?_
  refine g_c ?_
  refine bI_c fun a2 s1 => ?_
  refine (x_if_ne (tg := 10) f197_5 rfl rfl).trans (i_c ?_ ?_)
  · refine (x_iconst f197_8 rfl).trans ?_
    exact x_ireturn f197_9 rfl
  · refine (x_iload f197_10 rfl rfl).trans ?_
    refine (x_i2l f197_11 rfl).trans ?_
    refine (x_lconst f197_12 rfl).trans ?_
    refine (x_lconst f197_13 rfl).trans ?_
    refine (x_invokestatic (G := bnI (sem 152 0 [aL l2, aU, aL 0, aU, aL 60, aU] [] s1) fun a4 s3 => sem 197 19 [aA l0, aI l1, aI l2, aU] [aI a4] s3) f197_16 rfl rfl).trans ?_
    refine bI_c fun a4 s3 => ?_
    refine (x_if_ne (tg := 25) f197_19 rfl rfl).trans (i_c ?_ ?_)
    · refine (x_iconst f197_22 rfl).trans ?_
      exact x_ireturn f197_24 rfl
    · refine (x_aload f197_25 rfl rfl).trans ?_
      refine (x_get2 f197_26 rfl rfl).trans ?_
      refine g_c ?_
      refine g_c ?_
      refine (x_iload f197_29 rfl rfl).trans ?_
      refine (x_iaload f197_30 rfl).trans ?_
      refine g_c ?_
      refine g_c ?_
      refine (x_istore (l2 := [aA l0, aI l1, aI l2, aI (s3 (s3 l0 16) l1)]) f197_31 rfl rfl).trans ?_
      refine (x_aload f197_32 rfl rfl).trans ?_
      refine (x_get2 f197_33 rfl rfl).trans ?_
      refine g_c ?_
      refine g_c ?_
      refine (x_iload f197_36 rfl rfl).trans ?_
      refine (x_iload f197_37 rfl rfl).trans ?_
      refine (x_iastore f197_38 rfl).trans ?_
      refine g_c ?_
      refine g_c ?_
      refine (x_iload f197_39 rfl rfl).trans ?_
      exact x_ireturn f197_40 rfl
theorem f198_0 : fch 198 0 = some (.aload 0, 1, []) := by decide +kernel
theorem f198_1 : fch 198 1 = some (.iload 1, 2, []) := by decide +kernel
theorem f198_2 : fch 198 2 = some (.invokevirtual 163, 5, []) := by decide +kernel
theorem f198_5 : fch 198 5 = some (.ifCond .ne 10, 8, []) := by decide +kernel
theorem f198_8 : fch 198 8 = some (.iconst (-1), 9, []) := by decide +kernel
theorem f198_9 : fch 198 9 = some (.ireturn, 10, []) := by decide +kernel
theorem f198_10 : fch 198 10 = some (.iload 2, 11, []) := by decide +kernel
theorem f198_11 : fch 198 11 = some (.i2l, 12, []) := by decide +kernel
theorem f198_12 : fch 198 12 = some (.sipush 0, 13, []) := by decide +kernel
theorem f198_13 : fch 198 13 = some (.sipush 63, 16, []) := by decide +kernel
theorem f198_16 : fch 198 16 = some (.invokestatic 152, 19, []) := by decide +kernel
theorem f198_19 : fch 198 19 = some (.ifCond .ne 25, 22, []) := by decide +kernel
theorem f198_22 : fch 198 22 = some (.iconst (-2), 24, []) := by decide +kernel
theorem f198_24 : fch 198 24 = some (.ireturn, 25, []) := by decide +kernel
theorem f198_25 : fch 198 25 = some (.aload 0, 26, []) := by decide +kernel
theorem f198_26 : fch 198 26 = some (.invokeinterface 9 17, 29, []) := by decide +kernel
theorem f198_29 : fch 198 29 = some (.iload 1, 30, []) := by decide +kernel
theorem f198_30 : fch 198 30 = some (.iaload, 31, []) := by decide +kernel
theorem f198_31 : fch 198 31 = some (.istore 3, 32, []) := by decide +kernel
theorem f198_32 : fch 198 32 = some (.aload 0, 33, []) := by decide +kernel
theorem f198_33 : fch 198 33 = some (.invokeinterface 9 17, 36, []) := by decide +kernel
theorem f198_36 : fch 198 36 = some (.iload 1, 37, []) := by decide +kernel
theorem f198_37 : fch 198 37 = some (.iload 2, 38, []) := by decide +kernel
theorem f198_38 : fch 198 38 = some (.iastore, 39, []) := by decide +kernel
theorem f198_39 : fch 198 39 = some (.iload 3, 40, []) := by decide +kernel
theorem f198_40 : fch 198 40 = some (.ireturn, 41, []) := by decide +kernel
set_option maxRecDepth 10000 in
theorem e198_0 (l0 l1 l2 : Int) (s : SG) : sem 198 0 [aA l0, aI l1, aI l2, aU] [] s = grd (kd l0 = 9) (bnI (sem 163 0 [aA l0, aI l1] [] s) fun a2 s1 => if a2 = 0 then some (aI ((-1)), s1) else bnI (sem 152 0 [aL l2, aU, aL 0, aU, aL 63, aU] [] s1) fun a4 s3 => if a4 = 0 then some (aI ((-2)), s3) else grd (kd l0 = 9) (grd (0 ≤ s3 l0 17) (grd (kd (s3 l0 17) = 101) (grd ((0 : Int) ≤ l1 ∧ l1 < kl (s3 l0 17)) (grd (kd l0 = 9) (grd (0 ≤ s3 l0 17) (grd (kd (s3 l0 17) = 101) (grd ((0 : Int) ≤ l1 ∧ l1 < kl (s3 l0 17)) (some (aI (s3 (s3 l0 17) l1), up s3 (s3 l0 17) l1 l2)))))))))) := by
  refine (x_aload f198_0 rfl rfl).trans ?_
  refine (x_iload f198_1 rfl rfl).trans ?_
  refine (x_invokevirtual (G := grd (kd l0 = 9) (bnI (sem 163 0 [aA l0, aI l1] [] s) fun a2 s1 => sem 198 5 [aA l0, aI l1, aI l2, aU] [aI a2] s1)) f198_2 rfl rfl).trans ?_
  refine g_c ?_
  refine bI_c fun a2 s1 => ?_
  refine (x_if_ne (tg := 10) f198_5 rfl rfl).trans (i_c ?_ ?_)
  · refine (x_iconst f198_8 rfl).trans ?_
    exact x_ireturn f198_9 rfl
  · refine (x_iload f198_10 rfl rfl).trans ?_
    refine (x_i2l f198_11 rfl).trans ?_
    refine (x_lconst f198_12 rfl).trans ?_
    refine (x_lconst f198_13 rfl).trans ?_
    refine (x_invokestatic (G := bnI (sem 152 0 [aL l2, aU, aL 0, aU, aL 63, aU] [] s1) fun a4 s3 => sem 198 19 [aA l0, aI l1, aI l2, aU] [aI a4] s3) f198_16 rfl rfl).trans ?_
    refine bI_c fun a4 s3 => ?_
    refine (x_if_ne (tg := 25) f198_19 rfl rfl).trans (i_c ?_ ?_)
    · refine (x_iconst f198_22 rfl).trans ?_
      exact x_ireturn f198_24 rfl
    · refine (x_aload f198_25 rfl rfl).trans ?_
      refine (x_get2 f198_26 rfl rfl).trans ?_
      refine g_c ?_
      refine g_c ?_
      refine (x_iload f198_29 rfl rfl).trans ?_
      refine (x_iaload f198_30 rfl).trans ?_
      refine g_c ?_
      refine g_c ?_
      refine (x_istore (l2 := [aA l0, aI l1, aI l2, aI (s3 (s3 l0 17) l1)]) f198_31 rfl rfl).trans ?_
      refine (x_aload f198_32 rfl rfl).trans ?_
      refine (x_get2 f198_33 rfl rfl).trans ?_
      refine g_c ?_
      refine g_c ?_
      refine (x_iload f198_36 rfl rfl).trans ?_
      refine (x_iload f198_37 rfl rfl).trans ?_
      refine (x_iastore f198_38 rfl).trans ?_
      refine g_c ?_
      refine g_c ?_
      refine (x_iload f198_39 rfl rfl).trans ?_
      exact x_ireturn f198_40 rfl
theorem f199_0 : fch 199 0 = some (.iload 1, 1, []) := by decide +kernel
theorem f199_1 : fch 199 1 = some (.i2l, 2, []) := by decide +kernel
theorem f199_2 : fch 199 2 = some (.sipush 0, 3, []) := by decide +kernel
theorem f199_3 : fch 199 3 = some (.sipush 60, 6, []) := by decide +kernel
theorem f199_6 : fch 199 6 = some (.invokestatic 152, 9, []) := by decide +kernel
theorem f199_9 : fch 199 9 = some (.ifCond .eq 65, 12, []) := by decide +kernel
theorem f199_12 : fch 199 12 = some (.iload 2, 13, []) := by decide +kernel
theorem f199_13 : fch 199 13 = some (.i2l, 14, []) := by decide +kernel
theorem f199_14 : fch 199 14 = some (.sipush 0, 15, []) := by decide +kernel
theorem f199_15 : fch 199 15 = some (.sipush 2, 18, []) := by decide +kernel
theorem f199_18 : fch 199 18 = some (.invokestatic 152, 21, []) := by decide +kernel
theorem f199_21 : fch 199 21 = some (.ifCond .eq 65, 24, []) := by decide +kernel
theorem f199_24 : fch 199 24 = some (.iload 2, 25, []) := by decide +kernel
theorem f199_25 : fch 199 25 = some (.iconst 1, 26, []) := by decide +kernel
theorem f199_26 : fch 199 26 = some (.if_icmp .ne 44, 29, []) := by decide +kernel
theorem f199_29 : fch 199 29 = some (.iload 3, 30, []) := by decide +kernel
theorem f199_30 : fch 199 30 = some (.i2l, 31, []) := by decide +kernel
theorem f199_31 : fch 199 31 = some (.sipush 1, 32, []) := by decide +kernel
theorem f199_32 : fch 199 32 = some (.sipush 20, 35, []) := by decide +kernel
theorem f199_35 : fch 199 35 = some (.invokestatic 152, 38, []) := by decide +kernel
theorem f199_38 : fch 199 38 = some (.ifCond .eq 65, 41, []) := by decide +kernel
theorem f199_41 : fch 199 41 = some (.goto 68, 44, []) := by decide +kernel
theorem f199_44 : fch 199 44 = some (.iload 3, 45, []) := by decide +kernel
theorem f199_45 : fch 199 45 = some (.i2l, 46, []) := by decide +kernel
theorem f199_46 : fch 199 46 = some (.sipush 0, 47, []) := by decide +kernel
theorem f199_47 : fch 199 47 = some (.iload 2, 48, []) := by decide +kernel
theorem f199_48 : fch 199 48 = some (.iconst 2, 49, []) := by decide +kernel
theorem f199_49 : fch 199 49 = some (.if_icmp .ne 58, 52, []) := by decide +kernel
theorem f199_52 : fch 199 52 = some (.sipush 5, 55, []) := by decide +kernel
theorem f199_55 : fch 199 55 = some (.goto 59, 58, []) := by decide +kernel
theorem f199_58 : fch 199 58 = some (.sipush 0, 59, []) := by decide +kernel
theorem f199_59 : fch 199 59 = some (.invokestatic 152, 62, []) := by decide +kernel
theorem f199_62 : fch 199 62 = some (.ifCond .ne 68, 65, []) := by decide +kernel
theorem f199_65 : fch 199 65 = some (.iconst (-2), 67, [0, 1, 2, 3]) := by decide +kernel
theorem f199_67 : fch 199 67 = some (.ireturn, 68, []) := by decide +kernel
theorem f199_68 : fch 199 68 = some (.aload 0, 69, []) := by decide +kernel
theorem f199_69 : fch 199 69 = some (.invokeinterface 9 19, 72, []) := by decide +kernel
theorem f199_72 : fch 199 72 = some (.istore 4, 74, []) := by decide +kernel
theorem f199_74 : fch 199 74 = some (.aload 0, 75, []) := by decide +kernel
theorem f199_75 : fch 199 75 = some (.iload 1, 76, []) := by decide +kernel
theorem f199_76 : fch 199 76 = some (.multianewarray 9 19, 79, []) := by decide +kernel
theorem f199_79 : fch 199 79 = some (.aload 0, 80, []) := by decide +kernel
theorem f199_80 : fch 199 80 = some (.iload 2, 81, []) := by decide +kernel
theorem f199_81 : fch 199 81 = some (.multianewarray 9 20, 84, []) := by decide +kernel
theorem f199_84 : fch 199 84 = some (.aload 0, 85, []) := by decide +kernel
theorem f199_85 : fch 199 85 = some (.iload 3, 86, []) := by decide +kernel
theorem f199_86 : fch 199 86 = some (.multianewarray 9 21, 89, []) := by decide +kernel
theorem f199_89 : fch 199 89 = some (.iload 4, 91, []) := by decide +kernel
theorem f199_91 : fch 199 91 = some (.ireturn, 92, []) := by decide +kernel
set_option maxRecDepth 10000 in
theorem e199_0 (l0 l1 l2 l3 : Int) (s : SG) : sem 199 0 [aA l0, aI l1, aI l2, aI l3, aU] [] s = bnI (sem 152 0 [aL l1, aU, aL 0, aU, aL 60, aU] [] s) fun a2 s1 => if a2 = 0 then some (aI ((-2)), s1) else bnI (sem 152 0 [aL l2, aU, aL 0, aU, aL 2, aU] [] s1) fun a4 s3 => if a4 = 0 then some (aI ((-2)), s3) else if l2 = 1 then bnI (sem 152 0 [aL l3, aU, aL 1, aU, aL 20, aU] [] s3) fun a6 s5 => if a6 = 0 then some (aI ((-2)), s5) else grd (kd l0 = 9) (grd (kd l0 = 9) (grd (kd l0 = 9) (grd (kd l0 = 9) (some (aI (s5 l0 19), up (up (up s5 l0 19 l1) l0 20 l2) l0 21 l3))))) else bnI (sem 152 0 [aL l3, aU, aL 0, aU, aL (if l2 = 2 then 5 else 0), aU] [] s3) fun a8 s7 => if a8 = 0 then some (aI ((-2)), s7) else grd (kd l0 = 9) (grd (kd l0 = 9) (grd (kd l0 = 9) (grd (kd l0 = 9) (some (aI (s7 l0 19), up (up (up s7 l0 19 l1) l0 20 l2) l0 21 l3))))) := by
  refine (x_iload f199_0 rfl rfl).trans ?_
  refine (x_i2l f199_1 rfl).trans ?_
  refine (x_lconst f199_2 rfl).trans ?_
  refine (x_lconst f199_3 rfl).trans ?_
  refine (x_invokestatic (G := bnI (sem 152 0 [aL l1, aU, aL 0, aU, aL 60, aU] [] s) fun a2 s1 => sem 199 9 [aA l0, aI l1, aI l2, aI l3, aU] [aI a2] s1) f199_6 rfl rfl).trans ?_
  refine bI_c fun a2 s1 => ?_
  refine (x_if_eq (tg := 65) f199_9 rfl rfl).trans (i_c ?_ ?_)
  · refine (x_kil (l2 := [aU, aU, aU, aU, aU]) f199_65 rfl).trans ?_
    refine (x_iconst f199_65 rfl).trans ?_
    exact x_ireturn f199_67 rfl
  · refine (x_iload f199_12 rfl rfl).trans ?_
    refine (x_i2l f199_13 rfl).trans ?_
    refine (x_lconst f199_14 rfl).trans ?_
    refine (x_lconst f199_15 rfl).trans ?_
    refine (x_invokestatic (G := bnI (sem 152 0 [aL l2, aU, aL 0, aU, aL 2, aU] [] s1) fun a4 s3 => sem 199 21 [aA l0, aI l1, aI l2, aI l3, aU] [aI a4] s3) f199_18 rfl rfl).trans ?_
    refine bI_c fun a4 s3 => ?_
    refine (x_if_eq (tg := 65) f199_21 rfl rfl).trans (i_c ?_ ?_)
    · refine (x_kil (l2 := [aU, aU, aU, aU, aU]) f199_65 rfl).trans ?_
      refine (x_iconst f199_65 rfl).trans ?_
      exact x_ireturn f199_67 rfl
    · refine (x_iload f199_24 rfl rfl).trans ?_
      refine (x_iconst f199_25 rfl).trans ?_
      refine (x_icmp_ne (tg := 44) f199_26 rfl rfl).trans (i_c ?_ ?_)
      · refine (x_iload f199_29 rfl rfl).trans ?_
        refine (x_i2l f199_30 rfl).trans ?_
        refine (x_lconst f199_31 rfl).trans ?_
        refine (x_lconst f199_32 rfl).trans ?_
        refine (x_invokestatic (G := bnI (sem 152 0 [aL l3, aU, aL 1, aU, aL 20, aU] [] s3) fun a6 s5 => sem 199 38 [aA l0, aI l1, aI l2, aI l3, aU] [aI a6] s5) f199_35 rfl rfl).trans ?_
        refine bI_c fun a6 s5 => ?_
        refine (x_if_eq (tg := 65) f199_38 rfl rfl).trans (i_c ?_ ?_)
        · refine (x_kil (l2 := [aU, aU, aU, aU, aU]) f199_65 rfl).trans ?_
          refine (x_iconst f199_65 rfl).trans ?_
          exact x_ireturn f199_67 rfl
        · refine (x_goto (tg := 68) f199_41 rfl rfl).trans ?_
          refine (x_aload f199_68 rfl rfl).trans ?_
          refine (x_get0 f199_69 rfl rfl).trans ?_
          refine g_c ?_
          refine (x_istore (l2 := [aA l0, aI l1, aI l2, aI l3, aI (s5 l0 19)]) f199_72 rfl rfl).trans ?_
          refine (x_aload f199_74 rfl rfl).trans ?_
          refine (x_iload f199_75 rfl rfl).trans ?_
          refine (x_put0 f199_76 rfl rfl).trans ?_
          refine g_c ?_
          refine (x_aload f199_79 rfl rfl).trans ?_
          refine (x_iload f199_80 rfl rfl).trans ?_
          refine (x_put0 f199_81 rfl rfl).trans ?_
          refine g_c ?_
          refine (x_aload f199_84 rfl rfl).trans ?_
          refine (x_iload f199_85 rfl rfl).trans ?_
          refine (x_put0 f199_86 rfl rfl).trans ?_
          refine g_c ?_
          refine (x_iload f199_89 rfl rfl).trans ?_
          exact x_ireturn f199_91 rfl
      · refine (x_iload f199_44 rfl rfl).trans ?_
        refine (x_i2l f199_45 rfl).trans ?_
        refine (x_lconst f199_46 rfl).trans ?_
        refine (x_iload f199_47 rfl rfl).trans ?_
        refine (x_iconst f199_48 rfl).trans ?_
        refine (x_icmp_ne (tg := 58) f199_49 rfl rfl).trans ?_
        refine Eq.trans (b := if l2 = 2 then sem 199 59 [aA l0, aI l1, aI l2, aI l3, aU] [aL 5, aL 0, aL l3] s3 else sem 199 59 [aA l0, aI l1, aI l2, aI l3, aU] [aL 0, aL 0, aL l3] s3) (i_c ?_ ?_) ?_
        · refine (x_lconst f199_52 rfl).trans ?_
          refine (x_goto (tg := 59) f199_55 rfl rfl).trans ?_
          rfl
        · refine (x_lconst f199_58 rfl).trans ?_
          rfl
        refine m_L.trans ?_
        refine (x_invokestatic (G := bnI (sem 152 0 [aL l3, aU, aL 0, aU, aL (if l2 = 2 then 5 else 0), aU] [] s3) fun a8 s7 => sem 199 62 [aA l0, aI l1, aI l2, aI l3, aU] [aI a8] s7) f199_59 rfl rfl).trans ?_
        refine bI_c fun a8 s7 => ?_
        refine (x_if_ne (tg := 68) f199_62 rfl rfl).trans (i_c ?_ ?_)
        · refine (x_kil (l2 := [aU, aU, aU, aU, aU]) f199_65 rfl).trans ?_
          refine (x_iconst f199_65 rfl).trans ?_
          exact x_ireturn f199_67 rfl
        · refine (x_aload f199_68 rfl rfl).trans ?_
          refine (x_get0 f199_69 rfl rfl).trans ?_
          refine g_c ?_
          refine (x_istore (l2 := [aA l0, aI l1, aI l2, aI l3, aI (s7 l0 19)]) f199_72 rfl rfl).trans ?_
          refine (x_aload f199_74 rfl rfl).trans ?_
          refine (x_iload f199_75 rfl rfl).trans ?_
          refine (x_put0 f199_76 rfl rfl).trans ?_
          refine g_c ?_
          refine (x_aload f199_79 rfl rfl).trans ?_
          refine (x_iload f199_80 rfl rfl).trans ?_
          refine (x_put0 f199_81 rfl rfl).trans ?_
          refine g_c ?_
          refine (x_aload f199_84 rfl rfl).trans ?_
          refine (x_iload f199_85 rfl rfl).trans ?_
          refine (x_put0 f199_86 rfl rfl).trans ?_
          refine g_c ?_
          refine (x_iload f199_89 rfl rfl).trans ?_
          exact x_ireturn f199_91 rfl
theorem f200_0 : fch 200 0 = some (.iload 1, 1, []) := by decide +kernel
theorem f200_1 : fch 200 1 = some (.invokestatic 195, 4, []) := by decide +kernel
theorem f200_4 : fch 200 4 = some (.ifCond .eq 15, 7, []) := by decide +kernel
theorem f200_7 : fch 200 7 = some (.aload 0, 8, []) := by decide +kernel
theorem f200_8 : fch 200 8 = some (.iload 2, 9, []) := by decide +kernel
theorem f200_9 : fch 200 9 = some (.invokevirtual 163, 12, []) := by decide +kernel
theorem f200_12 : fch 200 12 = some (.ifCond .ne 17, 15, []) := by decide +kernel
theorem f200_15 : fch 200 15 = some (.iconst (-1), 16, [0, 1, 2, 3]) := by decide +kernel
theorem f200_16 : fch 200 16 = some (.ireturn, 17, []) := by decide +kernel
theorem f200_17 : fch 200 17 = some (.iload 3, 18, []) := by decide +kernel
theorem f200_18 : fch 200 18 = some (.i2l, 19, []) := by decide +kernel
theorem f200_19 : fch 200 19 = some (.sipush 1, 20, []) := by decide +kernel
theorem f200_20 : fch 200 20 = some (.sipush 20, 23, []) := by decide +kernel
theorem f200_23 : fch 200 23 = some (.invokestatic 152, 26, []) := by decide +kernel
theorem f200_26 : fch 200 26 = some (.ifCond .ne 32, 29, []) := by decide +kernel
theorem f200_29 : fch 200 29 = some (.iconst (-2), 31, []) := by decide +kernel
theorem f200_31 : fch 200 31 = some (.ireturn, 32, []) := by decide +kernel
theorem f200_32 : fch 200 32 = some (.aload 0, 33, []) := by decide +kernel
theorem f200_33 : fch 200 33 = some (.invokeinterface 9 22, 36, []) := by decide +kernel
theorem f200_36 : fch 200 36 = some (.iconst 6, 38, []) := by decide +kernel
theorem f200_38 : fch 200 38 = some (.if_icmp .ne 44, 41, []) := by decide +kernel
theorem f200_41 : fch 200 41 = some (.iconst (-4), 43, []) := by decide +kernel
theorem f200_43 : fch 200 43 = some (.ireturn, 44, []) := by decide +kernel
theorem f200_44 : fch 200 44 = some (.aload 0, 45, []) := by decide +kernel
theorem f200_45 : fch 200 45 = some (.invokeinterface 9 23, 48, []) := by decide +kernel
theorem f200_48 : fch 200 48 = some (.aload 0, 49, []) := by decide +kernel
theorem f200_49 : fch 200 49 = some (.invokeinterface 9 22, 52, []) := by decide +kernel
theorem f200_52 : fch 200 52 = some (.iload 1, 53, []) := by decide +kernel
theorem f200_53 : fch 200 53 = some (.iastore, 54, []) := by decide +kernel
theorem f200_54 : fch 200 54 = some (.aload 0, 55, []) := by decide +kernel
theorem f200_55 : fch 200 55 = some (.invokeinterface 9 24, 58, []) := by decide +kernel
theorem f200_58 : fch 200 58 = some (.aload 0, 59, []) := by decide +kernel
theorem f200_59 : fch 200 59 = some (.invokeinterface 9 22, 62, []) := by decide +kernel
theorem f200_62 : fch 200 62 = some (.iload 2, 63, []) := by decide +kernel
theorem f200_63 : fch 200 63 = some (.iastore, 64, []) := by decide +kernel
theorem f200_64 : fch 200 64 = some (.aload 0, 65, []) := by decide +kernel
theorem f200_65 : fch 200 65 = some (.invokeinterface 9 25, 68, []) := by decide +kernel
theorem f200_68 : fch 200 68 = some (.aload 0, 69, []) := by decide +kernel
theorem f200_69 : fch 200 69 = some (.invokeinterface 9 22, 72, []) := by decide +kernel
theorem f200_72 : fch 200 72 = some (.iload 3, 73, []) := by decide +kernel
theorem f200_73 : fch 200 73 = some (.iastore, 74, []) := by decide +kernel
theorem f200_74 : fch 200 74 = some (.aload 0, 75, []) := by decide +kernel
theorem f200_75 : fch 200 75 = some (.dup, 76, []) := by decide +kernel
theorem f200_76 : fch 200 76 = some (.invokeinterface 9 22, 79, []) := by decide +kernel
theorem f200_79 : fch 200 79 = some (.iconst 1, 80, []) := by decide +kernel
theorem f200_80 : fch 200 80 = some (.iadd, 81, []) := by decide +kernel
theorem f200_81 : fch 200 81 = some (.multianewarray 9 22, 84, []) := by decide +kernel
theorem f200_84 : fch 200 84 = some (.aload 0, 85, []) := by decide +kernel
theorem f200_85 : fch 200 85 = some (.invokeinterface 9 22, 88, []) := by decide +kernel
theorem f200_88 : fch 200 88 = some (.iconst 1, 89, []) := by decide +kernel
theorem f200_89 : fch 200 89 = some (.isub, 90, []) := by decide +kernel
theorem f200_90 : fch 200 90 = some (.ireturn, 91, []) := by decide +kernel
set_option maxRecDepth 10000 in
theorem e200_0 (l0 l1 l2 l3 : Int) (s : SG) : sem 200 0 [aA l0, aI l1, aI l2, aI l3] [] s = bnI (sem 195 0 [aI l1] [] s) fun a2 s1 => if a2 = 0 then some (aI ((-1)), s1) else grd (kd l0 = 9) (bnI (sem 163 0 [aA l0, aI l2] [] s1) fun a4 s3 => if a4 = 0 then some (aI ((-1)), s3) else bnI (sem 152 0 [aL l3, aU, aL 1, aU, aL 20, aU] [] s3) fun a6 s5 => if a6 = 0 then some (aI ((-2)), s5) else grd (kd l0 = 9) (if (s5 l0 22) = 6 then some (aI ((-4)), s5) else grd (kd l0 = 9) (grd (0 ≤ s5 l0 23) (grd (kd l0 = 9) (grd (kd (s5 l0 23) = 101) (grd ((0 : Int) ≤ (s5 l0 22) ∧ (s5 l0 22) < kl (s5 l0 23)) (grd (kd l0 = 9) (grd (0 ≤ (up s5 (s5 l0 23) (s5 l0 22) l1) l0 24) (grd (kd l0 = 9) (grd (kd ((up s5 (s5 l0 23) (s5 l0 22) l1) l0 24) = 101) (grd ((0 : Int) ≤ ((up s5 (s5 l0 23) (s5 l0 22) l1) l0 22) ∧ ((up s5 (s5 l0 23) (s5 l0 22) l1) l0 22) < kl ((up s5 (s5 l0 23) (s5 l0 22) l1) l0 24)) (grd (kd l0 = 9) (grd (0 ≤ (up (up s5 (s5 l0 23) (s5 l0 22) l1) ((up s5 (s5 l0 23) (s5 l0 22) l1) l0 24) ((up s5 (s5 l0 23) (s5 l0 22) l1) l0 22) l2) l0 25) (grd (kd l0 = 9) (grd (kd ((up (up s5 (s5 l0 23) (s5 l0 22) l1) ((up s5 (s5 l0 23) (s5 l0 22) l1) l0 24) ((up s5 (s5 l0 23) (s5 l0 22) l1) l0 22) l2) l0 25) = 101) (grd ((0 : Int) ≤ ((up (up s5 (s5 l0 23) (s5 l0 22) l1) ((up s5 (s5 l0 23) (s5 l0 22) l1) l0 24) ((up s5 (s5 l0 23) (s5 l0 22) l1) l0 22) l2) l0 22) ∧ ((up (up s5 (s5 l0 23) (s5 l0 22) l1) ((up s5 (s5 l0 23) (s5 l0 22) l1) l0 24) ((up s5 (s5 l0 23) (s5 l0 22) l1) l0 22) l2) l0 22) < kl ((up (up s5 (s5 l0 23) (s5 l0 22) l1) ((up s5 (s5 l0 23) (s5 l0 22) l1) l0 24) ((up s5 (s5 l0 23) (s5 l0 22) l1) l0 22) l2) l0 25)) (sem 200 74 [aA l0, aI l1, aI l2, aI l3] [] (up (up (up s5 (s5 l0 23) (s5 l0 22) l1) ((up s5 (s5 l0 23) (s5 l0 22) l1) l0 24) ((up s5 (s5 l0 23) (s5 l0 22) l1) l0 22) l2) ((up (up s5 (s5 l0 23) (s5 l0 22) l1) ((up s5 (s5 l0 23) (s5 l0 22) l1) l0 24) ((up s5 (s5 l0 23) (s5 l0 22) l1) l0 22) l2) l0 25) ((up (up s5 (s5 l0 23) (s5 l0 22) l1) ((up s5 (s5 l0 23) (s5 l0 22) l1) l0 24) ((up s5 (s5 l0 23) (s5 l0 22) l1) l0 22) l2) l0 22) l3)))))))))))))))))) := by
  refine (x_iload f200_0 rfl rfl).trans ?_
  refine (x_invokestatic (G := bnI (sem 195 0 [aI l1] [] s) fun a2 s1 => sem 200 4 [aA l0, aI l1, aI l2, aI l3] [aI a2] s1) f200_1 rfl rfl).trans ?_
  refine bI_c fun a2 s1 => ?_
  refine (x_if_eq (tg := 15) f200_4 rfl rfl).trans (i_c ?_ ?_)
  · refine (x_kil (l2 := [aU, aU, aU, aU]) f200_15 rfl).trans ?_
    refine (x_iconst f200_15 rfl).trans ?_
    exact x_ireturn f200_16 rfl
  · refine (x_aload f200_7 rfl rfl).trans ?_
    refine (x_iload f200_8 rfl rfl).trans ?_
    refine (x_invokevirtual (G := grd (kd l0 = 9) (bnI (sem 163 0 [aA l0, aI l2] [] s1) fun a4 s3 => sem 200 12 [aA l0, aI l1, aI l2, aI l3] [aI a4] s3)) f200_9 rfl rfl).trans ?_
    refine g_c ?_
    refine bI_c fun a4 s3 => ?_
    refine (x_if_ne (tg := 17) f200_12 rfl rfl).trans (i_c ?_ ?_)
    · refine (x_kil (l2 := [aU, aU, aU, aU]) f200_15 rfl).trans ?_
      refine (x_iconst f200_15 rfl).trans ?_
      exact x_ireturn f200_16 rfl
    · refine (x_iload f200_17 rfl rfl).trans ?_
      refine (x_i2l f200_18 rfl).trans ?_
      refine (x_lconst f200_19 rfl).trans ?_
      refine (x_lconst f200_20 rfl).trans ?_
      refine (x_invokestatic (G := bnI (sem 152 0 [aL l3, aU, aL 1, aU, aL 20, aU] [] s3) fun a6 s5 => sem 200 26 [aA l0, aI l1, aI l2, aI l3] [aI a6] s5) f200_23 rfl rfl).trans ?_
      refine bI_c fun a6 s5 => ?_
      refine (x_if_ne (tg := 32) f200_26 rfl rfl).trans (i_c ?_ ?_)
      · refine (x_iconst f200_29 rfl).trans ?_
        exact x_ireturn f200_31 rfl
      · refine (x_aload f200_32 rfl rfl).trans ?_
        refine (x_get0 f200_33 rfl rfl).trans ?_
        refine g_c ?_
        refine (x_iconst f200_36 rfl).trans ?_
        refine (x_icmp_ne (tg := 44) f200_38 rfl rfl).trans (i_c ?_ ?_)
        · refine (x_iconst f200_41 rfl).trans ?_
          exact x_ireturn f200_43 rfl
        · refine (x_aload f200_44 rfl rfl).trans ?_
          refine (x_get2 f200_45 rfl rfl).trans ?_
          refine g_c ?_
          refine g_c ?_
          refine (x_aload f200_48 rfl rfl).trans ?_
          refine (x_get0 f200_49 rfl rfl).trans ?_
          refine g_c ?_
          refine (x_iload f200_52 rfl rfl).trans ?_
          refine (x_iastore f200_53 rfl).trans ?_
          refine g_c ?_
          refine g_c ?_
          refine (x_aload f200_54 rfl rfl).trans ?_
          refine (x_get2 f200_55 rfl rfl).trans ?_
          refine g_c ?_
          refine g_c ?_
          refine (x_aload f200_58 rfl rfl).trans ?_
          refine (x_get0 f200_59 rfl rfl).trans ?_
          refine g_c ?_
          refine (x_iload f200_62 rfl rfl).trans ?_
          refine (x_iastore f200_63 rfl).trans ?_
          refine g_c ?_
          refine g_c ?_
          refine (x_aload f200_64 rfl rfl).trans ?_
          refine (x_get2 f200_65 rfl rfl).trans ?_
          refine g_c ?_
          refine g_c ?_
          refine (x_aload f200_68 rfl rfl).trans ?_
          refine (x_get0 f200_69 rfl rfl).trans ?_
          refine g_c ?_
          refine (x_iload f200_72 rfl rfl).trans ?_
          refine (x_iastore f200_73 rfl).trans ?_
          refine g_c ?_
          refine g_c ?_
          rfl
set_option maxRecDepth 10000 in
theorem e200_74 (l0 l1 l2 l3 : Int) (s : SG) : sem 200 74 [aA l0, aI l1, aI l2, aI l3] [] s = grd (kd l0 = 9) (grd (kd l0 = 9) (grd (kd l0 = 9) (some (aI (w32 (((up s l0 22 (w32 ((s l0 22) + 1))) l0 22) - 1)), up s l0 22 (w32 ((s l0 22) + 1)))))) := by
  refine (x_aload f200_74 rfl rfl).trans ?_
  refine (x_dup f200_75 rfl rfl).trans ?_
  refine (x_get0 f200_76 rfl rfl).trans ?_
  refine g_c ?_
  refine (x_iconst f200_79 rfl).trans ?_
  refine (x_iadd f200_80 rfl).trans ?_
  refine (x_put0 f200_81 rfl rfl).trans ?_
  refine g_c ?_
  refine (x_aload f200_84 rfl rfl).trans ?_
  refine (x_get0 f200_85 rfl rfl).trans ?_
  refine g_c ?_
  refine (x_iconst f200_88 rfl).trans ?_
  refine (x_isub f200_89 rfl).trans ?_
  exact x_ireturn f200_90 rfl
theorem f201_0 : fch 201 0 = some (.aload 0, 1, []) := by decide +kernel
theorem f201_1 : fch 201 1 = some (.invokeinterface 9 22, 4, []) := by decide +kernel
theorem f201_4 : fch 201 4 = some (.istore 1, 5, []) := by decide +kernel
theorem f201_5 : fch 201 5 = some (.aload 0, 6, []) := by decide +kernel
theorem f201_6 : fch 201 6 = some (.iconst 0, 7, []) := by decide +kernel
theorem f201_7 : fch 201 7 = some (.multianewarray 9 22, 10, []) := by decide +kernel
theorem f201_10 : fch 201 10 = some (.iload 1, 11, []) := by decide +kernel
theorem f201_11 : fch 201 11 = some (.ireturn, 12, []) := by decide +kernel
set_option maxRecDepth 10000 in
theorem e201_0 (l0 : Int) (s : SG) : sem 201 0 [aA l0, aU] [] s = grd (kd l0 = 9) (grd (kd l0 = 9) (some (aI (s l0 22), up s l0 22 0))) := by
  refine (x_aload f201_0 rfl rfl).trans ?_
  refine (x_get0 f201_1 rfl rfl).trans ?_
  refine g_c ?_
  refine (x_istore (l2 := [aA l0, aI (s l0 22)]) f201_4 rfl rfl).trans ?_
  refine (x_aload f201_5 rfl rfl).trans ?_
  refine (x_iconst f201_6 rfl).trans ?_
  refine (x_put0 f201_7 rfl rfl).trans ?_
  refine g_c ?_
  refine (x_iload f201_10 rfl rfl).trans ?_
  exact x_ireturn f201_11 rfl
theorem f202_0 : fch 202 0 = some (.iload 2, 1, []) := by decide +kernel
theorem f202_1 : fch 202 1 = some (.aload 0, 2, []) := by decide +kernel
theorem f202_2 : fch 202 2 = some (.invokeinterface 9 33, 5, []) := by decide +kernel
theorem f202_5 : fch 202 5 = some (.invokestatic 188, 8, []) := by decide +kernel
theorem f202_8 : fch 202 8 = some (.istore 3, 9, []) := by decide +kernel
theorem f202_9 : fch 202 9 = some (.aload 0, 10, []) := by decide +kernel
theorem f202_10 : fch 202 10 = some (.invokeinterface 9 30, 13, []) := by decide +kernel
theorem f202_13 : fch 202 13 = some (.iload 1, 14, []) := by decide +kernel
theorem f202_14 : fch 202 14 = some (.dup2, 15, []) := by decide +kernel
theorem f202_15 : fch 202 15 = some (.iaload, 16, []) := by decide +kernel
theorem f202_16 : fch 202 16 = some (.iload 3, 17, []) := by decide +kernel
theorem f202_17 : fch 202 17 = some (.iadd, 18, []) := by decide +kernel
theorem f202_18 : fch 202 18 = some (.iastore, 19, []) := by decide +kernel
theorem f202_19 : fch 202 19 = some (.aload 0, 20, []) := by decide +kernel
theorem f202_20 : fch 202 20 = some (.dup, 21, []) := by decide +kernel
theorem f202_21 : fch 202 21 = some (.invokeinterface 9 33, 24, []) := by decide +kernel
theorem f202_24 : fch 202 24 = some (.iload 3, 25, []) := by decide +kernel
theorem f202_25 : fch 202 25 = some (.isub, 26, []) := by decide +kernel
theorem f202_26 : fch 202 26 = some (.multianewarray 9 33, 29, []) := by decide +kernel
theorem f202_29 : fch 202 29 = some (.return_, 30, []) := by decide +kernel
set_option maxRecDepth 10000 in
theorem e202_0 (l0 l1 l2 : Int) (s : SG) : sem 202 0 [aA l0, aI l1, aI l2, aU] [] s = grd (kd l0 = 9) (bnI (sem 188 0 [aI l2, aI (s l0 33)] [] s) fun a2 s1 => grd (kd l0 = 9) (grd (0 ≤ s1 l0 30) (grd (kd (s1 l0 30) = 101) (grd ((0 : Int) ≤ l1 ∧ l1 < kl (s1 l0 30)) (grd (kd (s1 l0 30) = 101) (grd ((0 : Int) ≤ l1 ∧ l1 < kl (s1 l0 30)) (grd (kd l0 = 9) (grd (kd l0 = 9) (some (aU, up (up s1 (s1 l0 30) l1 (w32 ((s1 (s1 l0 30) l1) + a2))) l0 33 (w32 (((up s1 (s1 l0 30) l1 (w32 ((s1 (s1 l0 30) l1) + a2))) l0 33) - a2)))))))))))) := by
  refine (x_iload f202_0 rfl rfl).trans ?_
  refine (x_aload f202_1 rfl rfl).trans ?_
  refine (x_get0 f202_2 rfl rfl).trans ?_
  refine g_c ?_
  refine (x_invokestatic (G := bnI (sem 188 0 [aI l2, aI (s l0 33)] [] s) fun a2 s1 => sem 202 8 [aA l0, aI l1, aI l2, aU] [aI a2] s1) f202_5 rfl rfl).trans ?_
  refine bI_c fun a2 s1 => ?_
  refine (x_istore (l2 := [aA l0, aI l1, aI l2, aI a2]) f202_8 rfl rfl).trans ?_
  refine (x_aload f202_9 rfl rfl).trans ?_
  refine (x_get2 f202_10 rfl rfl).trans ?_
  refine g_c ?_
  refine g_c ?_
  refine (x_iload f202_13 rfl rfl).trans ?_
  refine (x_dup2 f202_14 rfl rfl).trans ?_
  refine (x_iaload f202_15 rfl).trans ?_
  refine g_c ?_
  refine g_c ?_
  refine (x_iload f202_16 rfl rfl).trans ?_
  refine (x_iadd f202_17 rfl).trans ?_
  refine (x_iastore f202_18 rfl).trans ?_
  refine g_c ?_
  refine g_c ?_
  refine (x_aload f202_19 rfl rfl).trans ?_
  refine (x_dup f202_20 rfl rfl).trans ?_
  refine (x_get0 f202_21 rfl rfl).trans ?_
  refine g_c ?_
  refine (x_iload f202_24 rfl rfl).trans ?_
  refine (x_isub f202_25 rfl).trans ?_
  refine (x_put0 f202_26 rfl rfl).trans ?_
  refine g_c ?_
  exact x_return f202_29 rfl
theorem f203_0 : fch 203 0 = some (.iconst 0, 1, []) := by decide +kernel
theorem f203_1 : fch 203 1 = some (.istore 2, 2, []) := by decide +kernel
theorem f203_2 : fch 203 2 = some (.iload 2, 3, []) := by decide +kernel
theorem f203_3 : fch 203 3 = some (.aload 0, 4, []) := by decide +kernel
theorem f203_4 : fch 203 4 = some (.invokeinterface 9 22, 7, []) := by decide +kernel
theorem f203_7 : fch 203 7 = some (.if_icmp .ge 42, 10, []) := by decide +kernel
theorem f203_10 : fch 203 10 = some (.aload 0, 11, []) := by decide +kernel
theorem f203_11 : fch 203 11 = some (.invokeinterface 9 23, 14, []) := by decide +kernel
theorem f203_14 : fch 203 14 = some (.iload 2, 15, []) := by decide +kernel
theorem f203_15 : fch 203 15 = some (.iaload, 16, []) := by decide +kernel
theorem f203_16 : fch 203 16 = some (.iload 1, 17, []) := by decide +kernel
theorem f203_17 : fch 203 17 = some (.if_icmp .ne 36, 20, []) := by decide +kernel
theorem f203_20 : fch 203 20 = some (.aload 0, 21, []) := by decide +kernel
theorem f203_21 : fch 203 21 = some (.aload 0, 22, []) := by decide +kernel
theorem f203_22 : fch 203 22 = some (.invokeinterface 9 24, 25, []) := by decide +kernel
theorem f203_25 : fch 203 25 = some (.iload 2, 26, []) := by decide +kernel
theorem f203_26 : fch 203 26 = some (.iaload, 27, []) := by decide +kernel
theorem f203_27 : fch 203 27 = some (.aload 0, 28, []) := by decide +kernel
theorem f203_28 : fch 203 28 = some (.invokeinterface 9 25, 31, []) := by decide +kernel
theorem f203_31 : fch 203 31 = some (.iload 2, 32, []) := by decide +kernel
theorem f203_32 : fch 203 32 = some (.iaload, 33, []) := by decide +kernel
theorem f203_33 : fch 203 33 = some (.invokevirtual 202, 36, []) := by decide +kernel
theorem f203_36 : fch 203 36 = some (.iinc 2 1, 39, []) := by decide +kernel
theorem f203_39 : fch 203 39 = some (.goto 2, 42, []) := by decide +kernel
theorem f203_42 : fch 203 42 = some (.iconst 0, 43, []) := by decide +kernel
theorem f203_43 : fch 203 43 = some (.istore 2, 44, []) := by decide +kernel
theorem f203_44 : fch 203 44 = some (.iload 2, 45, []) := by decide +kernel
theorem f203_45 : fch 203 45 = some (.aload 0, 46, []) := by decide +kernel
theorem f203_46 : fch 203 46 = some (.invokeinterface 9 1, 49, []) := by decide +kernel
theorem f203_49 : fch 203 49 = some (.iconst 0, 50, []) := by decide +kernel
theorem f203_50 : fch 203 50 = some (.iaload, 51, []) := by decide +kernel
theorem f203_51 : fch 203 51 = some (.if_icmp .ge 90, 54, []) := by decide +kernel
theorem f203_54 : fch 203 54 = some (.aload 0, 55, []) := by decide +kernel
theorem f203_55 : fch 203 55 = some (.invokeinterface 9 20, 58, []) := by decide +kernel
theorem f203_58 : fch 203 58 = some (.iconst 1, 59, []) := by decide +kernel
theorem f203_59 : fch 203 59 = some (.if_icmp .ne 90, 62, []) := by decide +kernel
theorem f203_62 : fch 203 62 = some (.iload 1, 63, []) := by decide +kernel
theorem f203_63 : fch 203 63 = some (.ifCond .le 90, 66, []) := by decide +kernel
theorem f203_66 : fch 203 66 = some (.aload 0, 67, []) := by decide +kernel
theorem f203_67 : fch 203 67 = some (.invokeinterface 9 30, 70, []) := by decide +kernel
theorem f203_70 : fch 203 70 = some (.iload 2, 71, []) := by decide +kernel
theorem f203_71 : fch 203 71 = some (.iaload, 72, []) := by decide +kernel
theorem f203_72 : fch 203 72 = some (.ifCond .ne 84, 75, []) := by decide +kernel
theorem f203_75 : fch 203 75 = some (.aload 0, 76, []) := by decide +kernel
theorem f203_76 : fch 203 76 = some (.iload 2, 77, []) := by decide +kernel
theorem f203_77 : fch 203 77 = some (.aload 0, 78, []) := by decide +kernel
theorem f203_78 : fch 203 78 = some (.invokeinterface 9 21, 81, []) := by decide +kernel
theorem f203_81 : fch 203 81 = some (.invokevirtual 202, 84, []) := by decide +kernel
theorem f203_84 : fch 203 84 = some (.iinc 2 1, 87, []) := by decide +kernel
theorem f203_87 : fch 203 87 = some (.goto 44, 90, []) := by decide +kernel
theorem f203_90 : fch 203 90 = some (.iconst 0, 91, [2]) := by decide +kernel
theorem f203_91 : fch 203 91 = some (.istore 2, 92, []) := by decide +kernel
theorem f203_92 : fch 203 92 = some (.aload 0, 93, []) := by decide +kernel
theorem f203_93 : fch 203 93 = some (.invokeinterface 9 20, 96, []) := by decide +kernel
theorem f203_96 : fch 203 96 = some (.iconst 2, 97, []) := by decide +kernel
theorem f203_97 : fch 203 97 = some (.if_icmp .ne 135, 100, []) := by decide +kernel
theorem f203_100 : fch 203 100 = some (.iload 1, 101, []) := by decide +kernel
theorem f203_101 : fch 203 101 = some (.aload 0, 102, []) := by decide +kernel
theorem f203_102 : fch 203 102 = some (.invokeinterface 9 21, 105, []) := by decide +kernel
theorem f203_105 : fch 203 105 = some (.if_icmp .ne 135, 108, []) := by decide +kernel
theorem f203_108 : fch 203 108 = some (.aload 0, 109, []) := by decide +kernel
theorem f203_109 : fch 203 109 = some (.invokeinterface 9 33, 112, []) := by decide +kernel
theorem f203_112 : fch 203 112 = some (.ifCond .le 135, 115, []) := by decide +kernel
theorem f203_115 : fch 203 115 = some (.aload 0, 116, []) := by decide +kernel
theorem f203_116 : fch 203 116 = some (.iload 2, 117, []) := by decide +kernel
theorem f203_117 : fch 203 117 = some (.iconst 1, 118, []) := by decide +kernel
theorem f203_118 : fch 203 118 = some (.invokevirtual 202, 121, []) := by decide +kernel
theorem f203_121 : fch 203 121 = some (.iload 2, 122, []) := by decide +kernel
theorem f203_122 : fch 203 122 = some (.iconst 1, 123, []) := by decide +kernel
theorem f203_123 : fch 203 123 = some (.iadd, 124, []) := by decide +kernel
theorem f203_124 : fch 203 124 = some (.aload 0, 125, []) := by decide +kernel
theorem f203_125 : fch 203 125 = some (.invokeinterface 9 1, 128, []) := by decide +kernel
theorem f203_128 : fch 203 128 = some (.iconst 0, 129, []) := by decide +kernel
theorem f203_129 : fch 203 129 = some (.iaload, 130, []) := by decide +kernel
theorem f203_130 : fch 203 130 = some (.irem, 131, []) := by decide +kernel
theorem f203_131 : fch 203 131 = some (.istore 2, 132, []) := by decide +kernel
theorem f203_132 : fch 203 132 = some (.goto 92, 135, []) := by decide +kernel
theorem f203_135 : fch 203 135 = some (.return_, 136, [0, 1, 2]) := by decide +kernel
set_option maxRecDepth 10000 in
theorem e203_0 (l0 l1 : Int) (s : SG) : sem 203 0 [aA l0, aI l1, aU] [] s = sem 203 2 [aA l0, aI l1, aI 0] [] s := by
  refine (x_iconst f203_0 rfl).trans ?_
  refine (x_istore (l2 := [aA l0, aI l1, aI 0]) f203_1 rfl rfl).trans ?_
  rfl
set_option maxRecDepth 10000 in
theorem e203_2 (l0 l1 l2 : Int) (s : SG) : sem 203 2 [aA l0, aI l1, aI l2] [] s = grd (kd l0 = 9) (if l2 < (s l0 22) then grd (kd l0 = 9) (grd (0 ≤ s l0 23) (grd (kd (s l0 23) = 101) (grd ((0 : Int) ≤ l2 ∧ l2 < kl (s l0 23)) (if (s (s l0 23) l2) = l1 then grd (kd l0 = 9) (grd (0 ≤ s l0 24) (grd (kd (s l0 24) = 101) (grd ((0 : Int) ≤ l2 ∧ l2 < kl (s l0 24)) (grd (kd l0 = 9) (grd (0 ≤ s l0 25) (grd (kd (s l0 25) = 101) (grd ((0 : Int) ≤ l2 ∧ l2 < kl (s l0 25)) (grd (kd l0 = 9) (bnV (sem 202 0 [aA l0, aI (s (s l0 24) l2), aI (s (s l0 25) l2), aU] [] s) fun s1 => sem 203 2 [aA l0, aI l1, aI (w32 (l2 + 1))] [] s1))))))))) else sem 203 2 [aA l0, aI l1, aI (w32 (l2 + 1))] [] s)))) else sem 203 44 [aA l0, aI l1, aI 0] [] s) := by
  refine (x_iload f203_2 rfl rfl).trans ?_
  refine (x_aload f203_3 rfl rfl).trans ?_
  refine (x_get0 f203_4 rfl rfl).trans ?_
  refine g_c ?_
  refine (x_icmp_ge (tg := 42) f203_7 rfl rfl).trans (i_c ?_ ?_)
  · refine (x_aload f203_10 rfl rfl).trans ?_
    refine (x_get2 f203_11 rfl rfl).trans ?_
    refine g_c ?_
    refine g_c ?_
    refine (x_iload f203_14 rfl rfl).trans ?_
    refine (x_iaload f203_15 rfl).trans ?_
    refine g_c ?_
    refine g_c ?_
    refine (x_iload f203_16 rfl rfl).trans ?_
    refine (x_icmp_ne (tg := 36) f203_17 rfl rfl).trans (i_c ?_ ?_)
    · refine (x_aload f203_20 rfl rfl).trans ?_
      refine (x_aload f203_21 rfl rfl).trans ?_
      refine (x_get2 f203_22 rfl rfl).trans ?_
      refine g_c ?_
      refine g_c ?_
      refine (x_iload f203_25 rfl rfl).trans ?_
      refine (x_iaload f203_26 rfl).trans ?_
      refine g_c ?_
      refine g_c ?_
      refine (x_aload f203_27 rfl rfl).trans ?_
      refine (x_get2 f203_28 rfl rfl).trans ?_
      refine g_c ?_
      refine g_c ?_
      refine (x_iload f203_31 rfl rfl).trans ?_
      refine (x_iaload f203_32 rfl).trans ?_
      refine g_c ?_
      refine g_c ?_
      refine (x_invokevirtual (G := grd (kd l0 = 9) (bnV (sem 202 0 [aA l0, aI (s (s l0 24) l2), aI (s (s l0 25) l2), aU] [] s) fun s1 => sem 203 36 [aA l0, aI l1, aI l2] [] s1)) f203_33 rfl rfl).trans ?_
      refine g_c ?_
      refine bV_c fun s1 => ?_
      refine (x_iinc (l2 := [aA l0, aI l1, aI (w32 (l2 + 1))]) f203_36 rfl rfl rfl).trans ?_
      refine (x_goto (tg := 2) f203_39 rfl rfl).trans ?_
      rfl
    · refine (x_iinc (l2 := [aA l0, aI l1, aI (w32 (l2 + 1))]) f203_36 rfl rfl rfl).trans ?_
      refine (x_goto (tg := 2) f203_39 rfl rfl).trans ?_
      rfl
  · refine (x_iconst f203_42 rfl).trans ?_
    refine (x_istore (l2 := [aA l0, aI l1, aI 0]) f203_43 rfl rfl).trans ?_
    rfl
set_option maxRecDepth 10000 in
theorem e203_44 (l0 l1 l2 : Int) (s : SG) : sem 203 44 [aA l0, aI l1, aI l2] [] s = grd (kd l0 = 9) (grd (0 ≤ s l0 1) (grd (kd (s l0 1) = 101) (grd ((0 : Int) ≤ 0 ∧ 0 < kl (s l0 1)) (if l2 < (s (s l0 1) 0) then grd (kd l0 = 9) (if (s l0 20) = 1 then if (0 : Int) < l1 then grd (kd l0 = 9) (grd (0 ≤ s l0 30) (grd (kd (s l0 30) = 101) (grd ((0 : Int) ≤ l2 ∧ l2 < kl (s l0 30)) (if (s (s l0 30) l2) = 0 then grd (kd l0 = 9) (grd (kd l0 = 9) (bnV (sem 202 0 [aA l0, aI l2, aI (s l0 21), aU] [] s) fun s1 => sem 203 44 [aA l0, aI l1, aI (w32 (l2 + 1))] [] s1)) else sem 203 44 [aA l0, aI l1, aI (w32 (l2 + 1))] [] s)))) else sem 203 92 [aA l0, aI l1, aI 0] [] s else sem 203 92 [aA l0, aI l1, aI 0] [] s) else sem 203 92 [aA l0, aI l1, aI 0] [] s)))) := by
  refine (x_iload f203_44 rfl rfl).trans ?_
  refine (x_aload f203_45 rfl rfl).trans ?_
  refine (x_get2 f203_46 rfl rfl).trans ?_
  refine g_c ?_
  refine g_c ?_
  refine (x_iconst f203_49 rfl).trans ?_
  refine (x_iaload f203_50 rfl).trans ?_
  refine g_c ?_
  refine g_c ?_
  refine (x_icmp_ge (tg := 90) f203_51 rfl rfl).trans (i_c ?_ ?_)
  · refine (x_aload f203_54 rfl rfl).trans ?_
    refine (x_get0 f203_55 rfl rfl).trans ?_
    refine g_c ?_
    refine (x_iconst f203_58 rfl).trans ?_
    refine (x_icmp_ne (tg := 90) f203_59 rfl rfl).trans (i_c ?_ ?_)
    · refine (x_iload f203_62 rfl rfl).trans ?_
      refine (x_if_le (tg := 90) f203_63 rfl rfl).trans (i_c ?_ ?_)
      · refine (x_aload f203_66 rfl rfl).trans ?_
        refine (x_get2 f203_67 rfl rfl).trans ?_
        refine g_c ?_
        refine g_c ?_
        refine (x_iload f203_70 rfl rfl).trans ?_
        refine (x_iaload f203_71 rfl).trans ?_
        refine g_c ?_
        refine g_c ?_
        refine (x_if_ne (tg := 84) f203_72 rfl rfl).trans (i_c ?_ ?_)
        · refine (x_aload f203_75 rfl rfl).trans ?_
          refine (x_iload f203_76 rfl rfl).trans ?_
          refine (x_aload f203_77 rfl rfl).trans ?_
          refine (x_get0 f203_78 rfl rfl).trans ?_
          refine g_c ?_
          refine (x_invokevirtual (G := grd (kd l0 = 9) (bnV (sem 202 0 [aA l0, aI l2, aI (s l0 21), aU] [] s) fun s1 => sem 203 84 [aA l0, aI l1, aI l2] [] s1)) f203_81 rfl rfl).trans ?_
          refine g_c ?_
          refine bV_c fun s1 => ?_
          refine (x_iinc (l2 := [aA l0, aI l1, aI (w32 (l2 + 1))]) f203_84 rfl rfl rfl).trans ?_
          refine (x_goto (tg := 44) f203_87 rfl rfl).trans ?_
          rfl
        · refine (x_iinc (l2 := [aA l0, aI l1, aI (w32 (l2 + 1))]) f203_84 rfl rfl rfl).trans ?_
          refine (x_goto (tg := 44) f203_87 rfl rfl).trans ?_
          rfl
      · refine (x_kil (l2 := [aA l0, aI l1, aU]) f203_90 rfl).trans ?_
        refine (x_iconst f203_90 rfl).trans ?_
        refine (x_istore (l2 := [aA l0, aI l1, aI 0]) f203_91 rfl rfl).trans ?_
        rfl
    · refine (x_kil (l2 := [aA l0, aI l1, aU]) f203_90 rfl).trans ?_
      refine (x_iconst f203_90 rfl).trans ?_
      refine (x_istore (l2 := [aA l0, aI l1, aI 0]) f203_91 rfl rfl).trans ?_
      rfl
  · refine (x_kil (l2 := [aA l0, aI l1, aU]) f203_90 rfl).trans ?_
    refine (x_iconst f203_90 rfl).trans ?_
    refine (x_istore (l2 := [aA l0, aI l1, aI 0]) f203_91 rfl rfl).trans ?_
    rfl
set_option maxRecDepth 10000 in
theorem e203_92 (l0 l1 l2 : Int) (s : SG) : sem 203 92 [aA l0, aI l1, aI l2] [] s = grd (kd l0 = 9) (if (s l0 20) = 2 then grd (kd l0 = 9) (if l1 = (s l0 21) then grd (kd l0 = 9) (if (0 : Int) < (s l0 33) then grd (kd l0 = 9) (bnV (sem 202 0 [aA l0, aI l2, aI 1, aU] [] s) fun s1 => grd (kd l0 = 9) (grd (0 ≤ s1 l0 1) (grd (kd (s1 l0 1) = 101) (grd ((0 : Int) ≤ 0 ∧ 0 < kl (s1 l0 1)) (grd ((s1 (s1 l0 1) 0) ≠ 0) (sem 203 92 [aA l0, aI l1, aI (remA (w32 (l2 + 1)) (s1 (s1 l0 1) 0))] [] s1)))))) else some (aU, s)) else some (aU, s)) else some (aU, s)) := by
  refine (x_aload f203_92 rfl rfl).trans ?_
  refine (x_get0 f203_93 rfl rfl).trans ?_
  refine g_c ?_
  refine (x_iconst f203_96 rfl).trans ?_
  refine (x_icmp_ne (tg := 135) f203_97 rfl rfl).trans (i_c ?_ ?_)
  · refine (x_iload f203_100 rfl rfl).trans ?_
    refine (x_aload f203_101 rfl rfl).trans ?_
    refine (x_get0 f203_102 rfl rfl).trans ?_
    refine g_c ?_
    refine (x_icmp_ne (tg := 135) f203_105 rfl rfl).trans (i_c ?_ ?_)
    · refine (x_aload f203_108 rfl rfl).trans ?_
      refine (x_get0 f203_109 rfl rfl).trans ?_
      refine g_c ?_
      refine (x_if_le (tg := 135) f203_112 rfl rfl).trans (i_c ?_ ?_)
      · refine (x_aload f203_115 rfl rfl).trans ?_
        refine (x_iload f203_116 rfl rfl).trans ?_
        refine (x_iconst f203_117 rfl).trans ?_
        refine (x_invokevirtual (G := grd (kd l0 = 9) (bnV (sem 202 0 [aA l0, aI l2, aI 1, aU] [] s) fun s1 => sem 203 121 [aA l0, aI l1, aI l2] [] s1)) f203_118 rfl rfl).trans ?_
        refine g_c ?_
        refine bV_c fun s1 => ?_
        refine (x_iload f203_121 rfl rfl).trans ?_
        refine (x_iconst f203_122 rfl).trans ?_
        refine (x_iadd f203_123 rfl).trans ?_
        refine (x_aload f203_124 rfl rfl).trans ?_
        refine (x_get2 f203_125 rfl rfl).trans ?_
        refine g_c ?_
        refine g_c ?_
        refine (x_iconst f203_128 rfl).trans ?_
        refine (x_iaload f203_129 rfl).trans ?_
        refine g_c ?_
        refine g_c ?_
        refine (x_irem f203_130 rfl).trans ?_
        refine g_c ?_
        refine (x_istore (l2 := [aA l0, aI l1, aI (remA (w32 (l2 + 1)) (s1 (s1 l0 1) 0))]) f203_131 rfl rfl).trans ?_
        refine (x_goto (tg := 92) f203_132 rfl rfl).trans ?_
        rfl
      · refine (x_kil (l2 := [aU, aU, aU]) f203_135 rfl).trans ?_
        exact x_return f203_135 rfl
    · refine (x_kil (l2 := [aU, aU, aU]) f203_135 rfl).trans ?_
      exact x_return f203_135 rfl
  · refine (x_kil (l2 := [aU, aU, aU]) f203_135 rfl).trans ?_
    exact x_return f203_135 rfl
theorem f204_0 : fch 204 0 = some (.aload 0, 1, []) := by decide +kernel
theorem f204_1 : fch 204 1 = some (.invokeinterface 9 1, 4, []) := by decide +kernel
theorem f204_4 : fch 204 4 = some (.iconst 10, 6, []) := by decide +kernel
theorem f204_6 : fch 204 6 = some (.iconst 3, 7, []) := by decide +kernel
theorem f204_7 : fch 204 7 = some (.iload 1, 8, []) := by decide +kernel
theorem f204_8 : fch 204 8 = some (.imul, 9, []) := by decide +kernel
theorem f204_9 : fch 204 9 = some (.iadd, 10, []) := by decide +kernel
theorem f204_10 : fch 204 10 = some (.aload 0, 11, []) := by decide +kernel
theorem f204_11 : fch 204 11 = some (.invokeinterface 9 15, 14, []) := by decide +kernel
theorem f204_14 : fch 204 14 = some (.iadd, 15, []) := by decide +kernel
theorem f204_15 : fch 204 15 = some (.iaload, 16, []) := by decide +kernel
theorem f204_16 : fch 204 16 = some (.istore 3, 17, []) := by decide +kernel
theorem f204_17 : fch 204 17 = some (.iload 3, 18, []) := by decide +kernel
theorem f204_18 : fch 204 18 = some (.aload 0, 19, []) := by decide +kernel
theorem f204_19 : fch 204 19 = some (.invokeinterface 9 18, 22, []) := by decide +kernel
theorem f204_22 : fch 204 22 = some (.iload 1, 23, []) := by decide +kernel
theorem f204_23 : fch 204 23 = some (.iaload, 24, []) := by decide +kernel
theorem f204_24 : fch 204 24 = some (.iconst 7, 26, []) := by decide +kernel
theorem f204_26 : fch 204 26 = some (.if_icmp .le 33, 29, []) := by decide +kernel
theorem f204_29 : fch 204 29 = some (.iconst 1, 30, []) := by decide +kernel
theorem f204_30 : fch 204 30 = some (.goto 52, 33, []) := by decide +kernel
theorem f204_33 : fch 204 33 = some (.aload 0, 34, []) := by decide +kernel
theorem f204_34 : fch 204 34 = some (.invokeinterface 9 18, 37, []) := by decide +kernel
theorem f204_37 : fch 204 37 = some (.iload 1, 38, []) := by decide +kernel
theorem f204_38 : fch 204 38 = some (.iaload, 39, []) := by decide +kernel
theorem f204_39 : fch 204 39 = some (.iconst 3, 40, []) := by decide +kernel
theorem f204_40 : fch 204 40 = some (.if_icmp .ge 51, 43, []) := by decide +kernel
theorem f204_43 : fch 204 43 = some (.iload 3, 44, []) := by decide +kernel
theorem f204_44 : fch 204 44 = some (.ifCond .le 51, 47, []) := by decide +kernel
theorem f204_47 : fch 204 47 = some (.iconst (-1), 48, []) := by decide +kernel
theorem f204_48 : fch 204 48 = some (.goto 52, 51, []) := by decide +kernel
theorem f204_51 : fch 204 51 = some (.iconst 0, 52, [3]) := by decide +kernel
theorem f204_52 : fch 204 52 = some (.iadd, 53, [3]) := by decide +kernel
theorem f204_53 : fch 204 53 = some (.istore 3, 54, []) := by decide +kernel
theorem f204_54 : fch 204 54 = some (.iload 3, 55, []) := by decide +kernel
theorem f204_55 : fch 204 55 = some (.iload 1, 56, []) := by decide +kernel
theorem f204_56 : fch 204 56 = some (.aload 0, 57, []) := by decide +kernel
theorem f204_57 : fch 204 57 = some (.invokeinterface 9 38, 60, []) := by decide +kernel
theorem f204_60 : fch 204 60 = some (.if_icmp .ne 67, 63, []) := by decide +kernel
theorem f204_63 : fch 204 63 = some (.iconst 1, 64, []) := by decide +kernel
theorem f204_64 : fch 204 64 = some (.goto 77, 67, []) := by decide +kernel
theorem f204_67 : fch 204 67 = some (.aload 0, 68, []) := by decide +kernel
theorem f204_68 : fch 204 68 = some (.invokeinterface 9 17, 71, []) := by decide +kernel
theorem f204_71 : fch 204 71 = some (.iload 1, 72, []) := by decide +kernel
theorem f204_72 : fch 204 72 = some (.iaload, 73, []) := by decide +kernel
theorem f204_73 : fch 204 73 = some (.iload 2, 74, []) := by decide +kernel
theorem f204_74 : fch 204 74 = some (.ishr, 75, []) := by decide +kernel
theorem f204_75 : fch 204 75 = some (.iconst 1, 76, []) := by decide +kernel
theorem f204_76 : fch 204 76 = some (.iand, 77, []) := by decide +kernel
theorem f204_77 : fch 204 77 = some (.iadd, 78, [3]) := by decide +kernel
theorem f204_78 : fch 204 78 = some (.aload 0, 79, []) := by decide +kernel
theorem f204_79 : fch 204 79 = some (.invokeinterface 9 31, 82, []) := by decide +kernel
theorem f204_82 : fch 204 82 = some (.iload 1, 83, []) := by decide +kernel
theorem f204_83 : fch 204 83 = some (.iaload, 84, []) := by decide +kernel
theorem f204_84 : fch 204 84 = some (.iadd, 85, []) := by decide +kernel
theorem f204_85 : fch 204 85 = some (.istore 4, 87, []) := by decide +kernel
theorem f204_87 : fch 204 87 = some (.iload 4, 89, []) := by decide +kernel
theorem f204_89 : fch 204 89 = some (.aload 0, 90, []) := by decide +kernel
theorem f204_90 : fch 204 90 = some (.invokeinterface 9 30, 93, []) := by decide +kernel
theorem f204_93 : fch 204 93 = some (.iload 1, 94, []) := by decide +kernel
theorem f204_94 : fch 204 94 = some (.iaload, 95, []) := by decide +kernel
theorem f204_95 : fch 204 95 = some (.invokestatic 188, 98, []) := by decide +kernel
theorem f204_98 : fch 204 98 = some (.istore 5, 100, []) := by decide +kernel
theorem f204_100 : fch 204 100 = some (.iload 4, 102, []) := by decide +kernel
theorem f204_102 : fch 204 102 = some (.iload 5, 104, []) := by decide +kernel
theorem f204_104 : fch 204 104 = some (.isub, 105, []) := by decide +kernel
theorem f204_105 : fch 204 105 = some (.istore 6, 107, []) := by decide +kernel
theorem f204_107 : fch 204 107 = some (.aload 0, 108, []) := by decide +kernel
theorem f204_108 : fch 204 108 = some (.invokeinterface 9 30, 111, []) := by decide +kernel
theorem f204_111 : fch 204 111 = some (.iload 1, 112, []) := by decide +kernel
theorem f204_112 : fch 204 112 = some (.dup2, 113, []) := by decide +kernel
theorem f204_113 : fch 204 113 = some (.iaload, 114, []) := by decide +kernel
theorem f204_114 : fch 204 114 = some (.iload 5, 116, []) := by decide +kernel
theorem f204_116 : fch 204 116 = some (.isub, 117, []) := by decide +kernel
theorem f204_117 : fch 204 117 = some (.iastore, 118, []) := by decide +kernel
theorem f204_118 : fch 204 118 = some (.aload 0, 119, []) := by decide +kernel
theorem f204_119 : fch 204 119 = some (.invokeinterface 9 26, 122, []) := by decide +kernel
theorem f204_122 : fch 204 122 = some (.iconst 6, 124, []) := by decide +kernel
theorem f204_124 : fch 204 124 = some (.iload 1, 125, []) := by decide +kernel
theorem f204_125 : fch 204 125 = some (.imul, 126, []) := by decide +kernel
theorem f204_126 : fch 204 126 = some (.iload 2, 127, []) := by decide +kernel
theorem f204_127 : fch 204 127 = some (.iadd, 128, []) := by decide +kernel
theorem f204_128 : fch 204 128 = some (.aload 0, 129, []) := by decide +kernel
theorem f204_129 : fch 204 129 = some (.invokeinterface 9 30, 132, []) := by decide +kernel
theorem f204_132 : fch 204 132 = some (.iload 1, 133, []) := by decide +kernel
theorem f204_133 : fch 204 133 = some (.iaload, 134, []) := by decide +kernel
theorem f204_134 : fch 204 134 = some (.iastore, 135, []) := by decide +kernel
theorem f204_135 : fch 204 135 = some (.aload 0, 136, []) := by decide +kernel
theorem f204_136 : fch 204 136 = some (.invokeinterface 9 27, 139, []) := by decide +kernel
theorem f204_139 : fch 204 139 = some (.iconst 6, 141, []) := by decide +kernel
theorem f204_141 : fch 204 141 = some (.iload 1, 142, []) := by decide +kernel
theorem f204_142 : fch 204 142 = some (.imul, 143, []) := by decide +kernel
theorem f204_143 : fch 204 143 = some (.iload 2, 144, []) := by decide +kernel
theorem f204_144 : fch 204 144 = some (.iadd, 145, []) := by decide +kernel
theorem f204_145 : fch 204 145 = some (.iload 5, 147, []) := by decide +kernel
theorem f204_147 : fch 204 147 = some (.iload 2, 148, []) := by decide +kernel
theorem f204_148 : fch 204 148 = some (.ifCond .le 167, 151, []) := by decide +kernel
theorem f204_151 : fch 204 151 = some (.aload 0, 152, []) := by decide +kernel
theorem f204_152 : fch 204 152 = some (.invokeinterface 9 27, 155, []) := by decide +kernel
theorem f204_155 : fch 204 155 = some (.iconst 6, 157, []) := by decide +kernel
theorem f204_157 : fch 204 157 = some (.iload 1, 158, []) := by decide +kernel
theorem f204_158 : fch 204 158 = some (.imul, 159, []) := by decide +kernel
theorem f204_159 : fch 204 159 = some (.iload 2, 160, []) := by decide +kernel
theorem f204_160 : fch 204 160 = some (.iadd, 161, []) := by decide +kernel
theorem f204_161 : fch 204 161 = some (.iconst 1, 162, []) := by decide +kernel
theorem f204_162 : fch 204 162 = some (.isub, 163, []) := by decide +kernel
theorem f204_163 : fch 204 163 = some (.iaload, 164, []) := by decide +kernel
theorem f204_164 : fch 204 164 = some (.goto 168, 167, []) := by decide +kernel
theorem f204_167 : fch 204 167 = some (.iconst 0, 168, []) := by decide +kernel
theorem f204_168 : fch 204 168 = some (.iadd, 169, [3, 5]) := by decide +kernel
theorem f204_169 : fch 204 169 = some (.iastore, 170, []) := by decide +kernel
theorem f204_170 : fch 204 170 = some (.aload 0, 171, []) := by decide +kernel
theorem f204_171 : fch 204 171 = some (.invokeinterface 9 28, 174, []) := by decide +kernel
theorem f204_174 : fch 204 174 = some (.iconst 6, 176, []) := by decide +kernel
theorem f204_176 : fch 204 176 = some (.iload 1, 177, []) := by decide +kernel
theorem f204_177 : fch 204 177 = some (.imul, 178, []) := by decide +kernel
theorem f204_178 : fch 204 178 = some (.iload 2, 179, []) := by decide +kernel
theorem f204_179 : fch 204 179 = some (.iadd, 180, []) := by decide +kernel
theorem f204_180 : fch 204 180 = some (.iload 4, 182, []) := by decide +kernel
theorem f204_182 : fch 204 182 = some (.iastore, 183, []) := by decide +kernel
theorem f204_183 : fch 204 183 = some (.aload 0, 184, []) := by decide +kernel
theorem f204_184 : fch 204 184 = some (.invokeinterface 9 29, 187, []) := by decide +kernel
theorem f204_187 : fch 204 187 = some (.iconst 6, 189, []) := by decide +kernel
theorem f204_189 : fch 204 189 = some (.iload 1, 190, []) := by decide +kernel
theorem f204_190 : fch 204 190 = some (.imul, 191, []) := by decide +kernel
theorem f204_191 : fch 204 191 = some (.iload 2, 192, []) := by decide +kernel
theorem f204_192 : fch 204 192 = some (.iadd, 193, []) := by decide +kernel
theorem f204_193 : fch 204 193 = some (.iload 6, 195, []) := by decide +kernel
theorem f204_195 : fch 204 195 = some (.iastore, 196, []) := by decide +kernel
theorem f204_196 : fch 204 196 = some (.aload 0, 197, []) := by decide +kernel
theorem f204_197 : fch 204 197 = some (.invokeinterface 9 1, 200, []) := by decide +kernel
theorem f204_200 : fch 204 200 = some (.iconst 7, 202, []) := by decide +kernel
theorem f204_202 : fch 204 202 = some (.iload 1, 203, []) := by decide +kernel
theorem f204_203 : fch 204 203 = some (.iadd, 204, []) := by decide +kernel
theorem f204_204 : fch 204 204 = some (.iaload, 205, []) := by decide +kernel
theorem f204_205 : fch 204 205 = some (.istore 7, 207, []) := by decide +kernel
theorem f204_207 : fch 204 207 = some (.iload 7, 209, []) := by decide +kernel
theorem f204_209 : fch 204 209 = some (.iconst (-9), 211, []) := by decide +kernel
theorem f204_211 : fch 204 211 = some (.if_icmp .eq 219, 214, []) := by decide +kernel
theorem f204_214 : fch 204 214 = some (.iload 2, 215, []) := by decide +kernel
theorem f204_215 : fch 204 215 = some (.iconst 5, 216, []) := by decide +kernel
theorem f204_216 : fch 204 216 = some (.if_icmp .ne 233, 219, []) := by decide +kernel
theorem f204_219 : fch 204 219 = some (.aload 0, 220, [1, 2, 3, 4, 5, 7]) := by decide +kernel
theorem f204_220 : fch 204 220 = some (.dup, 221, []) := by decide +kernel
theorem f204_221 : fch 204 221 = some (.invokeinterface 9 34, 224, []) := by decide +kernel
theorem f204_224 : fch 204 224 = some (.iload 6, 226, []) := by decide +kernel
theorem f204_226 : fch 204 226 = some (.iadd, 227, []) := by decide +kernel
theorem f204_227 : fch 204 227 = some (.multianewarray 9 34, 230, []) := by decide +kernel
theorem f204_230 : fch 204 230 = some (.goto 245, 233, []) := by decide +kernel
theorem f204_233 : fch 204 233 = some (.aload 0, 234, []) := by decide +kernel
theorem f204_234 : fch 204 234 = some (.invokeinterface 9 32, 237, []) := by decide +kernel
theorem f204_237 : fch 204 237 = some (.iload 7, 239, []) := by decide +kernel
theorem f204_239 : fch 204 239 = some (.dup2, 240, []) := by decide +kernel
theorem f204_240 : fch 204 240 = some (.iaload, 241, []) := by decide +kernel
theorem f204_241 : fch 204 241 = some (.iload 6, 243, []) := by decide +kernel
theorem f204_243 : fch 204 243 = some (.iadd, 244, []) := by decide +kernel
theorem f204_244 : fch 204 244 = some (.iastore, 245, []) := by decide +kernel
theorem f204_245 : fch 204 245 = some (.return_, 246, [0, 1, 2, 3, 4, 5, 6, 7]) := by decide +kernel
set_option maxRecDepth 10000 in
theorem e204_0 (l0 l1 l2 : Int) (s : SG) : sem 204 0 [aA l0, aI l1, aI l2, aU, aU, aU, aU, aU] [] s = grd (kd l0 = 9) (grd (0 ≤ s l0 1) (grd (kd l0 = 9) (grd (kd (s l0 1) = 101) (grd ((0 : Int) ≤ (w32 ((w32 (10 + (w32 (3 * l1)))) + (s l0 15))) ∧ (w32 ((w32 (10 + (w32 (3 * l1)))) + (s l0 15))) < kl (s l0 1)) (grd (kd l0 = 9) (grd (0 ≤ s l0 18) (grd (kd (s l0 18) = 101) (grd ((0 : Int) ≤ l1 ∧ l1 < kl (s l0 18)) (if (7 : Int) < (s (s l0 18) l1) then sem 204 52 [aA l0, aI l1, aI l2, aU, aU, aU, aU, aU] [aI 1, aI (s (s l0 1) (w32 ((w32 (10 + (w32 (3 * l1)))) + (s l0 15))))] s else grd (kd l0 = 9) (grd (0 ≤ s l0 18) (grd (kd (s l0 18) = 101) (grd ((0 : Int) ≤ l1 ∧ l1 < kl (s l0 18)) (sem 204 52 [aA l0, aI l1, aI l2, aU, aU, aU, aU, aU] [aI (if (s (s l0 18) l1) < 3 then if (0 : Int) < (s (s l0 1) (w32 ((w32 (10 + (w32 (3 * l1)))) + (s l0 15)))) then (-1) else 0 else 0), aI (s (s l0 1) (w32 ((w32 (10 + (w32 (3 * l1)))) + (s l0 15))))] s))))))))))))) := by
  refine (x_aload f204_0 rfl rfl).trans ?_
  refine (x_get2 f204_1 rfl rfl).trans ?_
  refine g_c ?_
  refine g_c ?_
  refine (x_iconst f204_4 rfl).trans ?_
  refine (x_iconst f204_6 rfl).trans ?_
  refine (x_iload f204_7 rfl rfl).trans ?_
  refine (x_imul f204_8 rfl).trans ?_
  refine (x_iadd f204_9 rfl).trans ?_
  refine (x_aload f204_10 rfl rfl).trans ?_
  refine (x_get0 f204_11 rfl rfl).trans ?_
  refine g_c ?_
  refine (x_iadd f204_14 rfl).trans ?_
  refine (x_iaload f204_15 rfl).trans ?_
  refine g_c ?_
  refine g_c ?_
  refine (x_istore (l2 := [aA l0, aI l1, aI l2, aI (s (s l0 1) (w32 ((w32 (10 + (w32 (3 * l1)))) + (s l0 15)))), aU, aU, aU, aU]) f204_16 rfl rfl).trans ?_
  refine (x_iload f204_17 rfl rfl).trans ?_
  refine (x_aload f204_18 rfl rfl).trans ?_
  refine (x_get2 f204_19 rfl rfl).trans ?_
  refine g_c ?_
  refine g_c ?_
  refine (x_iload f204_22 rfl rfl).trans ?_
  refine (x_iaload f204_23 rfl).trans ?_
  refine g_c ?_
  refine g_c ?_
  refine (x_iconst f204_24 rfl).trans ?_
  refine (x_icmp_le (tg := 33) f204_26 rfl rfl).trans (i_c ?_ ?_)
  · refine (x_iconst f204_29 rfl).trans ?_
    refine (x_goto (tg := 52) f204_30 rfl rfl).trans ?_
    exact x_kil f204_52 rfl
  · refine (x_aload f204_33 rfl rfl).trans ?_
    refine (x_get2 f204_34 rfl rfl).trans ?_
    refine g_c ?_
    refine g_c ?_
    refine (x_iload f204_37 rfl rfl).trans ?_
    refine (x_iaload f204_38 rfl).trans ?_
    refine g_c ?_
    refine g_c ?_
    refine (x_iconst f204_39 rfl).trans ?_
    refine (x_icmp_ge (tg := 51) f204_40 rfl rfl).trans ?_
    refine Eq.trans (b := if (s (s l0 18) l1) < 3 then sem 204 52 [aA l0, aI l1, aI l2, aU, aU, aU, aU, aU] [aI (if (0 : Int) < (s (s l0 1) (w32 ((w32 (10 + (w32 (3 * l1)))) + (s l0 15)))) then (-1) else 0), aI (s (s l0 1) (w32 ((w32 (10 + (w32 (3 * l1)))) + (s l0 15))))] s else sem 204 52 [aA l0, aI l1, aI l2, aU, aU, aU, aU, aU] [aI 0, aI (s (s l0 1) (w32 ((w32 (10 + (w32 (3 * l1)))) + (s l0 15))))] s) (i_c ?_ ?_) ?_
    · refine (x_iload f204_43 rfl rfl).trans ?_
      refine (x_if_le (tg := 51) f204_44 rfl rfl).trans ?_
      refine Eq.trans (b := if (0 : Int) < (s (s l0 1) (w32 ((w32 (10 + (w32 (3 * l1)))) + (s l0 15)))) then sem 204 52 [aA l0, aI l1, aI l2, aU, aU, aU, aU, aU] [aI ((-1)), aI (s (s l0 1) (w32 ((w32 (10 + (w32 (3 * l1)))) + (s l0 15))))] s else sem 204 52 [aA l0, aI l1, aI l2, aU, aU, aU, aU, aU] [aI 0, aI (s (s l0 1) (w32 ((w32 (10 + (w32 (3 * l1)))) + (s l0 15))))] s) (i_c ?_ ?_) ?_
      · refine (x_iconst f204_47 rfl).trans ?_
        refine (x_goto (tg := 52) f204_48 rfl rfl).trans ?_
        exact x_kil f204_52 rfl
      · refine (x_kil (l2 := [aA l0, aI l1, aI l2, aU, aU, aU, aU, aU]) f204_51 rfl).trans ?_
        refine (x_iconst f204_51 rfl).trans ?_
        rfl
      refine m_I.trans ?_
      rfl
    · refine (x_kil (l2 := [aA l0, aI l1, aI l2, aU, aU, aU, aU, aU]) f204_51 rfl).trans ?_
      refine (x_iconst f204_51 rfl).trans ?_
      rfl
    refine m_I.trans ?_
    rfl
set_option maxRecDepth 10000 in
theorem e204_52 (l0 l1 l2 v0 v1 : Int) (s : SG) : sem 204 52 [aA l0, aI l1, aI l2, aU, aU, aU, aU, aU] [aI v0, aI v1] s = grd (kd l0 = 9) (if l1 = (s l0 38) then sem 204 77 [aA l0, aI l1, aI l2, aU, aU, aU, aU, aU] [aI 1, aI (w32 (v1 + v0))] s else grd (kd l0 = 9) (grd (0 ≤ s l0 17) (grd (kd (s l0 17) = 101) (grd ((0 : Int) ≤ l1 ∧ l1 < kl (s l0 17)) (sem 204 77 [aA l0, aI l1, aI l2, aU, aU, aU, aU, aU] [aI (iandA (ishrA (s (s l0 17) l1) l2) 1), aI (w32 (v1 + v0))] s))))) := by
  refine (x_iadd f204_52 rfl).trans ?_
  refine (x_istore (l2 := [aA l0, aI l1, aI l2, aI (w32 (v1 + v0)), aU, aU, aU, aU]) f204_53 rfl rfl).trans ?_
  refine (x_iload f204_54 rfl rfl).trans ?_
  refine (x_iload f204_55 rfl rfl).trans ?_
  refine (x_aload f204_56 rfl rfl).trans ?_
  refine (x_get0 f204_57 rfl rfl).trans ?_
  refine g_c ?_
  refine (x_icmp_ne (tg := 67) f204_60 rfl rfl).trans (i_c ?_ ?_)
  · refine (x_iconst f204_63 rfl).trans ?_
    refine (x_goto (tg := 77) f204_64 rfl rfl).trans ?_
    exact x_kil f204_77 rfl
  · refine (x_aload f204_67 rfl rfl).trans ?_
    refine (x_get2 f204_68 rfl rfl).trans ?_
    refine g_c ?_
    refine g_c ?_
    refine (x_iload f204_71 rfl rfl).trans ?_
    refine (x_iaload f204_72 rfl).trans ?_
    refine g_c ?_
    refine g_c ?_
    refine (x_iload f204_73 rfl rfl).trans ?_
    refine (x_ishr f204_74 rfl).trans ?_
    refine (x_iconst f204_75 rfl).trans ?_
    refine (x_iand f204_76 rfl).trans ?_
    exact x_kil f204_77 rfl
set_option maxRecDepth 10000 in
theorem e204_77 (l0 l1 l2 v0 v1 : Int) (s : SG) : sem 204 77 [aA l0, aI l1, aI l2, aU, aU, aU, aU, aU] [aI v0, aI v1] s = grd (kd l0 = 9) (grd (0 ≤ s l0 31) (grd (kd (s l0 31) = 101) (grd ((0 : Int) ≤ l1 ∧ l1 < kl (s l0 31)) (grd (kd l0 = 9) (grd (0 ≤ s l0 30) (grd (kd (s l0 30) = 101) (grd ((0 : Int) ≤ l1 ∧ l1 < kl (s l0 30)) (bnI (sem 188 0 [aI (w32 ((w32 (v1 + v0)) + (s (s l0 31) l1))), aI (s (s l0 30) l1)] [] s) fun a2 s1 => grd (kd l0 = 9) (grd (0 ≤ s1 l0 30) (grd (kd (s1 l0 30) = 101) (grd ((0 : Int) ≤ l1 ∧ l1 < kl (s1 l0 30)) (grd (kd (s1 l0 30) = 101) (grd ((0 : Int) ≤ l1 ∧ l1 < kl (s1 l0 30)) (grd (kd l0 = 9) (grd (0 ≤ (up s1 (s1 l0 30) l1 (w32 ((s1 (s1 l0 30) l1) - a2))) l0 26) (grd (kd l0 = 9) (grd (0 ≤ (up s1 (s1 l0 30) l1 (w32 ((s1 (s1 l0 30) l1) - a2))) l0 30) (grd (kd ((up s1 (s1 l0 30) l1 (w32 ((s1 (s1 l0 30) l1) - a2))) l0 30) = 101) (grd ((0 : Int) ≤ l1 ∧ l1 < kl ((up s1 (s1 l0 30) l1 (w32 ((s1 (s1 l0 30) l1) - a2))) l0 30)) (grd (kd ((up s1 (s1 l0 30) l1 (w32 ((s1 (s1 l0 30) l1) - a2))) l0 26) = 101) (grd ((0 : Int) ≤ (w32 ((w32 (6 * l1)) + l2)) ∧ (w32 ((w32 (6 * l1)) + l2)) < kl ((up s1 (s1 l0 30) l1 (w32 ((s1 (s1 l0 30) l1) - a2))) l0 26)) (sem 204 135 [aA l0, aI l1, aI l2, aU, aI (w32 ((w32 (v1 + v0)) + (s (s l0 31) l1))), aI a2, aI (w32 ((w32 ((w32 (v1 + v0)) + (s (s l0 31) l1))) - a2)), aU] [] (up (up s1 (s1 l0 30) l1 (w32 ((s1 (s1 l0 30) l1) - a2))) ((up s1 (s1 l0 30) l1 (w32 ((s1 (s1 l0 30) l1) - a2))) l0 26) (w32 ((w32 (6 * l1)) + l2)) ((up s1 (s1 l0 30) l1 (w32 ((s1 (s1 l0 30) l1) - a2))) ((up s1 (s1 l0 30) l1 (w32 ((s1 (s1 l0 30) l1) - a2))) l0 30) l1)))))))))))))))))))))))) := by
  refine (x_iadd f204_77 rfl).trans ?_
  refine (x_aload f204_78 rfl rfl).trans ?_
  refine (x_get2 f204_79 rfl rfl).trans ?_
  refine g_c ?_
  refine g_c ?_
  refine (x_iload f204_82 rfl rfl).trans ?_
  refine (x_iaload f204_83 rfl).trans ?_
  refine g_c ?_
  refine g_c ?_
  refine (x_iadd f204_84 rfl).trans ?_
  refine (x_istore (l2 := [aA l0, aI l1, aI l2, aU, aI (w32 ((w32 (v1 + v0)) + (s (s l0 31) l1))), aU, aU, aU]) f204_85 rfl rfl).trans ?_
  refine (x_iload f204_87 rfl rfl).trans ?_
  refine (x_aload f204_89 rfl rfl).trans ?_
  refine (x_get2 f204_90 rfl rfl).trans ?_
  refine g_c ?_
  refine g_c ?_
  refine (x_iload f204_93 rfl rfl).trans ?_
  refine (x_iaload f204_94 rfl).trans ?_
  refine g_c ?_
  refine g_c ?_
  refine (x_invokestatic (G := bnI (sem 188 0 [aI (w32 ((w32 (v1 + v0)) + (s (s l0 31) l1))), aI (s (s l0 30) l1)] [] s) fun a2 s1 => sem 204 98 [aA l0, aI l1, aI l2, aU, aI (w32 ((w32 (v1 + v0)) + (s (s l0 31) l1))), aU, aU, aU] [aI a2] s1) f204_95 rfl rfl).trans ?_
  refine bI_c fun a2 s1 => ?_
  refine (x_istore (l2 := [aA l0, aI l1, aI l2, aU, aI (w32 ((w32 (v1 + v0)) + (s (s l0 31) l1))), aI a2, aU, aU]) f204_98 rfl rfl).trans ?_
  refine (x_iload f204_100 rfl rfl).trans ?_
  refine (x_iload f204_102 rfl rfl).trans ?_
  refine (x_isub f204_104 rfl).trans ?_
  refine (x_istore (l2 := [aA l0, aI l1, aI l2, aU, aI (w32 ((w32 (v1 + v0)) + (s (s l0 31) l1))), aI a2, aI (w32 ((w32 ((w32 (v1 + v0)) + (s (s l0 31) l1))) - a2)), aU]) f204_105 rfl rfl).trans ?_
  refine (x_aload f204_107 rfl rfl).trans ?_
  refine (x_get2 f204_108 rfl rfl).trans ?_
  refine g_c ?_
  refine g_c ?_
  refine (x_iload f204_111 rfl rfl).trans ?_
  refine (x_dup2 f204_112 rfl rfl).trans ?_
  refine (x_iaload f204_113 rfl).trans ?_
  refine g_c ?_
  refine g_c ?_
  refine (x_iload f204_114 rfl rfl).trans ?_
  refine (x_isub f204_116 rfl).trans ?_
  refine (x_iastore f204_117 rfl).trans ?_
  refine g_c ?_
  refine g_c ?_
  refine (x_aload f204_118 rfl rfl).trans ?_
  refine (x_get2 f204_119 rfl rfl).trans ?_
  refine g_c ?_
  refine g_c ?_
  refine (x_iconst f204_122 rfl).trans ?_
  refine (x_iload f204_124 rfl rfl).trans ?_
  refine (x_imul f204_125 rfl).trans ?_
  refine (x_iload f204_126 rfl rfl).trans ?_
  refine (x_iadd f204_127 rfl).trans ?_
  refine (x_aload f204_128 rfl rfl).trans ?_
  refine (x_get2 f204_129 rfl rfl).trans ?_
  refine g_c ?_
  refine g_c ?_
  refine (x_iload f204_132 rfl rfl).trans ?_
  refine (x_iaload f204_133 rfl).trans ?_
  refine g_c ?_
  refine g_c ?_
  refine (x_iastore f204_134 rfl).trans ?_
  refine g_c ?_
  refine g_c ?_
  rfl
set_option maxRecDepth 10000 in
theorem e204_135 (l0 l1 l2 l3 l4 l5 l6 : Int) (s : SG) : sem 204 135 [aA l0, aI l1, aI l2, aI l3, aI l4, aI l5, aI l6, aU] [] s = grd (kd l0 = 9) (grd (0 ≤ s l0 27) (if (0 : Int) < l2 then grd (kd l0 = 9) (grd (0 ≤ s l0 27) (grd (kd (s l0 27) = 101) (grd ((0 : Int) ≤ (w32 ((w32 ((w32 (6 * l1)) + l2)) - 1)) ∧ (w32 ((w32 ((w32 (6 * l1)) + l2)) - 1)) < kl (s l0 27)) (sem 204 168 [aA l0, aI l1, aI l2, aU, aI l4, aU, aI l6, aU] [aI (s (s l0 27) (w32 ((w32 ((w32 (6 * l1)) + l2)) - 1))), aI l5, aI (w32 ((w32 (6 * l1)) + l2)), aA (s l0 27)] s)))) else sem 204 168 [aA l0, aI l1, aI l2, aU, aI l4, aU, aI l6, aU] [aI 0, aI l5, aI (w32 ((w32 (6 * l1)) + l2)), aA (s l0 27)] s)) := by
  refine (x_aload f204_135 rfl rfl).trans ?_
  refine (x_get2 f204_136 rfl rfl).trans ?_
  refine g_c ?_
  refine g_c ?_
  refine (x_iconst f204_139 rfl).trans ?_
  refine (x_iload f204_141 rfl rfl).trans ?_
  refine (x_imul f204_142 rfl).trans ?_
  refine (x_iload f204_143 rfl rfl).trans ?_
  refine (x_iadd f204_144 rfl).trans ?_
  refine (x_iload f204_145 rfl rfl).trans ?_
  refine (x_iload f204_147 rfl rfl).trans ?_
  refine (x_if_le (tg := 167) f204_148 rfl rfl).trans (i_c ?_ ?_)
  · refine (x_aload f204_151 rfl rfl).trans ?_
    refine (x_get2 f204_152 rfl rfl).trans ?_
    refine g_c ?_
    refine g_c ?_
    refine (x_iconst f204_155 rfl).trans ?_
    refine (x_iload f204_157 rfl rfl).trans ?_
    refine (x_imul f204_158 rfl).trans ?_
    refine (x_iload f204_159 rfl rfl).trans ?_
    refine (x_iadd f204_160 rfl).trans ?_
    refine (x_iconst f204_161 rfl).trans ?_
    refine (x_isub f204_162 rfl).trans ?_
    refine (x_iaload f204_163 rfl).trans ?_
    refine g_c ?_
    refine g_c ?_
    refine (x_goto (tg := 168) f204_164 rfl rfl).trans ?_
    exact x_kil f204_168 rfl
  · refine (x_iconst f204_167 rfl).trans ?_
    exact x_kil f204_168 rfl
set_option maxRecDepth 10000 in
theorem e204_168 (l0 l1 l2 l4 l6 v0 v1 v2 v3 : Int) (s : SG) : sem 204 168 [aA l0, aI l1, aI l2, aU, aI l4, aU, aI l6, aU] [aI v0, aI v1, aI v2, aA v3] s = grd (kd v3 = 101) (grd ((0 : Int) ≤ v2 ∧ v2 < kl v3) (grd (kd l0 = 9) (grd (0 ≤ (up s v3 v2 (w32 (v1 + v0))) l0 28) (grd (kd ((up s v3 v2 (w32 (v1 + v0))) l0 28) = 101) (grd ((0 : Int) ≤ (w32 ((w32 (6 * l1)) + l2)) ∧ (w32 ((w32 (6 * l1)) + l2)) < kl ((up s v3 v2 (w32 (v1 + v0))) l0 28)) (grd (kd l0 = 9) (grd (0 ≤ (up (up s v3 v2 (w32 (v1 + v0))) ((up s v3 v2 (w32 (v1 + v0))) l0 28) (w32 ((w32 (6 * l1)) + l2)) l4) l0 29) (grd (kd ((up (up s v3 v2 (w32 (v1 + v0))) ((up s v3 v2 (w32 (v1 + v0))) l0 28) (w32 ((w32 (6 * l1)) + l2)) l4) l0 29) = 101) (grd ((0 : Int) ≤ (w32 ((w32 (6 * l1)) + l2)) ∧ (w32 ((w32 (6 * l1)) + l2)) < kl ((up (up s v3 v2 (w32 (v1 + v0))) ((up s v3 v2 (w32 (v1 + v0))) l0 28) (w32 ((w32 (6 * l1)) + l2)) l4) l0 29)) (grd (kd l0 = 9) (grd (0 ≤ (up (up (up s v3 v2 (w32 (v1 + v0))) ((up s v3 v2 (w32 (v1 + v0))) l0 28) (w32 ((w32 (6 * l1)) + l2)) l4) ((up (up s v3 v2 (w32 (v1 + v0))) ((up s v3 v2 (w32 (v1 + v0))) l0 28) (w32 ((w32 (6 * l1)) + l2)) l4) l0 29) (w32 ((w32 (6 * l1)) + l2)) l6) l0 1) (grd (kd ((up (up (up s v3 v2 (w32 (v1 + v0))) ((up s v3 v2 (w32 (v1 + v0))) l0 28) (w32 ((w32 (6 * l1)) + l2)) l4) ((up (up s v3 v2 (w32 (v1 + v0))) ((up s v3 v2 (w32 (v1 + v0))) l0 28) (w32 ((w32 (6 * l1)) + l2)) l4) l0 29) (w32 ((w32 (6 * l1)) + l2)) l6) l0 1) = 101) (grd ((0 : Int) ≤ (w32 (7 + l1)) ∧ (w32 (7 + l1)) < kl ((up (up (up s v3 v2 (w32 (v1 + v0))) ((up s v3 v2 (w32 (v1 + v0))) l0 28) (w32 ((w32 (6 * l1)) + l2)) l4) ((up (up s v3 v2 (w32 (v1 + v0))) ((up s v3 v2 (w32 (v1 + v0))) l0 28) (w32 ((w32 (6 * l1)) + l2)) l4) l0 29) (w32 ((w32 (6 * l1)) + l2)) l6) l0 1)) (if ((up (up (up s v3 v2 (w32 (v1 + v0))) ((up s v3 v2 (w32 (v1 + v0))) l0 28) (w32 ((w32 (6 * l1)) + l2)) l4) ((up (up s v3 v2 (w32 (v1 + v0))) ((up s v3 v2 (w32 (v1 + v0))) l0 28) (w32 ((w32 (6 * l1)) + l2)) l4) l0 29) (w32 ((w32 (6 * l1)) + l2)) l6) ((up (up (up s v3 v2 (w32 (v1 + v0))) ((up s v3 v2 (w32 (v1 + v0))) l0 28) (w32 ((w32 (6 * l1)) + l2)) l4) ((up (up s v3 v2 (w32 (v1 + v0))) ((up s v3 v2 (w32 (v1 + v0))) l0 28) (w32 ((w32 (6 * l1)) + l2)) l4) l0 29) (w32 ((w32 (6 * l1)) + l2)) l6) l0 1) (w32 (7 + l1))) = ((-9)) then grd (kd l0 = 9) (grd (kd l0 = 9) (sem 204 230 [aA l0, aU, aU, aU, aU, aU, aI l6, aU] [] (up (up (up (up s v3 v2 (w32 (v1 + v0))) ((up s v3 v2 (w32 (v1 + v0))) l0 28) (w32 ((w32 (6 * l1)) + l2)) l4) ((up (up s v3 v2 (w32 (v1 + v0))) ((up s v3 v2 (w32 (v1 + v0))) l0 28) (w32 ((w32 (6 * l1)) + l2)) l4) l0 29) (w32 ((w32 (6 * l1)) + l2)) l6) l0 34 (w32 (((up (up (up s v3 v2 (w32 (v1 + v0))) ((up s v3 v2 (w32 (v1 + v0))) l0 28) (w32 ((w32 (6 * l1)) + l2)) l4) ((up (up s v3 v2 (w32 (v1 + v0))) ((up s v3 v2 (w32 (v1 + v0))) l0 28) (w32 ((w32 (6 * l1)) + l2)) l4) l0 29) (w32 ((w32 (6 * l1)) + l2)) l6) l0 34) + l6))))) else if l2 = 5 then grd (kd l0 = 9) (grd (kd l0 = 9) (sem 204 230 [aA l0, aU, aU, aU, aU, aU, aI l6, aU] [] (up (up (up (up s v3 v2 (w32 (v1 + v0))) ((up s v3 v2 (w32 (v1 + v0))) l0 28) (w32 ((w32 (6 * l1)) + l2)) l4) ((up (up s v3 v2 (w32 (v1 + v0))) ((up s v3 v2 (w32 (v1 + v0))) l0 28) (w32 ((w32 (6 * l1)) + l2)) l4) l0 29) (w32 ((w32 (6 * l1)) + l2)) l6) l0 34 (w32 (((up (up (up s v3 v2 (w32 (v1 + v0))) ((up s v3 v2 (w32 (v1 + v0))) l0 28) (w32 ((w32 (6 * l1)) + l2)) l4) ((up (up s v3 v2 (w32 (v1 + v0))) ((up s v3 v2 (w32 (v1 + v0))) l0 28) (w32 ((w32 (6 * l1)) + l2)) l4) l0 29) (w32 ((w32 (6 * l1)) + l2)) l6) l0 34) + l6))))) else grd (kd l0 = 9) (grd (0 ≤ (up (up (up s v3 v2 (w32 (v1 + v0))) ((up s v3 v2 (w32 (v1 + v0))) l0 28) (w32 ((w32 (6 * l1)) + l2)) l4) ((up (up s v3 v2 (w32 (v1 + v0))) ((up s v3 v2 (w32 (v1 + v0))) l0 28) (w32 ((w32 (6 * l1)) + l2)) l4) l0 29) (w32 ((w32 (6 * l1)) + l2)) l6) l0 32) (grd (kd ((up (up (up s v3 v2 (w32 (v1 + v0))) ((up s v3 v2 (w32 (v1 + v0))) l0 28) (w32 ((w32 (6 * l1)) + l2)) l4) ((up (up s v3 v2 (w32 (v1 + v0))) ((up s v3 v2 (w32 (v1 + v0))) l0 28) (w32 ((w32 (6 * l1)) + l2)) l4) l0 29) (w32 ((w32 (6 * l1)) + l2)) l6) l0 32) = 101) (grd ((0 : Int) ≤ ((up (up (up s v3 v2 (w32 (v1 + v0))) ((up s v3 v2 (w32 (v1 + v0))) l0 28) (w32 ((w32 (6 * l1)) + l2)) l4) ((up (up s v3 v2 (w32 (v1 + v0))) ((up s v3 v2 (w32 (v1 + v0))) l0 28) (w32 ((w32 (6 * l1)) + l2)) l4) l0 29) (w32 ((w32 (6 * l1)) + l2)) l6) ((up (up (up s v3 v2 (w32 (v1 + v0))) ((up s v3 v2 (w32 (v1 + v0))) l0 28) (w32 ((w32 (6 * l1)) + l2)) l4) ((up (up s v3 v2 (w32 (v1 + v0))) ((up s v3 v2 (w32 (v1 + v0))) l0 28) (w32 ((w32 (6 * l1)) + l2)) l4) l0 29) (w32 ((w32 (6 * l1)) + l2)) l6) l0 1) (w32 (7 + l1))) ∧ ((up (up (up s v3 v2 (w32 (v1 + v0))) ((up s v3 v2 (w32 (v1 + v0))) l0 28) (w32 ((w32 (6 * l1)) + l2)) l4) ((up (up s v3 v2 (w32 (v1 + v0))) ((up s v3 v2 (w32 (v1 + v0))) l0 28) (w32 ((w32 (6 * l1)) + l2)) l4) l0 29) (w32 ((w32 (6 * l1)) + l2)) l6) ((up (up (up s v3 v2 (w32 (v1 + v0))) ((up s v3 v2 (w32 (v1 + v0))) l0 28) (w32 ((w32 (6 * l1)) + l2)) l4) ((up (up s v3 v2 (w32 (v1 + v0))) ((up s v3 v2 (w32 (v1 + v0))) l0 28) (w32 ((w32 (6 * l1)) + l2)) l4) l0 29) (w32 ((w32 (6 * l1)) + l2)) l6) l0 1) (w32 (7 + l1))) < kl ((up (up (up s v3 v2 (w32 (v1 + v0))) ((up s v3 v2 (w32 (v1 + v0))) l0 28) (w32 ((w32 (6 * l1)) + l2)) l4) ((up (up s v3 v2 (w32 (v1 + v0))) ((up s v3 v2 (w32 (v1 + v0))) l0 28) (w32 ((w32 (6 * l1)) + l2)) l4) l0 29) (w32 ((w32 (6 * l1)) + l2)) l6) l0 32)) (grd (kd ((up (up (up s v3 v2 (w32 (v1 + v0))) ((up s v3 v2 (w32 (v1 + v0))) l0 28) (w32 ((w32 (6 * l1)) + l2)) l4) ((up (up s v3 v2 (w32 (v1 + v0))) ((up s v3 v2 (w32 (v1 + v0))) l0 28) (w32 ((w32 (6 * l1)) + l2)) l4) l0 29) (w32 ((w32 (6 * l1)) + l2)) l6) l0 32) = 101) (grd ((0 : Int) ≤ ((up (up (up s v3 v2 (w32 (v1 + v0))) ((up s v3 v2 (w32 (v1 + v0))) l0 28) (w32 ((w32 (6 * l1)) + l2)) l4) ((up (up s v3 v2 (w32 (v1 + v0))) ((up s v3 v2 (w32 (v1 + v0))) l0 28) (w32 ((w32 (6 * l1)) + l2)) l4) l0 29) (w32 ((w32 (6 * l1)) + l2)) l6) ((up (up (up s v3 v2 (w32 (v1 + v0))) ((up s v3 v2 (w32 (v1 + v0))) l0 28) (w32 ((w32 (6 * l1)) + l2)) l4) ((up (up s v3 v2 (w32 (v1 + v0))) ((up s v3 v2 (w32 (v1 + v0))) l0 28) (w32 ((w32 (6 * l1)) + l2)) l4) l0 29) (w32 ((w32 (6 * l1)) + l2)) l6) l0 1) (w32 (7 + l1))) ∧ ((up (up (up s v3 v2 (w32 (v1 + v0))) ((up s v3 v2 (w32 (v1 + v0))) l0 28) (w32 ((w32 (6 * l1)) + l2)) l4) ((up (up s v3 v2 (w32 (v1 + v0))) ((up s v3 v2 (w32 (v1 + v0))) l0 28) (w32 ((w32 (6 * l1)) + l2)) l4) l0 29) (w32 ((w32 (6 * l1)) + l2)) l6) ((up (up (up s v3 v2 (w32 (v1 + v0))) ((up s v3 v2 (w32 (v1 + v0))) l0 28) (w32 ((w32 (6 * l1)) + l2)) l4) ((up (up s v3 v2 (w32 (v1 + v0))) ((up s v3 v2 (w32 (v1 + v0))) l0 28) (w32 ((w32 (6 * l1)) + l2)) l4) l0 29) (w32 ((w32 (6 * l1)) + l2)) l6) l0 1) (w32 (7 + l1))) < kl ((up (up (up s v3 v2 (w32 (v1 + v0))) ((up s v3 v2 (w32 (v1 + v0))) l0 28) (w32 ((w32 (6 * l1)) + l2)) l4) ((up (up s v3 v2 (w32 (v1 + v0))) ((up s v3 v2 (w32 (v1 + v0))) l0 28) (w32 ((w32 (6 * l1)) + l2)) l4) l0 29) (w32 ((w32 (6 * l1)) + l2)) l6) l0 32)) (sem 204 245 [aU, aU, aU, aU, aU, aU, aU, aU] [] (up (up (up (up s v3 v2 (w32 (v1 + v0))) ((up s v3 v2 (w32 (v1 + v0))) l0 28) (w32 ((w32 (6 * l1)) + l2)) l4) ((up (up s v3 v2 (w32 (v1 + v0))) ((up s v3 v2 (w32 (v1 + v0))) l0 28) (w32 ((w32 (6 * l1)) + l2)) l4) l0 29) (w32 ((w32 (6 * l1)) + l2)) l6) ((up (up (up s v3 v2 (w32 (v1 + v0))) ((up s v3 v2 (w32 (v1 + v0))) l0 28) (w32 ((w32 (6 * l1)) + l2)) l4) ((up (up s v3 v2 (w32 (v1 + v0))) ((up s v3 v2 (w32 (v1 + v0))) l0 28) (w32 ((w32 (6 * l1)) + l2)) l4) l0 29) (w32 ((w32 (6 * l1)) + l2)) l6) l0 32) ((up (up (up s v3 v2 (w32 (v1 + v0))) ((up s v3 v2 (w32 (v1 + v0))) l0 28) (w32 ((w32 (6 * l1)) + l2)) l4) ((up (up s v3 v2 (w32 (v1 + v0))) ((up s v3 v2 (w32 (v1 + v0))) l0 28) (w32 ((w32 (6 * l1)) + l2)) l4) l0 29) (w32 ((w32 (6 * l1)) + l2)) l6) ((up (up (up s v3 v2 (w32 (v1 + v0))) ((up s v3 v2 (w32 (v1 + v0))) l0 28) (w32 ((w32 (6 * l1)) + l2)) l4) ((up (up s v3 v2 (w32 (v1 + v0))) ((up s v3 v2 (w32 (v1 + v0))) l0 28) (w32 ((w32 (6 * l1)) + l2)) l4) l0 29) (w32 ((w32 (6 * l1)) + l2)) l6) l0 1) (w32 (7 + l1))) (w32 (((up (up (up s v3 v2 (w32 (v1 + v0))) ((up s v3 v2 (w32 (v1 + v0))) l0 28) (w32 ((w32 (6 * l1)) + l2)) l4) ((up (up s v3 v2 (w32 (v1 + v0))) ((up s v3 v2 (w32 (v1 + v0))) l0 28) (w32 ((w32 (6 * l1)) + l2)) l4) l0 29) (w32 ((w32 (6 * l1)) + l2)) l6) ((up (up (up s v3 v2 (w32 (v1 + v0))) ((up s v3 v2 (w32 (v1 + v0))) l0 28) (w32 ((w32 (6 * l1)) + l2)) l4) ((up (up s v3 v2 (w32 (v1 + v0))) ((up s v3 v2 (w32 (v1 + v0))) l0 28) (w32 ((w32 (6 * l1)) + l2)) l4) l0 29) (w32 ((w32 (6 * l1)) + l2)) l6) l0 32) ((up (up (up s v3 v2 (w32 (v1 + v0))) ((up s v3 v2 (w32 (v1 + v0))) l0 28) (w32 ((w32 (6 * l1)) + l2)) l4) ((up (up s v3 v2 (w32 (v1 + v0))) ((up s v3 v2 (w32 (v1 + v0))) l0 28) (w32 ((w32 (6 * l1)) + l2)) l4) l0 29) (w32 ((w32 (6 * l1)) + l2)) l6) ((up (up (up s v3 v2 (w32 (v1 + v0))) ((up s v3 v2 (w32 (v1 + v0))) l0 28) (w32 ((w32 (6 * l1)) + l2)) l4) ((up (up s v3 v2 (w32 (v1 + v0))) ((up s v3 v2 (w32 (v1 + v0))) l0 28) (w32 ((w32 (6 * l1)) + l2)) l4) l0 29) (w32 ((w32 (6 * l1)) + l2)) l6) l0 1) (w32 (7 + l1)))) + l6))))))))))))))))))))))) := by
  refine (x_iadd f204_168 rfl).trans ?_
  refine (x_iastore f204_169 rfl).trans ?_
  refine g_c ?_
  refine g_c ?_
  refine (x_aload f204_170 rfl rfl).trans ?_
  refine (x_get2 f204_171 rfl rfl).trans ?_
  refine g_c ?_
  refine g_c ?_
  refine (x_iconst f204_174 rfl).trans ?_
  refine (x_iload f204_176 rfl rfl).trans ?_
  refine (x_imul f204_177 rfl).trans ?_
  refine (x_iload f204_178 rfl rfl).trans ?_
  refine (x_iadd f204_179 rfl).trans ?_
  refine (x_iload f204_180 rfl rfl).trans ?_
  refine (x_iastore f204_182 rfl).trans ?_
  refine g_c ?_
  refine g_c ?_
  refine (x_aload f204_183 rfl rfl).trans ?_
  refine (x_get2 f204_184 rfl rfl).trans ?_
  refine g_c ?_
  refine g_c ?_
  refine (x_iconst f204_187 rfl).trans ?_
  refine (x_iload f204_189 rfl rfl).trans ?_
  refine (x_imul f204_190 rfl).trans ?_
  refine (x_iload f204_191 rfl rfl).trans ?_
  refine (x_iadd f204_192 rfl).trans ?_
  refine (x_iload f204_193 rfl rfl).trans ?_
  refine (x_iastore f204_195 rfl).trans ?_
  refine g_c ?_
  refine g_c ?_
  refine (x_aload f204_196 rfl rfl).trans ?_
  refine (x_get2 f204_197 rfl rfl).trans ?_
  refine g_c ?_
  refine g_c ?_
  refine (x_iconst f204_200 rfl).trans ?_
  refine (x_iload f204_202 rfl rfl).trans ?_
  refine (x_iadd f204_203 rfl).trans ?_
  refine (x_iaload f204_204 rfl).trans ?_
  refine g_c ?_
  refine g_c ?_
  refine (x_istore (l2 := [aA l0, aI l1, aI l2, aU, aI l4, aU, aI l6, aI ((up (up (up s v3 v2 (w32 (v1 + v0))) ((up s v3 v2 (w32 (v1 + v0))) l0 28) (w32 ((w32 (6 * l1)) + l2)) l4) ((up (up s v3 v2 (w32 (v1 + v0))) ((up s v3 v2 (w32 (v1 + v0))) l0 28) (w32 ((w32 (6 * l1)) + l2)) l4) l0 29) (w32 ((w32 (6 * l1)) + l2)) l6) ((up (up (up s v3 v2 (w32 (v1 + v0))) ((up s v3 v2 (w32 (v1 + v0))) l0 28) (w32 ((w32 (6 * l1)) + l2)) l4) ((up (up s v3 v2 (w32 (v1 + v0))) ((up s v3 v2 (w32 (v1 + v0))) l0 28) (w32 ((w32 (6 * l1)) + l2)) l4) l0 29) (w32 ((w32 (6 * l1)) + l2)) l6) l0 1) (w32 (7 + l1)))]) f204_205 rfl rfl).trans ?_
  refine (x_iload f204_207 rfl rfl).trans ?_
  refine (x_iconst f204_209 rfl).trans ?_
  refine (x_icmp_eq (tg := 219) f204_211 rfl rfl).trans (i_c ?_ ?_)
  · refine (x_kil (l2 := [aA l0, aU, aU, aU, aU, aU, aI l6, aU]) f204_219 rfl).trans ?_
    refine (x_aload f204_219 rfl rfl).trans ?_
    refine (x_dup f204_220 rfl rfl).trans ?_
    refine (x_get0 f204_221 rfl rfl).trans ?_
    refine g_c ?_
    refine (x_iload f204_224 rfl rfl).trans ?_
    refine (x_iadd f204_226 rfl).trans ?_
    refine (x_put0 f204_227 rfl rfl).trans ?_
    refine g_c ?_
    rfl
  · refine (x_iload f204_214 rfl rfl).trans ?_
    refine (x_iconst f204_215 rfl).trans ?_
    refine (x_icmp_ne (tg := 233) f204_216 rfl rfl).trans (i_c ?_ ?_)
    · refine (x_kil (l2 := [aA l0, aU, aU, aU, aU, aU, aI l6, aU]) f204_219 rfl).trans ?_
      refine (x_aload f204_219 rfl rfl).trans ?_
      refine (x_dup f204_220 rfl rfl).trans ?_
      refine (x_get0 f204_221 rfl rfl).trans ?_
      refine g_c ?_
      refine (x_iload f204_224 rfl rfl).trans ?_
      refine (x_iadd f204_226 rfl).trans ?_
      refine (x_put0 f204_227 rfl rfl).trans ?_
      refine g_c ?_
      rfl
    · refine (x_aload f204_233 rfl rfl).trans ?_
      refine (x_get2 f204_234 rfl rfl).trans ?_
      refine g_c ?_
      refine g_c ?_
      refine (x_iload f204_237 rfl rfl).trans ?_
      refine (x_dup2 f204_239 rfl rfl).trans ?_
      refine (x_iaload f204_240 rfl).trans ?_
      refine g_c ?_
      refine g_c ?_
      refine (x_iload f204_241 rfl rfl).trans ?_
      refine (x_iadd f204_243 rfl).trans ?_
      refine (x_iastore f204_244 rfl).trans ?_
      refine g_c ?_
      refine g_c ?_
      exact x_kil f204_245 rfl
set_option maxRecDepth 10000 in
theorem e204_230 (l0 l1 l2 l3 l4 l5 l6 l7 : Int) (s : SG) : sem 204 230 [aA l0, aI l1, aI l2, aI l3, aI l4, aI l5, aI l6, aI l7] [] s = sem 204 245 [aU, aU, aU, aU, aU, aU, aU, aU] [] s := by
  refine (x_goto (tg := 245) f204_230 rfl rfl).trans ?_
  exact x_kil f204_245 rfl
set_option maxRecDepth 10000 in
theorem e204_245 (s : SG) : sem 204 245 [aU, aU, aU, aU, aU, aU, aU, aU] [] s = some (aU, s) := by
  exact x_return f204_245 rfl
theorem f205_0 : fch 205 0 = some (.aload 0, 1, []) := by decide +kernel
theorem f205_1 : fch 205 1 = some (.aload 0, 2, []) := by decide +kernel
theorem f205_2 : fch 205 2 = some (.invokeinterface 9 19, 5, []) := by decide +kernel
theorem f205_5 : fch 205 5 = some (.multianewarray 9 33, 8, []) := by decide +kernel
theorem f205_8 : fch 205 8 = some (.aload 0, 9, []) := by decide +kernel
theorem f205_9 : fch 205 9 = some (.iconst 0, 10, []) := by decide +kernel
theorem f205_10 : fch 205 10 = some (.multianewarray 9 34, 13, []) := by decide +kernel
theorem f205_13 : fch 205 13 = some (.iconst 0, 14, []) := by decide +kernel
theorem f205_14 : fch 205 14 = some (.istore 1, 15, []) := by decide +kernel
theorem f205_15 : fch 205 15 = some (.iload 1, 16, []) := by decide +kernel
theorem f205_16 : fch 205 16 = some (.iconst 3, 17, []) := by decide +kernel
theorem f205_17 : fch 205 17 = some (.if_icmp .ge 45, 20, []) := by decide +kernel
theorem f205_20 : fch 205 20 = some (.aload 0, 21, []) := by decide +kernel
theorem f205_21 : fch 205 21 = some (.invokeinterface 9 30, 24, []) := by decide +kernel
theorem f205_24 : fch 205 24 = some (.iload 1, 25, []) := by decide +kernel
theorem f205_25 : fch 205 25 = some (.aload 0, 26, []) := by decide +kernel
theorem f205_26 : fch 205 26 = some (.invokeinterface 9 16, 29, []) := by decide +kernel
theorem f205_29 : fch 205 29 = some (.iload 1, 30, []) := by decide +kernel
theorem f205_30 : fch 205 30 = some (.iaload, 31, []) := by decide +kernel
theorem f205_31 : fch 205 31 = some (.iastore, 32, []) := by decide +kernel
theorem f205_32 : fch 205 32 = some (.aload 0, 33, []) := by decide +kernel
theorem f205_33 : fch 205 33 = some (.invokeinterface 9 31, 36, []) := by decide +kernel
theorem f205_36 : fch 205 36 = some (.iload 1, 37, []) := by decide +kernel
theorem f205_37 : fch 205 37 = some (.iconst 0, 38, []) := by decide +kernel
theorem f205_38 : fch 205 38 = some (.iastore, 39, []) := by decide +kernel
theorem f205_39 : fch 205 39 = some (.iinc 1 1, 42, []) := by decide +kernel
theorem f205_42 : fch 205 42 = some (.goto 15, 45, []) := by decide +kernel
theorem f205_45 : fch 205 45 = some (.iconst 0, 46, []) := by decide +kernel
theorem f205_46 : fch 205 46 = some (.istore 1, 47, []) := by decide +kernel
theorem f205_47 : fch 205 47 = some (.iload 1, 48, [2]) := by decide +kernel
theorem f205_48 : fch 205 48 = some (.iconst 6, 50, []) := by decide +kernel
theorem f205_50 : fch 205 50 = some (.if_icmp .ge 161, 53, []) := by decide +kernel
theorem f205_53 : fch 205 53 = some (.aload 0, 54, []) := by decide +kernel
theorem f205_54 : fch 205 54 = some (.iload 1, 55, []) := by decide +kernel
theorem f205_55 : fch 205 55 = some (.invokevirtual 203, 58, []) := by decide +kernel
theorem f205_58 : fch 205 58 = some (.aload 0, 59, []) := by decide +kernel
theorem f205_59 : fch 205 59 = some (.invokeinterface 9 30, 62, []) := by decide +kernel
theorem f205_62 : fch 205 62 = some (.aload 0, 63, []) := by decide +kernel
theorem f205_63 : fch 205 63 = some (.invokeinterface 9 36, 66, []) := by decide +kernel
theorem f205_66 : fch 205 66 = some (.dup2, 67, []) := by decide +kernel
theorem f205_67 : fch 205 67 = some (.iaload, 68, []) := by decide +kernel
theorem f205_68 : fch 205 68 = some (.iload 1, 69, []) := by decide +kernel
theorem f205_69 : fch 205 69 = some (.aload 0, 70, []) := by decide +kernel
theorem f205_70 : fch 205 70 = some (.invokeinterface 9 35, 73, []) := by decide +kernel
theorem f205_73 : fch 205 73 = some (.if_icmp .ne 83, 76, []) := by decide +kernel
theorem f205_76 : fch 205 76 = some (.aload 0, 77, []) := by decide +kernel
theorem f205_77 : fch 205 77 = some (.invokeinterface 9 37, 80, []) := by decide +kernel
theorem f205_80 : fch 205 80 = some (.goto 84, 83, []) := by decide +kernel
theorem f205_83 : fch 205 83 = some (.iconst 0, 84, []) := by decide +kernel
theorem f205_84 : fch 205 84 = some (.iadd, 85, [2]) := by decide +kernel
theorem f205_85 : fch 205 85 = some (.iastore, 86, []) := by decide +kernel
theorem f205_86 : fch 205 86 = some (.iconst 0, 87, []) := by decide +kernel
theorem f205_87 : fch 205 87 = some (.istore 2, 88, []) := by decide +kernel
theorem f205_88 : fch 205 88 = some (.iload 2, 89, []) := by decide +kernel
theorem f205_89 : fch 205 89 = some (.iconst 3, 90, []) := by decide +kernel
theorem f205_90 : fch 205 90 = some (.if_icmp .ge 106, 93, []) := by decide +kernel
theorem f205_93 : fch 205 93 = some (.aload 0, 94, []) := by decide +kernel
theorem f205_94 : fch 205 94 = some (.invokeinterface 9 32, 97, []) := by decide +kernel
theorem f205_97 : fch 205 97 = some (.iload 2, 98, []) := by decide +kernel
theorem f205_98 : fch 205 98 = some (.iconst 0, 99, []) := by decide +kernel
theorem f205_99 : fch 205 99 = some (.iastore, 100, []) := by decide +kernel
theorem f205_100 : fch 205 100 = some (.iinc 2 1, 103, []) := by decide +kernel
theorem f205_103 : fch 205 103 = some (.goto 88, 106, []) := by decide +kernel
theorem f205_106 : fch 205 106 = some (.iconst 0, 107, []) := by decide +kernel
theorem f205_107 : fch 205 107 = some (.istore 2, 108, []) := by decide +kernel
theorem f205_108 : fch 205 108 = some (.iload 2, 109, []) := by decide +kernel
theorem f205_109 : fch 205 109 = some (.aload 0, 110, []) := by decide +kernel
theorem f205_110 : fch 205 110 = some (.invokeinterface 9 1, 113, []) := by decide +kernel
theorem f205_113 : fch 205 113 = some (.iconst 0, 114, []) := by decide +kernel
theorem f205_114 : fch 205 114 = some (.iaload, 115, []) := by decide +kernel
theorem f205_115 : fch 205 115 = some (.if_icmp .ge 130, 118, []) := by decide +kernel
theorem f205_118 : fch 205 118 = some (.aload 0, 119, []) := by decide +kernel
theorem f205_119 : fch 205 119 = some (.iload 2, 120, []) := by decide +kernel
theorem f205_120 : fch 205 120 = some (.iload 1, 121, []) := by decide +kernel
theorem f205_121 : fch 205 121 = some (.invokevirtual 204, 124, []) := by decide +kernel
theorem f205_124 : fch 205 124 = some (.iinc 2 1, 127, []) := by decide +kernel
theorem f205_127 : fch 205 127 = some (.goto 108, 130, []) := by decide +kernel
theorem f205_130 : fch 205 130 = some (.iconst 0, 131, []) := by decide +kernel
theorem f205_131 : fch 205 131 = some (.istore 2, 132, []) := by decide +kernel
theorem f205_132 : fch 205 132 = some (.iload 2, 133, []) := by decide +kernel
theorem f205_133 : fch 205 133 = some (.iconst 3, 134, []) := by decide +kernel
theorem f205_134 : fch 205 134 = some (.if_icmp .ge 155, 137, []) := by decide +kernel
theorem f205_137 : fch 205 137 = some (.aload 0, 138, []) := by decide +kernel
theorem f205_138 : fch 205 138 = some (.invokeinterface 9 31, 141, []) := by decide +kernel
theorem f205_141 : fch 205 141 = some (.iload 2, 142, []) := by decide +kernel
theorem f205_142 : fch 205 142 = some (.aload 0, 143, []) := by decide +kernel
theorem f205_143 : fch 205 143 = some (.invokeinterface 9 32, 146, []) := by decide +kernel
theorem f205_146 : fch 205 146 = some (.iload 2, 147, []) := by decide +kernel
theorem f205_147 : fch 205 147 = some (.iaload, 148, []) := by decide +kernel
theorem f205_148 : fch 205 148 = some (.iastore, 149, []) := by decide +kernel
theorem f205_149 : fch 205 149 = some (.iinc 2 1, 152, []) := by decide +kernel
theorem f205_152 : fch 205 152 = some (.goto 132, 155, []) := by decide +kernel
theorem f205_155 : fch 205 155 = some (.iinc 1 1, 158, []) := by decide +kernel
theorem f205_158 : fch 205 158 = some (.goto 47, 161, []) := by decide +kernel
theorem f205_161 : fch 205 161 = some (.return_, 162, []) := by decide +kernel
set_option maxRecDepth 10000 in
theorem e205_0 (l0 : Int) (s : SG) : sem 205 0 [aA l0, aU, aU] [] s = grd (kd l0 = 9) (grd (kd l0 = 9) (grd (kd l0 = 9) (sem 205 15 [aA l0, aI 0, aU] [] (up (up s l0 33 (s l0 19)) l0 34 0)))) := by
  refine (x_aload f205_0 rfl rfl).trans ?_
  refine (x_aload f205_1 rfl rfl).trans ?_
  refine (x_get0 f205_2 rfl rfl).trans ?_
  refine g_c ?_
  refine (x_put0 f205_5 rfl rfl).trans ?_
  refine g_c ?_
  refine (x_aload f205_8 rfl rfl).trans ?_
  refine (x_iconst f205_9 rfl).trans ?_
  refine (x_put0 f205_10 rfl rfl).trans ?_
  refine g_c ?_
  refine (x_iconst f205_13 rfl).trans ?_
  refine (x_istore (l2 := [aA l0, aI 0, aU]) f205_14 rfl rfl).trans ?_
  rfl
set_option maxRecDepth 10000 in
theorem e205_15 (l0 l1 : Int) (s : SG) : sem 205 15 [aA l0, aI l1, aU] [] s = if l1 < 3 then grd (kd l0 = 9) (grd (0 ≤ s l0 30) (grd (kd l0 = 9) (grd (0 ≤ s l0 16) (grd (kd (s l0 16) = 101) (grd ((0 : Int) ≤ l1 ∧ l1 < kl (s l0 16)) (grd (kd (s l0 30) = 101) (grd ((0 : Int) ≤ l1 ∧ l1 < kl (s l0 30)) (grd (kd l0 = 9) (grd (0 ≤ (up s (s l0 30) l1 (s (s l0 16) l1)) l0 31) (grd (kd ((up s (s l0 30) l1 (s (s l0 16) l1)) l0 31) = 101) (grd ((0 : Int) ≤ l1 ∧ l1 < kl ((up s (s l0 30) l1 (s (s l0 16) l1)) l0 31)) (sem 205 15 [aA l0, aI (w32 (l1 + 1)), aU] [] (up (up s (s l0 30) l1 (s (s l0 16) l1)) ((up s (s l0 30) l1 (s (s l0 16) l1)) l0 31) l1 0))))))))))))) else sem 205 47 [aA l0, aI 0, aU] [] s := by
  refine (x_iload f205_15 rfl rfl).trans ?_
  refine (x_iconst f205_16 rfl).trans ?_
  refine (x_icmp_ge (tg := 45) f205_17 rfl rfl).trans (i_c ?_ ?_)
  · refine (x_aload f205_20 rfl rfl).trans ?_
    refine (x_get2 f205_21 rfl rfl).trans ?_
    refine g_c ?_
    refine g_c ?_
    refine (x_iload f205_24 rfl rfl).trans ?_
    refine (x_aload f205_25 rfl rfl).trans ?_
    refine (x_get2 f205_26 rfl rfl).trans ?_
    refine g_c ?_
    refine g_c ?_
    refine (x_iload f205_29 rfl rfl).trans ?_
    refine (x_iaload f205_30 rfl).trans ?_
    refine g_c ?_
    refine g_c ?_
    refine (x_iastore f205_31 rfl).trans ?_
    refine g_c ?_
    refine g_c ?_
    refine (x_aload f205_32 rfl rfl).trans ?_
    refine (x_get2 f205_33 rfl rfl).trans ?_
    refine g_c ?_
    refine g_c ?_
    refine (x_iload f205_36 rfl rfl).trans ?_
    refine (x_iconst f205_37 rfl).trans ?_
    refine (x_iastore f205_38 rfl).trans ?_
    refine g_c ?_
    refine g_c ?_
    refine (x_iinc (l2 := [aA l0, aI (w32 (l1 + 1)), aU]) f205_39 rfl rfl rfl).trans ?_
    refine (x_goto (tg := 15) f205_42 rfl rfl).trans ?_
    rfl
  · refine (x_iconst f205_45 rfl).trans ?_
    refine (x_istore (l2 := [aA l0, aI 0, aU]) f205_46 rfl rfl).trans ?_
    rfl
set_option maxRecDepth 10000 in
theorem e205_47 (l0 l1 : Int) (s : SG) : sem 205 47 [aA l0, aI l1, aU] [] s = if l1 < 6 then grd (kd l0 = 9) (bnV (sem 203 0 [aA l0, aI l1, aU] [] s) fun s1 => grd (kd l0 = 9) (grd (0 ≤ s1 l0 30) (grd (kd l0 = 9) (grd (kd (s1 l0 30) = 101) (grd ((0 : Int) ≤ (s1 l0 36) ∧ (s1 l0 36) < kl (s1 l0 30)) (grd (kd l0 = 9) (if l1 = (s1 l0 35) then grd (kd l0 = 9) (grd (kd (s1 l0 30) = 101) (grd ((0 : Int) ≤ (s1 l0 36) ∧ (s1 l0 36) < kl (s1 l0 30)) (sem 205 88 [aA l0, aI l1, aI 0] [] (up s1 (s1 l0 30) (s1 l0 36) (w32 ((s1 (s1 l0 30) (s1 l0 36)) + (s1 l0 37))))))) else grd (kd (s1 l0 30) = 101) (grd ((0 : Int) ≤ (s1 l0 36) ∧ (s1 l0 36) < kl (s1 l0 30)) (sem 205 88 [aA l0, aI l1, aI 0] [] (up s1 (s1 l0 30) (s1 l0 36) (w32 ((s1 (s1 l0 30) (s1 l0 36)) + 0)))))))))))) else some (aU, s) := by
  refine (x_iload f205_47 rfl rfl).trans ?_
  refine (x_iconst f205_48 rfl).trans ?_
  refine (x_icmp_ge (tg := 161) f205_50 rfl rfl).trans (i_c ?_ ?_)
  · refine (x_aload f205_53 rfl rfl).trans ?_
    refine (x_iload f205_54 rfl rfl).trans ?_
    refine (x_invokevirtual (G := grd (kd l0 = 9) (bnV (sem 203 0 [aA l0, aI l1, aU] [] s) fun s1 => sem 205 58 [aA l0, aI l1, aU] [] s1)) f205_55 rfl rfl).trans ?_
    refine g_c ?_
    refine bV_c fun s1 => ?_
    refine (x_aload f205_58 rfl rfl).trans ?_
    refine (x_get2 f205_59 rfl rfl).trans ?_
    refine g_c ?_
    refine g_c ?_
    refine (x_aload f205_62 rfl rfl).trans ?_
    refine (x_get0 f205_63 rfl rfl).trans ?_
    refine g_c ?_
    refine (x_dup2 f205_66 rfl rfl).trans ?_
    refine (x_iaload f205_67 rfl).trans ?_
    refine g_c ?_
    refine g_c ?_
    refine (x_iload f205_68 rfl rfl).trans ?_
    refine (x_aload f205_69 rfl rfl).trans ?_
    refine (x_get0 f205_70 rfl rfl).trans ?_
    refine g_c ?_
    refine (x_icmp_ne (tg := 83) f205_73 rfl rfl).trans (i_c ?_ ?_)
    · refine (x_aload f205_76 rfl rfl).trans ?_
      refine (x_get0 f205_77 rfl rfl).trans ?_
      refine g_c ?_
      refine (x_goto (tg := 84) f205_80 rfl rfl).trans ?_
      refine (x_iadd f205_84 rfl).trans ?_
      refine (x_iastore f205_85 rfl).trans ?_
      refine g_c ?_
      refine g_c ?_
      refine (x_iconst f205_86 rfl).trans ?_
      refine (x_istore (l2 := [aA l0, aI l1, aI 0]) f205_87 rfl rfl).trans ?_
      rfl
    · refine (x_iconst f205_83 rfl).trans ?_
      refine (x_iadd f205_84 rfl).trans ?_
      refine (x_iastore f205_85 rfl).trans ?_
      refine g_c ?_
      refine g_c ?_
      refine (x_iconst f205_86 rfl).trans ?_
      refine (x_istore (l2 := [aA l0, aI l1, aI 0]) f205_87 rfl rfl).trans ?_
      rfl
  · exact x_return f205_161 rfl
set_option maxRecDepth 10000 in
theorem e205_88 (l0 l1 l2 : Int) (s : SG) : sem 205 88 [aA l0, aI l1, aI l2] [] s = if l2 < 3 then grd (kd l0 = 9) (grd (0 ≤ s l0 32) (grd (kd (s l0 32) = 101) (grd ((0 : Int) ≤ l2 ∧ l2 < kl (s l0 32)) (sem 205 88 [aA l0, aI l1, aI (w32 (l2 + 1))] [] (up s (s l0 32) l2 0))))) else sem 205 108 [aA l0, aI l1, aI 0] [] s := by
  refine (x_iload f205_88 rfl rfl).trans ?_
  refine (x_iconst f205_89 rfl).trans ?_
  refine (x_icmp_ge (tg := 106) f205_90 rfl rfl).trans (i_c ?_ ?_)
  · refine (x_aload f205_93 rfl rfl).trans ?_
    refine (x_get2 f205_94 rfl rfl).trans ?_
    refine g_c ?_
    refine g_c ?_
    refine (x_iload f205_97 rfl rfl).trans ?_
    refine (x_iconst f205_98 rfl).trans ?_
    refine (x_iastore f205_99 rfl).trans ?_
    refine g_c ?_
    refine g_c ?_
    refine (x_iinc (l2 := [aA l0, aI l1, aI (w32 (l2 + 1))]) f205_100 rfl rfl rfl).trans ?_
    refine (x_goto (tg := 88) f205_103 rfl rfl).trans ?_
    rfl
  · refine (x_iconst f205_106 rfl).trans ?_
    refine (x_istore (l2 := [aA l0, aI l1, aI 0]) f205_107 rfl rfl).trans ?_
    rfl
set_option maxRecDepth 10000 in
theorem e205_108 (l0 l1 l2 : Int) (s : SG) : sem 205 108 [aA l0, aI l1, aI l2] [] s = grd (kd l0 = 9) (grd (0 ≤ s l0 1) (grd (kd (s l0 1) = 101) (grd ((0 : Int) ≤ 0 ∧ 0 < kl (s l0 1)) (if l2 < (s (s l0 1) 0) then grd (kd l0 = 9) (bnV (sem 204 0 [aA l0, aI l2, aI l1, aU, aU, aU, aU, aU] [] s) fun s1 => sem 205 108 [aA l0, aI l1, aI (w32 (l2 + 1))] [] s1) else sem 205 132 [aA l0, aI l1, aI 0] [] s)))) := by
  refine (x_iload f205_108 rfl rfl).trans ?_
  refine (x_aload f205_109 rfl rfl).trans ?_
  refine (x_get2 f205_110 rfl rfl).trans ?_
  refine g_c ?_
  refine g_c ?_
  refine (x_iconst f205_113 rfl).trans ?_
  refine (x_iaload f205_114 rfl).trans ?_
  refine g_c ?_
  refine g_c ?_
  refine (x_icmp_ge (tg := 130) f205_115 rfl rfl).trans (i_c ?_ ?_)
  · refine (x_aload f205_118 rfl rfl).trans ?_
    refine (x_iload f205_119 rfl rfl).trans ?_
    refine (x_iload f205_120 rfl rfl).trans ?_
    refine (x_invokevirtual (G := grd (kd l0 = 9) (bnV (sem 204 0 [aA l0, aI l2, aI l1, aU, aU, aU, aU, aU] [] s) fun s1 => sem 205 124 [aA l0, aI l1, aI l2] [] s1)) f205_121 rfl rfl).trans ?_
    refine g_c ?_
    refine bV_c fun s1 => ?_
    refine (x_iinc (l2 := [aA l0, aI l1, aI (w32 (l2 + 1))]) f205_124 rfl rfl rfl).trans ?_
    refine (x_goto (tg := 108) f205_127 rfl rfl).trans ?_
    rfl
  · refine (x_iconst f205_130 rfl).trans ?_
    refine (x_istore (l2 := [aA l0, aI l1, aI 0]) f205_131 rfl rfl).trans ?_
    rfl
set_option maxRecDepth 10000 in
theorem e205_132 (l0 l1 l2 : Int) (s : SG) : sem 205 132 [aA l0, aI l1, aI l2] [] s = if l2 < 3 then grd (kd l0 = 9) (grd (0 ≤ s l0 31) (grd (kd l0 = 9) (grd (0 ≤ s l0 32) (grd (kd (s l0 32) = 101) (grd ((0 : Int) ≤ l2 ∧ l2 < kl (s l0 32)) (grd (kd (s l0 31) = 101) (grd ((0 : Int) ≤ l2 ∧ l2 < kl (s l0 31)) (sem 205 132 [aA l0, aI l1, aI (w32 (l2 + 1))] [] (up s (s l0 31) l2 (s (s l0 32) l2)))))))))) else sem 205 47 [aA l0, aI (w32 (l1 + 1)), aU] [] s := by
  refine (x_iload f205_132 rfl rfl).trans ?_
  refine (x_iconst f205_133 rfl).trans ?_
  refine (x_icmp_ge (tg := 155) f205_134 rfl rfl).trans (i_c ?_ ?_)
  · refine (x_aload f205_137 rfl rfl).trans ?_
    refine (x_get2 f205_138 rfl rfl).trans ?_
    refine g_c ?_
    refine g_c ?_
    refine (x_iload f205_141 rfl rfl).trans ?_
    refine (x_aload f205_142 rfl rfl).trans ?_
    refine (x_get2 f205_143 rfl rfl).trans ?_
    refine g_c ?_
    refine g_c ?_
    refine (x_iload f205_146 rfl rfl).trans ?_
    refine (x_iaload f205_147 rfl).trans ?_
    refine g_c ?_
    refine g_c ?_
    refine (x_iastore f205_148 rfl).trans ?_
    refine g_c ?_
    refine g_c ?_
    refine (x_iinc (l2 := [aA l0, aI l1, aI (w32 (l2 + 1))]) f205_149 rfl rfl rfl).trans ?_
    refine (x_goto (tg := 132) f205_152 rfl rfl).trans ?_
    rfl
  · refine (x_iinc (l2 := [aA l0, aI (w32 (l1 + 1)), aI l2]) f205_155 rfl rfl rfl).trans ?_
    refine (x_goto (tg := 47) f205_158 rfl rfl).trans ?_
    exact x_kil f205_47 rfl
theorem f206_0 : fch 206 0 = some (.aload 0, 1, []) := by decide +kernel
theorem f206_1 : fch 206 1 = some (.iconst 0, 2, []) := by decide +kernel
theorem f206_2 : fch 206 2 = some (.multianewarray 9 37, 5, []) := by decide +kernel
theorem f206_5 : fch 206 5 = some (.aload 0, 6, []) := by decide +kernel
theorem f206_6 : fch 206 6 = some (.iconst 0, 7, []) := by decide +kernel
theorem f206_7 : fch 206 7 = some (.multianewarray 9 36, 10, []) := by decide +kernel
theorem f206_10 : fch 206 10 = some (.aload 0, 11, []) := by decide +kernel
theorem f206_11 : fch 206 11 = some (.iconst (-1), 12, []) := by decide +kernel
theorem f206_12 : fch 206 12 = some (.multianewarray 9 38, 15, []) := by decide +kernel
theorem f206_15 : fch 206 15 = some (.aload 0, 16, []) := by decide +kernel
theorem f206_16 : fch 206 16 = some (.invokevirtual 205, 19, []) := by decide +kernel
theorem f206_19 : fch 206 19 = some (.return_, 20, []) := by decide +kernel
set_option maxRecDepth 10000 in
theorem e206_0 (l0 : Int) (s : SG) : sem 206 0 [aA l0] [] s = grd (kd l0 = 9) (grd (kd l0 = 9) (grd (kd l0 = 9) (grd (kd l0 = 9) (bnV (sem 205 0 [aA l0, aU, aU] [] (up (up (up s l0 37 0) l0 36 0) l0 38 ((-1)))) fun s1 => some (aU, s1))))) := by
  refine (x_aload f206_0 rfl rfl).trans ?_
  refine (x_iconst f206_1 rfl).trans ?_
  refine (x_put0 f206_2 rfl rfl).trans ?_
  refine g_c ?_
  refine (x_aload f206_5 rfl rfl).trans ?_
  refine (x_iconst f206_6 rfl).trans ?_
  refine (x_put0 f206_7 rfl rfl).trans ?_
  refine g_c ?_
  refine (x_aload f206_10 rfl rfl).trans ?_
  refine (x_iconst f206_11 rfl).trans ?_
  refine (x_put0 f206_12 rfl rfl).trans ?_
  refine g_c ?_
  refine (x_aload f206_15 rfl rfl).trans ?_
  refine (x_invokevirtual (G := grd (kd l0 = 9) (bnV (sem 205 0 [aA l0, aU, aU] [] (up (up (up s l0 37 0) l0 36 0) l0 38 ((-1)))) fun s1 => sem 206 19 [aA l0] [] s1)) f206_16 rfl rfl).trans ?_
  refine g_c ?_
  refine bV_c fun s1 => ?_
  exact x_return f206_19 rfl
theorem f207_0 : fch 207 0 = some (.aload 0, 1, []) := by decide +kernel
theorem f207_1 : fch 207 1 = some (.iload 1, 2, []) := by decide +kernel
theorem f207_2 : fch 207 2 = some (.invokevirtual 163, 5, []) := by decide +kernel
theorem f207_5 : fch 207 5 = some (.ifCond .eq 15, 8, []) := by decide +kernel
theorem f207_8 : fch 207 8 = some (.iload 2, 9, []) := by decide +kernel
theorem f207_9 : fch 207 9 = some (.invokestatic 195, 12, []) := by decide +kernel
theorem f207_12 : fch 207 12 = some (.ifCond .ne 17, 15, []) := by decide +kernel
theorem f207_15 : fch 207 15 = some (.iconst (-1), 16, [0, 1, 2, 3]) := by decide +kernel
theorem f207_16 : fch 207 16 = some (.ireturn, 17, []) := by decide +kernel
theorem f207_17 : fch 207 17 = some (.aload 0, 18, []) := by decide +kernel
theorem f207_18 : fch 207 18 = some (.invokevirtual 206, 21, []) := by decide +kernel
theorem f207_21 : fch 207 21 = some (.iconst 6, 23, []) := by decide +kernel
theorem f207_23 : fch 207 23 = some (.iload 1, 24, []) := by decide +kernel
theorem f207_24 : fch 207 24 = some (.imul, 25, []) := by decide +kernel
theorem f207_25 : fch 207 25 = some (.iload 2, 26, []) := by decide +kernel
theorem f207_26 : fch 207 26 = some (.iadd, 27, []) := by decide +kernel
theorem f207_27 : fch 207 27 = some (.istore 4, 29, []) := by decide +kernel
theorem f207_29 : fch 207 29 = some (.iload 3, 30, []) := by decide +kernel
theorem f207_30 : fch 207 30 = some (.ifCond .ne 43, 33, []) := by decide +kernel
theorem f207_33 : fch 207 33 = some (.aload 0, 34, []) := by decide +kernel
theorem f207_34 : fch 207 34 = some (.invokeinterface 9 26, 37, []) := by decide +kernel
theorem f207_37 : fch 207 37 = some (.iload 4, 39, []) := by decide +kernel
theorem f207_39 : fch 207 39 = some (.iaload, 40, []) := by decide +kernel
theorem f207_40 : fch 207 40 = some (.goto 90, 43, []) := by decide +kernel
theorem f207_43 : fch 207 43 = some (.iload 3, 44, []) := by decide +kernel
theorem f207_44 : fch 207 44 = some (.iconst 1, 45, []) := by decide +kernel
theorem f207_45 : fch 207 45 = some (.if_icmp .ne 58, 48, []) := by decide +kernel
theorem f207_48 : fch 207 48 = some (.aload 0, 49, []) := by decide +kernel
theorem f207_49 : fch 207 49 = some (.invokeinterface 9 27, 52, []) := by decide +kernel
theorem f207_52 : fch 207 52 = some (.iload 4, 54, []) := by decide +kernel
theorem f207_54 : fch 207 54 = some (.iaload, 55, []) := by decide +kernel
theorem f207_55 : fch 207 55 = some (.goto 90, 58, []) := by decide +kernel
theorem f207_58 : fch 207 58 = some (.iload 3, 59, []) := by decide +kernel
theorem f207_59 : fch 207 59 = some (.iconst 2, 60, []) := by decide +kernel
theorem f207_60 : fch 207 60 = some (.if_icmp .ne 73, 63, []) := by decide +kernel
theorem f207_63 : fch 207 63 = some (.aload 0, 64, []) := by decide +kernel
theorem f207_64 : fch 207 64 = some (.invokeinterface 9 28, 67, []) := by decide +kernel
theorem f207_67 : fch 207 67 = some (.iload 4, 69, []) := by decide +kernel
theorem f207_69 : fch 207 69 = some (.iaload, 70, []) := by decide +kernel
theorem f207_70 : fch 207 70 = some (.goto 90, 73, []) := by decide +kernel
theorem f207_73 : fch 207 73 = some (.iload 3, 74, []) := by decide +kernel
theorem f207_74 : fch 207 74 = some (.iconst 3, 75, []) := by decide +kernel
theorem f207_75 : fch 207 75 = some (.if_icmp .ne 88, 78, []) := by decide +kernel
theorem f207_78 : fch 207 78 = some (.aload 0, 79, []) := by decide +kernel
theorem f207_79 : fch 207 79 = some (.invokeinterface 9 29, 82, []) := by decide +kernel
theorem f207_82 : fch 207 82 = some (.iload 4, 84, []) := by decide +kernel
theorem f207_84 : fch 207 84 = some (.iaload, 85, []) := by decide +kernel
theorem f207_85 : fch 207 85 = some (.goto 90, 88, []) := by decide +kernel
theorem f207_88 : fch 207 88 = some (.iconst (-2), 90, []) := by decide +kernel
theorem f207_90 : fch 207 90 = some (.ireturn, 91, [0, 1, 2, 3, 4]) := by decide +kernel
set_option maxRecDepth 10000 in
theorem e207_0 (l0 l1 l2 l3 : Int) (s : SG) : sem 207 0 [aA l0, aI l1, aI l2, aI l3, aU] [] s = grd (kd l0 = 9) (bnI (sem 163 0 [aA l0, aI l1] [] s) fun a2 s1 => if a2 = 0 then some (aI ((-1)), s1) else bnI (sem 195 0 [aI l2] [] s1) fun a4 s3 => if a4 = 0 then some (aI ((-1)), s3) else grd (kd l0 = 9) (bnV (sem 206 0 [aA l0] [] s3) fun s5 => if l3 = 0 then grd (kd l0 = 9) (grd (0 ≤ s5 l0 26) (grd (kd (s5 l0 26) = 101) (grd ((0 : Int) ≤ (w32 ((w32 (6 * l1)) + l2)) ∧ (w32 ((w32 (6 * l1)) + l2)) < kl (s5 l0 26)) (some (aI (s5 (s5 l0 26) (w32 ((w32 (6 * l1)) + l2))), s5))))) else if l3 = 1 then grd (kd l0 = 9) (grd (0 ≤ s5 l0 27) (grd (kd (s5 l0 27) = 101) (grd ((0 : Int) ≤ (w32 ((w32 (6 * l1)) + l2)) ∧ (w32 ((w32 (6 * l1)) + l2)) < kl (s5 l0 27)) (some (aI (s5 (s5 l0 27) (w32 ((w32 (6 * l1)) + l2))), s5))))) else if l3 = 2 then grd (kd l0 = 9) (grd (0 ≤ s5 l0 28) (grd (kd (s5 l0 28) = 101) (grd ((0 : Int) ≤ (w32 ((w32 (6 * l1)) + l2)) ∧ (w32 ((w32 (6 * l1)) + l2)) < kl (s5 l0 28)) (some (aI (s5 (s5 l0 28) (w32 ((w32 (6 * l1)) + l2))), s5))))) else if l3 = 3 then grd (kd l0 = 9) (grd (0 ≤ s5 l0 29) (grd (kd (s5 l0 29) = 101) (grd ((0 : Int) ≤ (w32 ((w32 (6 * l1)) + l2)) ∧ (w32 ((w32 (6 * l1)) + l2)) < kl (s5 l0 29)) (some (aI (s5 (s5 l0 29) (w32 ((w32 (6 * l1)) + l2))), s5))))) else some (aI ((-2)), s5))) := by
  refine (x_aload f207_0 rfl rfl).trans ?_
  refine (x_iload f207_1 rfl rfl).trans ?_
  refine (x_invokevirtual (G := grd (kd l0 = 9) (bnI (sem 163 0 [aA l0, aI l1] [] s) fun a2 s1 => sem 207 5 [aA l0, aI l1, aI l2, aI l3, aU] [aI a2] s1)) f207_2 rfl rfl).trans ?_
  refine g_c ?_
  refine bI_c fun a2 s1 => ?_
  refine (x_if_eq (tg := 15) f207_5 rfl rfl).trans (i_c ?_ ?_)
  · refine (x_kil (l2 := [aU, aU, aU, aU, aU]) f207_15 rfl).trans ?_
    refine (x_iconst f207_15 rfl).trans ?_
    exact x_ireturn f207_16 rfl
  · refine (x_iload f207_8 rfl rfl).trans ?_
    refine (x_invokestatic (G := bnI (sem 195 0 [aI l2] [] s1) fun a4 s3 => sem 207 12 [aA l0, aI l1, aI l2, aI l3, aU] [aI a4] s3) f207_9 rfl rfl).trans ?_
    refine bI_c fun a4 s3 => ?_
    refine (x_if_ne (tg := 17) f207_12 rfl rfl).trans (i_c ?_ ?_)
    · refine (x_kil (l2 := [aU, aU, aU, aU, aU]) f207_15 rfl).trans ?_
      refine (x_iconst f207_15 rfl).trans ?_
      exact x_ireturn f207_16 rfl
    · refine (x_aload f207_17 rfl rfl).trans ?_
      refine (x_invokevirtual (G := grd (kd l0 = 9) (bnV (sem 206 0 [aA l0] [] s3) fun s5 => sem 207 21 [aA l0, aI l1, aI l2, aI l3, aU] [] s5)) f207_18 rfl rfl).trans ?_
      refine g_c ?_
      refine bV_c fun s5 => ?_
      refine (x_iconst f207_21 rfl).trans ?_
      refine (x_iload f207_23 rfl rfl).trans ?_
      refine (x_imul f207_24 rfl).trans ?_
      refine (x_iload f207_25 rfl rfl).trans ?_
      refine (x_iadd f207_26 rfl).trans ?_
      refine (x_istore (l2 := [aA l0, aI l1, aI l2, aI l3, aI (w32 ((w32 (6 * l1)) + l2))]) f207_27 rfl rfl).trans ?_
      refine (x_iload f207_29 rfl rfl).trans ?_
      refine (x_if_ne (tg := 43) f207_30 rfl rfl).trans (i_c ?_ ?_)
      · refine (x_aload f207_33 rfl rfl).trans ?_
        refine (x_get2 f207_34 rfl rfl).trans ?_
        refine g_c ?_
        refine g_c ?_
        refine (x_iload f207_37 rfl rfl).trans ?_
        refine (x_iaload f207_39 rfl).trans ?_
        refine g_c ?_
        refine g_c ?_
        refine (x_goto (tg := 90) f207_40 rfl rfl).trans ?_
        refine (x_kil (l2 := [aU, aU, aU, aU, aU]) f207_90 rfl).trans ?_
        exact x_ireturn f207_90 rfl
      · refine (x_iload f207_43 rfl rfl).trans ?_
        refine (x_iconst f207_44 rfl).trans ?_
        refine (x_icmp_ne (tg := 58) f207_45 rfl rfl).trans (i_c ?_ ?_)
        · refine (x_aload f207_48 rfl rfl).trans ?_
          refine (x_get2 f207_49 rfl rfl).trans ?_
          refine g_c ?_
          refine g_c ?_
          refine (x_iload f207_52 rfl rfl).trans ?_
          refine (x_iaload f207_54 rfl).trans ?_
          refine g_c ?_
          refine g_c ?_
          refine (x_goto (tg := 90) f207_55 rfl rfl).trans ?_
          refine (x_kil (l2 := [aU, aU, aU, aU, aU]) f207_90 rfl).trans ?_
          exact x_ireturn f207_90 rfl
        · refine (x_iload f207_58 rfl rfl).trans ?_
          refine (x_iconst f207_59 rfl).trans ?_
          refine (x_icmp_ne (tg := 73) f207_60 rfl rfl).trans (i_c ?_ ?_)
          · refine (x_aload f207_63 rfl rfl).trans ?_
            refine (x_get2 f207_64 rfl rfl).trans ?_
            refine g_c ?_
            refine g_c ?_
            refine (x_iload f207_67 rfl rfl).trans ?_
            refine (x_iaload f207_69 rfl).trans ?_
            refine g_c ?_
            refine g_c ?_
            refine (x_goto (tg := 90) f207_70 rfl rfl).trans ?_
            refine (x_kil (l2 := [aU, aU, aU, aU, aU]) f207_90 rfl).trans ?_
            exact x_ireturn f207_90 rfl
          · refine (x_iload f207_73 rfl rfl).trans ?_
            refine (x_iconst f207_74 rfl).trans ?_
            refine (x_icmp_ne (tg := 88) f207_75 rfl rfl).trans (i_c ?_ ?_)
            · refine (x_aload f207_78 rfl rfl).trans ?_
              refine (x_get2 f207_79 rfl rfl).trans ?_
              refine g_c ?_
              refine g_c ?_
              refine (x_iload f207_82 rfl rfl).trans ?_
              refine (x_iaload f207_84 rfl).trans ?_
              refine g_c ?_
              refine g_c ?_
              refine (x_goto (tg := 90) f207_85 rfl rfl).trans ?_
              refine (x_kil (l2 := [aU, aU, aU, aU, aU]) f207_90 rfl).trans ?_
              exact x_ireturn f207_90 rfl
            · refine (x_iconst f207_88 rfl).trans ?_
              refine (x_kil (l2 := [aU, aU, aU, aU, aU]) f207_90 rfl).trans ?_
              exact x_ireturn f207_90 rfl
theorem f208_0 : fch 208 0 = some (.iconst 0, 1, []) := by decide +kernel
theorem f208_1 : fch 208 1 = some (.istore 1, 2, []) := by decide +kernel
theorem f208_2 : fch 208 2 = some (.iconst 0, 3, []) := by decide +kernel
theorem f208_3 : fch 208 3 = some (.istore 2, 4, []) := by decide +kernel
theorem f208_4 : fch 208 4 = some (.iload 2, 5, []) := by decide +kernel
theorem f208_5 : fch 208 5 = some (.aload 0, 6, []) := by decide +kernel
theorem f208_6 : fch 208 6 = some (.invokeinterface 9 1, 9, []) := by decide +kernel
theorem f208_9 : fch 208 9 = some (.iconst 0, 10, []) := by decide +kernel
theorem f208_10 : fch 208 10 = some (.iaload, 11, []) := by decide +kernel
theorem f208_11 : fch 208 11 = some (.if_icmp .ge 34, 14, []) := by decide +kernel
theorem f208_14 : fch 208 14 = some (.iload 1, 15, []) := by decide +kernel
theorem f208_15 : fch 208 15 = some (.aload 0, 16, []) := by decide +kernel
theorem f208_16 : fch 208 16 = some (.invokeinterface 9 27, 19, []) := by decide +kernel
theorem f208_19 : fch 208 19 = some (.iconst 6, 21, []) := by decide +kernel
theorem f208_21 : fch 208 21 = some (.iload 2, 22, []) := by decide +kernel
theorem f208_22 : fch 208 22 = some (.imul, 23, []) := by decide +kernel
theorem f208_23 : fch 208 23 = some (.iconst 5, 24, []) := by decide +kernel
theorem f208_24 : fch 208 24 = some (.iadd, 25, []) := by decide +kernel
theorem f208_25 : fch 208 25 = some (.iaload, 26, []) := by decide +kernel
theorem f208_26 : fch 208 26 = some (.iadd, 27, []) := by decide +kernel
theorem f208_27 : fch 208 27 = some (.istore 1, 28, []) := by decide +kernel
theorem f208_28 : fch 208 28 = some (.iinc 2 1, 31, []) := by decide +kernel
theorem f208_31 : fch 208 31 = some (.goto 4, 34, []) := by decide +kernel
theorem f208_34 : fch 208 34 = some (.iload 1, 35, []) := by decide +kernel
theorem f208_35 : fch 208 35 = some (.ireturn, 36, []) := by decide +kernel
set_option maxRecDepth 10000 in
theorem e208_0 (l0 : Int) (s : SG) : sem 208 0 [aA l0, aU, aU] [] s = sem 208 4 [aA l0, aI 0, aI 0] [] s := by
  refine (x_iconst f208_0 rfl).trans ?_
  refine (x_istore (l2 := [aA l0, aI 0, aU]) f208_1 rfl rfl).trans ?_
  refine (x_iconst f208_2 rfl).trans ?_
  refine (x_istore (l2 := [aA l0, aI 0, aI 0]) f208_3 rfl rfl).trans ?_
  rfl
set_option maxRecDepth 10000 in
theorem e208_4 (l0 l1 l2 : Int) (s : SG) : sem 208 4 [aA l0, aI l1, aI l2] [] s = grd (kd l0 = 9) (grd (0 ≤ s l0 1) (grd (kd (s l0 1) = 101) (grd ((0 : Int) ≤ 0 ∧ 0 < kl (s l0 1)) (if l2 < (s (s l0 1) 0) then grd (kd l0 = 9) (grd (0 ≤ s l0 27) (grd (kd (s l0 27) = 101) (grd ((0 : Int) ≤ (w32 ((w32 (6 * l2)) + 5)) ∧ (w32 ((w32 (6 * l2)) + 5)) < kl (s l0 27)) (sem 208 4 [aA l0, aI (w32 (l1 + (s (s l0 27) (w32 ((w32 (6 * l2)) + 5))))), aI (w32 (l2 + 1))] [] s)))) else some (aI l1, s))))) := by
  refine (x_iload f208_4 rfl rfl).trans ?_
  refine (x_aload f208_5 rfl rfl).trans ?_
  refine (x_get2 f208_6 rfl rfl).trans ?_
  refine g_c ?_
  refine g_c ?_
  refine (x_iconst f208_9 rfl).trans ?_
  refine (x_iaload f208_10 rfl).trans ?_
  refine g_c ?_
  refine g_c ?_
  refine (x_icmp_ge (tg := 34) f208_11 rfl rfl).trans (i_c ?_ ?_)
  · refine (x_iload f208_14 rfl rfl).trans ?_
    refine (x_aload f208_15 rfl rfl).trans ?_
    refine (x_get2 f208_16 rfl rfl).trans ?_
    refine g_c ?_
    refine g_c ?_
    refine (x_iconst f208_19 rfl).trans ?_
    refine (x_iload f208_21 rfl rfl).trans ?_
    refine (x_imul f208_22 rfl).trans ?_
    refine (x_iconst f208_23 rfl).trans ?_
    refine (x_iadd f208_24 rfl).trans ?_
    refine (x_iaload f208_25 rfl).trans ?_
    refine g_c ?_
    refine g_c ?_
    refine (x_iadd f208_26 rfl).trans ?_
    refine (x_istore (l2 := [aA l0, aI (w32 (l1 + (s (s l0 27) (w32 ((w32 (6 * l2)) + 5))))), aI l2]) f208_27 rfl rfl).trans ?_
    refine (x_iinc (l2 := [aA l0, aI (w32 (l1 + (s (s l0 27) (w32 ((w32 (6 * l2)) + 5))))), aI (w32 (l2 + 1))]) f208_28 rfl rfl rfl).trans ?_
    refine (x_goto (tg := 4) f208_31 rfl rfl).trans ?_
    rfl
  · refine (x_iload f208_34 rfl rfl).trans ?_
    exact x_ireturn f208_35 rfl
theorem f209_0 : fch 209 0 = some (.aload 0, 1, []) := by decide +kernel
theorem f209_1 : fch 209 1 = some (.invokeinterface 9 16, 4, []) := by decide +kernel
theorem f209_4 : fch 209 4 = some (.iconst 0, 5, []) := by decide +kernel
theorem f209_5 : fch 209 5 = some (.iaload, 6, []) := by decide +kernel
theorem f209_6 : fch 209 6 = some (.aload 0, 7, []) := by decide +kernel
theorem f209_7 : fch 209 7 = some (.invokeinterface 9 16, 10, []) := by decide +kernel
theorem f209_10 : fch 209 10 = some (.iconst 1, 11, []) := by decide +kernel
theorem f209_11 : fch 209 11 = some (.iaload, 12, []) := by decide +kernel
theorem f209_12 : fch 209 12 = some (.iadd, 13, []) := by decide +kernel
theorem f209_13 : fch 209 13 = some (.aload 0, 14, []) := by decide +kernel
theorem f209_14 : fch 209 14 = some (.invokeinterface 9 16, 17, []) := by decide +kernel
theorem f209_17 : fch 209 17 = some (.iconst 2, 18, []) := by decide +kernel
theorem f209_18 : fch 209 18 = some (.iaload, 19, []) := by decide +kernel
theorem f209_19 : fch 209 19 = some (.iadd, 20, []) := by decide +kernel
theorem f209_20 : fch 209 20 = some (.ireturn, 21, []) := by decide +kernel
set_option maxRecDepth 10000 in
theorem e209_0 (l0 : Int) (s : SG) : sem 209 0 [aA l0] [] s = grd (kd l0 = 9) (grd (0 ≤ s l0 16) (grd (kd (s l0 16) = 101) (grd ((0 : Int) ≤ 0 ∧ 0 < kl (s l0 16)) (grd (kd l0 = 9) (grd (0 ≤ s l0 16) (grd (kd (s l0 16) = 101) (grd ((0 : Int) ≤ 1 ∧ 1 < kl (s l0 16)) (grd (kd l0 = 9) (grd (0 ≤ s l0 16) (grd (kd (s l0 16) = 101) (grd ((0 : Int) ≤ 2 ∧ 2 < kl (s l0 16)) (some (aI (w32 ((w32 ((s (s l0 16) 0) + (s (s l0 16) 1))) + (s (s l0 16) 2))), s))))))))))))) := by
  refine (x_aload f209_0 rfl rfl).trans ?_
  refine (x_get2 f209_1 rfl rfl).trans ?_
  refine g_c ?_
  refine g_c ?_
  refine (x_iconst f209_4 rfl).trans ?_
  refine (x_iaload f209_5 rfl).trans ?_
  refine g_c ?_
  refine g_c ?_
  refine (x_aload f209_6 rfl rfl).trans ?_
  refine (x_get2 f209_7 rfl rfl).trans ?_
  refine g_c ?_
  refine g_c ?_
  refine (x_iconst f209_10 rfl).trans ?_
  refine (x_iaload f209_11 rfl).trans ?_
  refine g_c ?_
  refine g_c ?_
  refine (x_iadd f209_12 rfl).trans ?_
  refine (x_aload f209_13 rfl rfl).trans ?_
  refine (x_get2 f209_14 rfl rfl).trans ?_
  refine g_c ?_
  refine g_c ?_
  refine (x_iconst f209_17 rfl).trans ?_
  refine (x_iaload f209_18 rfl).trans ?_
  refine g_c ?_
  refine g_c ?_
  refine (x_iadd f209_19 rfl).trans ?_
  exact x_ireturn f209_20 rfl
theorem f210_0 : fch 210 0 = some (.aload 0, 1, []) := by decide +kernel
theorem f210_1 : fch 210 1 = some (.invokevirtual 206, 4, []) := by decide +kernel
theorem f210_4 : fch 210 4 = some (.iconst 0, 5, []) := by decide +kernel
theorem f210_5 : fch 210 5 = some (.istore 2, 6, []) := by decide +kernel
theorem f210_6 : fch 210 6 = some (.iconst 0, 7, []) := by decide +kernel
theorem f210_7 : fch 210 7 = some (.istore 3, 8, []) := by decide +kernel
theorem f210_8 : fch 210 8 = some (.iload 3, 9, []) := by decide +kernel
theorem f210_9 : fch 210 9 = some (.aload 0, 10, []) := by decide +kernel
theorem f210_10 : fch 210 10 = some (.invokeinterface 9 1, 13, []) := by decide +kernel
theorem f210_13 : fch 210 13 = some (.iconst 0, 14, []) := by decide +kernel
theorem f210_14 : fch 210 14 = some (.iaload, 15, []) := by decide +kernel
theorem f210_15 : fch 210 15 = some (.if_icmp .ge 38, 18, []) := by decide +kernel
theorem f210_18 : fch 210 18 = some (.iload 2, 19, []) := by decide +kernel
theorem f210_19 : fch 210 19 = some (.aload 0, 20, []) := by decide +kernel
theorem f210_20 : fch 210 20 = some (.invokeinterface 9 26, 23, []) := by decide +kernel
theorem f210_23 : fch 210 23 = some (.iconst 6, 25, []) := by decide +kernel
theorem f210_25 : fch 210 25 = some (.iload 3, 26, []) := by decide +kernel
theorem f210_26 : fch 210 26 = some (.imul, 27, []) := by decide +kernel
theorem f210_27 : fch 210 27 = some (.iconst 5, 28, []) := by decide +kernel
theorem f210_28 : fch 210 28 = some (.iadd, 29, []) := by decide +kernel
theorem f210_29 : fch 210 29 = some (.iaload, 30, []) := by decide +kernel
theorem f210_30 : fch 210 30 = some (.iadd, 31, []) := by decide +kernel
theorem f210_31 : fch 210 31 = some (.istore 2, 32, []) := by decide +kernel
theorem f210_32 : fch 210 32 = some (.iinc 3 1, 35, []) := by decide +kernel
theorem f210_35 : fch 210 35 = some (.goto 8, 38, []) := by decide +kernel
theorem f210_38 : fch 210 38 = some (.iconst 100000, 41, []) := by decide +kernel
theorem f210_41 : fch 210 41 = some (.aload 0, 42, []) := by decide +kernel
theorem f210_42 : fch 210 42 = some (.invokevirtual 208, 45, []) := by decide +kernel
theorem f210_45 : fch 210 45 = some (.aload 0, 46, []) := by decide +kernel
theorem f210_46 : fch 210 46 = some (.invokeinterface 9 1, 49, []) := by decide +kernel
theorem f210_49 : fch 210 49 = some (.iconst 5, 50, []) := by decide +kernel
theorem f210_50 : fch 210 50 = some (.iaload, 51, []) := by decide +kernel
theorem f210_51 : fch 210 51 = some (.imul, 52, []) := by decide +kernel
theorem f210_52 : fch 210 52 = some (.iadd, 53, []) := by decide +kernel
theorem f210_53 : fch 210 53 = some (.iload 2, 54, []) := by decide +kernel
theorem f210_54 : fch 210 54 = some (.aload 0, 55, []) := by decide +kernel
theorem f210_55 : fch 210 55 = some (.invokeinterface 9 33, 58, []) := by decide +kernel
theorem f210_58 : fch 210 58 = some (.iadd, 59, []) := by decide +kernel
theorem f210_59 : fch 210 59 = some (.aload 0, 60, []) := by decide +kernel
theorem f210_60 : fch 210 60 = some (.invokeinterface 9 1, 63, []) := by decide +kernel
theorem f210_63 : fch 210 63 = some (.iconst 6, 65, []) := by decide +kernel
theorem f210_65 : fch 210 65 = some (.iaload, 66, []) := by decide +kernel
theorem f210_66 : fch 210 66 = some (.imul, 67, []) := by decide +kernel
theorem f210_67 : fch 210 67 = some (.iadd, 68, []) := by decide +kernel
theorem f210_68 : fch 210 68 = some (.aload 0, 69, []) := by decide +kernel
theorem f210_69 : fch 210 69 = some (.invokevirtual 209, 72, []) := by decide +kernel
theorem f210_72 : fch 210 72 = some (.aload 0, 73, []) := by decide +kernel
theorem f210_73 : fch 210 73 = some (.invokeinterface 9 19, 76, []) := by decide +kernel
theorem f210_76 : fch 210 76 = some (.iadd, 77, []) := by decide +kernel
theorem f210_77 : fch 210 77 = some (.aload 0, 78, []) := by decide +kernel
theorem f210_78 : fch 210 78 = some (.invokeinterface 9 1, 81, []) := by decide +kernel
theorem f210_81 : fch 210 81 = some (.iconst 4, 82, []) := by decide +kernel
theorem f210_82 : fch 210 82 = some (.iaload, 83, []) := by decide +kernel
theorem f210_83 : fch 210 83 = some (.imul, 84, []) := by decide +kernel
theorem f210_84 : fch 210 84 = some (.isub, 85, []) := by decide +kernel
theorem f210_85 : fch 210 85 = some (.istore 3, 86, []) := by decide +kernel
theorem f210_86 : fch 210 86 = some (.iload 1, 87, []) := by decide +kernel
theorem f210_87 : fch 210 87 = some (.tableswitch 139 0 4 #[120, 125, 127, 132, 137], 120, []) := by decide +kernel
theorem f210_120 : fch 210 120 = some (.aload 0, 121, []) := by decide +kernel
theorem f210_121 : fch 210 121 = some (.invokevirtual 208, 124, []) := by decide +kernel
theorem f210_124 : fch 210 124 = some (.ireturn, 125, []) := by decide +kernel
theorem f210_125 : fch 210 125 = some (.iload 2, 126, []) := by decide +kernel
theorem f210_126 : fch 210 126 = some (.ireturn, 127, []) := by decide +kernel
theorem f210_127 : fch 210 127 = some (.aload 0, 128, []) := by decide +kernel
theorem f210_128 : fch 210 128 = some (.invokeinterface 9 33, 131, []) := by decide +kernel
theorem f210_131 : fch 210 131 = some (.ireturn, 132, []) := by decide +kernel
theorem f210_132 : fch 210 132 = some (.aload 0, 133, []) := by decide +kernel
theorem f210_133 : fch 210 133 = some (.invokeinterface 9 34, 136, []) := by decide +kernel
theorem f210_136 : fch 210 136 = some (.ireturn, 137, []) := by decide +kernel
theorem f210_137 : fch 210 137 = some (.iload 3, 138, []) := by decide +kernel
theorem f210_138 : fch 210 138 = some (.ireturn, 139, []) := by decide +kernel
theorem f210_139 : fch 210 139 = some (.iconst (-2), 141, []) := by decide +kernel
theorem f210_141 : fch 210 141 = some (.ireturn, 142, []) := by decide +kernel
set_option maxRecDepth 10000 in
theorem e210_0 (l0 l1 : Int) (s : SG) : sem 210 0 [aA l0, aI l1, aU, aU] [] s = grd (kd l0 = 9) (bnV (sem 206 0 [aA l0] [] s) fun s1 => sem 210 8 [aA l0, aI l1, aI 0, aI 0] [] s1) := by
  refine (x_aload f210_0 rfl rfl).trans ?_
  refine (x_invokevirtual (G := grd (kd l0 = 9) (bnV (sem 206 0 [aA l0] [] s) fun s1 => sem 210 4 [aA l0, aI l1, aU, aU] [] s1)) f210_1 rfl rfl).trans ?_
  refine g_c ?_
  refine bV_c fun s1 => ?_
  refine (x_iconst f210_4 rfl).trans ?_
  refine (x_istore (l2 := [aA l0, aI l1, aI 0, aU]) f210_5 rfl rfl).trans ?_
  refine (x_iconst f210_6 rfl).trans ?_
  refine (x_istore (l2 := [aA l0, aI l1, aI 0, aI 0]) f210_7 rfl rfl).trans ?_
  rfl
set_option maxRecDepth 10000 in
theorem e210_8 (l0 l1 l2 l3 : Int) (s : SG) : sem 210 8 [aA l0, aI l1, aI l2, aI l3] [] s = grd (kd l0 = 9) (grd (0 ≤ s l0 1) (grd (kd (s l0 1) = 101) (grd ((0 : Int) ≤ 0 ∧ 0 < kl (s l0 1)) (if l3 < (s (s l0 1) 0) then grd (kd l0 = 9) (grd (0 ≤ s l0 26) (grd (kd (s l0 26) = 101) (grd ((0 : Int) ≤ (w32 ((w32 (6 * l3)) + 5)) ∧ (w32 ((w32 (6 * l3)) + 5)) < kl (s l0 26)) (sem 210 8 [aA l0, aI l1, aI (w32 (l2 + (s (s l0 26) (w32 ((w32 (6 * l3)) + 5))))), aI (w32 (l3 + 1))] [] s)))) else grd (kd l0 = 9) (bnI (sem 208 0 [aA l0, aU, aU] [] s) fun a2 s1 => grd (kd l0 = 9) (grd (0 ≤ s1 l0 1) (grd (kd (s1 l0 1) = 101) (grd ((0 : Int) ≤ 5 ∧ 5 < kl (s1 l0 1)) (grd (kd l0 = 9) (grd (kd l0 = 9) (grd (0 ≤ s1 l0 1) (grd (kd (s1 l0 1) = 101) (grd ((0 : Int) ≤ 6 ∧ 6 < kl (s1 l0 1)) (grd (kd l0 = 9) (bnI (sem 209 0 [aA l0] [] s1) fun a4 s3 => grd (kd l0 = 9) (grd (kd l0 = 9) (grd (0 ≤ s3 l0 1) (grd (kd (s3 l0 1) = 101) (grd ((0 : Int) ≤ 4 ∧ 4 < kl (s3 l0 1)) (if l1 = 0 then grd (kd l0 = 9) (bnI (sem 208 0 [aA l0, aU, aU] [] s3) fun a6 s5 => some (aI a6, s5)) else if l1 = 1 then some (aI l2, s3) else if l1 = 2 then grd (kd l0 = 9) (some (aI (s3 l0 33), s3)) else if l1 = 3 then grd (kd l0 = 9) (some (aI (s3 l0 34), s3)) else if l1 = 4 then some (aI (w32 ((w32 ((w32 (100000 + (w32 (a2 * (s1 (s1 l0 1) 5))))) + (w32 ((w32 (l2 + (s1 l0 33))) * (s1 (s1 l0 1) 6))))) - (w32 ((w32 (a4 + (s3 l0 19))) * (s3 (s3 l0 1) 4))))), s3) else some (aI ((-2)), s3))))))))))))))))))))) := by
  refine (x_iload f210_8 rfl rfl).trans ?_
  refine (x_aload f210_9 rfl rfl).trans ?_
  refine (x_get2 f210_10 rfl rfl).trans ?_
  refine g_c ?_
  refine g_c ?_
  refine (x_iconst f210_13 rfl).trans ?_
  refine (x_iaload f210_14 rfl).trans ?_
  refine g_c ?_
  refine g_c ?_
  refine (x_icmp_ge (tg := 38) f210_15 rfl rfl).trans (i_c ?_ ?_)
  · refine (x_iload f210_18 rfl rfl).trans ?_
    refine (x_aload f210_19 rfl rfl).trans ?_
    refine (x_get2 f210_20 rfl rfl).trans ?_
    refine g_c ?_
    refine g_c ?_
    refine (x_iconst f210_23 rfl).trans ?_
    refine (x_iload f210_25 rfl rfl).trans ?_
    refine (x_imul f210_26 rfl).trans ?_
    refine (x_iconst f210_27 rfl).trans ?_
    refine (x_iadd f210_28 rfl).trans ?_
    refine (x_iaload f210_29 rfl).trans ?_
    refine g_c ?_
    refine g_c ?_
    refine (x_iadd f210_30 rfl).trans ?_
    refine (x_istore (l2 := [aA l0, aI l1, aI (w32 (l2 + (s (s l0 26) (w32 ((w32 (6 * l3)) + 5))))), aI l3]) f210_31 rfl rfl).trans ?_
    refine (x_iinc (l2 := [aA l0, aI l1, aI (w32 (l2 + (s (s l0 26) (w32 ((w32 (6 * l3)) + 5))))), aI (w32 (l3 + 1))]) f210_32 rfl rfl rfl).trans ?_
    refine (x_goto (tg := 8) f210_35 rfl rfl).trans ?_
    rfl
  · refine (x_iconst f210_38 rfl).trans ?_
    refine (x_aload f210_41 rfl rfl).trans ?_
    refine (x_invokevirtual (G := grd (kd l0 = 9) (bnI (sem 208 0 [aA l0, aU, aU] [] s) fun a2 s1 => sem 210 45 [aA l0, aI l1, aI l2, aI l3] [aI a2, aI 100000] s1)) f210_42 rfl rfl).trans ?_
    refine g_c ?_
    refine bI_c fun a2 s1 => ?_
    refine (x_aload f210_45 rfl rfl).trans ?_
    refine (x_get2 f210_46 rfl rfl).trans ?_
    refine g_c ?_
    refine g_c ?_
    refine (x_iconst f210_49 rfl).trans ?_
    refine (x_iaload f210_50 rfl).trans ?_
    refine g_c ?_
    refine g_c ?_
    refine (x_imul f210_51 rfl).trans ?_
    refine (x_iadd f210_52 rfl).trans ?_
    refine (x_iload f210_53 rfl rfl).trans ?_
    refine (x_aload f210_54 rfl rfl).trans ?_
    refine (x_get0 f210_55 rfl rfl).trans ?_
    refine g_c ?_
    refine (x_iadd f210_58 rfl).trans ?_
    refine (x_aload f210_59 rfl rfl).trans ?_
    refine (x_get2 f210_60 rfl rfl).trans ?_
    refine g_c ?_
    refine g_c ?_
    refine (x_iconst f210_63 rfl).trans ?_
    refine (x_iaload f210_65 rfl).trans ?_
    refine g_c ?_
    refine g_c ?_
    refine (x_imul f210_66 rfl).trans ?_
    refine (x_iadd f210_67 rfl).trans ?_
    refine (x_aload f210_68 rfl rfl).trans ?_
    refine (x_invokevirtual (G := grd (kd l0 = 9) (bnI (sem 209 0 [aA l0] [] s1) fun a4 s3 => sem 210 72 [aA l0, aI l1, aI l2, aI l3] [aI a4, aI (w32 ((w32 (100000 + (w32 (a2 * (s1 (s1 l0 1) 5))))) + (w32 ((w32 (l2 + (s1 l0 33))) * (s1 (s1 l0 1) 6)))))] s3)) f210_69 rfl rfl).trans ?_
    refine g_c ?_
    refine bI_c fun a4 s3 => ?_
    refine (x_aload f210_72 rfl rfl).trans ?_
    refine (x_get0 f210_73 rfl rfl).trans ?_
    refine g_c ?_
    refine (x_iadd f210_76 rfl).trans ?_
    refine (x_aload f210_77 rfl rfl).trans ?_
    refine (x_get2 f210_78 rfl rfl).trans ?_
    refine g_c ?_
    refine g_c ?_
    refine (x_iconst f210_81 rfl).trans ?_
    refine (x_iaload f210_82 rfl).trans ?_
    refine g_c ?_
    refine g_c ?_
    refine (x_imul f210_83 rfl).trans ?_
    refine (x_isub f210_84 rfl).trans ?_
    refine (x_istore (l2 := [aA l0, aI l1, aI l2, aI (w32 ((w32 ((w32 (100000 + (w32 (a2 * (s1 (s1 l0 1) 5))))) + (w32 ((w32 (l2 + (s1 l0 33))) * (s1 (s1 l0 1) 6))))) - (w32 ((w32 (a4 + (s3 l0 19))) * (s3 (s3 l0 1) 4)))))]) f210_85 rfl rfl).trans ?_
    refine (x_iload f210_86 rfl rfl).trans ?_
    refine (x_tsw f210_87 rfl).trans ?_
    refine Eq.trans (b := sem 210 (if l1 = 0 then 120 else if l1 = 1 then 125 else if l1 = 2 then 127 else if l1 = 3 then 132 else if l1 = 4 then 137 else 139) [aA l0, aI l1, aI l2, aI (w32 ((w32 ((w32 (100000 + (w32 (a2 * (s1 (s1 l0 1) 5))))) + (w32 ((w32 (l2 + (s1 l0 33))) * (s1 (s1 l0 1) 6))))) - (w32 ((w32 (a4 + (s3 l0 19))) * (s3 (s3 l0 1) 4)))))] [] s3) rfl ?_
    refine x_ite.trans (i_c ?_ ?_)
    · refine (x_aload f210_120 rfl rfl).trans ?_
      refine (x_invokevirtual (G := grd (kd l0 = 9) (bnI (sem 208 0 [aA l0, aU, aU] [] s3) fun a6 s5 => sem 210 124 [aA l0, aI l1, aI l2, aI (w32 ((w32 ((w32 (100000 + (w32 (a2 * (s1 (s1 l0 1) 5))))) + (w32 ((w32 (l2 + (s1 l0 33))) * (s1 (s1 l0 1) 6))))) - (w32 ((w32 (a4 + (s3 l0 19))) * (s3 (s3 l0 1) 4)))))] [aI a6] s5)) f210_121 rfl rfl).trans ?_
      refine g_c ?_
      refine bI_c fun a6 s5 => ?_
      exact x_ireturn f210_124 rfl
    refine x_ite.trans (i_c ?_ ?_)
    · refine (x_iload f210_125 rfl rfl).trans ?_
      exact x_ireturn f210_126 rfl
    refine x_ite.trans (i_c ?_ ?_)
    · refine (x_aload f210_127 rfl rfl).trans ?_
      refine (x_get0 f210_128 rfl rfl).trans ?_
      refine g_c ?_
      exact x_ireturn f210_131 rfl
    refine x_ite.trans (i_c ?_ ?_)
    · refine (x_aload f210_132 rfl rfl).trans ?_
      refine (x_get0 f210_133 rfl rfl).trans ?_
      refine g_c ?_
      exact x_ireturn f210_136 rfl
    refine x_ite.trans (i_c ?_ ?_)
    · refine (x_iload f210_137 rfl rfl).trans ?_
      exact x_ireturn f210_138 rfl
    refine (x_iconst f210_139 rfl).trans ?_
    exact x_ireturn f210_141 rfl
theorem f211_0 : fch 211 0 = some (.iconst 0, 1, []) := by decide +kernel
theorem f211_1 : fch 211 1 = some (.istore 2, 2, []) := by decide +kernel
theorem f211_2 : fch 211 2 = some (.iload 2, 3, []) := by decide +kernel
theorem f211_3 : fch 211 3 = some (.iconst 6, 5, []) := by decide +kernel
theorem f211_5 : fch 211 5 = some (.if_icmp .ge 30, 8, []) := by decide +kernel
theorem f211_8 : fch 211 8 = some (.aload 0, 9, []) := by decide +kernel
theorem f211_9 : fch 211 9 = some (.invokeinterface 9 29, 12, []) := by decide +kernel
theorem f211_12 : fch 211 12 = some (.iconst 6, 14, []) := by decide +kernel
theorem f211_14 : fch 211 14 = some (.iload 1, 15, []) := by decide +kernel
theorem f211_15 : fch 211 15 = some (.imul, 16, []) := by decide +kernel
theorem f211_16 : fch 211 16 = some (.iload 2, 17, []) := by decide +kernel
theorem f211_17 : fch 211 17 = some (.iadd, 18, []) := by decide +kernel
theorem f211_18 : fch 211 18 = some (.iaload, 19, []) := by decide +kernel
theorem f211_19 : fch 211 19 = some (.ifCond .le 24, 22, []) := by decide +kernel
theorem f211_22 : fch 211 22 = some (.iload 2, 23, []) := by decide +kernel
theorem f211_23 : fch 211 23 = some (.ireturn, 24, []) := by decide +kernel
theorem f211_24 : fch 211 24 = some (.iinc 2 1, 27, []) := by decide +kernel
theorem f211_27 : fch 211 27 = some (.goto 2, 30, []) := by decide +kernel
theorem f211_30 : fch 211 30 = some (.iconst (-9), 32, []) := by decide +kernel
theorem f211_32 : fch 211 32 = some (.ireturn, 33, []) := by decide +kernel
set_option maxRecDepth 10000 in
theorem e211_0 (l0 l1 : Int) (s : SG) : sem 211 0 [aA l0, aI l1, aU] [] s = sem 211 2 [aA l0, aI l1, aI 0] [] s := by
  refine (x_iconst f211_0 rfl).trans ?_
  refine (x_istore (l2 := [aA l0, aI l1, aI 0]) f211_1 rfl rfl).trans ?_
  rfl
set_option maxRecDepth 10000 in
theorem e211_2 (l0 l1 l2 : Int) (s : SG) : sem 211 2 [aA l0, aI l1, aI l2] [] s = if l2 < 6 then grd (kd l0 = 9) (grd (0 ≤ s l0 29) (grd (kd (s l0 29) = 101) (grd ((0 : Int) ≤ (w32 ((w32 (6 * l1)) + l2)) ∧ (w32 ((w32 (6 * l1)) + l2)) < kl (s l0 29)) (if (0 : Int) < (s (s l0 29) (w32 ((w32 (6 * l1)) + l2))) then some (aI l2, s) else sem 211 2 [aA l0, aI l1, aI (w32 (l2 + 1))] [] s)))) else some (aI ((-9)), s) := by
  refine (x_iload f211_2 rfl rfl).trans ?_
  refine (x_iconst f211_3 rfl).trans ?_
  refine (x_icmp_ge (tg := 30) f211_5 rfl rfl).trans (i_c ?_ ?_)
  · refine (x_aload f211_8 rfl rfl).trans ?_
    refine (x_get2 f211_9 rfl rfl).trans ?_
    refine g_c ?_
    refine g_c ?_
    refine (x_iconst f211_12 rfl).trans ?_
    refine (x_iload f211_14 rfl rfl).trans ?_
    refine (x_imul f211_15 rfl).trans ?_
    refine (x_iload f211_16 rfl rfl).trans ?_
    refine (x_iadd f211_17 rfl).trans ?_
    refine (x_iaload f211_18 rfl).trans ?_
    refine g_c ?_
    refine g_c ?_
    refine (x_if_le (tg := 24) f211_19 rfl rfl).trans (i_c ?_ ?_)
    · refine (x_iload f211_22 rfl rfl).trans ?_
      exact x_ireturn f211_23 rfl
    · refine (x_iinc (l2 := [aA l0, aI l1, aI (w32 (l2 + 1))]) f211_24 rfl rfl rfl).trans ?_
      refine (x_goto (tg := 2) f211_27 rfl rfl).trans ?_
      rfl
  · refine (x_iconst f211_30 rfl).trans ?_
    exact x_ireturn f211_32 rfl
theorem f212_0 : fch 212 0 = some (.aload 0, 1, []) := by decide +kernel
theorem f212_1 : fch 212 1 = some (.iload 1, 2, []) := by decide +kernel
theorem f212_2 : fch 212 2 = some (.invokevirtual 163, 5, []) := by decide +kernel
theorem f212_5 : fch 212 5 = some (.ifCond .ne 10, 8, []) := by decide +kernel
theorem f212_8 : fch 212 8 = some (.iconst (-1), 9, []) := by decide +kernel
theorem f212_9 : fch 212 9 = some (.ireturn, 10, []) := by decide +kernel
theorem f212_10 : fch 212 10 = some (.aload 0, 11, []) := by decide +kernel
theorem f212_11 : fch 212 11 = some (.invokevirtual 206, 14, []) := by decide +kernel
theorem f212_14 : fch 212 14 = some (.aload 0, 15, []) := by decide +kernel
theorem f212_15 : fch 212 15 = some (.iload 1, 16, []) := by decide +kernel
theorem f212_16 : fch 212 16 = some (.invokevirtual 211, 19, []) := by decide +kernel
theorem f212_19 : fch 212 19 = some (.ireturn, 20, []) := by decide +kernel
set_option maxRecDepth 10000 in
theorem e212_0 (l0 l1 : Int) (s : SG) : sem 212 0 [aA l0, aI l1] [] s = grd (kd l0 = 9) (bnI (sem 163 0 [aA l0, aI l1] [] s) fun a2 s1 => if a2 = 0 then some (aI ((-1)), s1) else grd (kd l0 = 9) (bnV (sem 206 0 [aA l0] [] s1) fun s3 => grd (kd l0 = 9) (bnI (sem 211 0 [aA l0, aI l1, aU] [] s3) fun a5 s4 => some (aI a5, s4)))) := by
  refine (x_aload f212_0 rfl rfl).trans ?_
  refine (x_iload f212_1 rfl rfl).trans ?_
  refine (x_invokevirtual (G := grd (kd l0 = 9) (bnI (sem 163 0 [aA l0, aI l1] [] s) fun a2 s1 => sem 212 5 [aA l0, aI l1] [aI a2] s1)) f212_2 rfl rfl).trans ?_
  refine g_c ?_
  refine bI_c fun a2 s1 => ?_
  refine (x_if_ne (tg := 10) f212_5 rfl rfl).trans (i_c ?_ ?_)
  · refine (x_iconst f212_8 rfl).trans ?_
    exact x_ireturn f212_9 rfl
  · refine (x_aload f212_10 rfl rfl).trans ?_
    refine (x_invokevirtual (G := grd (kd l0 = 9) (bnV (sem 206 0 [aA l0] [] s1) fun s3 => sem 212 14 [aA l0, aI l1] [] s3)) f212_11 rfl rfl).trans ?_
    refine g_c ?_
    refine bV_c fun s3 => ?_
    refine (x_aload f212_14 rfl rfl).trans ?_
    refine (x_iload f212_15 rfl rfl).trans ?_
    refine (x_invokevirtual (G := grd (kd l0 = 9) (bnI (sem 211 0 [aA l0, aI l1, aU] [] s3) fun a5 s4 => sem 212 19 [aA l0, aI l1] [aI a5] s4)) f212_16 rfl rfl).trans ?_
    refine g_c ?_
    refine bI_c fun a5 s4 => ?_
    exact x_ireturn f212_19 rfl
theorem f213_0 : fch 213 0 = some (.aload 0, 1, []) := by decide +kernel
theorem f213_1 : fch 213 1 = some (.iload 1, 2, []) := by decide +kernel
theorem f213_2 : fch 213 2 = some (.invokevirtual 163, 5, []) := by decide +kernel
theorem f213_5 : fch 213 5 = some (.ifCond .eq 17, 8, []) := by decide +kernel
theorem f213_8 : fch 213 8 = some (.aload 0, 9, []) := by decide +kernel
theorem f213_9 : fch 213 9 = some (.invokeinterface 9 18, 12, []) := by decide +kernel
theorem f213_12 : fch 213 12 = some (.iload 1, 13, []) := by decide +kernel
theorem f213_13 : fch 213 13 = some (.iaload, 14, []) := by decide +kernel
theorem f213_14 : fch 213 14 = some (.goto 18, 17, []) := by decide +kernel
theorem f213_17 : fch 213 17 = some (.iconst (-1), 18, []) := by decide +kernel
theorem f213_18 : fch 213 18 = some (.ireturn, 19, [0, 1]) := by decide +kernel
set_option maxRecDepth 10000 in
theorem e213_0 (l0 l1 : Int) (s : SG) : sem 213 0 [aA l0, aI l1] [] s = grd (kd l0 = 9) (bnI (sem 163 0 [aA l0, aI l1] [] s) fun a2 s1 => if a2 = 0 then some (aI ((-1)), s1) else grd (kd l0 = 9) (grd (0 ≤ s1 l0 18) (grd (kd (s1 l0 18) = 101) (grd ((0 : Int) ≤ l1 ∧ l1 < kl (s1 l0 18)) (some (aI (s1 (s1 l0 18) l1), s1)))))) := by
  refine (x_aload f213_0 rfl rfl).trans ?_
  refine (x_iload f213_1 rfl rfl).trans ?_
  refine (x_invokevirtual (G := grd (kd l0 = 9) (bnI (sem 163 0 [aA l0, aI l1] [] s) fun a2 s1 => sem 213 5 [aA l0, aI l1] [aI a2] s1)) f213_2 rfl rfl).trans ?_
  refine g_c ?_
  refine bI_c fun a2 s1 => ?_
  refine (x_if_eq (tg := 17) f213_5 rfl rfl).trans (i_c ?_ ?_)
  · refine (x_iconst f213_17 rfl).trans ?_
    refine (x_kil (l2 := [aU, aU]) f213_18 rfl).trans ?_
    exact x_ireturn f213_18 rfl
  · refine (x_aload f213_8 rfl rfl).trans ?_
    refine (x_get2 f213_9 rfl rfl).trans ?_
    refine g_c ?_
    refine g_c ?_
    refine (x_iload f213_12 rfl rfl).trans ?_
    refine (x_iaload f213_13 rfl).trans ?_
    refine g_c ?_
    refine g_c ?_
    refine (x_goto (tg := 18) f213_14 rfl rfl).trans ?_
    refine (x_kil (l2 := [aU, aU]) f213_18 rfl).trans ?_
    exact x_ireturn f213_18 rfl
theorem f214_0 : fch 214 0 = some (.iload 1, 1, []) := by decide +kernel
theorem f214_1 : fch 214 1 = some (.i2l, 2, []) := by decide +kernel
theorem f214_2 : fch 214 2 = some (.sipush 1, 3, []) := by decide +kernel
theorem f214_3 : fch 214 3 = some (.sipush 30, 6, []) := by decide +kernel
theorem f214_6 : fch 214 6 = some (.invokestatic 152, 9, []) := by decide +kernel
theorem f214_9 : fch 214 9 = some (.ifCond .ne 15, 12, []) := by decide +kernel
theorem f214_12 : fch 214 12 = some (.iconst (-2), 14, []) := by decide +kernel
theorem f214_14 : fch 214 14 = some (.ireturn, 15, []) := by decide +kernel
theorem f214_15 : fch 214 15 = some (.iconst 0, 16, []) := by decide +kernel
theorem f214_16 : fch 214 16 = some (.istore 2, 17, []) := by decide +kernel
theorem f214_17 : fch 214 17 = some (.iconst 0, 18, []) := by decide +kernel
theorem f214_18 : fch 214 18 = some (.istore 3, 19, []) := by decide +kernel
theorem f214_19 : fch 214 19 = some (.iload 3, 20, [4, 5, 6]) := by decide +kernel
theorem f214_20 : fch 214 20 = some (.iload 1, 21, []) := by decide +kernel
theorem f214_21 : fch 214 21 = some (.if_icmp .ge 147, 24, []) := by decide +kernel
theorem f214_24 : fch 214 24 = some (.aload 0, 25, []) := by decide +kernel
theorem f214_25 : fch 214 25 = some (.invokevirtual 206, 28, []) := by decide +kernel
theorem f214_28 : fch 214 28 = some (.iconst 0, 29, []) := by decide +kernel
theorem f214_29 : fch 214 29 = some (.istore 2, 30, []) := by decide +kernel
theorem f214_30 : fch 214 30 = some (.iconst 0, 31, []) := by decide +kernel
theorem f214_31 : fch 214 31 = some (.istore 4, 33, []) := by decide +kernel
theorem f214_33 : fch 214 33 = some (.iload 4, 35, [5, 6]) := by decide +kernel
theorem f214_35 : fch 214 35 = some (.aload 0, 36, []) := by decide +kernel
theorem f214_36 : fch 214 36 = some (.invokeinterface 9 1, 39, []) := by decide +kernel
theorem f214_39 : fch 214 39 = some (.iconst 0, 40, []) := by decide +kernel
theorem f214_40 : fch 214 40 = some (.iaload, 41, []) := by decide +kernel
theorem f214_41 : fch 214 41 = some (.if_icmp .ge 141, 44, []) := by decide +kernel
theorem f214_44 : fch 214 44 = some (.aload 0, 45, []) := by decide +kernel
theorem f214_45 : fch 214 45 = some (.invokeinterface 9 18, 48, []) := by decide +kernel
theorem f214_48 : fch 214 48 = some (.iload 4, 50, []) := by decide +kernel
theorem f214_50 : fch 214 50 = some (.iaload, 51, []) := by decide +kernel
theorem f214_51 : fch 214 51 = some (.istore 5, 53, []) := by decide +kernel
theorem f214_53 : fch 214 53 = some (.aload 0, 54, []) := by decide +kernel
theorem f214_54 : fch 214 54 = some (.iload 4, 56, []) := by decide +kernel
theorem f214_56 : fch 214 56 = some (.invokevirtual 211, 59, []) := by decide +kernel
theorem f214_59 : fch 214 59 = some (.iconst (-9), 61, []) := by decide +kernel
theorem f214_61 : fch 214 61 = some (.if_icmp .eq 68, 64, []) := by decide +kernel
theorem f214_64 : fch 214 64 = some (.iconst 1, 65, []) := by decide +kernel
theorem f214_65 : fch 214 65 = some (.goto 69, 68, []) := by decide +kernel
theorem f214_68 : fch 214 68 = some (.iconst 0, 69, []) := by decide +kernel
theorem f214_69 : fch 214 69 = some (.istore 6, 71, [6]) := by decide +kernel
theorem f214_71 : fch 214 71 = some (.aload 0, 72, []) := by decide +kernel
theorem f214_72 : fch 214 72 = some (.invokeinterface 9 18, 75, []) := by decide +kernel
theorem f214_75 : fch 214 75 = some (.iload 4, 77, []) := by decide +kernel
theorem f214_77 : fch 214 77 = some (.iload 6, 79, []) := by decide +kernel
theorem f214_79 : fch 214 79 = some (.ifCond .eq 98, 82, []) := by decide +kernel
theorem f214_82 : fch 214 82 = some (.iload 5, 84, []) := by decide +kernel
theorem f214_84 : fch 214 84 = some (.ifCond .le 94, 87, []) := by decide +kernel
theorem f214_87 : fch 214 87 = some (.iload 5, 89, []) := by decide +kernel
theorem f214_89 : fch 214 89 = some (.iconst 1, 90, []) := by decide +kernel
theorem f214_90 : fch 214 90 = some (.isub, 91, []) := by decide +kernel
theorem f214_91 : fch 214 91 = some (.goto 114, 94, []) := by decide +kernel
theorem f214_94 : fch 214 94 = some (.iconst 0, 95, []) := by decide +kernel
theorem f214_95 : fch 214 95 = some (.goto 114, 98, []) := by decide +kernel
theorem f214_98 : fch 214 98 = some (.iload 5, 100, []) := by decide +kernel
theorem f214_100 : fch 214 100 = some (.iconst 9, 102, []) := by decide +kernel
theorem f214_102 : fch 214 102 = some (.if_icmp .ge 112, 105, []) := by decide +kernel
theorem f214_105 : fch 214 105 = some (.iload 5, 107, []) := by decide +kernel
theorem f214_107 : fch 214 107 = some (.iconst 1, 108, []) := by decide +kernel
theorem f214_108 : fch 214 108 = some (.iadd, 109, []) := by decide +kernel
theorem f214_109 : fch 214 109 = some (.goto 114, 112, []) := by decide +kernel
theorem f214_112 : fch 214 112 = some (.iconst 9, 114, []) := by decide +kernel
theorem f214_114 : fch 214 114 = some (.iastore, 115, [6]) := by decide +kernel
theorem f214_115 : fch 214 115 = some (.iload 2, 116, []) := by decide +kernel
theorem f214_116 : fch 214 116 = some (.aload 0, 117, []) := by decide +kernel
theorem f214_117 : fch 214 117 = some (.invokeinterface 9 18, 120, []) := by decide +kernel
theorem f214_120 : fch 214 120 = some (.iload 4, 122, []) := by decide +kernel
theorem f214_122 : fch 214 122 = some (.iaload, 123, []) := by decide +kernel
theorem f214_123 : fch 214 123 = some (.iload 5, 125, []) := by decide +kernel
theorem f214_125 : fch 214 125 = some (.if_icmp .ge 132, 128, []) := by decide +kernel
theorem f214_128 : fch 214 128 = some (.iconst 1, 129, []) := by decide +kernel
theorem f214_129 : fch 214 129 = some (.goto 133, 132, []) := by decide +kernel
theorem f214_132 : fch 214 132 = some (.iconst 0, 133, []) := by decide +kernel
theorem f214_133 : fch 214 133 = some (.iadd, 134, [2, 5, 6]) := by decide +kernel
theorem f214_134 : fch 214 134 = some (.istore 2, 135, []) := by decide +kernel
theorem f214_135 : fch 214 135 = some (.iinc 4 1, 138, []) := by decide +kernel
theorem f214_138 : fch 214 138 = some (.goto 33, 141, []) := by decide +kernel
theorem f214_141 : fch 214 141 = some (.iinc 3 1, 144, []) := by decide +kernel
theorem f214_144 : fch 214 144 = some (.goto 19, 147, []) := by decide +kernel
theorem f214_147 : fch 214 147 = some (.iload 2, 148, []) := by decide +kernel
theorem f214_148 : fch 214 148 = some (.ireturn, 149, []) := by decide +kernel
set_option maxRecDepth 10000 in
theorem e214_0 (l0 l1 : Int) (s : SG) : sem 214 0 [aA l0, aI l1, aU, aU, aU, aU, aU] [] s = bnI (sem 152 0 [aL l1, aU, aL 1, aU, aL 30, aU] [] s) fun a2 s1 => if a2 = 0 then some (aI ((-2)), s1) else sem 214 19 [aA l0, aI l1, aI 0, aI 0, aU, aU, aU] [] s1 := by
  refine (x_iload f214_0 rfl rfl).trans ?_
  refine (x_i2l f214_1 rfl).trans ?_
  refine (x_lconst f214_2 rfl).trans ?_
  refine (x_lconst f214_3 rfl).trans ?_
  refine (x_invokestatic (G := bnI (sem 152 0 [aL l1, aU, aL 1, aU, aL 30, aU] [] s) fun a2 s1 => sem 214 9 [aA l0, aI l1, aU, aU, aU, aU, aU] [aI a2] s1) f214_6 rfl rfl).trans ?_
  refine bI_c fun a2 s1 => ?_
  refine (x_if_ne (tg := 15) f214_9 rfl rfl).trans (i_c ?_ ?_)
  · refine (x_iconst f214_12 rfl).trans ?_
    exact x_ireturn f214_14 rfl
  · refine (x_iconst f214_15 rfl).trans ?_
    refine (x_istore (l2 := [aA l0, aI l1, aI 0, aU, aU, aU, aU]) f214_16 rfl rfl).trans ?_
    refine (x_iconst f214_17 rfl).trans ?_
    refine (x_istore (l2 := [aA l0, aI l1, aI 0, aI 0, aU, aU, aU]) f214_18 rfl rfl).trans ?_
    rfl
set_option maxRecDepth 10000 in
theorem e214_19 (l0 l1 l2 l3 : Int) (s : SG) : sem 214 19 [aA l0, aI l1, aI l2, aI l3, aU, aU, aU] [] s = if l3 < l1 then grd (kd l0 = 9) (bnV (sem 206 0 [aA l0] [] s) fun s1 => sem 214 33 [aA l0, aI l1, aI 0, aI l3, aI 0, aU, aU] [] s1) else some (aI l2, s) := by
  refine (x_iload f214_19 rfl rfl).trans ?_
  refine (x_iload f214_20 rfl rfl).trans ?_
  refine (x_icmp_ge (tg := 147) f214_21 rfl rfl).trans (i_c ?_ ?_)
  · refine (x_aload f214_24 rfl rfl).trans ?_
    refine (x_invokevirtual (G := grd (kd l0 = 9) (bnV (sem 206 0 [aA l0] [] s) fun s1 => sem 214 28 [aA l0, aI l1, aI l2, aI l3, aU, aU, aU] [] s1)) f214_25 rfl rfl).trans ?_
    refine g_c ?_
    refine bV_c fun s1 => ?_
    refine (x_iconst f214_28 rfl).trans ?_
    refine (x_istore (l2 := [aA l0, aI l1, aI 0, aI l3, aU, aU, aU]) f214_29 rfl rfl).trans ?_
    refine (x_iconst f214_30 rfl).trans ?_
    refine (x_istore (l2 := [aA l0, aI l1, aI 0, aI l3, aI 0, aU, aU]) f214_31 rfl rfl).trans ?_
    rfl
  · refine (x_iload f214_147 rfl rfl).trans ?_
    exact x_ireturn f214_148 rfl
set_option maxRecDepth 10000 in
theorem e214_33 (l0 l1 l2 l3 l4 : Int) (s : SG) : sem 214 33 [aA l0, aI l1, aI l2, aI l3, aI l4, aU, aU] [] s = grd (kd l0 = 9) (grd (0 ≤ s l0 1) (grd (kd (s l0 1) = 101) (grd ((0 : Int) ≤ 0 ∧ 0 < kl (s l0 1)) (if l4 < (s (s l0 1) 0) then grd (kd l0 = 9) (grd (0 ≤ s l0 18) (grd (kd (s l0 18) = 101) (grd ((0 : Int) ≤ l4 ∧ l4 < kl (s l0 18)) (grd (kd l0 = 9) (bnI (sem 211 0 [aA l0, aI l4, aU] [] s) fun a2 s1 => grd (kd l0 = 9) (grd (0 ≤ s1 l0 18) (grd (kd (s1 l0 18) = 101) (grd ((0 : Int) ≤ l4 ∧ l4 < kl (s1 l0 18)) (grd (kd l0 = 9) (grd (0 ≤ (up s1 (s1 l0 18) l4 (if (if a2 = ((-9)) then 0 else 1 : Int) = 0 then if (s (s l0 18) l4) < 9 then w32 ((s (s l0 18) l4) + 1) else 9 else if (0 : Int) < (s (s l0 18) l4) then w32 ((s (s l0 18) l4) - 1) else 0)) l0 18) (grd (kd ((up s1 (s1 l0 18) l4 (if (if a2 = ((-9)) then 0 else 1 : Int) = 0 then if (s (s l0 18) l4) < 9 then w32 ((s (s l0 18) l4) + 1) else 9 else if (0 : Int) < (s (s l0 18) l4) then w32 ((s (s l0 18) l4) - 1) else 0)) l0 18) = 101) (grd ((0 : Int) ≤ l4 ∧ l4 < kl ((up s1 (s1 l0 18) l4 (if (if a2 = ((-9)) then 0 else 1 : Int) = 0 then if (s (s l0 18) l4) < 9 then w32 ((s (s l0 18) l4) + 1) else 9 else if (0 : Int) < (s (s l0 18) l4) then w32 ((s (s l0 18) l4) - 1) else 0)) l0 18)) (sem 214 33 [aA l0, aI l1, aI (w32 (l2 + (if ((up s1 (s1 l0 18) l4 (if (if a2 = ((-9)) then 0 else 1 : Int) = 0 then if (s (s l0 18) l4) < 9 then w32 ((s (s l0 18) l4) + 1) else 9 else if (0 : Int) < (s (s l0 18) l4) then w32 ((s (s l0 18) l4) - 1) else 0)) ((up s1 (s1 l0 18) l4 (if (if a2 = ((-9)) then 0 else 1 : Int) = 0 then if (s (s l0 18) l4) < 9 then w32 ((s (s l0 18) l4) + 1) else 9 else if (0 : Int) < (s (s l0 18) l4) then w32 ((s (s l0 18) l4) - 1) else 0)) l0 18) l4) < (s (s l0 18) l4) then 1 else 0))), aI l3, aI (w32 (l4 + 1)), aU, aU] [] (up s1 (s1 l0 18) l4 (if (if a2 = ((-9)) then 0 else 1 : Int) = 0 then if (s (s l0 18) l4) < 9 then w32 ((s (s l0 18) l4) + 1) else 9 else if (0 : Int) < (s (s l0 18) l4) then w32 ((s (s l0 18) l4) - 1) else 0))))))))))))))) else sem 214 19 [aA l0, aI l1, aI l2, aI (w32 (l3 + 1)), aU, aU, aU] [] s)))) := by
  refine (x_iload f214_33 rfl rfl).trans ?_
  refine (x_aload f214_35 rfl rfl).trans ?_
  refine (x_get2 f214_36 rfl rfl).trans ?_
  refine g_c ?_
  refine g_c ?_
  refine (x_iconst f214_39 rfl).trans ?_
  refine (x_iaload f214_40 rfl).trans ?_
  refine g_c ?_
  refine g_c ?_
  refine (x_icmp_ge (tg := 141) f214_41 rfl rfl).trans (i_c ?_ ?_)
  · refine (x_aload f214_44 rfl rfl).trans ?_
    refine (x_get2 f214_45 rfl rfl).trans ?_
    refine g_c ?_
    refine g_c ?_
    refine (x_iload f214_48 rfl rfl).trans ?_
    refine (x_iaload f214_50 rfl).trans ?_
    refine g_c ?_
    refine g_c ?_
    refine (x_istore (l2 := [aA l0, aI l1, aI l2, aI l3, aI l4, aI (s (s l0 18) l4), aU]) f214_51 rfl rfl).trans ?_
    refine (x_aload f214_53 rfl rfl).trans ?_
    refine (x_iload f214_54 rfl rfl).trans ?_
    refine (x_invokevirtual (G := grd (kd l0 = 9) (bnI (sem 211 0 [aA l0, aI l4, aU] [] s) fun a2 s1 => sem 214 59 [aA l0, aI l1, aI l2, aI l3, aI l4, aI (s (s l0 18) l4), aU] [aI a2] s1)) f214_56 rfl rfl).trans ?_
    refine g_c ?_
    refine bI_c fun a2 s1 => ?_
    refine (x_iconst f214_59 rfl).trans ?_
    refine (x_icmp_eq (tg := 68) f214_61 rfl rfl).trans ?_
    refine Eq.trans (b := if a2 = ((-9)) then sem 214 69 [aA l0, aI l1, aI l2, aI l3, aI l4, aI (s (s l0 18) l4), aU] [aI 0] s1 else sem 214 69 [aA l0, aI l1, aI l2, aI l3, aI l4, aI (s (s l0 18) l4), aU] [aI 1] s1) (i_c ?_ ?_) ?_
    · refine (x_iconst f214_68 rfl).trans ?_
      rfl
    · refine (x_iconst f214_64 rfl).trans ?_
      refine (x_goto (tg := 69) f214_65 rfl rfl).trans ?_
      rfl
    refine m_I.trans ?_
    refine (x_istore (l2 := [aA l0, aI l1, aI l2, aI l3, aI l4, aI (s (s l0 18) l4), aI (if a2 = ((-9)) then 0 else 1)]) f214_69 rfl rfl).trans ?_
    refine (x_aload f214_71 rfl rfl).trans ?_
    refine (x_get2 f214_72 rfl rfl).trans ?_
    refine g_c ?_
    refine g_c ?_
    refine (x_iload f214_75 rfl rfl).trans ?_
    refine (x_iload f214_77 rfl rfl).trans ?_
    refine (x_if_eq (tg := 98) f214_79 rfl rfl).trans ?_
    refine Eq.trans (b := if (if a2 = ((-9)) then 0 else 1 : Int) = 0 then sem 214 114 [aA l0, aI l1, aI l2, aI l3, aI l4, aI (s (s l0 18) l4), aU] [aI (if (s (s l0 18) l4) < 9 then w32 ((s (s l0 18) l4) + 1) else 9), aI l4, aA (s1 l0 18)] s1 else sem 214 114 [aA l0, aI l1, aI l2, aI l3, aI l4, aI (s (s l0 18) l4), aU] [aI (if (0 : Int) < (s (s l0 18) l4) then w32 ((s (s l0 18) l4) - 1) else 0), aI l4, aA (s1 l0 18)] s1) (i_c ?_ ?_) ?_
    · refine (x_iload f214_98 rfl rfl).trans ?_
      refine (x_iconst f214_100 rfl).trans ?_
      refine (x_icmp_ge (tg := 112) f214_102 rfl rfl).trans ?_
      refine Eq.trans (b := if (s (s l0 18) l4) < 9 then sem 214 114 [aA l0, aI l1, aI l2, aI l3, aI l4, aI (s (s l0 18) l4), aU] [aI (w32 ((s (s l0 18) l4) + 1)), aI l4, aA (s1 l0 18)] s1 else sem 214 114 [aA l0, aI l1, aI l2, aI l3, aI l4, aI (s (s l0 18) l4), aU] [aI 9, aI l4, aA (s1 l0 18)] s1) (i_c ?_ ?_) ?_
      · refine (x_iload f214_105 rfl rfl).trans ?_
        refine (x_iconst f214_107 rfl).trans ?_
        refine (x_iadd f214_108 rfl).trans ?_
        refine (x_goto (tg := 114) f214_109 rfl rfl).trans ?_
        exact x_kil f214_114 rfl
      · refine (x_iconst f214_112 rfl).trans ?_
        exact x_kil f214_114 rfl
      refine m_I.trans ?_
      rfl
    · refine (x_iload f214_82 rfl rfl).trans ?_
      refine (x_if_le (tg := 94) f214_84 rfl rfl).trans ?_
      refine Eq.trans (b := if (0 : Int) < (s (s l0 18) l4) then sem 214 114 [aA l0, aI l1, aI l2, aI l3, aI l4, aI (s (s l0 18) l4), aU] [aI (w32 ((s (s l0 18) l4) - 1)), aI l4, aA (s1 l0 18)] s1 else sem 214 114 [aA l0, aI l1, aI l2, aI l3, aI l4, aI (s (s l0 18) l4), aU] [aI 0, aI l4, aA (s1 l0 18)] s1) (i_c ?_ ?_) ?_
      · refine (x_iload f214_87 rfl rfl).trans ?_
        refine (x_iconst f214_89 rfl).trans ?_
        refine (x_isub f214_90 rfl).trans ?_
        refine (x_goto (tg := 114) f214_91 rfl rfl).trans ?_
        exact x_kil f214_114 rfl
      · refine (x_iconst f214_94 rfl).trans ?_
        refine (x_goto (tg := 114) f214_95 rfl rfl).trans ?_
        exact x_kil f214_114 rfl
      refine m_I.trans ?_
      rfl
    refine m_I.trans ?_
    refine (x_iastore f214_114 rfl).trans ?_
    refine g_c ?_
    refine g_c ?_
    refine (x_iload f214_115 rfl rfl).trans ?_
    refine (x_aload f214_116 rfl rfl).trans ?_
    refine (x_get2 f214_117 rfl rfl).trans ?_
    refine g_c ?_
    refine g_c ?_
    refine (x_iload f214_120 rfl rfl).trans ?_
    refine (x_iaload f214_122 rfl).trans ?_
    refine g_c ?_
    refine g_c ?_
    refine (x_iload f214_123 rfl rfl).trans ?_
    refine (x_icmp_ge (tg := 132) f214_125 rfl rfl).trans ?_
    refine Eq.trans (b := if ((up s1 (s1 l0 18) l4 (if (if a2 = ((-9)) then 0 else 1 : Int) = 0 then if (s (s l0 18) l4) < 9 then w32 ((s (s l0 18) l4) + 1) else 9 else if (0 : Int) < (s (s l0 18) l4) then w32 ((s (s l0 18) l4) - 1) else 0)) ((up s1 (s1 l0 18) l4 (if (if a2 = ((-9)) then 0 else 1 : Int) = 0 then if (s (s l0 18) l4) < 9 then w32 ((s (s l0 18) l4) + 1) else 9 else if (0 : Int) < (s (s l0 18) l4) then w32 ((s (s l0 18) l4) - 1) else 0)) l0 18) l4) < (s (s l0 18) l4) then sem 214 133 [aA l0, aI l1, aU, aI l3, aI l4, aU, aU] [aI 1, aI l2] (up s1 (s1 l0 18) l4 (if (if a2 = ((-9)) then 0 else 1 : Int) = 0 then if (s (s l0 18) l4) < 9 then w32 ((s (s l0 18) l4) + 1) else 9 else if (0 : Int) < (s (s l0 18) l4) then w32 ((s (s l0 18) l4) - 1) else 0)) else sem 214 133 [aA l0, aI l1, aU, aI l3, aI l4, aU, aU] [aI 0, aI l2] (up s1 (s1 l0 18) l4 (if (if a2 = ((-9)) then 0 else 1 : Int) = 0 then if (s (s l0 18) l4) < 9 then w32 ((s (s l0 18) l4) + 1) else 9 else if (0 : Int) < (s (s l0 18) l4) then w32 ((s (s l0 18) l4) - 1) else 0))) (i_c ?_ ?_) ?_
    · refine (x_iconst f214_128 rfl).trans ?_
      refine (x_goto (tg := 133) f214_129 rfl rfl).trans ?_
      exact x_kil f214_133 rfl
    · refine (x_iconst f214_132 rfl).trans ?_
      exact x_kil f214_133 rfl
    refine m_I.trans ?_
    refine (x_iadd f214_133 rfl).trans ?_
    refine (x_istore (l2 := [aA l0, aI l1, aI (w32 (l2 + (if ((up s1 (s1 l0 18) l4 (if (if a2 = ((-9)) then 0 else 1 : Int) = 0 then if (s (s l0 18) l4) < 9 then w32 ((s (s l0 18) l4) + 1) else 9 else if (0 : Int) < (s (s l0 18) l4) then w32 ((s (s l0 18) l4) - 1) else 0)) ((up s1 (s1 l0 18) l4 (if (if a2 = ((-9)) then 0 else 1 : Int) = 0 then if (s (s l0 18) l4) < 9 then w32 ((s (s l0 18) l4) + 1) else 9 else if (0 : Int) < (s (s l0 18) l4) then w32 ((s (s l0 18) l4) - 1) else 0)) l0 18) l4) < (s (s l0 18) l4) then 1 else 0))), aI l3, aI l4, aU, aU]) f214_134 rfl rfl).trans ?_
    refine (x_iinc (l2 := [aA l0, aI l1, aI (w32 (l2 + (if ((up s1 (s1 l0 18) l4 (if (if a2 = ((-9)) then 0 else 1 : Int) = 0 then if (s (s l0 18) l4) < 9 then w32 ((s (s l0 18) l4) + 1) else 9 else if (0 : Int) < (s (s l0 18) l4) then w32 ((s (s l0 18) l4) - 1) else 0)) ((up s1 (s1 l0 18) l4 (if (if a2 = ((-9)) then 0 else 1 : Int) = 0 then if (s (s l0 18) l4) < 9 then w32 ((s (s l0 18) l4) + 1) else 9 else if (0 : Int) < (s (s l0 18) l4) then w32 ((s (s l0 18) l4) - 1) else 0)) l0 18) l4) < (s (s l0 18) l4) then 1 else 0))), aI l3, aI (w32 (l4 + 1)), aU, aU]) f214_135 rfl rfl rfl).trans ?_
    refine (x_goto (tg := 33) f214_138 rfl rfl).trans ?_
    rfl
  · refine (x_iinc (l2 := [aA l0, aI l1, aI l2, aI (w32 (l3 + 1)), aI l4, aU, aU]) f214_141 rfl rfl rfl).trans ?_
    refine (x_goto (tg := 19) f214_144 rfl rfl).trans ?_
    exact x_kil f214_19 rfl
theorem f215_0 : fch 215 0 = some (.aload 0, 1, []) := by decide +kernel
theorem f215_1 : fch 215 1 = some (.iload 1, 2, []) := by decide +kernel
theorem f215_2 : fch 215 2 = some (.invokevirtual 163, 5, []) := by decide +kernel
theorem f215_5 : fch 215 5 = some (.ifCond .eq 15, 8, []) := by decide +kernel
theorem f215_8 : fch 215 8 = some (.iload 2, 9, []) := by decide +kernel
theorem f215_9 : fch 215 9 = some (.invokestatic 195, 12, []) := by decide +kernel
theorem f215_12 : fch 215 12 = some (.ifCond .ne 17, 15, []) := by decide +kernel
theorem f215_15 : fch 215 15 = some (.iconst (-1), 16, [0, 1, 2, 3, 4]) := by decide +kernel
theorem f215_16 : fch 215 16 = some (.ireturn, 17, []) := by decide +kernel
theorem f215_17 : fch 215 17 = some (.iload 3, 18, []) := by decide +kernel
theorem f215_18 : fch 215 18 = some (.i2l, 19, []) := by decide +kernel
theorem f215_19 : fch 215 19 = some (.sipush 1, 20, []) := by decide +kernel
theorem f215_20 : fch 215 20 = some (.sipush 60, 23, []) := by decide +kernel
theorem f215_23 : fch 215 23 = some (.invokestatic 152, 26, []) := by decide +kernel
theorem f215_26 : fch 215 26 = some (.ifCond .eq 42, 29, []) := by decide +kernel
theorem f215_29 : fch 215 29 = some (.iload 4, 31, []) := by decide +kernel
theorem f215_31 : fch 215 31 = some (.i2l, 32, []) := by decide +kernel
theorem f215_32 : fch 215 32 = some (.sipush 0, 33, []) := by decide +kernel
theorem f215_33 : fch 215 33 = some (.sipush 20, 36, []) := by decide +kernel
theorem f215_36 : fch 215 36 = some (.invokestatic 152, 39, []) := by decide +kernel
theorem f215_39 : fch 215 39 = some (.ifCond .ne 45, 42, []) := by decide +kernel
theorem f215_42 : fch 215 42 = some (.iconst (-2), 44, [0, 1, 2, 3, 4]) := by decide +kernel
theorem f215_44 : fch 215 44 = some (.ireturn, 45, []) := by decide +kernel
theorem f215_45 : fch 215 45 = some (.aload 0, 46, []) := by decide +kernel
theorem f215_46 : fch 215 46 = some (.invokevirtual 206, 49, []) := by decide +kernel
theorem f215_49 : fch 215 49 = some (.aload 0, 50, []) := by decide +kernel
theorem f215_50 : fch 215 50 = some (.invokevirtual 208, 53, []) := by decide +kernel
theorem f215_53 : fch 215 53 = some (.istore 5, 55, []) := by decide +kernel
theorem f215_55 : fch 215 55 = some (.aload 0, 56, []) := by decide +kernel
theorem f215_56 : fch 215 56 = some (.iload 3, 57, []) := by decide +kernel
theorem f215_57 : fch 215 57 = some (.multianewarray 9 37, 60, []) := by decide +kernel
theorem f215_60 : fch 215 60 = some (.aload 0, 61, []) := by decide +kernel
theorem f215_61 : fch 215 61 = some (.iload 1, 62, []) := by decide +kernel
theorem f215_62 : fch 215 62 = some (.multianewarray 9 36, 65, []) := by decide +kernel
theorem f215_65 : fch 215 65 = some (.aload 0, 66, []) := by decide +kernel
theorem f215_66 : fch 215 66 = some (.iload 2, 67, []) := by decide +kernel
theorem f215_67 : fch 215 67 = some (.multianewarray 9 35, 70, []) := by decide +kernel
theorem f215_70 : fch 215 70 = some (.aload 0, 71, []) := by decide +kernel
theorem f215_71 : fch 215 71 = some (.invokevirtual 205, 74, []) := by decide +kernel
theorem f215_74 : fch 215 74 = some (.aload 0, 75, []) := by decide +kernel
theorem f215_75 : fch 215 75 = some (.invokevirtual 208, 78, []) := by decide +kernel
theorem f215_78 : fch 215 78 = some (.iload 5, 80, []) := by decide +kernel
theorem f215_80 : fch 215 80 = some (.isub, 81, []) := by decide +kernel
theorem f215_81 : fch 215 81 = some (.istore 6, 83, []) := by decide +kernel
theorem f215_83 : fch 215 83 = some (.iconst 100000, 86, []) := by decide +kernel
theorem f215_86 : fch 215 86 = some (.iload 6, 88, []) := by decide +kernel
theorem f215_88 : fch 215 88 = some (.aload 0, 89, []) := by decide +kernel
theorem f215_89 : fch 215 89 = some (.invokeinterface 9 1, 92, []) := by decide +kernel
theorem f215_92 : fch 215 92 = some (.iconst 5, 93, []) := by decide +kernel
theorem f215_93 : fch 215 93 = some (.iaload, 94, []) := by decide +kernel
theorem f215_94 : fch 215 94 = some (.imul, 95, []) := by decide +kernel
theorem f215_95 : fch 215 95 = some (.iadd, 96, []) := by decide +kernel
theorem f215_96 : fch 215 96 = some (.iload 3, 97, []) := by decide +kernel
theorem f215_97 : fch 215 97 = some (.iload 6, 99, []) := by decide +kernel
theorem f215_99 : fch 215 99 = some (.isub, 100, []) := by decide +kernel
theorem f215_100 : fch 215 100 = some (.aload 0, 101, []) := by decide +kernel
theorem f215_101 : fch 215 101 = some (.invokeinterface 9 1, 104, []) := by decide +kernel
theorem f215_104 : fch 215 104 = some (.iconst 6, 106, []) := by decide +kernel
theorem f215_106 : fch 215 106 = some (.iaload, 107, []) := by decide +kernel
theorem f215_107 : fch 215 107 = some (.imul, 108, []) := by decide +kernel
theorem f215_108 : fch 215 108 = some (.iadd, 109, []) := by decide +kernel
theorem f215_109 : fch 215 109 = some (.iload 3, 110, []) := by decide +kernel
theorem f215_110 : fch 215 110 = some (.aload 0, 111, []) := by decide +kernel
theorem f215_111 : fch 215 111 = some (.invokeinterface 9 1, 114, []) := by decide +kernel
theorem f215_114 : fch 215 114 = some (.iconst 4, 115, []) := by decide +kernel
theorem f215_115 : fch 215 115 = some (.iaload, 116, []) := by decide +kernel
theorem f215_116 : fch 215 116 = some (.iload 4, 118, []) := by decide +kernel
theorem f215_118 : fch 215 118 = some (.iadd, 119, []) := by decide +kernel
theorem f215_119 : fch 215 119 = some (.imul, 120, []) := by decide +kernel
theorem f215_120 : fch 215 120 = some (.isub, 121, []) := by decide +kernel
theorem f215_121 : fch 215 121 = some (.ireturn, 122, []) := by decide +kernel
set_option maxRecDepth 10000 in
theorem e215_0 (l0 l1 l2 l3 l4 : Int) (s : SG) : sem 215 0 [aA l0, aI l1, aI l2, aI l3, aI l4, aU, aU] [] s = grd (kd l0 = 9) (bnI (sem 163 0 [aA l0, aI l1] [] s) fun a2 s1 => if a2 = 0 then some (aI ((-1)), s1) else bnI (sem 195 0 [aI l2] [] s1) fun a4 s3 => if a4 = 0 then some (aI ((-1)), s3) else bnI (sem 152 0 [aL l3, aU, aL 1, aU, aL 60, aU] [] s3) fun a6 s5 => if a6 = 0 then some (aI ((-2)), s5) else bnI (sem 152 0 [aL l4, aU, aL 0, aU, aL 20, aU] [] s5) fun a8 s7 => if a8 = 0 then some (aI ((-2)), s7) else grd (kd l0 = 9) (bnV (sem 206 0 [aA l0] [] s7) fun s9 => grd (kd l0 = 9) (bnI (sem 208 0 [aA l0, aU, aU] [] s9) fun a11 s10 => grd (kd l0 = 9) (grd (kd l0 = 9) (grd (kd l0 = 9) (grd (kd l0 = 9) (bnV (sem 205 0 [aA l0, aU, aU] [] (up (up (up s10 l0 37 l3) l0 36 l1) l0 35 l2)) fun s12 => grd (kd l0 = 9) (bnI (sem 208 0 [aA l0, aU, aU] [] s12) fun a14 s13 => grd (kd l0 = 9) (grd (0 ≤ s13 l0 1) (grd (kd (s13 l0 1) = 101) (grd ((0 : Int) ≤ 5 ∧ 5 < kl (s13 l0 1)) (grd (kd l0 = 9) (grd (0 ≤ s13 l0 1) (grd (kd (s13 l0 1) = 101) (grd ((0 : Int) ≤ 6 ∧ 6 < kl (s13 l0 1)) (grd (kd l0 = 9) (grd (0 ≤ s13 l0 1) (grd (kd (s13 l0 1) = 101) (grd ((0 : Int) ≤ 4 ∧ 4 < kl (s13 l0 1)) (some (aI (w32 ((w32 ((w32 (100000 + (w32 ((w32 (a14 - a11)) * (s13 (s13 l0 1) 5))))) + (w32 ((w32 (l3 - (w32 (a14 - a11)))) * (s13 (s13 l0 1) 6))))) - (w32 (l3 * (w32 ((s13 (s13 l0 1) 4) + l4)))))), s13))))))))))))))))))))) := by
  refine (x_aload f215_0 rfl rfl).trans ?_
  refine (x_iload f215_1 rfl rfl).trans ?_
  refine (x_invokevirtual (G := grd (kd l0 = 9) (bnI (sem 163 0 [aA l0, aI l1] [] s) fun a2 s1 => sem 215 5 [aA l0, aI l1, aI l2, aI l3, aI l4, aU, aU] [aI a2] s1)) f215_2 rfl rfl).trans ?_
  refine g_c ?_
  refine bI_c fun a2 s1 => ?_
  refine (x_if_eq (tg := 15) f215_5 rfl rfl).trans (i_c ?_ ?_)
  · refine (x_kil (l2 := [aU, aU, aU, aU, aU, aU, aU]) f215_15 rfl).trans ?_
    refine (x_iconst f215_15 rfl).trans ?_
    exact x_ireturn f215_16 rfl
  · refine (x_iload f215_8 rfl rfl).trans ?_
    refine (x_invokestatic (G := bnI (sem 195 0 [aI l2] [] s1) fun a4 s3 => sem 215 12 [aA l0, aI l1, aI l2, aI l3, aI l4, aU, aU] [aI a4] s3) f215_9 rfl rfl).trans ?_
    refine bI_c fun a4 s3 => ?_
    refine (x_if_ne (tg := 17) f215_12 rfl rfl).trans (i_c ?_ ?_)
    · refine (x_kil (l2 := [aU, aU, aU, aU, aU, aU, aU]) f215_15 rfl).trans ?_
      refine (x_iconst f215_15 rfl).trans ?_
      exact x_ireturn f215_16 rfl
    · refine (x_iload f215_17 rfl rfl).trans ?_
      refine (x_i2l f215_18 rfl).trans ?_
      refine (x_lconst f215_19 rfl).trans ?_
      refine (x_lconst f215_20 rfl).trans ?_
      refine (x_invokestatic (G := bnI (sem 152 0 [aL l3, aU, aL 1, aU, aL 60, aU] [] s3) fun a6 s5 => sem 215 26 [aA l0, aI l1, aI l2, aI l3, aI l4, aU, aU] [aI a6] s5) f215_23 rfl rfl).trans ?_
      refine bI_c fun a6 s5 => ?_
      refine (x_if_eq (tg := 42) f215_26 rfl rfl).trans (i_c ?_ ?_)
      · refine (x_kil (l2 := [aU, aU, aU, aU, aU, aU, aU]) f215_42 rfl).trans ?_
        refine (x_iconst f215_42 rfl).trans ?_
        exact x_ireturn f215_44 rfl
      · refine (x_iload f215_29 rfl rfl).trans ?_
        refine (x_i2l f215_31 rfl).trans ?_
        refine (x_lconst f215_32 rfl).trans ?_
        refine (x_lconst f215_33 rfl).trans ?_
        refine (x_invokestatic (G := bnI (sem 152 0 [aL l4, aU, aL 0, aU, aL 20, aU] [] s5) fun a8 s7 => sem 215 39 [aA l0, aI l1, aI l2, aI l3, aI l4, aU, aU] [aI a8] s7) f215_36 rfl rfl).trans ?_
        refine bI_c fun a8 s7 => ?_
        refine (x_if_ne (tg := 45) f215_39 rfl rfl).trans (i_c ?_ ?_)
        · refine (x_kil (l2 := [aU, aU, aU, aU, aU, aU, aU]) f215_42 rfl).trans ?_
          refine (x_iconst f215_42 rfl).trans ?_
          exact x_ireturn f215_44 rfl
        · refine (x_aload f215_45 rfl rfl).trans ?_
          refine (x_invokevirtual (G := grd (kd l0 = 9) (bnV (sem 206 0 [aA l0] [] s7) fun s9 => sem 215 49 [aA l0, aI l1, aI l2, aI l3, aI l4, aU, aU] [] s9)) f215_46 rfl rfl).trans ?_
          refine g_c ?_
          refine bV_c fun s9 => ?_
          refine (x_aload f215_49 rfl rfl).trans ?_
          refine (x_invokevirtual (G := grd (kd l0 = 9) (bnI (sem 208 0 [aA l0, aU, aU] [] s9) fun a11 s10 => sem 215 53 [aA l0, aI l1, aI l2, aI l3, aI l4, aU, aU] [aI a11] s10)) f215_50 rfl rfl).trans ?_
          refine g_c ?_
          refine bI_c fun a11 s10 => ?_
          refine (x_istore (l2 := [aA l0, aI l1, aI l2, aI l3, aI l4, aI a11, aU]) f215_53 rfl rfl).trans ?_
          refine (x_aload f215_55 rfl rfl).trans ?_
          refine (x_iload f215_56 rfl rfl).trans ?_
          refine (x_put0 f215_57 rfl rfl).trans ?_
          refine g_c ?_
          refine (x_aload f215_60 rfl rfl).trans ?_
          refine (x_iload f215_61 rfl rfl).trans ?_
          refine (x_put0 f215_62 rfl rfl).trans ?_
          refine g_c ?_
          refine (x_aload f215_65 rfl rfl).trans ?_
          refine (x_iload f215_66 rfl rfl).trans ?_
          refine (x_put0 f215_67 rfl rfl).trans ?_
          refine g_c ?_
          refine (x_aload f215_70 rfl rfl).trans ?_
          refine (x_invokevirtual (G := grd (kd l0 = 9) (bnV (sem 205 0 [aA l0, aU, aU] [] (up (up (up s10 l0 37 l3) l0 36 l1) l0 35 l2)) fun s12 => sem 215 74 [aA l0, aI l1, aI l2, aI l3, aI l4, aI a11, aU] [] s12)) f215_71 rfl rfl).trans ?_
          refine g_c ?_
          refine bV_c fun s12 => ?_
          refine (x_aload f215_74 rfl rfl).trans ?_
          refine (x_invokevirtual (G := grd (kd l0 = 9) (bnI (sem 208 0 [aA l0, aU, aU] [] s12) fun a14 s13 => sem 215 78 [aA l0, aI l1, aI l2, aI l3, aI l4, aI a11, aU] [aI a14] s13)) f215_75 rfl rfl).trans ?_
          refine g_c ?_
          refine bI_c fun a14 s13 => ?_
          refine (x_iload f215_78 rfl rfl).trans ?_
          refine (x_isub f215_80 rfl).trans ?_
          refine (x_istore (l2 := [aA l0, aI l1, aI l2, aI l3, aI l4, aI a11, aI (w32 (a14 - a11))]) f215_81 rfl rfl).trans ?_
          refine (x_iconst f215_83 rfl).trans ?_
          refine (x_iload f215_86 rfl rfl).trans ?_
          refine (x_aload f215_88 rfl rfl).trans ?_
          refine (x_get2 f215_89 rfl rfl).trans ?_
          refine g_c ?_
          refine g_c ?_
          refine (x_iconst f215_92 rfl).trans ?_
          refine (x_iaload f215_93 rfl).trans ?_
          refine g_c ?_
          refine g_c ?_
          refine (x_imul f215_94 rfl).trans ?_
          refine (x_iadd f215_95 rfl).trans ?_
          refine (x_iload f215_96 rfl rfl).trans ?_
          refine (x_iload f215_97 rfl rfl).trans ?_
          refine (x_isub f215_99 rfl).trans ?_
          refine (x_aload f215_100 rfl rfl).trans ?_
          refine (x_get2 f215_101 rfl rfl).trans ?_
          refine g_c ?_
          refine g_c ?_
          refine (x_iconst f215_104 rfl).trans ?_
          refine (x_iaload f215_106 rfl).trans ?_
          refine g_c ?_
          refine g_c ?_
          refine (x_imul f215_107 rfl).trans ?_
          refine (x_iadd f215_108 rfl).trans ?_
          refine (x_iload f215_109 rfl rfl).trans ?_
          refine (x_aload f215_110 rfl rfl).trans ?_
          refine (x_get2 f215_111 rfl rfl).trans ?_
          refine g_c ?_
          refine g_c ?_
          refine (x_iconst f215_114 rfl).trans ?_
          refine (x_iaload f215_115 rfl).trans ?_
          refine g_c ?_
          refine g_c ?_
          refine (x_iload f215_116 rfl rfl).trans ?_
          refine (x_iadd f215_118 rfl).trans ?_
          refine (x_imul f215_119 rfl).trans ?_
          refine (x_isub f215_120 rfl).trans ?_
          exact x_ireturn f215_121 rfl
theorem f216_0 : fch 216 0 = some (.aload 0, 1, []) := by decide +kernel
theorem f216_1 : fch 216 1 = some (.iconst 0, 2, []) := by decide +kernel
theorem f216_2 : fch 216 2 = some (.multianewarray 9 37, 5, []) := by decide +kernel
theorem f216_5 : fch 216 5 = some (.aload 0, 6, []) := by decide +kernel
theorem f216_6 : fch 216 6 = some (.iconst 0, 7, []) := by decide +kernel
theorem f216_7 : fch 216 7 = some (.multianewarray 9 36, 10, []) := by decide +kernel
theorem f216_10 : fch 216 10 = some (.aload 0, 11, []) := by decide +kernel
theorem f216_11 : fch 216 11 = some (.iload 2, 12, []) := by decide +kernel
theorem f216_12 : fch 216 12 = some (.iload 3, 13, []) := by decide +kernel
theorem f216_13 : fch 216 13 = some (.if_icmp .lt 20, 16, []) := by decide +kernel
theorem f216_16 : fch 216 16 = some (.iload 1, 17, []) := by decide +kernel
theorem f216_17 : fch 216 17 = some (.goto 21, 20, []) := by decide +kernel
theorem f216_20 : fch 216 20 = some (.iconst (-1), 21, []) := by decide +kernel
theorem f216_21 : fch 216 21 = some (.multianewarray 9 38, 24, [3]) := by decide +kernel
theorem f216_24 : fch 216 24 = some (.aload 0, 25, []) := by decide +kernel
theorem f216_25 : fch 216 25 = some (.invokevirtual 205, 28, []) := by decide +kernel
theorem f216_28 : fch 216 28 = some (.iload 2, 29, []) := by decide +kernel
theorem f216_29 : fch 216 29 = some (.aload 0, 30, []) := by decide +kernel
theorem f216_30 : fch 216 30 = some (.invokeinterface 9 27, 33, []) := by decide +kernel
theorem f216_33 : fch 216 33 = some (.iconst 6, 35, []) := by decide +kernel
theorem f216_35 : fch 216 35 = some (.iload 1, 36, []) := by decide +kernel
theorem f216_36 : fch 216 36 = some (.imul, 37, []) := by decide +kernel
theorem f216_37 : fch 216 37 = some (.iconst 5, 38, []) := by decide +kernel
theorem f216_38 : fch 216 38 = some (.iadd, 39, []) := by decide +kernel
theorem f216_39 : fch 216 39 = some (.iaload, 40, []) := by decide +kernel
theorem f216_40 : fch 216 40 = some (.imul, 41, []) := by decide +kernel
theorem f216_41 : fch 216 41 = some (.ireturn, 42, []) := by decide +kernel
set_option maxRecDepth 10000 in
theorem e216_0 (l0 l1 l2 l3 : Int) (s : SG) : sem 216 0 [aA l0, aI l1, aI l2, aI l3] [] s = grd (kd l0 = 9) (grd (kd l0 = 9) (grd (kd l0 = 9) (grd (kd l0 = 9) (bnV (sem 205 0 [aA l0, aU, aU] [] (up (up (up s l0 37 0) l0 36 0) l0 38 (if l2 < l3 then (-1) else l1))) fun s1 => grd (kd l0 = 9) (grd (0 ≤ s1 l0 27) (grd (kd (s1 l0 27) = 101) (grd ((0 : Int) ≤ (w32 ((w32 (6 * l1)) + 5)) ∧ (w32 ((w32 (6 * l1)) + 5)) < kl (s1 l0 27)) (some (aI (w32 (l2 * (s1 (s1 l0 27) (w32 ((w32 (6 * l1)) + 5))))), s1))))))))) := by
  refine (x_aload f216_0 rfl rfl).trans ?_
  refine (x_iconst f216_1 rfl).trans ?_
  refine (x_put0 f216_2 rfl rfl).trans ?_
  refine g_c ?_
  refine (x_aload f216_5 rfl rfl).trans ?_
  refine (x_iconst f216_6 rfl).trans ?_
  refine (x_put0 f216_7 rfl rfl).trans ?_
  refine g_c ?_
  refine (x_aload f216_10 rfl rfl).trans ?_
  refine (x_iload f216_11 rfl rfl).trans ?_
  refine (x_iload f216_12 rfl rfl).trans ?_
  refine (x_icmp_lt (tg := 20) f216_13 rfl rfl).trans ?_
  refine Eq.trans (b := if l2 < l3 then sem 216 21 [aA l0, aI l1, aI l2, aU] [aI ((-1)), aA l0] (up (up s l0 37 0) l0 36 0) else sem 216 21 [aA l0, aI l1, aI l2, aU] [aI l1, aA l0] (up (up s l0 37 0) l0 36 0)) (i_c ?_ ?_) ?_
  · refine (x_iconst f216_20 rfl).trans ?_
    exact x_kil f216_21 rfl
  · refine (x_iload f216_16 rfl rfl).trans ?_
    refine (x_goto (tg := 21) f216_17 rfl rfl).trans ?_
    exact x_kil f216_21 rfl
  refine m_I.trans ?_
  refine (x_put0 f216_21 rfl rfl).trans ?_
  refine g_c ?_
  refine (x_aload f216_24 rfl rfl).trans ?_
  refine (x_invokevirtual (G := grd (kd l0 = 9) (bnV (sem 205 0 [aA l0, aU, aU] [] (up (up (up s l0 37 0) l0 36 0) l0 38 (if l2 < l3 then (-1) else l1))) fun s1 => sem 216 28 [aA l0, aI l1, aI l2, aU] [] s1)) f216_25 rfl rfl).trans ?_
  refine g_c ?_
  refine bV_c fun s1 => ?_
  refine (x_iload f216_28 rfl rfl).trans ?_
  refine (x_aload f216_29 rfl rfl).trans ?_
  refine (x_get2 f216_30 rfl rfl).trans ?_
  refine g_c ?_
  refine g_c ?_
  refine (x_iconst f216_33 rfl).trans ?_
  refine (x_iload f216_35 rfl rfl).trans ?_
  refine (x_imul f216_36 rfl).trans ?_
  refine (x_iconst f216_37 rfl).trans ?_
  refine (x_iadd f216_38 rfl).trans ?_
  refine (x_iaload f216_39 rfl).trans ?_
  refine g_c ?_
  refine g_c ?_
  refine (x_imul f216_40 rfl).trans ?_
  exact x_ireturn f216_41 rfl
theorem f217_0 : fch 217 0 = some (.aload 0, 1, []) := by decide +kernel
theorem f217_1 : fch 217 1 = some (.iload 1, 2, []) := by decide +kernel
theorem f217_2 : fch 217 2 = some (.invokevirtual 163, 5, []) := by decide +kernel
theorem f217_5 : fch 217 5 = some (.ifCond .ne 10, 8, []) := by decide +kernel
theorem f217_8 : fch 217 8 = some (.iconst (-1), 9, []) := by decide +kernel
theorem f217_9 : fch 217 9 = some (.ireturn, 10, []) := by decide +kernel
theorem f217_10 : fch 217 10 = some (.iload 2, 11, []) := by decide +kernel
theorem f217_11 : fch 217 11 = some (.i2l, 12, []) := by decide +kernel
theorem f217_12 : fch 217 12 = some (.sipush 0, 13, []) := by decide +kernel
theorem f217_13 : fch 217 13 = some (.sipush 20, 16, []) := by decide +kernel
theorem f217_16 : fch 217 16 = some (.invokestatic 152, 19, []) := by decide +kernel
theorem f217_19 : fch 217 19 = some (.ifCond .eq 44, 22, []) := by decide +kernel
theorem f217_22 : fch 217 22 = some (.iload 3, 23, []) := by decide +kernel
theorem f217_23 : fch 217 23 = some (.i2l, 24, []) := by decide +kernel
theorem f217_24 : fch 217 24 = some (.sipush 0, 25, []) := by decide +kernel
theorem f217_25 : fch 217 25 = some (.sipush 21, 28, []) := by decide +kernel
theorem f217_28 : fch 217 28 = some (.invokestatic 152, 31, []) := by decide +kernel
theorem f217_31 : fch 217 31 = some (.ifCond .eq 44, 34, []) := by decide +kernel
theorem f217_34 : fch 217 34 = some (.aload 0, 35, []) := by decide +kernel
theorem f217_35 : fch 217 35 = some (.iload 1, 36, []) := by decide +kernel
theorem f217_36 : fch 217 36 = some (.iload 2, 37, []) := by decide +kernel
theorem f217_37 : fch 217 37 = some (.iload 3, 38, []) := by decide +kernel
theorem f217_38 : fch 217 38 = some (.invokevirtual 216, 41, []) := by decide +kernel
theorem f217_41 : fch 217 41 = some (.goto 46, 44, []) := by decide +kernel
theorem f217_44 : fch 217 44 = some (.iconst (-2), 46, [0, 1, 2, 3]) := by decide +kernel
theorem f217_46 : fch 217 46 = some (.ireturn, 47, [0, 1, 2, 3]) := by decide +kernel
set_option maxRecDepth 10000 in
theorem e217_0 (l0 l1 l2 l3 : Int) (s : SG) : sem 217 0 [aA l0, aI l1, aI l2, aI l3] [] s = grd (kd l0 = 9) (bnI (sem 163 0 [aA l0, aI l1] [] s) fun a2 s1 => if a2 = 0 then some (aI ((-1)), s1) else bnI (sem 152 0 [aL l2, aU, aL 0, aU, aL 20, aU] [] s1) fun a4 s3 => if a4 = 0 then some (aI ((-2)), s3) else bnI (sem 152 0 [aL l3, aU, aL 0, aU, aL 21, aU] [] s3) fun a6 s5 => if a6 = 0 then some (aI ((-2)), s5) else grd (kd l0 = 9) (bnI (sem 216 0 [aA l0, aI l1, aI l2, aI l3] [] s5) fun a8 s7 => some (aI a8, s7))) := by
  refine (x_aload f217_0 rfl rfl).trans ?_
  refine (x_iload f217_1 rfl rfl).trans ?_
  refine (x_invokevirtual (G := grd (kd l0 = 9) (bnI (sem 163 0 [aA l0, aI l1] [] s) fun a2 s1 => sem 217 5 [aA l0, aI l1, aI l2, aI l3] [aI a2] s1)) f217_2 rfl rfl).trans ?_
  refine g_c ?_
  refine bI_c fun a2 s1 => ?_
  refine (x_if_ne (tg := 10) f217_5 rfl rfl).trans (i_c ?_ ?_)
  · refine (x_iconst f217_8 rfl).trans ?_
    exact x_ireturn f217_9 rfl
  · refine (x_iload f217_10 rfl rfl).trans ?_
    refine (x_i2l f217_11 rfl).trans ?_
    refine (x_lconst f217_12 rfl).trans ?_
    refine (x_lconst f217_13 rfl).trans ?_
    refine (x_invokestatic (G := bnI (sem 152 0 [aL l2, aU, aL 0, aU, aL 20, aU] [] s1) fun a4 s3 => sem 217 19 [aA l0, aI l1, aI l2, aI l3] [aI a4] s3) f217_16 rfl rfl).trans ?_
    refine bI_c fun a4 s3 => ?_
    refine (x_if_eq (tg := 44) f217_19 rfl rfl).trans (i_c ?_ ?_)
    · refine (x_kil (l2 := [aU, aU, aU, aU]) f217_44 rfl).trans ?_
      refine (x_iconst f217_44 rfl).trans ?_
      exact x_ireturn f217_46 rfl
    · refine (x_iload f217_22 rfl rfl).trans ?_
      refine (x_i2l f217_23 rfl).trans ?_
      refine (x_lconst f217_24 rfl).trans ?_
      refine (x_lconst f217_25 rfl).trans ?_
      refine (x_invokestatic (G := bnI (sem 152 0 [aL l3, aU, aL 0, aU, aL 21, aU] [] s3) fun a6 s5 => sem 217 31 [aA l0, aI l1, aI l2, aI l3] [aI a6] s5) f217_28 rfl rfl).trans ?_
      refine bI_c fun a6 s5 => ?_
      refine (x_if_eq (tg := 44) f217_31 rfl rfl).trans (i_c ?_ ?_)
      · refine (x_kil (l2 := [aU, aU, aU, aU]) f217_44 rfl).trans ?_
        refine (x_iconst f217_44 rfl).trans ?_
        exact x_ireturn f217_46 rfl
      · refine (x_aload f217_34 rfl rfl).trans ?_
        refine (x_iload f217_35 rfl rfl).trans ?_
        refine (x_iload f217_36 rfl rfl).trans ?_
        refine (x_iload f217_37 rfl rfl).trans ?_
        refine (x_invokevirtual (G := grd (kd l0 = 9) (bnI (sem 216 0 [aA l0, aI l1, aI l2, aI l3] [] s5) fun a8 s7 => sem 217 41 [aA l0, aI l1, aI l2, aI l3] [aI a8] s7)) f217_38 rfl rfl).trans ?_
        refine g_c ?_
        refine bI_c fun a8 s7 => ?_
        refine (x_goto (tg := 46) f217_41 rfl rfl).trans ?_
        refine (x_kil (l2 := [aU, aU, aU, aU]) f217_46 rfl).trans ?_
        exact x_ireturn f217_46 rfl
theorem f218_0 : fch 218 0 = some (.aload 0, 1, []) := by decide +kernel
theorem f218_1 : fch 218 1 = some (.iload 1, 2, []) := by decide +kernel
theorem f218_2 : fch 218 2 = some (.invokevirtual 163, 5, []) := by decide +kernel
theorem f218_5 : fch 218 5 = some (.ifCond .ne 10, 8, []) := by decide +kernel
theorem f218_8 : fch 218 8 = some (.iconst (-1), 9, []) := by decide +kernel
theorem f218_9 : fch 218 9 = some (.ireturn, 10, []) := by decide +kernel
theorem f218_10 : fch 218 10 = some (.iload 2, 11, []) := by decide +kernel
theorem f218_11 : fch 218 11 = some (.i2l, 12, []) := by decide +kernel
theorem f218_12 : fch 218 12 = some (.sipush 0, 13, []) := by decide +kernel
theorem f218_13 : fch 218 13 = some (.sipush 21, 16, []) := by decide +kernel
theorem f218_16 : fch 218 16 = some (.invokestatic 152, 19, []) := by decide +kernel
theorem f218_19 : fch 218 19 = some (.ifCond .eq 34, 22, []) := by decide +kernel
theorem f218_22 : fch 218 22 = some (.iload 3, 23, []) := by decide +kernel
theorem f218_23 : fch 218 23 = some (.i2l, 24, []) := by decide +kernel
theorem f218_24 : fch 218 24 = some (.sipush 0, 25, []) := by decide +kernel
theorem f218_25 : fch 218 25 = some (.sipush 999, 28, []) := by decide +kernel
theorem f218_28 : fch 218 28 = some (.invokestatic 152, 31, []) := by decide +kernel
theorem f218_31 : fch 218 31 = some (.ifCond .ne 37, 34, []) := by decide +kernel
theorem f218_34 : fch 218 34 = some (.iconst (-2), 36, [0, 1, 2, 3]) := by decide +kernel
theorem f218_36 : fch 218 36 = some (.ireturn, 37, []) := by decide +kernel
theorem f218_37 : fch 218 37 = some (.iconst 0, 38, []) := by decide +kernel
theorem f218_38 : fch 218 38 = some (.istore 4, 40, []) := by decide +kernel
theorem f218_40 : fch 218 40 = some (.iload 4, 42, []) := by decide +kernel
theorem f218_42 : fch 218 42 = some (.iconst 21, 44, []) := by decide +kernel
theorem f218_44 : fch 218 44 = some (.if_icmp .ge 68, 47, []) := by decide +kernel
theorem f218_47 : fch 218 47 = some (.aload 0, 48, []) := by decide +kernel
theorem f218_48 : fch 218 48 = some (.iload 1, 49, []) := by decide +kernel
theorem f218_49 : fch 218 49 = some (.iload 4, 51, []) := by decide +kernel
theorem f218_51 : fch 218 51 = some (.iload 2, 52, []) := by decide +kernel
theorem f218_52 : fch 218 52 = some (.invokevirtual 216, 55, []) := by decide +kernel
theorem f218_55 : fch 218 55 = some (.iload 3, 56, []) := by decide +kernel
theorem f218_56 : fch 218 56 = some (.if_icmp .lt 62, 59, []) := by decide +kernel
theorem f218_59 : fch 218 59 = some (.iload 4, 61, []) := by decide +kernel
theorem f218_61 : fch 218 61 = some (.ireturn, 62, []) := by decide +kernel
theorem f218_62 : fch 218 62 = some (.iinc 4 1, 65, []) := by decide +kernel
theorem f218_65 : fch 218 65 = some (.goto 40, 68, []) := by decide +kernel
theorem f218_68 : fch 218 68 = some (.iconst (-9), 70, []) := by decide +kernel
theorem f218_70 : fch 218 70 = some (.ireturn, 71, []) := by decide +kernel
set_option maxRecDepth 10000 in
theorem e218_0 (l0 l1 l2 l3 : Int) (s : SG) : sem 218 0 [aA l0, aI l1, aI l2, aI l3, aU] [] s = grd (kd l0 = 9) (bnI (sem 163 0 [aA l0, aI l1] [] s) fun a2 s1 => if a2 = 0 then some (aI ((-1)), s1) else bnI (sem 152 0 [aL l2, aU, aL 0, aU, aL 21, aU] [] s1) fun a4 s3 => if a4 = 0 then some (aI ((-2)), s3) else bnI (sem 152 0 [aL l3, aU, aL 0, aU, aL 999, aU] [] s3) fun a6 s5 => if a6 = 0 then some (aI ((-2)), s5) else sem 218 40 [aA l0, aI l1, aI l2, aI l3, aI 0] [] s5) := by
  refine (x_aload f218_0 rfl rfl).trans ?_
  refine (x_iload f218_1 rfl rfl).trans ?_
  refine (x_invokevirtual (G := grd (kd l0 = 9) (bnI (sem 163 0 [aA l0, aI l1] [] s) fun a2 s1 => sem 218 5 [aA l0, aI l1, aI l2, aI l3, aU] [aI a2] s1)) f218_2 rfl rfl).trans ?_
  refine g_c ?_
  refine bI_c fun a2 s1 => ?_
  refine (x_if_ne (tg := 10) f218_5 rfl rfl).trans (i_c ?_ ?_)
  · refine (x_iconst f218_8 rfl).trans ?_
    exact x_ireturn f218_9 rfl
  · refine (x_iload f218_10 rfl rfl).trans ?_
    refine (x_i2l f218_11 rfl).trans ?_
    refine (x_lconst f218_12 rfl).trans ?_
    refine (x_lconst f218_13 rfl).trans ?_
    refine (x_invokestatic (G := bnI (sem 152 0 [aL l2, aU, aL 0, aU, aL 21, aU] [] s1) fun a4 s3 => sem 218 19 [aA l0, aI l1, aI l2, aI l3, aU] [aI a4] s3) f218_16 rfl rfl).trans ?_
    refine bI_c fun a4 s3 => ?_
    refine (x_if_eq (tg := 34) f218_19 rfl rfl).trans (i_c ?_ ?_)
    · refine (x_kil (l2 := [aU, aU, aU, aU, aU]) f218_34 rfl).trans ?_
      refine (x_iconst f218_34 rfl).trans ?_
      exact x_ireturn f218_36 rfl
    · refine (x_iload f218_22 rfl rfl).trans ?_
      refine (x_i2l f218_23 rfl).trans ?_
      refine (x_lconst f218_24 rfl).trans ?_
      refine (x_lconst f218_25 rfl).trans ?_
      refine (x_invokestatic (G := bnI (sem 152 0 [aL l3, aU, aL 0, aU, aL 999, aU] [] s3) fun a6 s5 => sem 218 31 [aA l0, aI l1, aI l2, aI l3, aU] [aI a6] s5) f218_28 rfl rfl).trans ?_
      refine bI_c fun a6 s5 => ?_
      refine (x_if_ne (tg := 37) f218_31 rfl rfl).trans (i_c ?_ ?_)
      · refine (x_kil (l2 := [aU, aU, aU, aU, aU]) f218_34 rfl).trans ?_
        refine (x_iconst f218_34 rfl).trans ?_
        exact x_ireturn f218_36 rfl
      · refine (x_iconst f218_37 rfl).trans ?_
        refine (x_istore (l2 := [aA l0, aI l1, aI l2, aI l3, aI 0]) f218_38 rfl rfl).trans ?_
        rfl
set_option maxRecDepth 10000 in
theorem e218_40 (l0 l1 l2 l3 l4 : Int) (s : SG) : sem 218 40 [aA l0, aI l1, aI l2, aI l3, aI l4] [] s = if l4 < 21 then grd (kd l0 = 9) (bnI (sem 216 0 [aA l0, aI l1, aI l4, aI l2] [] s) fun a2 s1 => if a2 < l3 then sem 218 40 [aA l0, aI l1, aI l2, aI l3, aI (w32 (l4 + 1))] [] s1 else some (aI l4, s1)) else some (aI ((-9)), s) := by
  refine (x_iload f218_40 rfl rfl).trans ?_
  refine (x_iconst f218_42 rfl).trans ?_
  refine (x_icmp_ge (tg := 68) f218_44 rfl rfl).trans (i_c ?_ ?_)
  · refine (x_aload f218_47 rfl rfl).trans ?_
    refine (x_iload f218_48 rfl rfl).trans ?_
    refine (x_iload f218_49 rfl rfl).trans ?_
    refine (x_iload f218_51 rfl rfl).trans ?_
    refine (x_invokevirtual (G := grd (kd l0 = 9) (bnI (sem 216 0 [aA l0, aI l1, aI l4, aI l2] [] s) fun a2 s1 => sem 218 55 [aA l0, aI l1, aI l2, aI l3, aI l4] [aI a2] s1)) f218_52 rfl rfl).trans ?_
    refine g_c ?_
    refine bI_c fun a2 s1 => ?_
    refine (x_iload f218_55 rfl rfl).trans ?_
    refine (x_icmp_lt (tg := 62) f218_56 rfl rfl).trans (i_c ?_ ?_)
    · refine (x_iinc (l2 := [aA l0, aI l1, aI l2, aI l3, aI (w32 (l4 + 1))]) f218_62 rfl rfl rfl).trans ?_
      refine (x_goto (tg := 40) f218_65 rfl rfl).trans ?_
      rfl
    · refine (x_iload f218_59 rfl rfl).trans ?_
      exact x_ireturn f218_61 rfl
  · refine (x_iconst f218_68 rfl).trans ?_
    exact x_ireturn f218_70 rfl
