theorem f0_0 : fch 0 0 = some (.aload 0, 1, []) := by decide +kernel
theorem f0_1 : fch 0 1 = some (.monitorexit, 4, []) := by decide +kernel
theorem f0_4 : fch 0 4 = some (.aload 0, 5, []) := by decide +kernel
theorem f0_5 : fch 0 5 = some (.iconst 183, 8, []) := by decide +kernel
theorem f0_8 : fch 0 8 = some (.newarray .long, 10, []) := by decide +kernel
theorem f0_10 : fch 0 10 = some (.multianewarray 0 0, 13, []) := by decide +kernel
theorem f0_13 : fch 0 13 = some (.aload 0, 14, []) := by decide +kernel
theorem f0_14 : fch 0 14 = some (.iconst 183, 17, []) := by decide +kernel
theorem f0_17 : fch 0 17 = some (.newarray .long, 19, []) := by decide +kernel
theorem f0_19 : fch 0 19 = some (.multianewarray 0 1, 22, []) := by decide +kernel
theorem f0_22 : fch 0 22 = some (.aload 0, 23, []) := by decide +kernel
theorem f0_23 : fch 0 23 = some (.iconst 7, 25, []) := by decide +kernel
theorem f0_25 : fch 0 25 = some (.newarray .long, 27, []) := by decide +kernel
theorem f0_27 : fch 0 27 = some (.multianewarray 0 2, 30, []) := by decide +kernel
theorem f0_30 : fch 0 30 = some (.aload 0, 31, []) := by decide +kernel
theorem f0_31 : fch 0 31 = some (.iconst 3, 32, []) := by decide +kernel
theorem f0_32 : fch 0 32 = some (.newarray .int, 34, []) := by decide +kernel
theorem f0_34 : fch 0 34 = some (.multianewarray 0 3, 37, []) := by decide +kernel
theorem f0_37 : fch 0 37 = some (.aload 0, 38, []) := by decide +kernel
theorem f0_38 : fch 0 38 = some (.sipush 1, 39, []) := by decide +kernel
theorem f0_39 : fch 0 39 = some (.multianewarray 0 4, 42, []) := by decide +kernel
theorem f0_42 : fch 0 42 = some (.return_, 43, []) := by decide +kernel
set_option maxRecDepth 10000 in
theorem e0_0 (l0 : Int) (s : SG) : sem 0 0 [aA l0] [] s = grd (kd (s (-1) 0) = akind .long ∧ kl (s (-1) 0) = 183) (grd (kd l0 = 0) (grd (0 ≤ s (-1) 0) (grd (kd ((up (alc s 183 (fun _ => 0)) l0 0 (s (-1) 0)) (-1) 0) = akind .long ∧ kl ((up (alc s 183 (fun _ => 0)) l0 0 (s (-1) 0)) (-1) 0) = 183) (grd (kd l0 = 0) (grd (0 ≤ (up (alc s 183 (fun _ => 0)) l0 0 (s (-1) 0)) (-1) 0) (grd (kd ((up (alc (up (alc s 183 (fun _ => 0)) l0 0 (s (-1) 0)) 183 (fun _ => 0)) l0 1 ((up (alc s 183 (fun _ => 0)) l0 0 (s (-1) 0)) (-1) 0)) (-1) 0) = akind .long ∧ kl ((up (alc (up (alc s 183 (fun _ => 0)) l0 0 (s (-1) 0)) 183 (fun _ => 0)) l0 1 ((up (alc s 183 (fun _ => 0)) l0 0 (s (-1) 0)) (-1) 0)) (-1) 0) = 7) (grd (kd l0 = 0) (grd (0 ≤ (up (alc (up (alc s 183 (fun _ => 0)) l0 0 (s (-1) 0)) 183 (fun _ => 0)) l0 1 ((up (alc s 183 (fun _ => 0)) l0 0 (s (-1) 0)) (-1) 0)) (-1) 0) (sem 0 30 [aA l0] [] (up (alc (up (alc (up (alc s 183 (fun _ => 0)) l0 0 (s (-1) 0)) 183 (fun _ => 0)) l0 1 ((up (alc s 183 (fun _ => 0)) l0 0 (s (-1) 0)) (-1) 0)) 7 (fun _ => 0)) l0 2 ((up (alc (up (alc s 183 (fun _ => 0)) l0 0 (s (-1) 0)) 183 (fun _ => 0)) l0 1 ((up (alc s 183 (fun _ => 0)) l0 0 (s (-1) 0)) (-1) 0)) (-1) 0))))))))))) := by
  refine (x_aload f0_0 rfl rfl).trans ?_
  refine (x_monitorexit f0_1 rfl rfl).trans ?_
  refine (x_aload f0_4 rfl rfl).trans ?_
  refine (x_iconst f0_5 rfl).trans ?_
  refine (x_newarray f0_8 rfl).trans ?_
  refine g_c ?_
  refine (x_put2 f0_10 rfl rfl).trans ?_
  refine g_c ?_
  refine g_c ?_
  refine (x_aload f0_13 rfl rfl).trans ?_
  refine (x_iconst f0_14 rfl).trans ?_
  refine (x_newarray f0_17 rfl).trans ?_
  refine g_c ?_
  refine (x_put2 f0_19 rfl rfl).trans ?_
  refine g_c ?_
  refine g_c ?_
  refine (x_aload f0_22 rfl rfl).trans ?_
  refine (x_iconst f0_23 rfl).trans ?_
  refine (x_newarray f0_25 rfl).trans ?_
  refine g_c ?_
  refine (x_put2 f0_27 rfl rfl).trans ?_
  refine g_c ?_
  refine g_c ?_
  rfl
set_option maxRecDepth 10000 in
theorem e0_30 (l0 : Int) (s : SG) : sem 0 30 [aA l0] [] s = grd (kd (s (-1) 0) = akind .int ∧ kl (s (-1) 0) = 3) (grd (kd l0 = 0) (grd (0 ≤ s (-1) 0) (grd (kd l0 = 0) (some (aU, up (up (alc s 3 (fun _ => 0)) l0 3 (s (-1) 0)) l0 4 1))))) := by
  refine (x_aload f0_30 rfl rfl).trans ?_
  refine (x_iconst f0_31 rfl).trans ?_
  refine (x_newarray f0_32 rfl).trans ?_
  refine g_c ?_
  refine (x_put2 f0_34 rfl rfl).trans ?_
  refine g_c ?_
  refine g_c ?_
  refine (x_aload f0_37 rfl rfl).trans ?_
  refine (x_lconst f0_38 rfl).trans ?_
  refine (x_put1 f0_39 rfl rfl).trans ?_
  refine g_c ?_
  exact x_return f0_42 rfl
theorem f1_0 : fch 1 0 = some (.aload 0, 1, []) := by decide +kernel
theorem f1_1 : fch 1 1 = some (.invokeinterface 0 1, 4, []) := by decide +kernel
theorem f1_4 : fch 1 4 = some (.sipush 0, 5, []) := by decide +kernel
theorem f1_5 : fch 1 5 = some (.invokestatic 223, 8, []) := by decide +kernel
theorem f1_8 : fch 1 8 = some (.aload 0, 9, []) := by decide +kernel
theorem f1_9 : fch 1 9 = some (.sipush 0, 10, []) := by decide +kernel
theorem f1_10 : fch 1 10 = some (.multianewarray 0 4, 13, []) := by decide +kernel
theorem f1_13 : fch 1 13 = some (.iconst 0, 14, []) := by decide +kernel
theorem f1_14 : fch 1 14 = some (.istore 2, 15, []) := by decide +kernel
theorem f1_15 : fch 1 15 = some (.iload 2, 16, []) := by decide +kernel
theorem f1_16 : fch 1 16 = some (.iconst 3, 17, []) := by decide +kernel
theorem f1_17 : fch 1 17 = some (.if_icmp .ge 45, 20, []) := by decide +kernel
theorem f1_20 : fch 1 20 = some (.aload 0, 21, []) := by decide +kernel
theorem f1_21 : fch 1 21 = some (.dup, 22, []) := by decide +kernel
theorem f1_22 : fch 1 22 = some (.invokeinterface 0 4, 25, []) := by decide +kernel
theorem f1_25 : fch 1 25 = some (.sipush 1000000, 28, []) := by decide +kernel
theorem f1_28 : fch 1 28 = some (.aload 1, 29, []) := by decide +kernel
theorem f1_29 : fch 1 29 = some (.iload 2, 30, []) := by decide +kernel
theorem f1_30 : fch 1 30 = some (.invokevirtual 83, 33, []) := by decide +kernel
theorem f1_33 : fch 1 33 = some (.i2l, 34, []) := by decide +kernel
theorem f1_34 : fch 1 34 = some (.lmul, 35, []) := by decide +kernel
theorem f1_35 : fch 1 35 = some (.ladd, 36, []) := by decide +kernel
theorem f1_36 : fch 1 36 = some (.multianewarray 0 4, 39, []) := by decide +kernel
theorem f1_39 : fch 1 39 = some (.iinc 2 1, 42, []) := by decide +kernel
theorem f1_42 : fch 1 42 = some (.goto 15, 45, []) := by decide +kernel
theorem f1_45 : fch 1 45 = some (.iconst 0, 46, []) := by decide +kernel
theorem f1_46 : fch 1 46 = some (.istore 2, 47, []) := by decide +kernel
theorem f1_47 : fch 1 47 = some (.iload 2, 48, [3]) := by decide +kernel
theorem f1_48 : fch 1 48 = some (.aload 1, 49, []) := by decide +kernel
theorem f1_49 : fch 1 49 = some (.invokeinterface 6 4, 52, []) := by decide +kernel
theorem f1_52 : fch 1 52 = some (.if_icmp .ge 106, 55, []) := by decide +kernel
theorem f1_55 : fch 1 55 = some (.iload 2, 56, []) := by decide +kernel
theorem f1_56 : fch 1 56 = some (.iconst 3, 57, []) := by decide +kernel
theorem f1_57 : fch 1 57 = some (.if_icmp .ge 106, 60, []) := by decide +kernel
theorem f1_60 : fch 1 60 = some (.iconst 0, 61, []) := by decide +kernel
theorem f1_61 : fch 1 61 = some (.istore 3, 62, []) := by decide +kernel
theorem f1_62 : fch 1 62 = some (.iload 3, 63, []) := by decide +kernel
theorem f1_63 : fch 1 63 = some (.iconst 3, 64, []) := by decide +kernel
theorem f1_64 : fch 1 64 = some (.if_icmp .ge 95, 67, []) := by decide +kernel
theorem f1_67 : fch 1 67 = some (.aload 0, 68, []) := by decide +kernel
theorem f1_68 : fch 1 68 = some (.iload 2, 69, []) := by decide +kernel
theorem f1_69 : fch 1 69 = some (.aload 1, 70, []) := by decide +kernel
theorem f1_70 : fch 1 70 = some (.iload 2, 71, []) := by decide +kernel
theorem f1_71 : fch 1 71 = some (.iload 3, 72, []) := by decide +kernel
theorem f1_72 : fch 1 72 = some (.invokevirtual 84, 75, []) := by decide +kernel
theorem f1_75 : fch 1 75 = some (.aload 1, 76, []) := by decide +kernel
theorem f1_76 : fch 1 76 = some (.iload 2, 77, []) := by decide +kernel
theorem f1_77 : fch 1 77 = some (.iload 3, 78, []) := by decide +kernel
theorem f1_78 : fch 1 78 = some (.invokevirtual 85, 81, []) := by decide +kernel
theorem f1_81 : fch 1 81 = some (.aload 1, 82, []) := by decide +kernel
theorem f1_82 : fch 1 82 = some (.iload 3, 83, []) := by decide +kernel
theorem f1_83 : fch 1 83 = some (.invokevirtual 83, 86, []) := by decide +kernel
theorem f1_86 : fch 1 86 = some (.invokevirtual 2, 89, []) := by decide +kernel
theorem f1_89 : fch 1 89 = some (.iinc 3 1, 92, []) := by decide +kernel
theorem f1_92 : fch 1 92 = some (.goto 62, 95, []) := by decide +kernel
theorem f1_95 : fch 1 95 = some (.aload 0, 96, []) := by decide +kernel
theorem f1_96 : fch 1 96 = some (.iload 2, 97, []) := by decide +kernel
theorem f1_97 : fch 1 97 = some (.invokevirtual 4, 100, []) := by decide +kernel
theorem f1_100 : fch 1 100 = some (.iinc 2 1, 103, []) := by decide +kernel
theorem f1_103 : fch 1 103 = some (.goto 47, 106, []) := by decide +kernel
theorem f1_106 : fch 1 106 = some (.return_, 107, [0, 1, 2, 3]) := by decide +kernel
set_option maxRecDepth 10000 in
theorem e1_0 (l0 l1 : Int) (s : SG) : sem 1 0 [aA l0, aA l1, aU, aU] [] s = grd (kd l0 = 0) (grd (0 ≤ s l0 1) (bnV (sem 223 0 [aA (s l0 1), aL 0, aU, aU, aU] [] s) fun s1 => grd (kd l0 = 0) (sem 1 15 [aA l0, aA l1, aI 0, aU] [] (up s1 l0 4 0)))) := by
  refine (x_aload f1_0 rfl rfl).trans ?_
  refine (x_get2 f1_1 rfl rfl).trans ?_
  refine g_c ?_
  refine g_c ?_
  refine (x_lconst f1_4 rfl).trans ?_
  refine (x_invokestatic (G := bnV (sem 223 0 [aA (s l0 1), aL 0, aU, aU, aU] [] s) fun s1 => sem 1 8 [aA l0, aA l1, aU, aU] [] s1) f1_5 rfl rfl).trans ?_
  refine bV_c fun s1 => ?_
  refine (x_aload f1_8 rfl rfl).trans ?_
  refine (x_lconst f1_9 rfl).trans ?_
  refine (x_put1 f1_10 rfl rfl).trans ?_
  refine g_c ?_
  refine (x_iconst f1_13 rfl).trans ?_
  refine (x_istore (l2 := [aA l0, aA l1, aI 0, aU]) f1_14 rfl rfl).trans ?_
  rfl
set_option maxRecDepth 10000 in
theorem e1_15 (l0 l1 l2 : Int) (s : SG) : sem 1 15 [aA l0, aA l1, aI l2, aU] [] s = if l2 < 3 then grd (kd l0 = 0) (grd (kd l1 = 6) (bnI (sem 83 0 [aA l1, aI l2] [] s) fun a2 s1 => grd (kd l0 = 0) (sem 1 15 [aA l0, aA l1, aI (w32 (l2 + 1)), aU] [] (up s1 l0 4 (w64 ((s l0 4) + (w64 (1000000 * a2)))))))) else sem 1 47 [aA l0, aA l1, aI 0, aU] [] s := by
  refine (x_iload f1_15 rfl rfl).trans ?_
  refine (x_iconst f1_16 rfl).trans ?_
  refine (x_icmp_ge (tg := 45) f1_17 rfl rfl).trans (i_c ?_ ?_)
  · refine (x_aload f1_20 rfl rfl).trans ?_
    refine (x_dup f1_21 rfl rfl).trans ?_
    refine (x_get1 f1_22 rfl rfl).trans ?_
    refine g_c ?_
    refine (x_lconst f1_25 rfl).trans ?_
    refine (x_aload f1_28 rfl rfl).trans ?_
    refine (x_iload f1_29 rfl rfl).trans ?_
    refine (x_invokevirtual (G := grd (kd l1 = 6) (bnI (sem 83 0 [aA l1, aI l2] [] s) fun a2 s1 => sem 1 33 [aA l0, aA l1, aI l2, aU] [aI a2, aL 1000000, aL (s l0 4), aA l0] s1)) f1_30 rfl rfl).trans ?_
    refine g_c ?_
    refine bI_c fun a2 s1 => ?_
    refine (x_i2l f1_33 rfl).trans ?_
    refine (x_lmul f1_34 rfl).trans ?_
    refine (x_ladd f1_35 rfl).trans ?_
    refine (x_put1 f1_36 rfl rfl).trans ?_
    refine g_c ?_
    refine (x_iinc (l2 := [aA l0, aA l1, aI (w32 (l2 + 1)), aU]) f1_39 rfl rfl rfl).trans ?_
    refine (x_goto (tg := 15) f1_42 rfl rfl).trans ?_
    rfl
  · refine (x_iconst f1_45 rfl).trans ?_
    refine (x_istore (l2 := [aA l0, aA l1, aI 0, aU]) f1_46 rfl rfl).trans ?_
    rfl
set_option maxRecDepth 10000 in
theorem e1_47 (l0 l1 l2 : Int) (s : SG) : sem 1 47 [aA l0, aA l1, aI l2, aU] [] s = grd (kd l1 = 6) (if l2 < (s l1 4) then if l2 < 3 then sem 1 62 [aA l0, aA l1, aI l2, aI 0] [] s else some (aU, s) else some (aU, s)) := by
  refine (x_iload f1_47 rfl rfl).trans ?_
  refine (x_aload f1_48 rfl rfl).trans ?_
  refine (x_get0 f1_49 rfl rfl).trans ?_
  refine g_c ?_
  refine (x_icmp_ge (tg := 106) f1_52 rfl rfl).trans (i_c ?_ ?_)
  · refine (x_iload f1_55 rfl rfl).trans ?_
    refine (x_iconst f1_56 rfl).trans ?_
    refine (x_icmp_ge (tg := 106) f1_57 rfl rfl).trans (i_c ?_ ?_)
    · refine (x_iconst f1_60 rfl).trans ?_
      refine (x_istore (l2 := [aA l0, aA l1, aI l2, aI 0]) f1_61 rfl rfl).trans ?_
      rfl
    · refine (x_kil (l2 := [aU, aU, aU, aU]) f1_106 rfl).trans ?_
      exact x_return f1_106 rfl
  · refine (x_kil (l2 := [aU, aU, aU, aU]) f1_106 rfl).trans ?_
    exact x_return f1_106 rfl
set_option maxRecDepth 10000 in
theorem e1_62 (l0 l1 l2 l3 : Int) (s : SG) : sem 1 62 [aA l0, aA l1, aI l2, aI l3] [] s = if l3 < 3 then grd (kd l1 = 6) (bnI (sem 84 0 [aA l1, aI l2, aI l3, aU] [] s) fun a2 s1 => grd (kd l1 = 6) (bnI (sem 85 0 [aA l1, aI l2, aI l3, aU] [] s1) fun a4 s3 => grd (kd l1 = 6) (bnI (sem 83 0 [aA l1, aI l3] [] s3) fun a6 s5 => grd (kd l0 = 0) (bnV (sem 2 0 [aA l0, aI l2, aI a2, aI a4, aI a6, aU, aU] [] s5) fun s7 => sem 1 62 [aA l0, aA l1, aI l2, aI (w32 (l3 + 1))] [] s7)))) else grd (kd l0 = 0) (bnV (sem 4 0 [aA l0, aI l2, aU, aU] [] s) fun s8 => sem 1 47 [aA l0, aA l1, aI (w32 (l2 + 1)), aU] [] s8) := by
  refine (x_iload f1_62 rfl rfl).trans ?_
  refine (x_iconst f1_63 rfl).trans ?_
  refine (x_icmp_ge (tg := 95) f1_64 rfl rfl).trans (i_c ?_ ?_)
  · refine (x_aload f1_67 rfl rfl).trans ?_
    refine (x_iload f1_68 rfl rfl).trans ?_
    refine (x_aload f1_69 rfl rfl).trans ?_
    refine (x_iload f1_70 rfl rfl).trans ?_
    refine (x_iload f1_71 rfl rfl).trans ?_
    refine (x_invokevirtual (G := grd (kd l1 = 6) (bnI (sem 84 0 [aA l1, aI l2, aI l3, aU] [] s) fun a2 s1 => sem 1 75 [aA l0, aA l1, aI l2, aI l3] [aI a2, aI l2, aA l0] s1)) f1_72 rfl rfl).trans ?_
    refine g_c ?_
    refine bI_c fun a2 s1 => ?_
    refine (x_aload f1_75 rfl rfl).trans ?_
    refine (x_iload f1_76 rfl rfl).trans ?_
    refine (x_iload f1_77 rfl rfl).trans ?_
    refine (x_invokevirtual (G := grd (kd l1 = 6) (bnI (sem 85 0 [aA l1, aI l2, aI l3, aU] [] s1) fun a4 s3 => sem 1 81 [aA l0, aA l1, aI l2, aI l3] [aI a4, aI a2, aI l2, aA l0] s3)) f1_78 rfl rfl).trans ?_
    refine g_c ?_
    refine bI_c fun a4 s3 => ?_
    refine (x_aload f1_81 rfl rfl).trans ?_
    refine (x_iload f1_82 rfl rfl).trans ?_
    refine (x_invokevirtual (G := grd (kd l1 = 6) (bnI (sem 83 0 [aA l1, aI l3] [] s3) fun a6 s5 => sem 1 86 [aA l0, aA l1, aI l2, aI l3] [aI a6, aI a4, aI a2, aI l2, aA l0] s5)) f1_83 rfl rfl).trans ?_
    refine g_c ?_
    refine bI_c fun a6 s5 => ?_
    refine (x_invokevirtual (G := grd (kd l0 = 0) (bnV (sem 2 0 [aA l0, aI l2, aI a2, aI a4, aI a6, aU, aU] [] s5) fun s7 => sem 1 89 [aA l0, aA l1, aI l2, aI l3] [] s7)) f1_86 rfl rfl).trans ?_
    refine g_c ?_
    refine bV_c fun s7 => ?_
    refine (x_iinc (l2 := [aA l0, aA l1, aI l2, aI (w32 (l3 + 1))]) f1_89 rfl rfl rfl).trans ?_
    refine (x_goto (tg := 62) f1_92 rfl rfl).trans ?_
    rfl
  · refine (x_aload f1_95 rfl rfl).trans ?_
    refine (x_iload f1_96 rfl rfl).trans ?_
    refine (x_invokevirtual (G := grd (kd l0 = 0) (bnV (sem 4 0 [aA l0, aI l2, aU, aU] [] s) fun s8 => sem 1 100 [aA l0, aA l1, aI l2, aI l3] [] s8)) f1_97 rfl rfl).trans ?_
    refine g_c ?_
    refine bV_c fun s8 => ?_
    refine (x_iinc (l2 := [aA l0, aA l1, aI (w32 (l2 + 1)), aI l3]) f1_100 rfl rfl rfl).trans ?_
    refine (x_goto (tg := 47) f1_103 rfl rfl).trans ?_
    exact x_kil f1_47 rfl
theorem f2_0 : fch 2 0 = some (.aload 0, 1, []) := by decide +kernel
theorem f2_1 : fch 2 1 = some (.iload 3, 2, []) := by decide +kernel
theorem f2_2 : fch 2 2 = some (.invokevirtual 3, 5, []) := by decide +kernel
theorem f2_5 : fch 2 5 = some (.iconst 0, 6, []) := by decide +kernel
theorem f2_6 : fch 2 6 = some (.istore 5, 8, []) := by decide +kernel
theorem f2_8 : fch 2 8 = some (.iload 5, 10, [3, 6]) := by decide +kernel
theorem f2_10 : fch 2 10 = some (.iconst 6, 12, []) := by decide +kernel
theorem f2_12 : fch 2 12 = some (.if_icmp .gt 68, 15, []) := by decide +kernel
theorem f2_15 : fch 2 15 = some (.iconst 6, 17, []) := by decide +kernel
theorem f2_17 : fch 2 17 = some (.iload 2, 18, []) := by decide +kernel
theorem f2_18 : fch 2 18 = some (.imul, 19, []) := by decide +kernel
theorem f2_19 : fch 2 19 = some (.iload 5, 21, []) := by decide +kernel
theorem f2_21 : fch 2 21 = some (.iadd, 22, []) := by decide +kernel
theorem f2_22 : fch 2 22 = some (.iconst 1, 23, []) := by decide +kernel
theorem f2_23 : fch 2 23 = some (.isub, 24, []) := by decide +kernel
theorem f2_24 : fch 2 24 = some (.istore 6, 26, []) := by decide +kernel
theorem f2_26 : fch 2 26 = some (.aload 0, 27, []) := by decide +kernel
theorem f2_27 : fch 2 27 = some (.iload 1, 28, []) := by decide +kernel
theorem f2_28 : fch 2 28 = some (.iload 6, 30, []) := by decide +kernel
theorem f2_30 : fch 2 30 = some (.invokevirtual 6, 33, []) := by decide +kernel
theorem f2_33 : fch 2 33 = some (.ifCond .eq 62, 36, []) := by decide +kernel
theorem f2_36 : fch 2 36 = some (.aload 0, 37, []) := by decide +kernel
theorem f2_37 : fch 2 37 = some (.invokeinterface 0 1, 40, []) := by decide +kernel
theorem f2_40 : fch 2 40 = some (.iload 1, 41, []) := by decide +kernel
theorem f2_41 : fch 2 41 = some (.iconst 61, 43, []) := by decide +kernel
theorem f2_43 : fch 2 43 = some (.imul, 44, []) := by decide +kernel
theorem f2_44 : fch 2 44 = some (.iload 6, 46, []) := by decide +kernel
theorem f2_46 : fch 2 46 = some (.iadd, 47, []) := by decide +kernel
theorem f2_47 : fch 2 47 = some (.dup2, 48, []) := by decide +kernel
theorem f2_48 : fch 2 48 = some (.laload, 49, []) := by decide +kernel
theorem f2_49 : fch 2 49 = some (.aload 0, 50, []) := by decide +kernel
theorem f2_50 : fch 2 50 = some (.invokeinterface 0 2, 53, []) := by decide +kernel
theorem f2_53 : fch 2 53 = some (.iload 5, 55, []) := by decide +kernel
theorem f2_55 : fch 2 55 = some (.laload, 56, []) := by decide +kernel
theorem f2_56 : fch 2 56 = some (.iload 4, 58, []) := by decide +kernel
theorem f2_58 : fch 2 58 = some (.i2l, 59, []) := by decide +kernel
theorem f2_59 : fch 2 59 = some (.lmul, 60, []) := by decide +kernel
theorem f2_60 : fch 2 60 = some (.ladd, 61, []) := by decide +kernel
theorem f2_61 : fch 2 61 = some (.lastore, 62, []) := by decide +kernel
theorem f2_62 : fch 2 62 = some (.iinc 5 1, 65, [3, 6]) := by decide +kernel
theorem f2_65 : fch 2 65 = some (.goto 8, 68, []) := by decide +kernel
theorem f2_68 : fch 2 68 = some (.return_, 69, []) := by decide +kernel
set_option maxRecDepth 10000 in
theorem e2_0 (l0 l1 l2 l3 l4 : Int) (s : SG) : sem 2 0 [aA l0, aI l1, aI l2, aI l3, aI l4, aU, aU] [] s = grd (kd l0 = 0) (bnV (sem 3 0 [aA l0, aI l3, aU, aU] [] s) fun s1 => sem 2 8 [aA l0, aI l1, aI l2, aU, aI l4, aI 0, aU] [] s1) := by
  refine (x_aload f2_0 rfl rfl).trans ?_
  refine (x_iload f2_1 rfl rfl).trans ?_
  refine (x_invokevirtual (G := grd (kd l0 = 0) (bnV (sem 3 0 [aA l0, aI l3, aU, aU] [] s) fun s1 => sem 2 5 [aA l0, aI l1, aI l2, aI l3, aI l4, aU, aU] [] s1)) f2_2 rfl rfl).trans ?_
  refine g_c ?_
  refine bV_c fun s1 => ?_
  refine (x_iconst f2_5 rfl).trans ?_
  refine (x_istore (l2 := [aA l0, aI l1, aI l2, aI l3, aI l4, aI 0, aU]) f2_6 rfl rfl).trans ?_
  exact x_kil f2_8 rfl
set_option maxRecDepth 10000 in
theorem e2_8 (l0 l1 l2 l4 l5 : Int) (s : SG) : sem 2 8 [aA l0, aI l1, aI l2, aU, aI l4, aI l5, aU] [] s = if (6 : Int) < l5 then some (aU, s) else grd (kd l0 = 0) (bnI (sem 6 0 [aA l0, aI l1, aI (w32 ((w32 ((w32 (6 * l2)) + l5)) - 1))] [] s) fun a2 s1 => if a2 = 0 then sem 2 8 [aA l0, aI l1, aI l2, aU, aI l4, aI (w32 (l5 + 1)), aU] [] s1 else grd (kd l0 = 0) (grd (0 ≤ s1 l0 1) (grd (kd (s1 l0 1) = 103) (grd ((0 : Int) ≤ (w32 ((w32 (l1 * 61)) + (w32 ((w32 ((w32 (6 * l2)) + l5)) - 1)))) ∧ (w32 ((w32 (l1 * 61)) + (w32 ((w32 ((w32 (6 * l2)) + l5)) - 1)))) < kl (s1 l0 1)) (grd (kd l0 = 0) (grd (0 ≤ s1 l0 2) (grd (kd (s1 l0 2) = 103) (grd ((0 : Int) ≤ l5 ∧ l5 < kl (s1 l0 2)) (grd (kd (s1 l0 1) = 103) (grd ((0 : Int) ≤ (w32 ((w32 (l1 * 61)) + (w32 ((w32 ((w32 (6 * l2)) + l5)) - 1)))) ∧ (w32 ((w32 (l1 * 61)) + (w32 ((w32 ((w32 (6 * l2)) + l5)) - 1)))) < kl (s1 l0 1)) (sem 2 8 [aA l0, aI l1, aI l2, aU, aI l4, aI (w32 (l5 + 1)), aU] [] (up s1 (s1 l0 1) (w32 ((w32 (l1 * 61)) + (w32 ((w32 ((w32 (6 * l2)) + l5)) - 1)))) (w64 ((s1 (s1 l0 1) (w32 ((w32 (l1 * 61)) + (w32 ((w32 ((w32 (6 * l2)) + l5)) - 1))))) + (w64 ((s1 (s1 l0 2) l5) * l4)))))))))))))))) := by
  refine (x_iload f2_8 rfl rfl).trans ?_
  refine (x_iconst f2_10 rfl).trans ?_
  refine (x_icmp_gt (tg := 68) f2_12 rfl rfl).trans (i_c ?_ ?_)
  · exact x_return f2_68 rfl
  · refine (x_iconst f2_15 rfl).trans ?_
    refine (x_iload f2_17 rfl rfl).trans ?_
    refine (x_imul f2_18 rfl).trans ?_
    refine (x_iload f2_19 rfl rfl).trans ?_
    refine (x_iadd f2_21 rfl).trans ?_
    refine (x_iconst f2_22 rfl).trans ?_
    refine (x_isub f2_23 rfl).trans ?_
    refine (x_istore (l2 := [aA l0, aI l1, aI l2, aU, aI l4, aI l5, aI (w32 ((w32 ((w32 (6 * l2)) + l5)) - 1))]) f2_24 rfl rfl).trans ?_
    refine (x_aload f2_26 rfl rfl).trans ?_
    refine (x_iload f2_27 rfl rfl).trans ?_
    refine (x_iload f2_28 rfl rfl).trans ?_
    refine (x_invokevirtual (G := grd (kd l0 = 0) (bnI (sem 6 0 [aA l0, aI l1, aI (w32 ((w32 ((w32 (6 * l2)) + l5)) - 1))] [] s) fun a2 s1 => sem 2 33 [aA l0, aI l1, aI l2, aU, aI l4, aI l5, aI (w32 ((w32 ((w32 (6 * l2)) + l5)) - 1))] [aI a2] s1)) f2_30 rfl rfl).trans ?_
    refine g_c ?_
    refine bI_c fun a2 s1 => ?_
    refine (x_if_eq (tg := 62) f2_33 rfl rfl).trans (i_c ?_ ?_)
    · refine (x_kil (l2 := [aA l0, aI l1, aI l2, aU, aI l4, aI l5, aU]) f2_62 rfl).trans ?_
      refine (x_iinc (l2 := [aA l0, aI l1, aI l2, aU, aI l4, aI (w32 (l5 + 1)), aU]) f2_62 rfl rfl rfl).trans ?_
      refine (x_goto (tg := 8) f2_65 rfl rfl).trans ?_
      rfl
    · refine (x_aload f2_36 rfl rfl).trans ?_
      refine (x_get2 f2_37 rfl rfl).trans ?_
      refine g_c ?_
      refine g_c ?_
      refine (x_iload f2_40 rfl rfl).trans ?_
      refine (x_iconst f2_41 rfl).trans ?_
      refine (x_imul f2_43 rfl).trans ?_
      refine (x_iload f2_44 rfl rfl).trans ?_
      refine (x_iadd f2_46 rfl).trans ?_
      refine (x_dup2 f2_47 rfl rfl).trans ?_
      refine (x_laload f2_48 rfl).trans ?_
      refine g_c ?_
      refine g_c ?_
      refine (x_aload f2_49 rfl rfl).trans ?_
      refine (x_get2 f2_50 rfl rfl).trans ?_
      refine g_c ?_
      refine g_c ?_
      refine (x_iload f2_53 rfl rfl).trans ?_
      refine (x_laload f2_55 rfl).trans ?_
      refine g_c ?_
      refine g_c ?_
      refine (x_iload f2_56 rfl rfl).trans ?_
      refine (x_i2l f2_58 rfl).trans ?_
      refine (x_lmul f2_59 rfl).trans ?_
      refine (x_ladd f2_60 rfl).trans ?_
      refine (x_lastore f2_61 rfl).trans ?_
      refine g_c ?_
      refine g_c ?_
      refine (x_kil (l2 := [aA l0, aI l1, aI l2, aU, aI l4, aI l5, aU]) f2_62 rfl).trans ?_
      refine (x_iinc (l2 := [aA l0, aI l1, aI l2, aU, aI l4, aI (w32 (l5 + 1)), aU]) f2_62 rfl rfl rfl).trans ?_
      refine (x_goto (tg := 8) f2_65 rfl rfl).trans ?_
      rfl
theorem f3_0 : fch 3 0 = some (.aload 0, 1, []) := by decide +kernel
theorem f3_1 : fch 3 1 = some (.invokeinterface 0 2, 4, []) := by decide +kernel
theorem f3_4 : fch 3 4 = some (.sipush 0, 5, []) := by decide +kernel
theorem f3_5 : fch 3 5 = some (.invokestatic 223, 8, []) := by decide +kernel
theorem f3_8 : fch 3 8 = some (.aload 0, 9, []) := by decide +kernel
theorem f3_9 : fch 3 9 = some (.invokeinterface 0 2, 12, []) := by decide +kernel
theorem f3_12 : fch 3 12 = some (.iconst 0, 13, []) := by decide +kernel
theorem f3_13 : fch 3 13 = some (.sipush 1, 14, []) := by decide +kernel
theorem f3_14 : fch 3 14 = some (.lastore, 15, []) := by decide +kernel
theorem f3_15 : fch 3 15 = some (.iconst 1, 16, []) := by decide +kernel
theorem f3_16 : fch 3 16 = some (.istore 2, 17, []) := by decide +kernel
theorem f3_17 : fch 3 17 = some (.iload 2, 18, [3]) := by decide +kernel
theorem f3_18 : fch 3 18 = some (.iconst 6, 20, []) := by decide +kernel
theorem f3_20 : fch 3 20 = some (.if_icmp .gt 86, 23, []) := by decide +kernel
theorem f3_23 : fch 3 23 = some (.iload 2, 24, []) := by decide +kernel
theorem f3_24 : fch 3 24 = some (.istore 3, 25, []) := by decide +kernel
theorem f3_25 : fch 3 25 = some (.iload 3, 26, []) := by decide +kernel
theorem f3_26 : fch 3 26 = some (.iconst 1, 27, []) := by decide +kernel
theorem f3_27 : fch 3 27 = some (.if_icmp .lt 66, 30, []) := by decide +kernel
theorem f3_30 : fch 3 30 = some (.aload 0, 31, []) := by decide +kernel
theorem f3_31 : fch 3 31 = some (.invokeinterface 0 2, 34, []) := by decide +kernel
theorem f3_34 : fch 3 34 = some (.iload 3, 35, []) := by decide +kernel
theorem f3_35 : fch 3 35 = some (.aload 0, 36, []) := by decide +kernel
theorem f3_36 : fch 3 36 = some (.invokeinterface 0 2, 39, []) := by decide +kernel
theorem f3_39 : fch 3 39 = some (.iload 3, 40, []) := by decide +kernel
theorem f3_40 : fch 3 40 = some (.laload, 41, []) := by decide +kernel
theorem f3_41 : fch 3 41 = some (.iconst 10, 43, []) := by decide +kernel
theorem f3_43 : fch 3 43 = some (.iload 1, 44, []) := by decide +kernel
theorem f3_44 : fch 3 44 = some (.isub, 45, []) := by decide +kernel
theorem f3_45 : fch 3 45 = some (.i2l, 46, []) := by decide +kernel
theorem f3_46 : fch 3 46 = some (.lmul, 47, []) := by decide +kernel
theorem f3_47 : fch 3 47 = some (.aload 0, 48, []) := by decide +kernel
theorem f3_48 : fch 3 48 = some (.invokeinterface 0 2, 51, []) := by decide +kernel
theorem f3_51 : fch 3 51 = some (.iload 3, 52, []) := by decide +kernel
theorem f3_52 : fch 3 52 = some (.iconst 1, 53, []) := by decide +kernel
theorem f3_53 : fch 3 53 = some (.isub, 54, []) := by decide +kernel
theorem f3_54 : fch 3 54 = some (.laload, 55, []) := by decide +kernel
theorem f3_55 : fch 3 55 = some (.iload 1, 56, []) := by decide +kernel
theorem f3_56 : fch 3 56 = some (.i2l, 57, []) := by decide +kernel
theorem f3_57 : fch 3 57 = some (.lmul, 58, []) := by decide +kernel
theorem f3_58 : fch 3 58 = some (.ladd, 59, []) := by decide +kernel
theorem f3_59 : fch 3 59 = some (.lastore, 60, []) := by decide +kernel
theorem f3_60 : fch 3 60 = some (.iinc 3 (-1), 63, []) := by decide +kernel
theorem f3_63 : fch 3 63 = some (.goto 25, 66, []) := by decide +kernel
theorem f3_66 : fch 3 66 = some (.aload 0, 67, []) := by decide +kernel
theorem f3_67 : fch 3 67 = some (.invokeinterface 0 2, 70, []) := by decide +kernel
theorem f3_70 : fch 3 70 = some (.iconst 0, 71, []) := by decide +kernel
theorem f3_71 : fch 3 71 = some (.dup2, 72, []) := by decide +kernel
theorem f3_72 : fch 3 72 = some (.laload, 73, []) := by decide +kernel
theorem f3_73 : fch 3 73 = some (.iconst 10, 75, []) := by decide +kernel
theorem f3_75 : fch 3 75 = some (.iload 1, 76, []) := by decide +kernel
theorem f3_76 : fch 3 76 = some (.isub, 77, []) := by decide +kernel
theorem f3_77 : fch 3 77 = some (.i2l, 78, []) := by decide +kernel
theorem f3_78 : fch 3 78 = some (.lmul, 79, []) := by decide +kernel
theorem f3_79 : fch 3 79 = some (.lastore, 80, []) := by decide +kernel
theorem f3_80 : fch 3 80 = some (.iinc 2 1, 83, []) := by decide +kernel
theorem f3_83 : fch 3 83 = some (.goto 17, 86, []) := by decide +kernel
theorem f3_86 : fch 3 86 = some (.return_, 87, []) := by decide +kernel
set_option maxRecDepth 10000 in
theorem e3_0 (l0 l1 : Int) (s : SG) : sem 3 0 [aA l0, aI l1, aU, aU] [] s = grd (kd l0 = 0) (grd (0 ≤ s l0 2) (bnV (sem 223 0 [aA (s l0 2), aL 0, aU, aU, aU] [] s) fun s1 => grd (kd l0 = 0) (grd (0 ≤ s1 l0 2) (grd (kd (s1 l0 2) = 103) (grd ((0 : Int) ≤ 0 ∧ 0 < kl (s1 l0 2)) (sem 3 17 [aA l0, aI l1, aI 1, aU] [] (up s1 (s1 l0 2) 0 1))))))) := by
  refine (x_aload f3_0 rfl rfl).trans ?_
  refine (x_get2 f3_1 rfl rfl).trans ?_
  refine g_c ?_
  refine g_c ?_
  refine (x_lconst f3_4 rfl).trans ?_
  refine (x_invokestatic (G := bnV (sem 223 0 [aA (s l0 2), aL 0, aU, aU, aU] [] s) fun s1 => sem 3 8 [aA l0, aI l1, aU, aU] [] s1) f3_5 rfl rfl).trans ?_
  refine bV_c fun s1 => ?_
  refine (x_aload f3_8 rfl rfl).trans ?_
  refine (x_get2 f3_9 rfl rfl).trans ?_
  refine g_c ?_
  refine g_c ?_
  refine (x_iconst f3_12 rfl).trans ?_
  refine (x_lconst f3_13 rfl).trans ?_
  refine (x_lastore f3_14 rfl).trans ?_
  refine g_c ?_
  refine g_c ?_
  refine (x_iconst f3_15 rfl).trans ?_
  refine (x_istore (l2 := [aA l0, aI l1, aI 1, aU]) f3_16 rfl rfl).trans ?_
  rfl
set_option maxRecDepth 10000 in
theorem e3_17 (l0 l1 l2 : Int) (s : SG) : sem 3 17 [aA l0, aI l1, aI l2, aU] [] s = if (6 : Int) < l2 then some (aU, s) else sem 3 25 [aA l0, aI l1, aI l2, aI l2] [] s := by
  refine (x_iload f3_17 rfl rfl).trans ?_
  refine (x_iconst f3_18 rfl).trans ?_
  refine (x_icmp_gt (tg := 86) f3_20 rfl rfl).trans (i_c ?_ ?_)
  · exact x_return f3_86 rfl
  · refine (x_iload f3_23 rfl rfl).trans ?_
    refine (x_istore (l2 := [aA l0, aI l1, aI l2, aI l2]) f3_24 rfl rfl).trans ?_
    rfl
set_option maxRecDepth 10000 in
theorem e3_25 (l0 l1 l2 l3 : Int) (s : SG) : sem 3 25 [aA l0, aI l1, aI l2, aI l3] [] s = if l3 < 1 then grd (kd l0 = 0) (grd (0 ≤ s l0 2) (grd (kd (s l0 2) = 103) (grd ((0 : Int) ≤ 0 ∧ 0 < kl (s l0 2)) (grd (kd (s l0 2) = 103) (grd ((0 : Int) ≤ 0 ∧ 0 < kl (s l0 2)) (sem 3 17 [aA l0, aI l1, aI (w32 (l2 + 1)), aU] [] (up s (s l0 2) 0 (w64 ((s (s l0 2) 0) * (w32 (10 - l1))))))))))) else grd (kd l0 = 0) (grd (0 ≤ s l0 2) (grd (kd l0 = 0) (grd (0 ≤ s l0 2) (grd (kd (s l0 2) = 103) (grd ((0 : Int) ≤ l3 ∧ l3 < kl (s l0 2)) (grd (kd l0 = 0) (grd (0 ≤ s l0 2) (grd (kd (s l0 2) = 103) (grd ((0 : Int) ≤ (w32 (l3 - 1)) ∧ (w32 (l3 - 1)) < kl (s l0 2)) (grd (kd (s l0 2) = 103) (grd ((0 : Int) ≤ l3 ∧ l3 < kl (s l0 2)) (sem 3 25 [aA l0, aI l1, aI l2, aI (w32 (l3 + (-1)))] [] (up s (s l0 2) l3 (w64 ((w64 ((s (s l0 2) l3) * (w32 (10 - l1)))) + (w64 ((s (s l0 2) (w32 (l3 - 1))) * l1))))))))))))))))) := by
  refine (x_iload f3_25 rfl rfl).trans ?_
  refine (x_iconst f3_26 rfl).trans ?_
  refine (x_icmp_lt (tg := 66) f3_27 rfl rfl).trans (i_c ?_ ?_)
  · refine (x_aload f3_66 rfl rfl).trans ?_
    refine (x_get2 f3_67 rfl rfl).trans ?_
    refine g_c ?_
    refine g_c ?_
    refine (x_iconst f3_70 rfl).trans ?_
    refine (x_dup2 f3_71 rfl rfl).trans ?_
    refine (x_laload f3_72 rfl).trans ?_
    refine g_c ?_
    refine g_c ?_
    refine (x_iconst f3_73 rfl).trans ?_
    refine (x_iload f3_75 rfl rfl).trans ?_
    refine (x_isub f3_76 rfl).trans ?_
    refine (x_i2l f3_77 rfl).trans ?_
    refine (x_lmul f3_78 rfl).trans ?_
    refine (x_lastore f3_79 rfl).trans ?_
    refine g_c ?_
    refine g_c ?_
    refine (x_iinc (l2 := [aA l0, aI l1, aI (w32 (l2 + 1)), aI l3]) f3_80 rfl rfl rfl).trans ?_
    refine (x_goto (tg := 17) f3_83 rfl rfl).trans ?_
    exact x_kil f3_17 rfl
  · refine (x_aload f3_30 rfl rfl).trans ?_
    refine (x_get2 f3_31 rfl rfl).trans ?_
    refine g_c ?_
    refine g_c ?_
    refine (x_iload f3_34 rfl rfl).trans ?_
    refine (x_aload f3_35 rfl rfl).trans ?_
    refine (x_get2 f3_36 rfl rfl).trans ?_
    refine g_c ?_
    refine g_c ?_
    refine (x_iload f3_39 rfl rfl).trans ?_
    refine (x_laload f3_40 rfl).trans ?_
    refine g_c ?_
    refine g_c ?_
    refine (x_iconst f3_41 rfl).trans ?_
    refine (x_iload f3_43 rfl rfl).trans ?_
    refine (x_isub f3_44 rfl).trans ?_
    refine (x_i2l f3_45 rfl).trans ?_
    refine (x_lmul f3_46 rfl).trans ?_
    refine (x_aload f3_47 rfl rfl).trans ?_
    refine (x_get2 f3_48 rfl rfl).trans ?_
    refine g_c ?_
    refine g_c ?_
    refine (x_iload f3_51 rfl rfl).trans ?_
    refine (x_iconst f3_52 rfl).trans ?_
    refine (x_isub f3_53 rfl).trans ?_
    refine (x_laload f3_54 rfl).trans ?_
    refine g_c ?_
    refine g_c ?_
    refine (x_iload f3_55 rfl rfl).trans ?_
    refine (x_i2l f3_56 rfl).trans ?_
    refine (x_lmul f3_57 rfl).trans ?_
    refine (x_ladd f3_58 rfl).trans ?_
    refine (x_lastore f3_59 rfl).trans ?_
    refine g_c ?_
    refine g_c ?_
    refine (x_iinc (l2 := [aA l0, aI l1, aI l2, aI (w32 (l3 + (-1)))]) f3_60 rfl rfl rfl).trans ?_
    refine (x_goto (tg := 25) f3_63 rfl rfl).trans ?_
    rfl
theorem f4_0 : fch 4 0 = some (.iload 1, 1, []) := by decide +kernel
theorem f4_1 : fch 4 1 = some (.invokestatic 139, 4, []) := by decide +kernel
theorem f4_4 : fch 4 4 = some (.ifCond .ne 8, 7, []) := by decide +kernel
theorem f4_7 : fch 4 7 = some (.return_, 8, []) := by decide +kernel
theorem f4_8 : fch 4 8 = some (.iload 1, 9, []) := by decide +kernel
theorem f4_9 : fch 4 9 = some (.iconst 61, 11, []) := by decide +kernel
theorem f4_11 : fch 4 11 = some (.imul, 12, []) := by decide +kernel
theorem f4_12 : fch 4 12 = some (.istore 2, 13, []) := by decide +kernel
theorem f4_13 : fch 4 13 = some (.iconst 59, 15, []) := by decide +kernel
theorem f4_15 : fch 4 15 = some (.istore 3, 16, []) := by decide +kernel
theorem f4_16 : fch 4 16 = some (.iload 3, 17, [1]) := by decide +kernel
theorem f4_17 : fch 4 17 = some (.ifCond .lt 47, 20, []) := by decide +kernel
theorem f4_20 : fch 4 20 = some (.aload 0, 21, []) := by decide +kernel
theorem f4_21 : fch 4 21 = some (.invokeinterface 0 1, 24, []) := by decide +kernel
theorem f4_24 : fch 4 24 = some (.iload 2, 25, []) := by decide +kernel
theorem f4_25 : fch 4 25 = some (.iload 3, 26, []) := by decide +kernel
theorem f4_26 : fch 4 26 = some (.iadd, 27, []) := by decide +kernel
theorem f4_27 : fch 4 27 = some (.dup2, 28, []) := by decide +kernel
theorem f4_28 : fch 4 28 = some (.laload, 29, []) := by decide +kernel
theorem f4_29 : fch 4 29 = some (.aload 0, 30, []) := by decide +kernel
theorem f4_30 : fch 4 30 = some (.invokeinterface 0 1, 33, []) := by decide +kernel
theorem f4_33 : fch 4 33 = some (.iload 2, 34, []) := by decide +kernel
theorem f4_34 : fch 4 34 = some (.iload 3, 35, []) := by decide +kernel
theorem f4_35 : fch 4 35 = some (.iadd, 36, []) := by decide +kernel
theorem f4_36 : fch 4 36 = some (.iconst 1, 37, []) := by decide +kernel
theorem f4_37 : fch 4 37 = some (.iadd, 38, []) := by decide +kernel
theorem f4_38 : fch 4 38 = some (.laload, 39, []) := by decide +kernel
theorem f4_39 : fch 4 39 = some (.ladd, 40, []) := by decide +kernel
theorem f4_40 : fch 4 40 = some (.lastore, 41, []) := by decide +kernel
theorem f4_41 : fch 4 41 = some (.iinc 3 (-1), 44, []) := by decide +kernel
theorem f4_44 : fch 4 44 = some (.goto 16, 47, []) := by decide +kernel
theorem f4_47 : fch 4 47 = some (.aload 0, 48, []) := by decide +kernel
theorem f4_48 : fch 4 48 = some (.invokeinterface 0 0, 51, []) := by decide +kernel
theorem f4_51 : fch 4 51 = some (.iload 2, 52, []) := by decide +kernel
theorem f4_52 : fch 4 52 = some (.sipush 0, 53, []) := by decide +kernel
theorem f4_53 : fch 4 53 = some (.lastore, 54, []) := by decide +kernel
theorem f4_54 : fch 4 54 = some (.iconst 1, 55, []) := by decide +kernel
theorem f4_55 : fch 4 55 = some (.istore 3, 56, []) := by decide +kernel
theorem f4_56 : fch 4 56 = some (.iload 3, 57, [1]) := by decide +kernel
theorem f4_57 : fch 4 57 = some (.iconst 60, 59, []) := by decide +kernel
theorem f4_59 : fch 4 59 = some (.if_icmp .gt 97, 62, []) := by decide +kernel
theorem f4_62 : fch 4 62 = some (.aload 0, 63, []) := by decide +kernel
theorem f4_63 : fch 4 63 = some (.invokeinterface 0 0, 66, []) := by decide +kernel
theorem f4_66 : fch 4 66 = some (.iload 2, 67, []) := by decide +kernel
theorem f4_67 : fch 4 67 = some (.iload 3, 68, []) := by decide +kernel
theorem f4_68 : fch 4 68 = some (.iadd, 69, []) := by decide +kernel
theorem f4_69 : fch 4 69 = some (.aload 0, 70, []) := by decide +kernel
theorem f4_70 : fch 4 70 = some (.invokeinterface 0 0, 73, []) := by decide +kernel
theorem f4_73 : fch 4 73 = some (.iload 2, 74, []) := by decide +kernel
theorem f4_74 : fch 4 74 = some (.iload 3, 75, []) := by decide +kernel
theorem f4_75 : fch 4 75 = some (.iadd, 76, []) := by decide +kernel
theorem f4_76 : fch 4 76 = some (.iconst 1, 77, []) := by decide +kernel
theorem f4_77 : fch 4 77 = some (.isub, 78, []) := by decide +kernel
theorem f4_78 : fch 4 78 = some (.laload, 79, []) := by decide +kernel
theorem f4_79 : fch 4 79 = some (.aload 0, 80, []) := by decide +kernel
theorem f4_80 : fch 4 80 = some (.invokeinterface 0 1, 83, []) := by decide +kernel
theorem f4_83 : fch 4 83 = some (.iload 2, 84, []) := by decide +kernel
theorem f4_84 : fch 4 84 = some (.iload 3, 85, []) := by decide +kernel
theorem f4_85 : fch 4 85 = some (.iadd, 86, []) := by decide +kernel
theorem f4_86 : fch 4 86 = some (.iconst 1, 87, []) := by decide +kernel
theorem f4_87 : fch 4 87 = some (.isub, 88, []) := by decide +kernel
theorem f4_88 : fch 4 88 = some (.laload, 89, []) := by decide +kernel
theorem f4_89 : fch 4 89 = some (.ladd, 90, []) := by decide +kernel
theorem f4_90 : fch 4 90 = some (.lastore, 91, []) := by decide +kernel
theorem f4_91 : fch 4 91 = some (.iinc 3 1, 94, []) := by decide +kernel
theorem f4_94 : fch 4 94 = some (.goto 56, 97, []) := by decide +kernel
theorem f4_97 : fch 4 97 = some (.return_, 98, []) := by decide +kernel
set_option maxRecDepth 10000 in
theorem e4_0 (l0 l1 : Int) (s : SG) : sem 4 0 [aA l0, aI l1, aU, aU] [] s = bnI (sem 139 0 [aI l1] [] s) fun a2 s1 => if a2 = 0 then some (aU, s1) else sem 4 16 [aA l0, aU, aI (w32 (l1 * 61)), aI 59] [] s1 := by
  refine (x_iload f4_0 rfl rfl).trans ?_
  refine (x_invokestatic (G := bnI (sem 139 0 [aI l1] [] s) fun a2 s1 => sem 4 4 [aA l0, aI l1, aU, aU] [aI a2] s1) f4_1 rfl rfl).trans ?_
  refine bI_c fun a2 s1 => ?_
  refine (x_if_ne (tg := 8) f4_4 rfl rfl).trans (i_c ?_ ?_)
  · exact x_return f4_7 rfl
  · refine (x_iload f4_8 rfl rfl).trans ?_
    refine (x_iconst f4_9 rfl).trans ?_
    refine (x_imul f4_11 rfl).trans ?_
    refine (x_istore (l2 := [aA l0, aI l1, aI (w32 (l1 * 61)), aU]) f4_12 rfl rfl).trans ?_
    refine (x_iconst f4_13 rfl).trans ?_
    refine (x_istore (l2 := [aA l0, aI l1, aI (w32 (l1 * 61)), aI 59]) f4_15 rfl rfl).trans ?_
    exact x_kil f4_16 rfl
set_option maxRecDepth 10000 in
theorem e4_16 (l0 l2 l3 : Int) (s : SG) : sem 4 16 [aA l0, aU, aI l2, aI l3] [] s = if l3 < 0 then grd (kd l0 = 0) (grd (0 ≤ s l0 0) (grd (kd (s l0 0) = 103) (grd ((0 : Int) ≤ l2 ∧ l2 < kl (s l0 0)) (sem 4 56 [aA l0, aU, aI l2, aI 1] [] (up s (s l0 0) l2 0))))) else grd (kd l0 = 0) (grd (0 ≤ s l0 1) (grd (kd (s l0 1) = 103) (grd ((0 : Int) ≤ (w32 (l2 + l3)) ∧ (w32 (l2 + l3)) < kl (s l0 1)) (grd (kd l0 = 0) (grd (0 ≤ s l0 1) (grd (kd (s l0 1) = 103) (grd ((0 : Int) ≤ (w32 ((w32 (l2 + l3)) + 1)) ∧ (w32 ((w32 (l2 + l3)) + 1)) < kl (s l0 1)) (grd (kd (s l0 1) = 103) (grd ((0 : Int) ≤ (w32 (l2 + l3)) ∧ (w32 (l2 + l3)) < kl (s l0 1)) (sem 4 16 [aA l0, aU, aI l2, aI (w32 (l3 + (-1)))] [] (up s (s l0 1) (w32 (l2 + l3)) (w64 ((s (s l0 1) (w32 (l2 + l3))) + (s (s l0 1) (w32 ((w32 (l2 + l3)) + 1)))))))))))))))) := by
  refine (x_iload f4_16 rfl rfl).trans ?_
  refine (x_if_lt (tg := 47) f4_17 rfl rfl).trans (i_c ?_ ?_)
  · refine (x_aload f4_47 rfl rfl).trans ?_
    refine (x_get2 f4_48 rfl rfl).trans ?_
    refine g_c ?_
    refine g_c ?_
    refine (x_iload f4_51 rfl rfl).trans ?_
    refine (x_lconst f4_52 rfl).trans ?_
    refine (x_lastore f4_53 rfl).trans ?_
    refine g_c ?_
    refine g_c ?_
    refine (x_iconst f4_54 rfl).trans ?_
    refine (x_istore (l2 := [aA l0, aU, aI l2, aI 1]) f4_55 rfl rfl).trans ?_
    rfl
  · refine (x_aload f4_20 rfl rfl).trans ?_
    refine (x_get2 f4_21 rfl rfl).trans ?_
    refine g_c ?_
    refine g_c ?_
    refine (x_iload f4_24 rfl rfl).trans ?_
    refine (x_iload f4_25 rfl rfl).trans ?_
    refine (x_iadd f4_26 rfl).trans ?_
    refine (x_dup2 f4_27 rfl rfl).trans ?_
    refine (x_laload f4_28 rfl).trans ?_
    refine g_c ?_
    refine g_c ?_
    refine (x_aload f4_29 rfl rfl).trans ?_
    refine (x_get2 f4_30 rfl rfl).trans ?_
    refine g_c ?_
    refine g_c ?_
    refine (x_iload f4_33 rfl rfl).trans ?_
    refine (x_iload f4_34 rfl rfl).trans ?_
    refine (x_iadd f4_35 rfl).trans ?_
    refine (x_iconst f4_36 rfl).trans ?_
    refine (x_iadd f4_37 rfl).trans ?_
    refine (x_laload f4_38 rfl).trans ?_
    refine g_c ?_
    refine g_c ?_
    refine (x_ladd f4_39 rfl).trans ?_
    refine (x_lastore f4_40 rfl).trans ?_
    refine g_c ?_
    refine g_c ?_
    refine (x_iinc (l2 := [aA l0, aU, aI l2, aI (w32 (l3 + (-1)))]) f4_41 rfl rfl rfl).trans ?_
    refine (x_goto (tg := 16) f4_44 rfl rfl).trans ?_
    rfl
set_option maxRecDepth 10000 in
theorem e4_56 (l0 l2 l3 : Int) (s : SG) : sem 4 56 [aA l0, aU, aI l2, aI l3] [] s = if (60 : Int) < l3 then some (aU, s) else grd (kd l0 = 0) (grd (0 ≤ s l0 0) (grd (kd l0 = 0) (grd (0 ≤ s l0 0) (grd (kd (s l0 0) = 103) (grd ((0 : Int) ≤ (w32 ((w32 (l2 + l3)) - 1)) ∧ (w32 ((w32 (l2 + l3)) - 1)) < kl (s l0 0)) (grd (kd l0 = 0) (grd (0 ≤ s l0 1) (grd (kd (s l0 1) = 103) (grd ((0 : Int) ≤ (w32 ((w32 (l2 + l3)) - 1)) ∧ (w32 ((w32 (l2 + l3)) - 1)) < kl (s l0 1)) (grd (kd (s l0 0) = 103) (grd ((0 : Int) ≤ (w32 (l2 + l3)) ∧ (w32 (l2 + l3)) < kl (s l0 0)) (sem 4 56 [aA l0, aU, aI l2, aI (w32 (l3 + 1))] [] (up s (s l0 0) (w32 (l2 + l3)) (w64 ((s (s l0 0) (w32 ((w32 (l2 + l3)) - 1))) + (s (s l0 1) (w32 ((w32 (l2 + l3)) - 1)))))))))))))))))) := by
  refine (x_iload f4_56 rfl rfl).trans ?_
  refine (x_iconst f4_57 rfl).trans ?_
  refine (x_icmp_gt (tg := 97) f4_59 rfl rfl).trans (i_c ?_ ?_)
  · exact x_return f4_97 rfl
  · refine (x_aload f4_62 rfl rfl).trans ?_
    refine (x_get2 f4_63 rfl rfl).trans ?_
    refine g_c ?_
    refine g_c ?_
    refine (x_iload f4_66 rfl rfl).trans ?_
    refine (x_iload f4_67 rfl rfl).trans ?_
    refine (x_iadd f4_68 rfl).trans ?_
    refine (x_aload f4_69 rfl rfl).trans ?_
    refine (x_get2 f4_70 rfl rfl).trans ?_
    refine g_c ?_
    refine g_c ?_
    refine (x_iload f4_73 rfl rfl).trans ?_
    refine (x_iload f4_74 rfl rfl).trans ?_
    refine (x_iadd f4_75 rfl).trans ?_
    refine (x_iconst f4_76 rfl).trans ?_
    refine (x_isub f4_77 rfl).trans ?_
    refine (x_laload f4_78 rfl).trans ?_
    refine g_c ?_
    refine g_c ?_
    refine (x_aload f4_79 rfl rfl).trans ?_
    refine (x_get2 f4_80 rfl rfl).trans ?_
    refine g_c ?_
    refine g_c ?_
    refine (x_iload f4_83 rfl rfl).trans ?_
    refine (x_iload f4_84 rfl rfl).trans ?_
    refine (x_iadd f4_85 rfl).trans ?_
    refine (x_iconst f4_86 rfl).trans ?_
    refine (x_isub f4_87 rfl).trans ?_
    refine (x_laload f4_88 rfl).trans ?_
    refine g_c ?_
    refine g_c ?_
    refine (x_ladd f4_89 rfl).trans ?_
    refine (x_lastore f4_90 rfl).trans ?_
    refine g_c ?_
    refine g_c ?_
    refine (x_iinc (l2 := [aA l0, aU, aI l2, aI (w32 (l3 + 1))]) f4_91 rfl rfl rfl).trans ?_
    refine (x_goto (tg := 56) f4_94 rfl rfl).trans ?_
    rfl
theorem f5_0 : fch 5 0 = some (.aload 0, 1, []) := by decide +kernel
theorem f5_1 : fch 5 1 = some (.invokeinterface 0 4, 4, []) := by decide +kernel
theorem f5_4 : fch 5 4 = some (.lreturn, 5, []) := by decide +kernel
set_option maxRecDepth 10000 in
theorem e5_0 (l0 : Int) (s : SG) : sem 5 0 [aA l0] [] s = grd (kd l0 = 0) (some (aL (s l0 4), s)) := by
  refine (x_aload f5_0 rfl rfl).trans ?_
  refine (x_get1 f5_1 rfl rfl).trans ?_
  refine g_c ?_
  exact x_lreturn f5_4 rfl
theorem f6_0 : fch 6 0 = some (.iload 1, 1, []) := by decide +kernel
theorem f6_1 : fch 6 1 = some (.invokestatic 139, 4, []) := by decide +kernel
theorem f6_4 : fch 6 4 = some (.ifCond .eq 18, 7, []) := by decide +kernel
theorem f6_7 : fch 6 7 = some (.iload 2, 8, []) := by decide +kernel
theorem f6_8 : fch 6 8 = some (.invokestatic 143, 11, []) := by decide +kernel
theorem f6_11 : fch 6 11 = some (.ifCond .eq 18, 14, []) := by decide +kernel
theorem f6_14 : fch 6 14 = some (.iconst 1, 15, []) := by decide +kernel
theorem f6_15 : fch 6 15 = some (.goto 19, 18, []) := by decide +kernel
theorem f6_18 : fch 6 18 = some (.iconst 0, 19, [0, 1, 2]) := by decide +kernel
theorem f6_19 : fch 6 19 = some (.ireturn, 20, [0, 1, 2]) := by decide +kernel
set_option maxRecDepth 10000 in
theorem e6_0 (l0 l1 l2 : Int) (s : SG) : sem 6 0 [aA l0, aI l1, aI l2] [] s = bnI (sem 139 0 [aI l1] [] s) fun a2 s1 => if a2 = 0 then some (aI 0, s1) else bnI (sem 143 0 [aI l2] [] s1) fun a4 s3 => if a4 = 0 then some (aI 0, s3) else some (aI 1, s3) := by
  refine (x_iload f6_0 rfl rfl).trans ?_
  refine (x_invokestatic (G := bnI (sem 139 0 [aI l1] [] s) fun a2 s1 => sem 6 4 [aA l0, aI l1, aI l2] [aI a2] s1) f6_1 rfl rfl).trans ?_
  refine bI_c fun a2 s1 => ?_
  refine (x_if_eq (tg := 18) f6_4 rfl rfl).trans (i_c ?_ ?_)
  · refine (x_kil (l2 := [aU, aU, aU]) f6_18 rfl).trans ?_
    refine (x_iconst f6_18 rfl).trans ?_
    exact x_zreturn0 f6_19 rfl
  · refine (x_iload f6_7 rfl rfl).trans ?_
    refine (x_invokestatic (G := bnI (sem 143 0 [aI l2] [] s1) fun a4 s3 => sem 6 11 [aA l0, aI l1, aI l2] [aI a4] s3) f6_8 rfl rfl).trans ?_
    refine bI_c fun a4 s3 => ?_
    refine (x_if_eq (tg := 18) f6_11 rfl rfl).trans (i_c ?_ ?_)
    · refine (x_kil (l2 := [aU, aU, aU]) f6_18 rfl).trans ?_
      refine (x_iconst f6_18 rfl).trans ?_
      exact x_zreturn0 f6_19 rfl
    · refine (x_iconst f6_14 rfl).trans ?_
      refine (x_goto (tg := 19) f6_15 rfl rfl).trans ?_
      refine (x_kil (l2 := [aU, aU, aU]) f6_19 rfl).trans ?_
      exact x_zreturn1 f6_19 rfl
theorem f7_0 : fch 7 0 = some (.aload 0, 1, []) := by decide +kernel
theorem f7_1 : fch 7 1 = some (.iload 1, 2, []) := by decide +kernel
theorem f7_2 : fch 7 2 = some (.iload 2, 3, []) := by decide +kernel
theorem f7_3 : fch 7 3 = some (.invokevirtual 6, 6, []) := by decide +kernel
theorem f7_6 : fch 7 6 = some (.ifCond .eq 23, 9, []) := by decide +kernel
theorem f7_9 : fch 7 9 = some (.aload 0, 10, []) := by decide +kernel
theorem f7_10 : fch 7 10 = some (.invokeinterface 0 0, 13, []) := by decide +kernel
theorem f7_13 : fch 7 13 = some (.iload 1, 14, []) := by decide +kernel
theorem f7_14 : fch 7 14 = some (.iconst 61, 16, []) := by decide +kernel
theorem f7_16 : fch 7 16 = some (.imul, 17, []) := by decide +kernel
theorem f7_17 : fch 7 17 = some (.iload 2, 18, []) := by decide +kernel
theorem f7_18 : fch 7 18 = some (.iadd, 19, []) := by decide +kernel
theorem f7_19 : fch 7 19 = some (.laload, 20, []) := by decide +kernel
theorem f7_20 : fch 7 20 = some (.goto 24, 23, []) := by decide +kernel
theorem f7_23 : fch 7 23 = some (.sipush 0, 24, []) := by decide +kernel
theorem f7_24 : fch 7 24 = some (.lreturn, 25, [0, 1, 2]) := by decide +kernel
set_option maxRecDepth 10000 in
theorem e7_0 (l0 l1 l2 : Int) (s : SG) : sem 7 0 [aA l0, aI l1, aI l2] [] s = grd (kd l0 = 0) (bnI (sem 6 0 [aA l0, aI l1, aI l2] [] s) fun a2 s1 => if a2 = 0 then some (aL 0, s1) else grd (kd l0 = 0) (grd (0 ≤ s1 l0 0) (grd (kd (s1 l0 0) = 103) (grd ((0 : Int) ≤ (w32 ((w32 (l1 * 61)) + l2)) ∧ (w32 ((w32 (l1 * 61)) + l2)) < kl (s1 l0 0)) (some (aL (s1 (s1 l0 0) (w32 ((w32 (l1 * 61)) + l2))), s1)))))) := by
  refine (x_aload f7_0 rfl rfl).trans ?_
  refine (x_iload f7_1 rfl rfl).trans ?_
  refine (x_iload f7_2 rfl rfl).trans ?_
  refine (x_invokevirtual (G := grd (kd l0 = 0) (bnI (sem 6 0 [aA l0, aI l1, aI l2] [] s) fun a2 s1 => sem 7 6 [aA l0, aI l1, aI l2] [aI a2] s1)) f7_3 rfl rfl).trans ?_
  refine g_c ?_
  refine bI_c fun a2 s1 => ?_
  refine (x_if_eq (tg := 23) f7_6 rfl rfl).trans (i_c ?_ ?_)
  · refine (x_lconst f7_23 rfl).trans ?_
    refine (x_kil (l2 := [aU, aU, aU]) f7_24 rfl).trans ?_
    exact x_lreturn f7_24 rfl
  · refine (x_aload f7_9 rfl rfl).trans ?_
    refine (x_get2 f7_10 rfl rfl).trans ?_
    refine g_c ?_
    refine g_c ?_
    refine (x_iload f7_13 rfl rfl).trans ?_
    refine (x_iconst f7_14 rfl).trans ?_
    refine (x_imul f7_16 rfl).trans ?_
    refine (x_iload f7_17 rfl rfl).trans ?_
    refine (x_iadd f7_18 rfl).trans ?_
    refine (x_laload f7_19 rfl).trans ?_
    refine g_c ?_
    refine g_c ?_
    refine (x_goto (tg := 24) f7_20 rfl rfl).trans ?_
    refine (x_kil (l2 := [aU, aU, aU]) f7_24 rfl).trans ?_
    exact x_lreturn f7_24 rfl
theorem f8_0 : fch 8 0 = some (.aload 0, 1, []) := by decide +kernel
theorem f8_1 : fch 8 1 = some (.iload 1, 2, []) := by decide +kernel
theorem f8_2 : fch 8 2 = some (.iload 2, 3, []) := by decide +kernel
theorem f8_3 : fch 8 3 = some (.invokevirtual 6, 6, []) := by decide +kernel
theorem f8_6 : fch 8 6 = some (.ifCond .eq 23, 9, []) := by decide +kernel
theorem f8_9 : fch 8 9 = some (.aload 0, 10, []) := by decide +kernel
theorem f8_10 : fch 8 10 = some (.invokeinterface 0 1, 13, []) := by decide +kernel
theorem f8_13 : fch 8 13 = some (.iload 1, 14, []) := by decide +kernel
theorem f8_14 : fch 8 14 = some (.iconst 61, 16, []) := by decide +kernel
theorem f8_16 : fch 8 16 = some (.imul, 17, []) := by decide +kernel
theorem f8_17 : fch 8 17 = some (.iload 2, 18, []) := by decide +kernel
theorem f8_18 : fch 8 18 = some (.iadd, 19, []) := by decide +kernel
theorem f8_19 : fch 8 19 = some (.laload, 20, []) := by decide +kernel
theorem f8_20 : fch 8 20 = some (.goto 24, 23, []) := by decide +kernel
theorem f8_23 : fch 8 23 = some (.sipush 0, 24, []) := by decide +kernel
theorem f8_24 : fch 8 24 = some (.lreturn, 25, [0, 1, 2]) := by decide +kernel
set_option maxRecDepth 10000 in
theorem e8_0 (l0 l1 l2 : Int) (s : SG) : sem 8 0 [aA l0, aI l1, aI l2] [] s = grd (kd l0 = 0) (bnI (sem 6 0 [aA l0, aI l1, aI l2] [] s) fun a2 s1 => if a2 = 0 then some (aL 0, s1) else grd (kd l0 = 0) (grd (0 ≤ s1 l0 1) (grd (kd (s1 l0 1) = 103) (grd ((0 : Int) ≤ (w32 ((w32 (l1 * 61)) + l2)) ∧ (w32 ((w32 (l1 * 61)) + l2)) < kl (s1 l0 1)) (some (aL (s1 (s1 l0 1) (w32 ((w32 (l1 * 61)) + l2))), s1)))))) := by
  refine (x_aload f8_0 rfl rfl).trans ?_
  refine (x_iload f8_1 rfl rfl).trans ?_
  refine (x_iload f8_2 rfl rfl).trans ?_
  refine (x_invokevirtual (G := grd (kd l0 = 0) (bnI (sem 6 0 [aA l0, aI l1, aI l2] [] s) fun a2 s1 => sem 8 6 [aA l0, aI l1, aI l2] [aI a2] s1)) f8_3 rfl rfl).trans ?_
  refine g_c ?_
  refine bI_c fun a2 s1 => ?_
  refine (x_if_eq (tg := 23) f8_6 rfl rfl).trans (i_c ?_ ?_)
  · refine (x_lconst f8_23 rfl).trans ?_
    refine (x_kil (l2 := [aU, aU, aU]) f8_24 rfl).trans ?_
    exact x_lreturn f8_24 rfl
  · refine (x_aload f8_9 rfl rfl).trans ?_
    refine (x_get2 f8_10 rfl rfl).trans ?_
    refine g_c ?_
    refine g_c ?_
    refine (x_iload f8_13 rfl rfl).trans ?_
    refine (x_iconst f8_14 rfl).trans ?_
    refine (x_imul f8_16 rfl).trans ?_
    refine (x_iload f8_17 rfl rfl).trans ?_
    refine (x_iadd f8_18 rfl).trans ?_
    refine (x_laload f8_19 rfl).trans ?_
    refine g_c ?_
    refine g_c ?_
    refine (x_goto (tg := 24) f8_20 rfl rfl).trans ?_
    refine (x_kil (l2 := [aU, aU, aU]) f8_24 rfl).trans ?_
    exact x_lreturn f8_24 rfl
theorem f9_0 : fch 9 0 = some (.aload 0, 1, []) := by decide +kernel
theorem f9_1 : fch 9 1 = some (.invokevirtual 13, 4, []) := by decide +kernel
theorem f9_4 : fch 9 4 = some (.aload 0, 5, []) := by decide +kernel
theorem f9_5 : fch 9 5 = some (.aload 1, 6, []) := by decide +kernel
theorem f9_6 : fch 9 6 = some (.iload 2, 7, []) := by decide +kernel
theorem f9_7 : fch 9 7 = some (.iconst (-9), 9, []) := by decide +kernel
theorem f9_9 : fch 9 9 = some (.invokevirtual 14, 12, []) := by decide +kernel
theorem f9_12 : fch 9 12 = some (.iload 3, 13, []) := by decide +kernel
theorem f9_13 : fch 9 13 = some (.invokestatic 139, 16, []) := by decide +kernel
theorem f9_16 : fch 9 16 = some (.ifCond .eq 28, 19, []) := by decide +kernel
theorem f9_19 : fch 9 19 = some (.aload 0, 20, []) := by decide +kernel
theorem f9_20 : fch 9 20 = some (.invokeinterface 0 3, 23, []) := by decide +kernel
theorem f9_23 : fch 9 23 = some (.iload 3, 24, []) := by decide +kernel
theorem f9_24 : fch 9 24 = some (.iaload, 25, []) := by decide +kernel
theorem f9_25 : fch 9 25 = some (.goto 29, 28, []) := by decide +kernel
theorem f9_28 : fch 9 28 = some (.iconst 0, 29, []) := by decide +kernel
theorem f9_29 : fch 9 29 = some (.ireturn, 30, [0, 1, 2, 3]) := by decide +kernel
set_option maxRecDepth 10000 in
theorem e9_0 (l0 l1 l2 l3 : Int) (s : SG) : sem 9 0 [aA l0, aA l1, aI l2, aI l3] [] s = grd (kd l0 = 0) (bnV (sem 13 0 [aA l0] [] s) fun s1 => grd (kd l0 = 0) (bnV (sem 14 0 [aA l0, aA l1, aI l2, aI ((-9)), aU] [] s1) fun s2 => bnI (sem 139 0 [aI l3] [] s2) fun a4 s3 => if a4 = 0 then some (aI 0, s3) else grd (kd l0 = 0) (grd (0 ≤ s3 l0 3) (grd (kd (s3 l0 3) = 101) (grd ((0 : Int) ≤ l3 ∧ l3 < kl (s3 l0 3)) (some (aI (s3 (s3 l0 3) l3), s3))))))) := by
  refine (x_aload f9_0 rfl rfl).trans ?_
  refine (x_invokevirtual (G := grd (kd l0 = 0) (bnV (sem 13 0 [aA l0] [] s) fun s1 => sem 9 4 [aA l0, aA l1, aI l2, aI l3] [] s1)) f9_1 rfl rfl).trans ?_
  refine g_c ?_
  refine bV_c fun s1 => ?_
  refine (x_aload f9_4 rfl rfl).trans ?_
  refine (x_aload f9_5 rfl rfl).trans ?_
  refine (x_iload f9_6 rfl rfl).trans ?_
  refine (x_iconst f9_7 rfl).trans ?_
  refine (x_invokevirtual (G := grd (kd l0 = 0) (bnV (sem 14 0 [aA l0, aA l1, aI l2, aI ((-9)), aU] [] s1) fun s2 => sem 9 12 [aA l0, aA l1, aI l2, aI l3] [] s2)) f9_9 rfl rfl).trans ?_
  refine g_c ?_
  refine bV_c fun s2 => ?_
  refine (x_iload f9_12 rfl rfl).trans ?_
  refine (x_invokestatic (G := bnI (sem 139 0 [aI l3] [] s2) fun a4 s3 => sem 9 16 [aA l0, aA l1, aI l2, aI l3] [aI a4] s3) f9_13 rfl rfl).trans ?_
  refine bI_c fun a4 s3 => ?_
  refine (x_if_eq (tg := 28) f9_16 rfl rfl).trans (i_c ?_ ?_)
  · refine (x_iconst f9_28 rfl).trans ?_
    refine (x_kil (l2 := [aU, aU, aU, aU]) f9_29 rfl).trans ?_
    exact x_ireturn f9_29 rfl
  · refine (x_aload f9_19 rfl rfl).trans ?_
    refine (x_get2 f9_20 rfl rfl).trans ?_
    refine g_c ?_
    refine g_c ?_
    refine (x_iload f9_23 rfl rfl).trans ?_
    refine (x_iaload f9_24 rfl).trans ?_
    refine g_c ?_
    refine g_c ?_
    refine (x_goto (tg := 29) f9_25 rfl rfl).trans ?_
    refine (x_kil (l2 := [aU, aU, aU, aU]) f9_29 rfl).trans ?_
    exact x_ireturn f9_29 rfl
theorem f10_0 : fch 10 0 = some (.aload 0, 1, []) := by decide +kernel
theorem f10_1 : fch 10 1 = some (.invokevirtual 13, 4, []) := by decide +kernel
theorem f10_4 : fch 10 4 = some (.aload 0, 5, []) := by decide +kernel
theorem f10_5 : fch 10 5 = some (.aload 1, 6, []) := by decide +kernel
theorem f10_6 : fch 10 6 = some (.iload 2, 7, []) := by decide +kernel
theorem f10_7 : fch 10 7 = some (.iconst (-9), 9, []) := by decide +kernel
theorem f10_9 : fch 10 9 = some (.invokevirtual 14, 12, []) := by decide +kernel
theorem f10_12 : fch 10 12 = some (.aload 0, 13, []) := by decide +kernel
theorem f10_13 : fch 10 13 = some (.aload 1, 14, []) := by decide +kernel
theorem f10_14 : fch 10 14 = some (.iload 2, 15, []) := by decide +kernel
theorem f10_15 : fch 10 15 = some (.invokevirtual 16, 18, []) := by decide +kernel
theorem f10_18 : fch 10 18 = some (.lreturn, 19, []) := by decide +kernel
set_option maxRecDepth 10000 in
theorem e10_0 (l0 l1 l2 : Int) (s : SG) : sem 10 0 [aA l0, aA l1, aI l2] [] s = grd (kd l0 = 0) (bnV (sem 13 0 [aA l0] [] s) fun s1 => grd (kd l0 = 0) (bnV (sem 14 0 [aA l0, aA l1, aI l2, aI ((-9)), aU] [] s1) fun s2 => grd (kd l0 = 0) (bnL (sem 16 0 [aA l0, aA l1, aI l2, aU, aU, aU, aU] [] s2) fun a4 s3 => some (aL a4, s3)))) := by
  refine (x_aload f10_0 rfl rfl).trans ?_
  refine (x_invokevirtual (G := grd (kd l0 = 0) (bnV (sem 13 0 [aA l0] [] s) fun s1 => sem 10 4 [aA l0, aA l1, aI l2] [] s1)) f10_1 rfl rfl).trans ?_
  refine g_c ?_
  refine bV_c fun s1 => ?_
  refine (x_aload f10_4 rfl rfl).trans ?_
  refine (x_aload f10_5 rfl rfl).trans ?_
  refine (x_iload f10_6 rfl rfl).trans ?_
  refine (x_iconst f10_7 rfl).trans ?_
  refine (x_invokevirtual (G := grd (kd l0 = 0) (bnV (sem 14 0 [aA l0, aA l1, aI l2, aI ((-9)), aU] [] s1) fun s2 => sem 10 12 [aA l0, aA l1, aI l2] [] s2)) f10_9 rfl rfl).trans ?_
  refine g_c ?_
  refine bV_c fun s2 => ?_
  refine (x_aload f10_12 rfl rfl).trans ?_
  refine (x_aload f10_13 rfl rfl).trans ?_
  refine (x_iload f10_14 rfl rfl).trans ?_
  refine (x_invokevirtual (G := grd (kd l0 = 0) (bnL (sem 16 0 [aA l0, aA l1, aI l2, aU, aU, aU, aU] [] s2) fun a4 s3 => sem 10 18 [aA l0, aA l1, aI l2] [aL a4] s3)) f10_15 rfl rfl).trans ?_
  refine g_c ?_
  refine bL_c fun a4 s3 => ?_
  exact x_lreturn f10_18 rfl
theorem f11_0 : fch 11 0 = some (.aload 0, 1, []) := by decide +kernel
theorem f11_1 : fch 11 1 = some (.invokevirtual 13, 4, []) := by decide +kernel
theorem f11_4 : fch 11 4 = some (.iload 3, 5, []) := by decide +kernel
theorem f11_5 : fch 11 5 = some (.invokestatic 139, 8, []) := by decide +kernel
theorem f11_8 : fch 11 8 = some (.ifCond .eq 19, 11, []) := by decide +kernel
theorem f11_11 : fch 11 11 = some (.aload 0, 12, []) := by decide +kernel
theorem f11_12 : fch 11 12 = some (.invokeinterface 0 3, 15, []) := by decide +kernel
theorem f11_15 : fch 11 15 = some (.iload 3, 16, []) := by decide +kernel
theorem f11_16 : fch 11 16 = some (.iload 4, 18, []) := by decide +kernel
theorem f11_18 : fch 11 18 = some (.iastore, 19, []) := by decide +kernel
theorem f11_19 : fch 11 19 = some (.aload 0, 20, []) := by decide +kernel
theorem f11_20 : fch 11 20 = some (.aload 1, 21, []) := by decide +kernel
theorem f11_21 : fch 11 21 = some (.iload 2, 22, []) := by decide +kernel
theorem f11_22 : fch 11 22 = some (.iload 4, 24, []) := by decide +kernel
theorem f11_24 : fch 11 24 = some (.isub, 25, []) := by decide +kernel
theorem f11_25 : fch 11 25 = some (.iload 3, 26, []) := by decide +kernel
theorem f11_26 : fch 11 26 = some (.invokevirtual 14, 29, []) := by decide +kernel
theorem f11_29 : fch 11 29 = some (.aload 0, 30, []) := by decide +kernel
theorem f11_30 : fch 11 30 = some (.aload 1, 31, []) := by decide +kernel
theorem f11_31 : fch 11 31 = some (.iload 2, 32, []) := by decide +kernel
theorem f11_32 : fch 11 32 = some (.invokevirtual 16, 35, []) := by decide +kernel
theorem f11_35 : fch 11 35 = some (.lreturn, 36, []) := by decide +kernel
set_option maxRecDepth 10000 in
theorem e11_0 (l0 l1 l2 l3 l4 : Int) (s : SG) : sem 11 0 [aA l0, aA l1, aI l2, aI l3, aI l4] [] s = grd (kd l0 = 0) (bnV (sem 13 0 [aA l0] [] s) fun s1 => bnI (sem 139 0 [aI l3] [] s1) fun a3 s2 => if a3 = 0 then grd (kd l0 = 0) (bnV (sem 14 0 [aA l0, aA l1, aI (w32 (l2 - l4)), aI l3, aU] [] s2) fun s4 => grd (kd l0 = 0) (bnL (sem 16 0 [aA l0, aA l1, aI l2, aU, aU, aU, aU] [] s4) fun a6 s5 => some (aL a6, s5))) else grd (kd l0 = 0) (grd (0 ≤ s2 l0 3) (grd (kd (s2 l0 3) = 101) (grd ((0 : Int) ≤ l3 ∧ l3 < kl (s2 l0 3)) (grd (kd l0 = 0) (bnV (sem 14 0 [aA l0, aA l1, aI (w32 (l2 - l4)), aI l3, aU] [] (up s2 (s2 l0 3) l3 l4)) fun s7 => grd (kd l0 = 0) (bnL (sem 16 0 [aA l0, aA l1, aI l2, aU, aU, aU, aU] [] s7) fun a9 s8 => some (aL a9, s8)))))))) := by
  refine (x_aload f11_0 rfl rfl).trans ?_
  refine (x_invokevirtual (G := grd (kd l0 = 0) (bnV (sem 13 0 [aA l0] [] s) fun s1 => sem 11 4 [aA l0, aA l1, aI l2, aI l3, aI l4] [] s1)) f11_1 rfl rfl).trans ?_
  refine g_c ?_
  refine bV_c fun s1 => ?_
  refine (x_iload f11_4 rfl rfl).trans ?_
  refine (x_invokestatic (G := bnI (sem 139 0 [aI l3] [] s1) fun a3 s2 => sem 11 8 [aA l0, aA l1, aI l2, aI l3, aI l4] [aI a3] s2) f11_5 rfl rfl).trans ?_
  refine bI_c fun a3 s2 => ?_
  refine (x_if_eq (tg := 19) f11_8 rfl rfl).trans (i_c ?_ ?_)
  · refine (x_aload f11_19 rfl rfl).trans ?_
    refine (x_aload f11_20 rfl rfl).trans ?_
    refine (x_iload f11_21 rfl rfl).trans ?_
    refine (x_iload f11_22 rfl rfl).trans ?_
    refine (x_isub f11_24 rfl).trans ?_
    refine (x_iload f11_25 rfl rfl).trans ?_
    refine (x_invokevirtual (G := grd (kd l0 = 0) (bnV (sem 14 0 [aA l0, aA l1, aI (w32 (l2 - l4)), aI l3, aU] [] s2) fun s4 => sem 11 29 [aA l0, aA l1, aI l2, aI l3, aI l4] [] s4)) f11_26 rfl rfl).trans ?_
    refine g_c ?_
    refine bV_c fun s4 => ?_
    refine (x_aload f11_29 rfl rfl).trans ?_
    refine (x_aload f11_30 rfl rfl).trans ?_
    refine (x_iload f11_31 rfl rfl).trans ?_
    refine (x_invokevirtual (G := grd (kd l0 = 0) (bnL (sem 16 0 [aA l0, aA l1, aI l2, aU, aU, aU, aU] [] s4) fun a6 s5 => sem 11 35 [aA l0, aA l1, aI l2, aI l3, aI l4] [aL a6] s5)) f11_32 rfl rfl).trans ?_
    refine g_c ?_
    refine bL_c fun a6 s5 => ?_
    exact x_lreturn f11_35 rfl
  · refine (x_aload f11_11 rfl rfl).trans ?_
    refine (x_get2 f11_12 rfl rfl).trans ?_
    refine g_c ?_
    refine g_c ?_
    refine (x_iload f11_15 rfl rfl).trans ?_
    refine (x_iload f11_16 rfl rfl).trans ?_
    refine (x_iastore f11_18 rfl).trans ?_
    refine g_c ?_
    refine g_c ?_
    refine (x_aload f11_19 rfl rfl).trans ?_
    refine (x_aload f11_20 rfl rfl).trans ?_
    refine (x_iload f11_21 rfl rfl).trans ?_
    refine (x_iload f11_22 rfl rfl).trans ?_
    refine (x_isub f11_24 rfl).trans ?_
    refine (x_iload f11_25 rfl rfl).trans ?_
    refine (x_invokevirtual (G := grd (kd l0 = 0) (bnV (sem 14 0 [aA l0, aA l1, aI (w32 (l2 - l4)), aI l3, aU] [] (up s2 (s2 l0 3) l3 l4)) fun s7 => sem 11 29 [aA l0, aA l1, aI l2, aI l3, aI l4] [] s7)) f11_26 rfl rfl).trans ?_
    refine g_c ?_
    refine bV_c fun s7 => ?_
    refine (x_aload f11_29 rfl rfl).trans ?_
    refine (x_aload f11_30 rfl rfl).trans ?_
    refine (x_iload f11_31 rfl rfl).trans ?_
    refine (x_invokevirtual (G := grd (kd l0 = 0) (bnL (sem 16 0 [aA l0, aA l1, aI l2, aU, aU, aU, aU] [] s7) fun a9 s8 => sem 11 35 [aA l0, aA l1, aI l2, aI l3, aI l4] [aL a9] s8)) f11_32 rfl rfl).trans ?_
    refine g_c ?_
    refine bL_c fun a9 s8 => ?_
    exact x_lreturn f11_35 rfl
theorem f12_0 : fch 12 0 = some (.aload 0, 1, []) := by decide +kernel
theorem f12_1 : fch 12 1 = some (.invokevirtual 13, 4, []) := by decide +kernel
theorem f12_4 : fch 12 4 = some (.iconst 0, 5, []) := by decide +kernel
theorem f12_5 : fch 12 5 = some (.istore 2, 6, []) := by decide +kernel
theorem f12_6 : fch 12 6 = some (.aload 0, 7, []) := by decide +kernel
theorem f12_7 : fch 12 7 = some (.aload 1, 8, []) := by decide +kernel
theorem f12_8 : fch 12 8 = some (.iconst 0, 9, []) := by decide +kernel
theorem f12_9 : fch 12 9 = some (.invokevirtual 16, 12, []) := by decide +kernel
theorem f12_12 : fch 12 12 = some (.lstore 3, 13, []) := by decide +kernel
theorem f12_13 : fch 12 13 = some (.iconst 1, 14, []) := by decide +kernel
theorem f12_14 : fch 12 14 = some (.istore 5, 16, []) := by decide +kernel
theorem f12_16 : fch 12 16 = some (.iload 5, 18, [6]) := by decide +kernel
theorem f12_18 : fch 12 18 = some (.iconst 60, 20, []) := by decide +kernel
theorem f12_20 : fch 12 20 = some (.if_icmp .gt 58, 23, []) := by decide +kernel
theorem f12_23 : fch 12 23 = some (.aload 0, 24, []) := by decide +kernel
theorem f12_24 : fch 12 24 = some (.aload 1, 25, []) := by decide +kernel
theorem f12_25 : fch 12 25 = some (.iconst (-9), 27, []) := by decide +kernel
theorem f12_27 : fch 12 27 = some (.invokevirtual 15, 30, []) := by decide +kernel
theorem f12_30 : fch 12 30 = some (.aload 0, 31, []) := by decide +kernel
theorem f12_31 : fch 12 31 = some (.aload 1, 32, []) := by decide +kernel
theorem f12_32 : fch 12 32 = some (.iload 5, 34, []) := by decide +kernel
theorem f12_34 : fch 12 34 = some (.invokevirtual 16, 37, []) := by decide +kernel
theorem f12_37 : fch 12 37 = some (.lstore 6, 39, []) := by decide +kernel
theorem f12_39 : fch 12 39 = some (.lload 6, 41, []) := by decide +kernel
theorem f12_41 : fch 12 41 = some (.lload 3, 42, []) := by decide +kernel
theorem f12_42 : fch 12 42 = some (.lcmp, 43, []) := by decide +kernel
theorem f12_43 : fch 12 43 = some (.ifCond .le 52, 46, []) := by decide +kernel
theorem f12_46 : fch 12 46 = some (.lload 6, 48, []) := by decide +kernel
theorem f12_48 : fch 12 48 = some (.lstore 3, 49, []) := by decide +kernel
theorem f12_49 : fch 12 49 = some (.iload 5, 51, []) := by decide +kernel
theorem f12_51 : fch 12 51 = some (.istore 2, 52, []) := by decide +kernel
theorem f12_52 : fch 12 52 = some (.iinc 5 1, 55, [6]) := by decide +kernel
theorem f12_55 : fch 12 55 = some (.goto 16, 58, []) := by decide +kernel
theorem f12_58 : fch 12 58 = some (.iload 2, 59, []) := by decide +kernel
theorem f12_59 : fch 12 59 = some (.ireturn, 60, []) := by decide +kernel
set_option maxRecDepth 10000 in
theorem e12_0 (l0 l1 : Int) (s : SG) : sem 12 0 [aA l0, aA l1, aU, aU, aU, aU, aU, aU] [] s = grd (kd l0 = 0) (bnV (sem 13 0 [aA l0] [] s) fun s1 => grd (kd l0 = 0) (bnL (sem 16 0 [aA l0, aA l1, aI 0, aU, aU, aU, aU] [] s1) fun a3 s2 => sem 12 16 [aA l0, aA l1, aI 0, aL a3, aU, aI 1, aU, aU] [] s2)) := by
  refine (x_aload f12_0 rfl rfl).trans ?_
  refine (x_invokevirtual (G := grd (kd l0 = 0) (bnV (sem 13 0 [aA l0] [] s) fun s1 => sem 12 4 [aA l0, aA l1, aU, aU, aU, aU, aU, aU] [] s1)) f12_1 rfl rfl).trans ?_
  refine g_c ?_
  refine bV_c fun s1 => ?_
  refine (x_iconst f12_4 rfl).trans ?_
  refine (x_istore (l2 := [aA l0, aA l1, aI 0, aU, aU, aU, aU, aU]) f12_5 rfl rfl).trans ?_
  refine (x_aload f12_6 rfl rfl).trans ?_
  refine (x_aload f12_7 rfl rfl).trans ?_
  refine (x_iconst f12_8 rfl).trans ?_
  refine (x_invokevirtual (G := grd (kd l0 = 0) (bnL (sem 16 0 [aA l0, aA l1, aI 0, aU, aU, aU, aU] [] s1) fun a3 s2 => sem 12 12 [aA l0, aA l1, aI 0, aU, aU, aU, aU, aU] [aL a3] s2)) f12_9 rfl rfl).trans ?_
  refine g_c ?_
  refine bL_c fun a3 s2 => ?_
  refine (x_lstore (l2 := [aA l0, aA l1, aI 0, aL a3, aU, aU, aU, aU]) f12_12 rfl rfl).trans ?_
  refine (x_iconst f12_13 rfl).trans ?_
  refine (x_istore (l2 := [aA l0, aA l1, aI 0, aL a3, aU, aI 1, aU, aU]) f12_14 rfl rfl).trans ?_
  rfl
set_option maxRecDepth 10000 in
theorem e12_16 (l0 l1 l2 l3 l5 : Int) (s : SG) : sem 12 16 [aA l0, aA l1, aI l2, aL l3, aU, aI l5, aU, aU] [] s = if (60 : Int) < l5 then some (aI l2, s) else grd (kd l0 = 0) (bnV (sem 15 0 [aA l0, aA l1, aI ((-9)), aU, aU] [] s) fun s1 => grd (kd l0 = 0) (bnL (sem 16 0 [aA l0, aA l1, aI l5, aU, aU, aU, aU] [] s1) fun a3 s2 => if (0 : Int) < (cmpL a3 l3) then sem 12 16 [aA l0, aA l1, aI l5, aL a3, aU, aI (w32 (l5 + 1)), aU, aU] [] s2 else sem 12 16 [aA l0, aA l1, aI l2, aL l3, aU, aI (w32 (l5 + 1)), aU, aU] [] s2)) := by
  refine (x_iload f12_16 rfl rfl).trans ?_
  refine (x_iconst f12_18 rfl).trans ?_
  refine (x_icmp_gt (tg := 58) f12_20 rfl rfl).trans (i_c ?_ ?_)
  · refine (x_iload f12_58 rfl rfl).trans ?_
    exact x_ireturn f12_59 rfl
  · refine (x_aload f12_23 rfl rfl).trans ?_
    refine (x_aload f12_24 rfl rfl).trans ?_
    refine (x_iconst f12_25 rfl).trans ?_
    refine (x_invokevirtual (G := grd (kd l0 = 0) (bnV (sem 15 0 [aA l0, aA l1, aI ((-9)), aU, aU] [] s) fun s1 => sem 12 30 [aA l0, aA l1, aI l2, aL l3, aU, aI l5, aU, aU] [] s1)) f12_27 rfl rfl).trans ?_
    refine g_c ?_
    refine bV_c fun s1 => ?_
    refine (x_aload f12_30 rfl rfl).trans ?_
    refine (x_aload f12_31 rfl rfl).trans ?_
    refine (x_iload f12_32 rfl rfl).trans ?_
    refine (x_invokevirtual (G := grd (kd l0 = 0) (bnL (sem 16 0 [aA l0, aA l1, aI l5, aU, aU, aU, aU] [] s1) fun a3 s2 => sem 12 37 [aA l0, aA l1, aI l2, aL l3, aU, aI l5, aU, aU] [aL a3] s2)) f12_34 rfl rfl).trans ?_
    refine g_c ?_
    refine bL_c fun a3 s2 => ?_
    refine (x_lstore (l2 := [aA l0, aA l1, aI l2, aL l3, aU, aI l5, aL a3, aU]) f12_37 rfl rfl).trans ?_
    refine (x_lload f12_39 rfl rfl).trans ?_
    refine (x_lload f12_41 rfl rfl).trans ?_
    refine (x_lcmp f12_42 rfl).trans ?_
    refine (x_if_le (tg := 52) f12_43 rfl rfl).trans (i_c ?_ ?_)
    · refine (x_lload f12_46 rfl rfl).trans ?_
      refine (x_lstore (l2 := [aA l0, aA l1, aI l2, aL a3, aU, aI l5, aL a3, aU]) f12_48 rfl rfl).trans ?_
      refine (x_iload f12_49 rfl rfl).trans ?_
      refine (x_istore (l2 := [aA l0, aA l1, aI l5, aL a3, aU, aI l5, aL a3, aU]) f12_51 rfl rfl).trans ?_
      refine (x_kil (l2 := [aA l0, aA l1, aI l5, aL a3, aU, aI l5, aU, aU]) f12_52 rfl).trans ?_
      refine (x_iinc (l2 := [aA l0, aA l1, aI l5, aL a3, aU, aI (w32 (l5 + 1)), aU, aU]) f12_52 rfl rfl rfl).trans ?_
      refine (x_goto (tg := 16) f12_55 rfl rfl).trans ?_
      rfl
    · refine (x_kil (l2 := [aA l0, aA l1, aI l2, aL l3, aU, aI l5, aU, aU]) f12_52 rfl).trans ?_
      refine (x_iinc (l2 := [aA l0, aA l1, aI l2, aL l3, aU, aI (w32 (l5 + 1)), aU, aU]) f12_52 rfl rfl rfl).trans ?_
      refine (x_goto (tg := 16) f12_55 rfl rfl).trans ?_
      rfl
theorem f13_0 : fch 13 0 = some (.aload 0, 1, []) := by decide +kernel
theorem f13_1 : fch 13 1 = some (.invokeinterface 0 3, 4, []) := by decide +kernel
theorem f13_4 : fch 13 4 = some (.iconst 0, 5, []) := by decide +kernel
theorem f13_5 : fch 13 5 = some (.invokestatic 222, 8, []) := by decide +kernel
theorem f13_8 : fch 13 8 = some (.return_, 9, []) := by decide +kernel
set_option maxRecDepth 10000 in
theorem e13_0 (l0 : Int) (s : SG) : sem 13 0 [aA l0] [] s = grd (kd l0 = 0) (grd (0 ≤ s l0 3) (bnV (sem 222 0 [aA (s l0 3), aI 0, aU, aU] [] s) fun s1 => some (aU, s1))) := by
  refine (x_aload f13_0 rfl rfl).trans ?_
  refine (x_get2 f13_1 rfl rfl).trans ?_
  refine g_c ?_
  refine g_c ?_
  refine (x_iconst f13_4 rfl).trans ?_
  refine (x_invokestatic (G := bnV (sem 222 0 [aA (s l0 3), aI 0, aU, aU] [] s) fun s1 => sem 13 8 [aA l0] [] s1) f13_5 rfl rfl).trans ?_
  refine bV_c fun s1 => ?_
  exact x_return f13_8 rfl
theorem f14_0 : fch 14 0 = some (.iconst 0, 1, []) := by decide +kernel
theorem f14_1 : fch 14 1 = some (.istore 4, 3, []) := by decide +kernel
theorem f14_3 : fch 14 3 = some (.iload 4, 5, []) := by decide +kernel
theorem f14_5 : fch 14 5 = some (.iload 2, 6, []) := by decide +kernel
theorem f14_6 : fch 14 6 = some (.if_icmp .ge 21, 9, []) := by decide +kernel
theorem f14_9 : fch 14 9 = some (.aload 0, 10, []) := by decide +kernel
theorem f14_10 : fch 14 10 = some (.aload 1, 11, []) := by decide +kernel
theorem f14_11 : fch 14 11 = some (.iload 3, 12, []) := by decide +kernel
theorem f14_12 : fch 14 12 = some (.invokevirtual 15, 15, []) := by decide +kernel
theorem f14_15 : fch 14 15 = some (.iinc 4 1, 18, []) := by decide +kernel
theorem f14_18 : fch 14 18 = some (.goto 3, 21, []) := by decide +kernel
theorem f14_21 : fch 14 21 = some (.return_, 22, []) := by decide +kernel
set_option maxRecDepth 10000 in
theorem e14_0 (l0 l1 l2 l3 : Int) (s : SG) : sem 14 0 [aA l0, aA l1, aI l2, aI l3, aU] [] s = sem 14 3 [aA l0, aA l1, aI l2, aI l3, aI 0] [] s := by
  refine (x_iconst f14_0 rfl).trans ?_
  refine (x_istore (l2 := [aA l0, aA l1, aI l2, aI l3, aI 0]) f14_1 rfl rfl).trans ?_
  rfl
set_option maxRecDepth 10000 in
theorem e14_3 (l0 l1 l2 l3 l4 : Int) (s : SG) : sem 14 3 [aA l0, aA l1, aI l2, aI l3, aI l4] [] s = if l4 < l2 then grd (kd l0 = 0) (bnV (sem 15 0 [aA l0, aA l1, aI l3, aU, aU] [] s) fun s1 => sem 14 3 [aA l0, aA l1, aI l2, aI l3, aI (w32 (l4 + 1))] [] s1) else some (aU, s) := by
  refine (x_iload f14_3 rfl rfl).trans ?_
  refine (x_iload f14_5 rfl rfl).trans ?_
  refine (x_icmp_ge (tg := 21) f14_6 rfl rfl).trans (i_c ?_ ?_)
  · refine (x_aload f14_9 rfl rfl).trans ?_
    refine (x_aload f14_10 rfl rfl).trans ?_
    refine (x_iload f14_11 rfl rfl).trans ?_
    refine (x_invokevirtual (G := grd (kd l0 = 0) (bnV (sem 15 0 [aA l0, aA l1, aI l3, aU, aU] [] s) fun s1 => sem 14 15 [aA l0, aA l1, aI l2, aI l3, aI l4] [] s1)) f14_12 rfl rfl).trans ?_
    refine g_c ?_
    refine bV_c fun s1 => ?_
    refine (x_iinc (l2 := [aA l0, aA l1, aI l2, aI l3, aI (w32 (l4 + 1))]) f14_15 rfl rfl rfl).trans ?_
    refine (x_goto (tg := 3) f14_18 rfl rfl).trans ?_
    rfl
  · exact x_return f14_21 rfl
theorem f15_0 : fch 15 0 = some (.iconst (-9), 2, []) := by decide +kernel
theorem f15_2 : fch 15 2 = some (.istore 3, 3, []) := by decide +kernel
theorem f15_3 : fch 15 3 = some (.iconst 0, 4, []) := by decide +kernel
theorem f15_4 : fch 15 4 = some (.istore 4, 6, []) := by decide +kernel
theorem f15_6 : fch 15 6 = some (.iload 4, 8, []) := by decide +kernel
theorem f15_8 : fch 15 8 = some (.aload 1, 9, []) := by decide +kernel
theorem f15_9 : fch 15 9 = some (.invokeinterface 6 4, 12, []) := by decide +kernel
theorem f15_12 : fch 15 12 = some (.if_icmp .ge 71, 15, []) := by decide +kernel
theorem f15_15 : fch 15 15 = some (.iload 4, 17, []) := by decide +kernel
theorem f15_17 : fch 15 17 = some (.iconst 3, 18, []) := by decide +kernel
theorem f15_18 : fch 15 18 = some (.if_icmp .ge 71, 21, []) := by decide +kernel
theorem f15_21 : fch 15 21 = some (.iload 4, 23, []) := by decide +kernel
theorem f15_23 : fch 15 23 = some (.iload 2, 24, []) := by decide +kernel
theorem f15_24 : fch 15 24 = some (.if_icmp .eq 65, 27, []) := by decide +kernel
theorem f15_27 : fch 15 27 = some (.iload 3, 28, []) := by decide +kernel
theorem f15_28 : fch 15 28 = some (.invokestatic 139, 31, []) := by decide +kernel
theorem f15_31 : fch 15 31 = some (.ifCond .eq 62, 34, []) := by decide +kernel
theorem f15_34 : fch 15 34 = some (.aload 0, 35, []) := by decide +kernel
theorem f15_35 : fch 15 35 = some (.iload 4, 37, []) := by decide +kernel
theorem f15_37 : fch 15 37 = some (.aload 0, 38, []) := by decide +kernel
theorem f15_38 : fch 15 38 = some (.invokeinterface 0 3, 41, []) := by decide +kernel
theorem f15_41 : fch 15 41 = some (.iload 4, 43, []) := by decide +kernel
theorem f15_43 : fch 15 43 = some (.iaload, 44, []) := by decide +kernel
theorem f15_44 : fch 15 44 = some (.invokevirtual 8, 47, []) := by decide +kernel
theorem f15_47 : fch 15 47 = some (.aload 0, 48, []) := by decide +kernel
theorem f15_48 : fch 15 48 = some (.iload 3, 49, []) := by decide +kernel
theorem f15_49 : fch 15 49 = some (.aload 0, 50, []) := by decide +kernel
theorem f15_50 : fch 15 50 = some (.invokeinterface 0 3, 53, []) := by decide +kernel
theorem f15_53 : fch 15 53 = some (.iload 3, 54, []) := by decide +kernel
theorem f15_54 : fch 15 54 = some (.iaload, 55, []) := by decide +kernel
theorem f15_55 : fch 15 55 = some (.invokevirtual 8, 58, []) := by decide +kernel
theorem f15_58 : fch 15 58 = some (.lcmp, 59, []) := by decide +kernel
theorem f15_59 : fch 15 59 = some (.ifCond .le 65, 62, []) := by decide +kernel
theorem f15_62 : fch 15 62 = some (.iload 4, 64, [3]) := by decide +kernel
theorem f15_64 : fch 15 64 = some (.istore 3, 65, []) := by decide +kernel
theorem f15_65 : fch 15 65 = some (.iinc 4 1, 68, []) := by decide +kernel
theorem f15_68 : fch 15 68 = some (.goto 6, 71, []) := by decide +kernel
theorem f15_71 : fch 15 71 = some (.iload 3, 72, [1, 2, 4]) := by decide +kernel
theorem f15_72 : fch 15 72 = some (.invokestatic 139, 75, []) := by decide +kernel
theorem f15_75 : fch 15 75 = some (.ifCond .eq 88, 78, []) := by decide +kernel
theorem f15_78 : fch 15 78 = some (.aload 0, 79, []) := by decide +kernel
theorem f15_79 : fch 15 79 = some (.invokeinterface 0 3, 82, []) := by decide +kernel
theorem f15_82 : fch 15 82 = some (.iload 3, 83, []) := by decide +kernel
theorem f15_83 : fch 15 83 = some (.dup2, 84, []) := by decide +kernel
theorem f15_84 : fch 15 84 = some (.iaload, 85, []) := by decide +kernel
theorem f15_85 : fch 15 85 = some (.iconst 1, 86, []) := by decide +kernel
theorem f15_86 : fch 15 86 = some (.iadd, 87, []) := by decide +kernel
theorem f15_87 : fch 15 87 = some (.iastore, 88, []) := by decide +kernel
theorem f15_88 : fch 15 88 = some (.return_, 89, [0, 1, 2, 3, 4]) := by decide +kernel
set_option maxRecDepth 10000 in
theorem e15_0 (l0 l1 l2 : Int) (s : SG) : sem 15 0 [aA l0, aA l1, aI l2, aU, aU] [] s = sem 15 6 [aA l0, aA l1, aI l2, aI ((-9)), aI 0] [] s := by
  refine (x_iconst f15_0 rfl).trans ?_
  refine (x_istore (l2 := [aA l0, aA l1, aI l2, aI ((-9)), aU]) f15_2 rfl rfl).trans ?_
  refine (x_iconst f15_3 rfl).trans ?_
  refine (x_istore (l2 := [aA l0, aA l1, aI l2, aI ((-9)), aI 0]) f15_4 rfl rfl).trans ?_
  rfl
set_option maxRecDepth 10000 in
theorem e15_6 (l0 l1 l2 l3 l4 : Int) (s : SG) : sem 15 6 [aA l0, aA l1, aI l2, aI l3, aI l4] [] s = grd (kd l1 = 6) (if l4 < (s l1 4) then if l4 < 3 then if l4 = l2 then sem 15 6 [aA l0, aA l1, aI l2, aI l3, aI (w32 (l4 + 1))] [] s else bnI (sem 139 0 [aI l3] [] s) fun a2 s1 => if a2 = 0 then sem 15 6 [aA l0, aA l1, aI l2, aI l4, aI (w32 (l4 + 1))] [] s1 else grd (kd l0 = 0) (grd (0 ≤ s1 l0 3) (grd (kd (s1 l0 3) = 101) (grd ((0 : Int) ≤ l4 ∧ l4 < kl (s1 l0 3)) (grd (kd l0 = 0) (bnL (sem 8 0 [aA l0, aI l4, aI (s1 (s1 l0 3) l4)] [] s1) fun a4 s3 => grd (kd l0 = 0) (grd (0 ≤ s3 l0 3) (grd (kd (s3 l0 3) = 101) (grd ((0 : Int) ≤ l3 ∧ l3 < kl (s3 l0 3)) (grd (kd l0 = 0) (bnL (sem 8 0 [aA l0, aI l3, aI (s3 (s3 l0 3) l3)] [] s3) fun a6 s5 => if (0 : Int) < (cmpL a4 a6) then sem 15 6 [aA l0, aA l1, aI l2, aI l4, aI (w32 (l4 + 1))] [] s5 else sem 15 6 [aA l0, aA l1, aI l2, aI l3, aI (w32 (l4 + 1))] [] s5)))))))))) else bnI (sem 139 0 [aI l3] [] s) fun a8 s7 => if a8 = 0 then some (aU, s7) else grd (kd l0 = 0) (grd (0 ≤ s7 l0 3) (grd (kd (s7 l0 3) = 101) (grd ((0 : Int) ≤ l3 ∧ l3 < kl (s7 l0 3)) (grd (kd (s7 l0 3) = 101) (grd ((0 : Int) ≤ l3 ∧ l3 < kl (s7 l0 3)) (some (aU, up s7 (s7 l0 3) l3 (w32 ((s7 (s7 l0 3) l3) + 1))))))))) else bnI (sem 139 0 [aI l3] [] s) fun a10 s9 => if a10 = 0 then some (aU, s9) else grd (kd l0 = 0) (grd (0 ≤ s9 l0 3) (grd (kd (s9 l0 3) = 101) (grd ((0 : Int) ≤ l3 ∧ l3 < kl (s9 l0 3)) (grd (kd (s9 l0 3) = 101) (grd ((0 : Int) ≤ l3 ∧ l3 < kl (s9 l0 3)) (some (aU, up s9 (s9 l0 3) l3 (w32 ((s9 (s9 l0 3) l3) + 1)))))))))) := by
  refine (x_iload f15_6 rfl rfl).trans ?_
  refine (x_aload f15_8 rfl rfl).trans ?_
  refine (x_get0 f15_9 rfl rfl).trans ?_
  refine g_c ?_
  refine (x_icmp_ge (tg := 71) f15_12 rfl rfl).trans (i_c ?_ ?_)
  · refine (x_iload f15_15 rfl rfl).trans ?_
    refine (x_iconst f15_17 rfl).trans ?_
    refine (x_icmp_ge (tg := 71) f15_18 rfl rfl).trans (i_c ?_ ?_)
    · refine (x_iload f15_21 rfl rfl).trans ?_
      refine (x_iload f15_23 rfl rfl).trans ?_
      refine (x_icmp_eq (tg := 65) f15_24 rfl rfl).trans (i_c ?_ ?_)
      · refine (x_iinc (l2 := [aA l0, aA l1, aI l2, aI l3, aI (w32 (l4 + 1))]) f15_65 rfl rfl rfl).trans ?_
        refine (x_goto (tg := 6) f15_68 rfl rfl).trans ?_
        rfl
      · refine (x_iload f15_27 rfl rfl).trans ?_
        refine (x_invokestatic (G := bnI (sem 139 0 [aI l3] [] s) fun a2 s1 => sem 15 31 [aA l0, aA l1, aI l2, aI l3, aI l4] [aI a2] s1) f15_28 rfl rfl).trans ?_
        refine bI_c fun a2 s1 => ?_
        refine (x_if_eq (tg := 62) f15_31 rfl rfl).trans (i_c ?_ ?_)
        · refine (x_kil (l2 := [aA l0, aA l1, aI l2, aU, aI l4]) f15_62 rfl).trans ?_
          refine (x_iload f15_62 rfl rfl).trans ?_
          refine (x_istore (l2 := [aA l0, aA l1, aI l2, aI l4, aI l4]) f15_64 rfl rfl).trans ?_
          refine (x_iinc (l2 := [aA l0, aA l1, aI l2, aI l4, aI (w32 (l4 + 1))]) f15_65 rfl rfl rfl).trans ?_
          refine (x_goto (tg := 6) f15_68 rfl rfl).trans ?_
          rfl
        · refine (x_aload f15_34 rfl rfl).trans ?_
          refine (x_iload f15_35 rfl rfl).trans ?_
          refine (x_aload f15_37 rfl rfl).trans ?_
          refine (x_get2 f15_38 rfl rfl).trans ?_
          refine g_c ?_
          refine g_c ?_
          refine (x_iload f15_41 rfl rfl).trans ?_
          refine (x_iaload f15_43 rfl).trans ?_
          refine g_c ?_
          refine g_c ?_
          refine (x_invokevirtual (G := grd (kd l0 = 0) (bnL (sem 8 0 [aA l0, aI l4, aI (s1 (s1 l0 3) l4)] [] s1) fun a4 s3 => sem 15 47 [aA l0, aA l1, aI l2, aI l3, aI l4] [aL a4] s3)) f15_44 rfl rfl).trans ?_
          refine g_c ?_
          refine bL_c fun a4 s3 => ?_
          refine (x_aload f15_47 rfl rfl).trans ?_
          refine (x_iload f15_48 rfl rfl).trans ?_
          refine (x_aload f15_49 rfl rfl).trans ?_
          refine (x_get2 f15_50 rfl rfl).trans ?_
          refine g_c ?_
          refine g_c ?_
          refine (x_iload f15_53 rfl rfl).trans ?_
          refine (x_iaload f15_54 rfl).trans ?_
          refine g_c ?_
          refine g_c ?_
          refine (x_invokevirtual (G := grd (kd l0 = 0) (bnL (sem 8 0 [aA l0, aI l3, aI (s3 (s3 l0 3) l3)] [] s3) fun a6 s5 => sem 15 58 [aA l0, aA l1, aI l2, aI l3, aI l4] [aL a6, aL a4] s5)) f15_55 rfl rfl).trans ?_
          refine g_c ?_
          refine bL_c fun a6 s5 => ?_
          refine (x_lcmp f15_58 rfl).trans ?_
          refine (x_if_le (tg := 65) f15_59 rfl rfl).trans (i_c ?_ ?_)
          · refine (x_kil (l2 := [aA l0, aA l1, aI l2, aU, aI l4]) f15_62 rfl).trans ?_
            refine (x_iload f15_62 rfl rfl).trans ?_
            refine (x_istore (l2 := [aA l0, aA l1, aI l2, aI l4, aI l4]) f15_64 rfl rfl).trans ?_
            refine (x_iinc (l2 := [aA l0, aA l1, aI l2, aI l4, aI (w32 (l4 + 1))]) f15_65 rfl rfl rfl).trans ?_
            refine (x_goto (tg := 6) f15_68 rfl rfl).trans ?_
            rfl
          · refine (x_iinc (l2 := [aA l0, aA l1, aI l2, aI l3, aI (w32 (l4 + 1))]) f15_65 rfl rfl rfl).trans ?_
            refine (x_goto (tg := 6) f15_68 rfl rfl).trans ?_
            rfl
    · refine (x_kil (l2 := [aA l0, aU, aU, aI l3, aU]) f15_71 rfl).trans ?_
      refine (x_iload f15_71 rfl rfl).trans ?_
      refine (x_invokestatic (G := bnI (sem 139 0 [aI l3] [] s) fun a8 s7 => sem 15 75 [aA l0, aU, aU, aI l3, aU] [aI a8] s7) f15_72 rfl rfl).trans ?_
      refine bI_c fun a8 s7 => ?_
      refine (x_if_eq (tg := 88) f15_75 rfl rfl).trans (i_c ?_ ?_)
      · refine (x_kil (l2 := [aU, aU, aU, aU, aU]) f15_88 rfl).trans ?_
        exact x_return f15_88 rfl
      · refine (x_aload f15_78 rfl rfl).trans ?_
        refine (x_get2 f15_79 rfl rfl).trans ?_
        refine g_c ?_
        refine g_c ?_
        refine (x_iload f15_82 rfl rfl).trans ?_
        refine (x_dup2 f15_83 rfl rfl).trans ?_
        refine (x_iaload f15_84 rfl).trans ?_
        refine g_c ?_
        refine g_c ?_
        refine (x_iconst f15_85 rfl).trans ?_
        refine (x_iadd f15_86 rfl).trans ?_
        refine (x_iastore f15_87 rfl).trans ?_
        refine g_c ?_
        refine g_c ?_
        refine (x_kil (l2 := [aU, aU, aU, aU, aU]) f15_88 rfl).trans ?_
        exact x_return f15_88 rfl
  · refine (x_kil (l2 := [aA l0, aU, aU, aI l3, aU]) f15_71 rfl).trans ?_
    refine (x_iload f15_71 rfl rfl).trans ?_
    refine (x_invokestatic (G := bnI (sem 139 0 [aI l3] [] s) fun a10 s9 => sem 15 75 [aA l0, aU, aU, aI l3, aU] [aI a10] s9) f15_72 rfl rfl).trans ?_
    refine bI_c fun a10 s9 => ?_
    refine (x_if_eq (tg := 88) f15_75 rfl rfl).trans (i_c ?_ ?_)
    · refine (x_kil (l2 := [aU, aU, aU, aU, aU]) f15_88 rfl).trans ?_
      exact x_return f15_88 rfl
    · refine (x_aload f15_78 rfl rfl).trans ?_
      refine (x_get2 f15_79 rfl rfl).trans ?_
      refine g_c ?_
      refine g_c ?_
      refine (x_iload f15_82 rfl rfl).trans ?_
      refine (x_dup2 f15_83 rfl rfl).trans ?_
      refine (x_iaload f15_84 rfl).trans ?_
      refine g_c ?_
      refine g_c ?_
      refine (x_iconst f15_85 rfl).trans ?_
      refine (x_iadd f15_86 rfl).trans ?_
      refine (x_iastore f15_87 rfl).trans ?_
      refine g_c ?_
      refine g_c ?_
      refine (x_kil (l2 := [aU, aU, aU, aU, aU]) f15_88 rfl).trans ?_
      exact x_return f15_88 rfl
theorem f16_0 : fch 16 0 = some (.sipush 0, 1, []) := by decide +kernel
theorem f16_1 : fch 16 1 = some (.lstore 3, 2, []) := by decide +kernel
theorem f16_2 : fch 16 2 = some (.iconst 0, 3, []) := by decide +kernel
theorem f16_3 : fch 16 3 = some (.istore 5, 5, []) := by decide +kernel
theorem f16_5 : fch 16 5 = some (.iload 5, 7, []) := by decide +kernel
theorem f16_7 : fch 16 7 = some (.aload 1, 8, []) := by decide +kernel
theorem f16_8 : fch 16 8 = some (.invokeinterface 6 4, 11, []) := by decide +kernel
theorem f16_11 : fch 16 11 = some (.if_icmp .ge 42, 14, []) := by decide +kernel
theorem f16_14 : fch 16 14 = some (.iload 5, 16, []) := by decide +kernel
theorem f16_16 : fch 16 16 = some (.iconst 3, 17, []) := by decide +kernel
theorem f16_17 : fch 16 17 = some (.if_icmp .ge 42, 20, []) := by decide +kernel
theorem f16_20 : fch 16 20 = some (.lload 3, 21, []) := by decide +kernel
theorem f16_21 : fch 16 21 = some (.aload 0, 22, []) := by decide +kernel
theorem f16_22 : fch 16 22 = some (.iload 5, 24, []) := by decide +kernel
theorem f16_24 : fch 16 24 = some (.aload 0, 25, []) := by decide +kernel
theorem f16_25 : fch 16 25 = some (.invokeinterface 0 3, 28, []) := by decide +kernel
theorem f16_28 : fch 16 28 = some (.iload 5, 30, []) := by decide +kernel
theorem f16_30 : fch 16 30 = some (.iaload, 31, []) := by decide +kernel
theorem f16_31 : fch 16 31 = some (.invokevirtual 7, 34, []) := by decide +kernel
theorem f16_34 : fch 16 34 = some (.ladd, 35, []) := by decide +kernel
theorem f16_35 : fch 16 35 = some (.lstore 3, 36, []) := by decide +kernel
theorem f16_36 : fch 16 36 = some (.iinc 5 1, 39, []) := by decide +kernel
theorem f16_39 : fch 16 39 = some (.goto 5, 42, []) := by decide +kernel
theorem f16_42 : fch 16 42 = some (.iload 2, 43, [5]) := by decide +kernel
theorem f16_43 : fch 16 43 = some (.i2l, 44, []) := by decide +kernel
theorem f16_44 : fch 16 44 = some (.aload 0, 45, []) := by decide +kernel
theorem f16_45 : fch 16 45 = some (.invokeinterface 0 4, 48, []) := by decide +kernel
theorem f16_48 : fch 16 48 = some (.lmul, 49, []) := by decide +kernel
theorem f16_49 : fch 16 49 = some (.lload 3, 50, []) := by decide +kernel
theorem f16_50 : fch 16 50 = some (.lsub, 51, []) := by decide +kernel
theorem f16_51 : fch 16 51 = some (.lstore 5, 53, []) := by decide +kernel
theorem f16_53 : fch 16 53 = some (.lload 3, 54, []) := by decide +kernel
theorem f16_54 : fch 16 54 = some (.aload 1, 55, []) := by decide +kernel
theorem f16_55 : fch 16 55 = some (.invokeinterface 6 6, 58, []) := by decide +kernel
theorem f16_58 : fch 16 58 = some (.i2l, 59, []) := by decide +kernel
theorem f16_59 : fch 16 59 = some (.lmul, 60, []) := by decide +kernel
theorem f16_60 : fch 16 60 = some (.lload 5, 62, []) := by decide +kernel
theorem f16_62 : fch 16 62 = some (.aload 1, 63, []) := by decide +kernel
theorem f16_63 : fch 16 63 = some (.invokeinterface 6 7, 66, []) := by decide +kernel
theorem f16_66 : fch 16 66 = some (.i2l, 67, []) := by decide +kernel
theorem f16_67 : fch 16 67 = some (.lmul, 68, []) := by decide +kernel
theorem f16_68 : fch 16 68 = some (.ladd, 69, []) := by decide +kernel
theorem f16_69 : fch 16 69 = some (.iload 2, 70, []) := by decide +kernel
theorem f16_70 : fch 16 70 = some (.i2l, 71, []) := by decide +kernel
theorem f16_71 : fch 16 71 = some (.aload 0, 72, []) := by decide +kernel
theorem f16_72 : fch 16 72 = some (.invokeinterface 0 4, 75, []) := by decide +kernel
theorem f16_75 : fch 16 75 = some (.lmul, 76, []) := by decide +kernel
theorem f16_76 : fch 16 76 = some (.aload 1, 77, []) := by decide +kernel
theorem f16_77 : fch 16 77 = some (.invokeinterface 6 5, 80, []) := by decide +kernel
theorem f16_80 : fch 16 80 = some (.i2l, 81, []) := by decide +kernel
theorem f16_81 : fch 16 81 = some (.lmul, 82, []) := by decide +kernel
theorem f16_82 : fch 16 82 = some (.lsub, 83, []) := by decide +kernel
theorem f16_83 : fch 16 83 = some (.lreturn, 84, []) := by decide +kernel
set_option maxRecDepth 10000 in
theorem e16_0 (l0 l1 l2 : Int) (s : SG) : sem 16 0 [aA l0, aA l1, aI l2, aU, aU, aU, aU] [] s = sem 16 5 [aA l0, aA l1, aI l2, aL 0, aU, aI 0, aU] [] s := by
  refine (x_lconst f16_0 rfl).trans ?_
  refine (x_lstore (l2 := [aA l0, aA l1, aI l2, aL 0, aU, aU, aU]) f16_1 rfl rfl).trans ?_
  refine (x_iconst f16_2 rfl).trans ?_
  refine (x_istore (l2 := [aA l0, aA l1, aI l2, aL 0, aU, aI 0, aU]) f16_3 rfl rfl).trans ?_
  rfl
set_option maxRecDepth 10000 in
theorem e16_5 (l0 l1 l2 l3 l5 : Int) (s : SG) : sem 16 5 [aA l0, aA l1, aI l2, aL l3, aU, aI l5, aU] [] s = grd (kd l1 = 6) (if l5 < (s l1 4) then if l5 < 3 then grd (kd l0 = 0) (grd (0 ≤ s l0 3) (grd (kd (s l0 3) = 101) (grd ((0 : Int) ≤ l5 ∧ l5 < kl (s l0 3)) (grd (kd l0 = 0) (bnL (sem 7 0 [aA l0, aI l5, aI (s (s l0 3) l5)] [] s) fun a2 s1 => sem 16 5 [aA l0, aA l1, aI l2, aL (w64 (l3 + a2)), aU, aI (w32 (l5 + 1)), aU] [] s1))))) else sem 16 42 [aA l0, aA l1, aI l2, aL l3, aU, aU, aU] [] s else sem 16 42 [aA l0, aA l1, aI l2, aL l3, aU, aU, aU] [] s) := by
  refine (x_iload f16_5 rfl rfl).trans ?_
  refine (x_aload f16_7 rfl rfl).trans ?_
  refine (x_get0 f16_8 rfl rfl).trans ?_
  refine g_c ?_
  refine (x_icmp_ge (tg := 42) f16_11 rfl rfl).trans (i_c ?_ ?_)
  · refine (x_iload f16_14 rfl rfl).trans ?_
    refine (x_iconst f16_16 rfl).trans ?_
    refine (x_icmp_ge (tg := 42) f16_17 rfl rfl).trans (i_c ?_ ?_)
    · refine (x_lload f16_20 rfl rfl).trans ?_
      refine (x_aload f16_21 rfl rfl).trans ?_
      refine (x_iload f16_22 rfl rfl).trans ?_
      refine (x_aload f16_24 rfl rfl).trans ?_
      refine (x_get2 f16_25 rfl rfl).trans ?_
      refine g_c ?_
      refine g_c ?_
      refine (x_iload f16_28 rfl rfl).trans ?_
      refine (x_iaload f16_30 rfl).trans ?_
      refine g_c ?_
      refine g_c ?_
      refine (x_invokevirtual (G := grd (kd l0 = 0) (bnL (sem 7 0 [aA l0, aI l5, aI (s (s l0 3) l5)] [] s) fun a2 s1 => sem 16 34 [aA l0, aA l1, aI l2, aL l3, aU, aI l5, aU] [aL a2, aL l3] s1)) f16_31 rfl rfl).trans ?_
      refine g_c ?_
      refine bL_c fun a2 s1 => ?_
      refine (x_ladd f16_34 rfl).trans ?_
      refine (x_lstore (l2 := [aA l0, aA l1, aI l2, aL (w64 (l3 + a2)), aU, aI l5, aU]) f16_35 rfl rfl).trans ?_
      refine (x_iinc (l2 := [aA l0, aA l1, aI l2, aL (w64 (l3 + a2)), aU, aI (w32 (l5 + 1)), aU]) f16_36 rfl rfl rfl).trans ?_
      refine (x_goto (tg := 5) f16_39 rfl rfl).trans ?_
      rfl
    · exact x_kil f16_42 rfl
  · exact x_kil f16_42 rfl
set_option maxRecDepth 10000 in
theorem e16_42 (l0 l1 l2 l3 : Int) (s : SG) : sem 16 42 [aA l0, aA l1, aI l2, aL l3, aU, aU, aU] [] s = grd (kd l0 = 0) (grd (kd l1 = 6) (grd (kd l1 = 6) (grd (kd l0 = 0) (grd (kd l1 = 6) (some (aL (w64 ((w64 ((w64 (l3 * (s l1 6))) + (w64 ((w64 ((w64 (l2 * (s l0 4))) - l3)) * (s l1 7))))) - (w64 ((w64 (l2 * (s l0 4))) * (s l1 5))))), s)))))) := by
  refine (x_iload f16_42 rfl rfl).trans ?_
  refine (x_i2l f16_43 rfl).trans ?_
  refine (x_aload f16_44 rfl rfl).trans ?_
  refine (x_get1 f16_45 rfl rfl).trans ?_
  refine g_c ?_
  refine (x_lmul f16_48 rfl).trans ?_
  refine (x_lload f16_49 rfl rfl).trans ?_
  refine (x_lsub f16_50 rfl).trans ?_
  refine (x_lstore (l2 := [aA l0, aA l1, aI l2, aL l3, aU, aL (w64 ((w64 (l2 * (s l0 4))) - l3)), aU]) f16_51 rfl rfl).trans ?_
  refine (x_lload f16_53 rfl rfl).trans ?_
  refine (x_aload f16_54 rfl rfl).trans ?_
  refine (x_get0 f16_55 rfl rfl).trans ?_
  refine g_c ?_
  refine (x_i2l f16_58 rfl).trans ?_
  refine (x_lmul f16_59 rfl).trans ?_
  refine (x_lload f16_60 rfl rfl).trans ?_
  refine (x_aload f16_62 rfl rfl).trans ?_
  refine (x_get0 f16_63 rfl rfl).trans ?_
  refine g_c ?_
  refine (x_i2l f16_66 rfl).trans ?_
  refine (x_lmul f16_67 rfl).trans ?_
  refine (x_ladd f16_68 rfl).trans ?_
  refine (x_iload f16_69 rfl rfl).trans ?_
  refine (x_i2l f16_70 rfl).trans ?_
  refine (x_aload f16_71 rfl rfl).trans ?_
  refine (x_get1 f16_72 rfl rfl).trans ?_
  refine g_c ?_
  refine (x_lmul f16_75 rfl).trans ?_
  refine (x_aload f16_76 rfl rfl).trans ?_
  refine (x_get0 f16_77 rfl rfl).trans ?_
  refine g_c ?_
  refine (x_i2l f16_80 rfl).trans ?_
  refine (x_lmul f16_81 rfl).trans ?_
  refine (x_lsub f16_82 rfl).trans ?_
  exact x_lreturn f16_83 rfl
theorem f17_0 : fch 17 0 = some (.aload 0, 1, []) := by decide +kernel
theorem f17_1 : fch 17 1 = some (.monitorexit, 4, []) := by decide +kernel
theorem f17_4 : fch 17 4 = some (.aload 0, 5, []) := by decide +kernel
theorem f17_5 : fch 17 5 = some (.iconst 3, 6, []) := by decide +kernel
theorem f17_6 : fch 17 6 = some (.newarray .int, 8, []) := by decide +kernel
theorem f17_8 : fch 17 8 = some (.multianewarray 1 0, 11, []) := by decide +kernel
theorem f17_11 : fch 17 11 = some (.aload 0, 12, []) := by decide +kernel
theorem f17_12 : fch 17 12 = some (.iconst 3, 13, []) := by decide +kernel
theorem f17_13 : fch 17 13 = some (.newarray .int, 15, []) := by decide +kernel
theorem f17_15 : fch 17 15 = some (.multianewarray 1 1, 18, []) := by decide +kernel
theorem f17_18 : fch 17 18 = some (.aload 0, 19, []) := by decide +kernel
theorem f17_19 : fch 17 19 = some (.iconst 3, 20, []) := by decide +kernel
theorem f17_20 : fch 17 20 = some (.newarray .int, 22, []) := by decide +kernel
theorem f17_22 : fch 17 22 = some (.multianewarray 1 2, 25, []) := by decide +kernel
theorem f17_25 : fch 17 25 = some (.aload 0, 26, []) := by decide +kernel
theorem f17_26 : fch 17 26 = some (.iconst 6, 28, []) := by decide +kernel
theorem f17_28 : fch 17 28 = some (.newarray .int, 30, []) := by decide +kernel
theorem f17_30 : fch 17 30 = some (.multianewarray 1 3, 33, []) := by decide +kernel
theorem f17_33 : fch 17 33 = some (.aload 0, 34, []) := by decide +kernel
theorem f17_34 : fch 17 34 = some (.iconst 6, 36, []) := by decide +kernel
theorem f17_36 : fch 17 36 = some (.newarray .int, 38, []) := by decide +kernel
theorem f17_38 : fch 17 38 = some (.multianewarray 1 4, 41, []) := by decide +kernel
theorem f17_41 : fch 17 41 = some (.aload 0, 42, []) := by decide +kernel
theorem f17_42 : fch 17 42 = some (.iconst 6, 44, []) := by decide +kernel
theorem f17_44 : fch 17 44 = some (.newarray .int, 46, []) := by decide +kernel
theorem f17_46 : fch 17 46 = some (.multianewarray 1 5, 49, []) := by decide +kernel
theorem f17_49 : fch 17 49 = some (.aload 0, 50, []) := by decide +kernel
theorem f17_50 : fch 17 50 = some (.invokevirtual 18, 53, []) := by decide +kernel
theorem f17_53 : fch 17 53 = some (.return_, 54, []) := by decide +kernel
set_option maxRecDepth 10000 in
theorem e17_0 (l0 : Int) (s : SG) : sem 17 0 [aA l0] [] s = grd (kd (s (-1) 0) = akind .int ∧ kl (s (-1) 0) = 3) (grd (kd l0 = 1) (grd (0 ≤ s (-1) 0) (grd (kd ((up (alc s 3 (fun _ => 0)) l0 0 (s (-1) 0)) (-1) 0) = akind .int ∧ kl ((up (alc s 3 (fun _ => 0)) l0 0 (s (-1) 0)) (-1) 0) = 3) (grd (kd l0 = 1) (grd (0 ≤ (up (alc s 3 (fun _ => 0)) l0 0 (s (-1) 0)) (-1) 0) (grd (kd ((up (alc (up (alc s 3 (fun _ => 0)) l0 0 (s (-1) 0)) 3 (fun _ => 0)) l0 1 ((up (alc s 3 (fun _ => 0)) l0 0 (s (-1) 0)) (-1) 0)) (-1) 0) = akind .int ∧ kl ((up (alc (up (alc s 3 (fun _ => 0)) l0 0 (s (-1) 0)) 3 (fun _ => 0)) l0 1 ((up (alc s 3 (fun _ => 0)) l0 0 (s (-1) 0)) (-1) 0)) (-1) 0) = 3) (grd (kd l0 = 1) (grd (0 ≤ (up (alc (up (alc s 3 (fun _ => 0)) l0 0 (s (-1) 0)) 3 (fun _ => 0)) l0 1 ((up (alc s 3 (fun _ => 0)) l0 0 (s (-1) 0)) (-1) 0)) (-1) 0) (sem 17 25 [aA l0] [] (up (alc (up (alc (up (alc s 3 (fun _ => 0)) l0 0 (s (-1) 0)) 3 (fun _ => 0)) l0 1 ((up (alc s 3 (fun _ => 0)) l0 0 (s (-1) 0)) (-1) 0)) 3 (fun _ => 0)) l0 2 ((up (alc (up (alc s 3 (fun _ => 0)) l0 0 (s (-1) 0)) 3 (fun _ => 0)) l0 1 ((up (alc s 3 (fun _ => 0)) l0 0 (s (-1) 0)) (-1) 0)) (-1) 0))))))))))) := by
  refine (x_aload f17_0 rfl rfl).trans ?_
  refine (x_monitorexit f17_1 rfl rfl).trans ?_
  refine (x_aload f17_4 rfl rfl).trans ?_
  refine (x_iconst f17_5 rfl).trans ?_
  refine (x_newarray f17_6 rfl).trans ?_
  refine g_c ?_
  refine (x_put2 f17_8 rfl rfl).trans ?_
  refine g_c ?_
  refine g_c ?_
  refine (x_aload f17_11 rfl rfl).trans ?_
  refine (x_iconst f17_12 rfl).trans ?_
  refine (x_newarray f17_13 rfl).trans ?_
  refine g_c ?_
  refine (x_put2 f17_15 rfl rfl).trans ?_
  refine g_c ?_
  refine g_c ?_
  refine (x_aload f17_18 rfl rfl).trans ?_
  refine (x_iconst f17_19 rfl).trans ?_
  refine (x_newarray f17_20 rfl).trans ?_
  refine g_c ?_
  refine (x_put2 f17_22 rfl rfl).trans ?_
  refine g_c ?_
  refine g_c ?_
  rfl
set_option maxRecDepth 10000 in
theorem e17_25 (l0 : Int) (s : SG) : sem 17 25 [aA l0] [] s = grd (kd (s (-1) 0) = akind .int ∧ kl (s (-1) 0) = 6) (grd (kd l0 = 1) (grd (0 ≤ s (-1) 0) (grd (kd ((up (alc s 6 (fun _ => 0)) l0 3 (s (-1) 0)) (-1) 0) = akind .int ∧ kl ((up (alc s 6 (fun _ => 0)) l0 3 (s (-1) 0)) (-1) 0) = 6) (grd (kd l0 = 1) (grd (0 ≤ (up (alc s 6 (fun _ => 0)) l0 3 (s (-1) 0)) (-1) 0) (grd (kd ((up (alc (up (alc s 6 (fun _ => 0)) l0 3 (s (-1) 0)) 6 (fun _ => 0)) l0 4 ((up (alc s 6 (fun _ => 0)) l0 3 (s (-1) 0)) (-1) 0)) (-1) 0) = akind .int ∧ kl ((up (alc (up (alc s 6 (fun _ => 0)) l0 3 (s (-1) 0)) 6 (fun _ => 0)) l0 4 ((up (alc s 6 (fun _ => 0)) l0 3 (s (-1) 0)) (-1) 0)) (-1) 0) = 6) (grd (kd l0 = 1) (grd (0 ≤ (up (alc (up (alc s 6 (fun _ => 0)) l0 3 (s (-1) 0)) 6 (fun _ => 0)) l0 4 ((up (alc s 6 (fun _ => 0)) l0 3 (s (-1) 0)) (-1) 0)) (-1) 0) (sem 17 49 [aA l0] [] (up (alc (up (alc (up (alc s 6 (fun _ => 0)) l0 3 (s (-1) 0)) 6 (fun _ => 0)) l0 4 ((up (alc s 6 (fun _ => 0)) l0 3 (s (-1) 0)) (-1) 0)) 6 (fun _ => 0)) l0 5 ((up (alc (up (alc s 6 (fun _ => 0)) l0 3 (s (-1) 0)) 6 (fun _ => 0)) l0 4 ((up (alc s 6 (fun _ => 0)) l0 3 (s (-1) 0)) (-1) 0)) (-1) 0))))))))))) := by
  refine (x_aload f17_25 rfl rfl).trans ?_
  refine (x_iconst f17_26 rfl).trans ?_
  refine (x_newarray f17_28 rfl).trans ?_
  refine g_c ?_
  refine (x_put2 f17_30 rfl rfl).trans ?_
  refine g_c ?_
  refine g_c ?_
  refine (x_aload f17_33 rfl rfl).trans ?_
  refine (x_iconst f17_34 rfl).trans ?_
  refine (x_newarray f17_36 rfl).trans ?_
  refine g_c ?_
  refine (x_put2 f17_38 rfl rfl).trans ?_
  refine g_c ?_
  refine g_c ?_
  refine (x_aload f17_41 rfl rfl).trans ?_
  refine (x_iconst f17_42 rfl).trans ?_
  refine (x_newarray f17_44 rfl).trans ?_
  refine g_c ?_
  refine (x_put2 f17_46 rfl rfl).trans ?_
  refine g_c ?_
  refine g_c ?_
  rfl
set_option maxRecDepth 10000 in
theorem e17_49 (l0 : Int) (s : SG) : sem 17 49 [aA l0] [] s = grd (kd l0 = 1) (bnV (sem 18 0 [aA l0] [] s) fun s1 => some (aU, s1)) := by
  refine (x_aload f17_49 rfl rfl).trans ?_
  refine (x_invokevirtual (G := grd (kd l0 = 1) (bnV (sem 18 0 [aA l0] [] s) fun s1 => sem 17 53 [aA l0] [] s1)) f17_50 rfl rfl).trans ?_
  refine g_c ?_
  refine bV_c fun s1 => ?_
  exact x_return f17_53 rfl
theorem f18_0 : fch 18 0 = some (.aload 0, 1, []) := by decide +kernel
theorem f18_1 : fch 18 1 = some (.invokeinterface 1 0, 4, []) := by decide +kernel
theorem f18_4 : fch 18 4 = some (.iconst 0, 5, []) := by decide +kernel
theorem f18_5 : fch 18 5 = some (.invokestatic 222, 8, []) := by decide +kernel
theorem f18_8 : fch 18 8 = some (.aload 0, 9, []) := by decide +kernel
theorem f18_9 : fch 18 9 = some (.invokeinterface 1 1, 12, []) := by decide +kernel
theorem f18_12 : fch 18 12 = some (.iconst 5, 13, []) := by decide +kernel
theorem f18_13 : fch 18 13 = some (.invokestatic 222, 16, []) := by decide +kernel
theorem f18_16 : fch 18 16 = some (.aload 0, 17, []) := by decide +kernel
theorem f18_17 : fch 18 17 = some (.invokeinterface 1 2, 20, []) := by decide +kernel
theorem f18_20 : fch 18 20 = some (.iconst 0, 21, []) := by decide +kernel
theorem f18_21 : fch 18 21 = some (.invokestatic 222, 24, []) := by decide +kernel
theorem f18_24 : fch 18 24 = some (.aload 0, 25, []) := by decide +kernel
theorem f18_25 : fch 18 25 = some (.iconst 0, 26, []) := by decide +kernel
theorem f18_26 : fch 18 26 = some (.multianewarray 1 6, 29, []) := by decide +kernel
theorem f18_29 : fch 18 29 = some (.aload 0, 30, []) := by decide +kernel
theorem f18_30 : fch 18 30 = some (.iconst 0, 31, []) := by decide +kernel
theorem f18_31 : fch 18 31 = some (.multianewarray 1 7, 34, []) := by decide +kernel
theorem f18_34 : fch 18 34 = some (.aload 0, 35, []) := by decide +kernel
theorem f18_35 : fch 18 35 = some (.iconst 0, 36, []) := by decide +kernel
theorem f18_36 : fch 18 36 = some (.multianewarray 1 8, 39, []) := by decide +kernel
theorem f18_39 : fch 18 39 = some (.aload 0, 40, []) := by decide +kernel
theorem f18_40 : fch 18 40 = some (.iconst 0, 41, []) := by decide +kernel
theorem f18_41 : fch 18 41 = some (.multianewarray 1 9, 44, []) := by decide +kernel
theorem f18_44 : fch 18 44 = some (.aload 0, 45, []) := by decide +kernel
theorem f18_45 : fch 18 45 = some (.iconst 0, 46, []) := by decide +kernel
theorem f18_46 : fch 18 46 = some (.multianewarray 1 10, 49, []) := by decide +kernel
theorem f18_49 : fch 18 49 = some (.return_, 50, []) := by decide +kernel
set_option maxRecDepth 10000 in
theorem e18_0 (l0 : Int) (s : SG) : sem 18 0 [aA l0] [] s = grd (kd l0 = 1) (grd (0 ≤ s l0 0) (bnV (sem 222 0 [aA (s l0 0), aI 0, aU, aU] [] s) fun s1 => grd (kd l0 = 1) (grd (0 ≤ s1 l0 1) (bnV (sem 222 0 [aA (s1 l0 1), aI 5, aU, aU] [] s1) fun s2 => grd (kd l0 = 1) (grd (0 ≤ s2 l0 2) (bnV (sem 222 0 [aA (s2 l0 2), aI 0, aU, aU] [] s2) fun s3 => grd (kd l0 = 1) (grd (kd l0 = 1) (grd (kd l0 = 1) (grd (kd l0 = 1) (grd (kd l0 = 1) (some (aU, up (up (up (up (up s3 l0 6 0) l0 7 0) l0 8 0) l0 9 0) l0 10 0)))))))))))) := by
  refine (x_aload f18_0 rfl rfl).trans ?_
  refine (x_get2 f18_1 rfl rfl).trans ?_
  refine g_c ?_
  refine g_c ?_
  refine (x_iconst f18_4 rfl).trans ?_
  refine (x_invokestatic (G := bnV (sem 222 0 [aA (s l0 0), aI 0, aU, aU] [] s) fun s1 => sem 18 8 [aA l0] [] s1) f18_5 rfl rfl).trans ?_
  refine bV_c fun s1 => ?_
  refine (x_aload f18_8 rfl rfl).trans ?_
  refine (x_get2 f18_9 rfl rfl).trans ?_
  refine g_c ?_
  refine g_c ?_
  refine (x_iconst f18_12 rfl).trans ?_
  refine (x_invokestatic (G := bnV (sem 222 0 [aA (s1 l0 1), aI 5, aU, aU] [] s1) fun s2 => sem 18 16 [aA l0] [] s2) f18_13 rfl rfl).trans ?_
  refine bV_c fun s2 => ?_
  refine (x_aload f18_16 rfl rfl).trans ?_
  refine (x_get2 f18_17 rfl rfl).trans ?_
  refine g_c ?_
  refine g_c ?_
  refine (x_iconst f18_20 rfl).trans ?_
  refine (x_invokestatic (G := bnV (sem 222 0 [aA (s2 l0 2), aI 0, aU, aU] [] s2) fun s3 => sem 18 24 [aA l0] [] s3) f18_21 rfl rfl).trans ?_
  refine bV_c fun s3 => ?_
  refine (x_aload f18_24 rfl rfl).trans ?_
  refine (x_iconst f18_25 rfl).trans ?_
  refine (x_put0 f18_26 rfl rfl).trans ?_
  refine g_c ?_
  refine (x_aload f18_29 rfl rfl).trans ?_
  refine (x_iconst f18_30 rfl).trans ?_
  refine (x_put0 f18_31 rfl rfl).trans ?_
  refine g_c ?_
  refine (x_aload f18_34 rfl rfl).trans ?_
  refine (x_iconst f18_35 rfl).trans ?_
  refine (x_put0 f18_36 rfl rfl).trans ?_
  refine g_c ?_
  refine (x_aload f18_39 rfl rfl).trans ?_
  refine (x_iconst f18_40 rfl).trans ?_
  refine (x_put0 f18_41 rfl rfl).trans ?_
  refine g_c ?_
  refine (x_aload f18_44 rfl rfl).trans ?_
  refine (x_iconst f18_45 rfl).trans ?_
  refine (x_put0 f18_46 rfl rfl).trans ?_
  refine g_c ?_
  exact x_return f18_49 rfl
theorem f19_0 : fch 19 0 = some (.aload 1, 1, []) := by decide +kernel
theorem f19_1 : fch 19 1 = some (.invokeinterface 1 0, 4, []) := by decide +kernel
theorem f19_4 : fch 19 4 = some (.iconst 0, 5, []) := by decide +kernel
theorem f19_5 : fch 19 5 = some (.aload 0, 6, []) := by decide +kernel
theorem f19_6 : fch 19 6 = some (.invokeinterface 1 0, 9, []) := by decide +kernel
theorem f19_9 : fch 19 9 = some (.iconst 0, 10, []) := by decide +kernel
theorem f19_10 : fch 19 10 = some (.iconst 3, 11, []) := by decide +kernel
theorem f19_11 : fch 19 11 = some (.invokedynamic 0, 14, []) := by decide +kernel
theorem f19_14 : fch 19 14 = some (.aload 1, 15, []) := by decide +kernel
theorem f19_15 : fch 19 15 = some (.invokeinterface 1 1, 18, []) := by decide +kernel
theorem f19_18 : fch 19 18 = some (.iconst 0, 19, []) := by decide +kernel
theorem f19_19 : fch 19 19 = some (.aload 0, 20, []) := by decide +kernel
theorem f19_20 : fch 19 20 = some (.invokeinterface 1 1, 23, []) := by decide +kernel
theorem f19_23 : fch 19 23 = some (.iconst 0, 24, []) := by decide +kernel
theorem f19_24 : fch 19 24 = some (.iconst 3, 25, []) := by decide +kernel
theorem f19_25 : fch 19 25 = some (.invokedynamic 0, 28, []) := by decide +kernel
theorem f19_28 : fch 19 28 = some (.aload 1, 29, []) := by decide +kernel
theorem f19_29 : fch 19 29 = some (.invokeinterface 1 2, 32, []) := by decide +kernel
theorem f19_32 : fch 19 32 = some (.iconst 0, 33, []) := by decide +kernel
theorem f19_33 : fch 19 33 = some (.aload 0, 34, []) := by decide +kernel
theorem f19_34 : fch 19 34 = some (.invokeinterface 1 2, 37, []) := by decide +kernel
theorem f19_37 : fch 19 37 = some (.iconst 0, 38, []) := by decide +kernel
theorem f19_38 : fch 19 38 = some (.iconst 3, 39, []) := by decide +kernel
theorem f19_39 : fch 19 39 = some (.invokedynamic 0, 42, []) := by decide +kernel
theorem f19_42 : fch 19 42 = some (.aload 1, 43, []) := by decide +kernel
theorem f19_43 : fch 19 43 = some (.invokeinterface 1 3, 46, []) := by decide +kernel
theorem f19_46 : fch 19 46 = some (.iconst 0, 47, []) := by decide +kernel
theorem f19_47 : fch 19 47 = some (.aload 0, 48, []) := by decide +kernel
theorem f19_48 : fch 19 48 = some (.invokeinterface 1 3, 51, []) := by decide +kernel
theorem f19_51 : fch 19 51 = some (.iconst 0, 52, []) := by decide +kernel
theorem f19_52 : fch 19 52 = some (.iconst 6, 54, []) := by decide +kernel
theorem f19_54 : fch 19 54 = some (.invokedynamic 0, 57, []) := by decide +kernel
theorem f19_57 : fch 19 57 = some (.aload 1, 58, []) := by decide +kernel
theorem f19_58 : fch 19 58 = some (.invokeinterface 1 4, 61, []) := by decide +kernel
theorem f19_61 : fch 19 61 = some (.iconst 0, 62, []) := by decide +kernel
theorem f19_62 : fch 19 62 = some (.aload 0, 63, []) := by decide +kernel
theorem f19_63 : fch 19 63 = some (.invokeinterface 1 4, 66, []) := by decide +kernel
theorem f19_66 : fch 19 66 = some (.iconst 0, 67, []) := by decide +kernel
theorem f19_67 : fch 19 67 = some (.iconst 6, 69, []) := by decide +kernel
theorem f19_69 : fch 19 69 = some (.invokedynamic 0, 72, []) := by decide +kernel
theorem f19_72 : fch 19 72 = some (.aload 1, 73, []) := by decide +kernel
theorem f19_73 : fch 19 73 = some (.invokeinterface 1 5, 76, []) := by decide +kernel
theorem f19_76 : fch 19 76 = some (.iconst 0, 77, []) := by decide +kernel
theorem f19_77 : fch 19 77 = some (.aload 0, 78, []) := by decide +kernel
theorem f19_78 : fch 19 78 = some (.invokeinterface 1 5, 81, []) := by decide +kernel
theorem f19_81 : fch 19 81 = some (.iconst 0, 82, []) := by decide +kernel
theorem f19_82 : fch 19 82 = some (.iconst 6, 84, []) := by decide +kernel
theorem f19_84 : fch 19 84 = some (.invokedynamic 0, 87, []) := by decide +kernel
theorem f19_87 : fch 19 87 = some (.aload 0, 88, []) := by decide +kernel
theorem f19_88 : fch 19 88 = some (.aload 1, 89, []) := by decide +kernel
theorem f19_89 : fch 19 89 = some (.invokeinterface 1 6, 92, []) := by decide +kernel
theorem f19_92 : fch 19 92 = some (.multianewarray 1 6, 95, []) := by decide +kernel
theorem f19_95 : fch 19 95 = some (.aload 0, 96, []) := by decide +kernel
theorem f19_96 : fch 19 96 = some (.aload 1, 97, []) := by decide +kernel
theorem f19_97 : fch 19 97 = some (.invokeinterface 1 7, 100, []) := by decide +kernel
theorem f19_100 : fch 19 100 = some (.multianewarray 1 7, 103, []) := by decide +kernel
theorem f19_103 : fch 19 103 = some (.aload 0, 104, []) := by decide +kernel
theorem f19_104 : fch 19 104 = some (.aload 1, 105, []) := by decide +kernel
theorem f19_105 : fch 19 105 = some (.invokeinterface 1 8, 108, []) := by decide +kernel
theorem f19_108 : fch 19 108 = some (.multianewarray 1 8, 111, []) := by decide +kernel
theorem f19_111 : fch 19 111 = some (.aload 0, 112, []) := by decide +kernel
theorem f19_112 : fch 19 112 = some (.aload 1, 113, []) := by decide +kernel
theorem f19_113 : fch 19 113 = some (.invokeinterface 1 9, 116, []) := by decide +kernel
theorem f19_116 : fch 19 116 = some (.multianewarray 1 9, 119, []) := by decide +kernel
theorem f19_119 : fch 19 119 = some (.aload 0, 120, []) := by decide +kernel
theorem f19_120 : fch 19 120 = some (.aload 1, 121, []) := by decide +kernel
theorem f19_121 : fch 19 121 = some (.invokeinterface 1 10, 124, []) := by decide +kernel
theorem f19_124 : fch 19 124 = some (.multianewarray 1 10, 127, []) := by decide +kernel
theorem f19_127 : fch 19 127 = some (.return_, 128, []) := by decide +kernel
set_option maxRecDepth 10000 in
theorem e19_0 (l0 l1 : Int) (s : SG) : sem 19 0 [aA l0, aA l1] [] s = grd (kd l1 = 1) (grd (0 ≤ s l1 0) (grd (kd l0 = 1) (grd (0 ≤ s l0 0) (grd (kd (s l1 0) = 101 ∧ kd (s l0 0) = 101) (grd ((0 : Int) ≤ 0 ∧ (0 : Int) ≤ 0 ∧ (0 : Int) ≤ 3 ∧ 0 + 3 ≤ kl (s l1 0) ∧ 0 + 3 ≤ kl (s l0 0)) (grd (kd l1 = 1) (grd (0 ≤ (cpy s (s l1 0) 0 (s l0 0) 0 3) l1 1) (grd (kd l0 = 1) (grd (0 ≤ (cpy s (s l1 0) 0 (s l0 0) 0 3) l0 1) (grd (kd ((cpy s (s l1 0) 0 (s l0 0) 0 3) l1 1) = 101 ∧ kd ((cpy s (s l1 0) 0 (s l0 0) 0 3) l0 1) = 101) (grd ((0 : Int) ≤ 0 ∧ (0 : Int) ≤ 0 ∧ (0 : Int) ≤ 3 ∧ 0 + 3 ≤ kl ((cpy s (s l1 0) 0 (s l0 0) 0 3) l1 1) ∧ 0 + 3 ≤ kl ((cpy s (s l1 0) 0 (s l0 0) 0 3) l0 1)) (grd (kd l1 = 1) (grd (0 ≤ (cpy (cpy s (s l1 0) 0 (s l0 0) 0 3) ((cpy s (s l1 0) 0 (s l0 0) 0 3) l1 1) 0 ((cpy s (s l1 0) 0 (s l0 0) 0 3) l0 1) 0 3) l1 2) (grd (kd l0 = 1) (grd (0 ≤ (cpy (cpy s (s l1 0) 0 (s l0 0) 0 3) ((cpy s (s l1 0) 0 (s l0 0) 0 3) l1 1) 0 ((cpy s (s l1 0) 0 (s l0 0) 0 3) l0 1) 0 3) l0 2) (grd (kd ((cpy (cpy s (s l1 0) 0 (s l0 0) 0 3) ((cpy s (s l1 0) 0 (s l0 0) 0 3) l1 1) 0 ((cpy s (s l1 0) 0 (s l0 0) 0 3) l0 1) 0 3) l1 2) = 101 ∧ kd ((cpy (cpy s (s l1 0) 0 (s l0 0) 0 3) ((cpy s (s l1 0) 0 (s l0 0) 0 3) l1 1) 0 ((cpy s (s l1 0) 0 (s l0 0) 0 3) l0 1) 0 3) l0 2) = 101) (grd ((0 : Int) ≤ 0 ∧ (0 : Int) ≤ 0 ∧ (0 : Int) ≤ 3 ∧ 0 + 3 ≤ kl ((cpy (cpy s (s l1 0) 0 (s l0 0) 0 3) ((cpy s (s l1 0) 0 (s l0 0) 0 3) l1 1) 0 ((cpy s (s l1 0) 0 (s l0 0) 0 3) l0 1) 0 3) l1 2) ∧ 0 + 3 ≤ kl ((cpy (cpy s (s l1 0) 0 (s l0 0) 0 3) ((cpy s (s l1 0) 0 (s l0 0) 0 3) l1 1) 0 ((cpy s (s l1 0) 0 (s l0 0) 0 3) l0 1) 0 3) l0 2)) (sem 19 42 [aA l0, aA l1] [] (cpy (cpy (cpy s (s l1 0) 0 (s l0 0) 0 3) ((cpy s (s l1 0) 0 (s l0 0) 0 3) l1 1) 0 ((cpy s (s l1 0) 0 (s l0 0) 0 3) l0 1) 0 3) ((cpy (cpy s (s l1 0) 0 (s l0 0) 0 3) ((cpy s (s l1 0) 0 (s l0 0) 0 3) l1 1) 0 ((cpy s (s l1 0) 0 (s l0 0) 0 3) l0 1) 0 3) l1 2) 0 ((cpy (cpy s (s l1 0) 0 (s l0 0) 0 3) ((cpy s (s l1 0) 0 (s l0 0) 0 3) l1 1) 0 ((cpy s (s l1 0) 0 (s l0 0) 0 3) l0 1) 0 3) l0 2) 0 3))))))))))))))))))) := by
  refine (x_aload f19_0 rfl rfl).trans ?_
  refine (x_get2 f19_1 rfl rfl).trans ?_
  refine g_c ?_
  refine g_c ?_
  refine (x_iconst f19_4 rfl).trans ?_
  refine (x_aload f19_5 rfl rfl).trans ?_
  refine (x_get2 f19_6 rfl rfl).trans ?_
  refine g_c ?_
  refine g_c ?_
  refine (x_iconst f19_9 rfl).trans ?_
  refine (x_iconst f19_10 rfl).trans ?_
  refine (x_copy f19_11 rfl rfl).trans ?_
  refine g_c ?_
  refine g_c ?_
  refine (x_aload f19_14 rfl rfl).trans ?_
  refine (x_get2 f19_15 rfl rfl).trans ?_
  refine g_c ?_
  refine g_c ?_
  refine (x_iconst f19_18 rfl).trans ?_
  refine (x_aload f19_19 rfl rfl).trans ?_
  refine (x_get2 f19_20 rfl rfl).trans ?_
  refine g_c ?_
  refine g_c ?_
  refine (x_iconst f19_23 rfl).trans ?_
  refine (x_iconst f19_24 rfl).trans ?_
  refine (x_copy f19_25 rfl rfl).trans ?_
  refine g_c ?_
  refine g_c ?_
  refine (x_aload f19_28 rfl rfl).trans ?_
  refine (x_get2 f19_29 rfl rfl).trans ?_
  refine g_c ?_
  refine g_c ?_
  refine (x_iconst f19_32 rfl).trans ?_
  refine (x_aload f19_33 rfl rfl).trans ?_
  refine (x_get2 f19_34 rfl rfl).trans ?_
  refine g_c ?_
  refine g_c ?_
  refine (x_iconst f19_37 rfl).trans ?_
  refine (x_iconst f19_38 rfl).trans ?_
  refine (x_copy f19_39 rfl rfl).trans ?_
  refine g_c ?_
  refine g_c ?_
  rfl
set_option maxRecDepth 10000 in
theorem e19_42 (l0 l1 : Int) (s : SG) : sem 19 42 [aA l0, aA l1] [] s = grd (kd l1 = 1) (grd (0 ≤ s l1 3) (grd (kd l0 = 1) (grd (0 ≤ s l0 3) (grd (kd (s l1 3) = 101 ∧ kd (s l0 3) = 101) (grd ((0 : Int) ≤ 0 ∧ (0 : Int) ≤ 0 ∧ (0 : Int) ≤ 6 ∧ 0 + 6 ≤ kl (s l1 3) ∧ 0 + 6 ≤ kl (s l0 3)) (grd (kd l1 = 1) (grd (0 ≤ (cpy s (s l1 3) 0 (s l0 3) 0 6) l1 4) (grd (kd l0 = 1) (grd (0 ≤ (cpy s (s l1 3) 0 (s l0 3) 0 6) l0 4) (grd (kd ((cpy s (s l1 3) 0 (s l0 3) 0 6) l1 4) = 101 ∧ kd ((cpy s (s l1 3) 0 (s l0 3) 0 6) l0 4) = 101) (grd ((0 : Int) ≤ 0 ∧ (0 : Int) ≤ 0 ∧ (0 : Int) ≤ 6 ∧ 0 + 6 ≤ kl ((cpy s (s l1 3) 0 (s l0 3) 0 6) l1 4) ∧ 0 + 6 ≤ kl ((cpy s (s l1 3) 0 (s l0 3) 0 6) l0 4)) (grd (kd l1 = 1) (grd (0 ≤ (cpy (cpy s (s l1 3) 0 (s l0 3) 0 6) ((cpy s (s l1 3) 0 (s l0 3) 0 6) l1 4) 0 ((cpy s (s l1 3) 0 (s l0 3) 0 6) l0 4) 0 6) l1 5) (grd (kd l0 = 1) (grd (0 ≤ (cpy (cpy s (s l1 3) 0 (s l0 3) 0 6) ((cpy s (s l1 3) 0 (s l0 3) 0 6) l1 4) 0 ((cpy s (s l1 3) 0 (s l0 3) 0 6) l0 4) 0 6) l0 5) (grd (kd ((cpy (cpy s (s l1 3) 0 (s l0 3) 0 6) ((cpy s (s l1 3) 0 (s l0 3) 0 6) l1 4) 0 ((cpy s (s l1 3) 0 (s l0 3) 0 6) l0 4) 0 6) l1 5) = 101 ∧ kd ((cpy (cpy s (s l1 3) 0 (s l0 3) 0 6) ((cpy s (s l1 3) 0 (s l0 3) 0 6) l1 4) 0 ((cpy s (s l1 3) 0 (s l0 3) 0 6) l0 4) 0 6) l0 5) = 101) (grd ((0 : Int) ≤ 0 ∧ (0 : Int) ≤ 0 ∧ (0 : Int) ≤ 6 ∧ 0 + 6 ≤ kl ((cpy (cpy s (s l1 3) 0 (s l0 3) 0 6) ((cpy s (s l1 3) 0 (s l0 3) 0 6) l1 4) 0 ((cpy s (s l1 3) 0 (s l0 3) 0 6) l0 4) 0 6) l1 5) ∧ 0 + 6 ≤ kl ((cpy (cpy s (s l1 3) 0 (s l0 3) 0 6) ((cpy s (s l1 3) 0 (s l0 3) 0 6) l1 4) 0 ((cpy s (s l1 3) 0 (s l0 3) 0 6) l0 4) 0 6) l0 5)) (sem 19 87 [aA l0, aA l1] [] (cpy (cpy (cpy s (s l1 3) 0 (s l0 3) 0 6) ((cpy s (s l1 3) 0 (s l0 3) 0 6) l1 4) 0 ((cpy s (s l1 3) 0 (s l0 3) 0 6) l0 4) 0 6) ((cpy (cpy s (s l1 3) 0 (s l0 3) 0 6) ((cpy s (s l1 3) 0 (s l0 3) 0 6) l1 4) 0 ((cpy s (s l1 3) 0 (s l0 3) 0 6) l0 4) 0 6) l1 5) 0 ((cpy (cpy s (s l1 3) 0 (s l0 3) 0 6) ((cpy s (s l1 3) 0 (s l0 3) 0 6) l1 4) 0 ((cpy s (s l1 3) 0 (s l0 3) 0 6) l0 4) 0 6) l0 5) 0 6))))))))))))))))))) := by
  refine (x_aload f19_42 rfl rfl).trans ?_
  refine (x_get2 f19_43 rfl rfl).trans ?_
  refine g_c ?_
  refine g_c ?_
  refine (x_iconst f19_46 rfl).trans ?_
  refine (x_aload f19_47 rfl rfl).trans ?_
  refine (x_get2 f19_48 rfl rfl).trans ?_
  refine g_c ?_
  refine g_c ?_
  refine (x_iconst f19_51 rfl).trans ?_
  refine (x_iconst f19_52 rfl).trans ?_
  refine (x_copy f19_54 rfl rfl).trans ?_
  refine g_c ?_
  refine g_c ?_
  refine (x_aload f19_57 rfl rfl).trans ?_
  refine (x_get2 f19_58 rfl rfl).trans ?_
  refine g_c ?_
  refine g_c ?_
  refine (x_iconst f19_61 rfl).trans ?_
  refine (x_aload f19_62 rfl rfl).trans ?_
  refine (x_get2 f19_63 rfl rfl).trans ?_
  refine g_c ?_
  refine g_c ?_
  refine (x_iconst f19_66 rfl).trans ?_
  refine (x_iconst f19_67 rfl).trans ?_
  refine (x_copy f19_69 rfl rfl).trans ?_
  refine g_c ?_
  refine g_c ?_
  refine (x_aload f19_72 rfl rfl).trans ?_
  refine (x_get2 f19_73 rfl rfl).trans ?_
  refine g_c ?_
  refine g_c ?_
  refine (x_iconst f19_76 rfl).trans ?_
  refine (x_aload f19_77 rfl rfl).trans ?_
  refine (x_get2 f19_78 rfl rfl).trans ?_
  refine g_c ?_
  refine g_c ?_
  refine (x_iconst f19_81 rfl).trans ?_
  refine (x_iconst f19_82 rfl).trans ?_
  refine (x_copy f19_84 rfl rfl).trans ?_
  refine g_c ?_
  refine g_c ?_
  rfl
set_option maxRecDepth 10000 in
theorem e19_87 (l0 l1 : Int) (s : SG) : sem 19 87 [aA l0, aA l1] [] s = grd (kd l1 = 1) (grd (kd l0 = 1) (grd (kd l1 = 1) (grd (kd l0 = 1) (grd (kd l1 = 1) (grd (kd l0 = 1) (grd (kd l1 = 1) (grd (kd l0 = 1) (sem 19 119 [aA l0, aA l1] [] (up (up (up (up s l0 6 (s l1 6)) l0 7 ((up s l0 6 (s l1 6)) l1 7)) l0 8 ((up (up s l0 6 (s l1 6)) l0 7 ((up s l0 6 (s l1 6)) l1 7)) l1 8)) l0 9 ((up (up (up s l0 6 (s l1 6)) l0 7 ((up s l0 6 (s l1 6)) l1 7)) l0 8 ((up (up s l0 6 (s l1 6)) l0 7 ((up s l0 6 (s l1 6)) l1 7)) l1 8)) l1 9)))))))))) := by
  refine (x_aload f19_87 rfl rfl).trans ?_
  refine (x_aload f19_88 rfl rfl).trans ?_
  refine (x_get0 f19_89 rfl rfl).trans ?_
  refine g_c ?_
  refine (x_put0 f19_92 rfl rfl).trans ?_
  refine g_c ?_
  refine (x_aload f19_95 rfl rfl).trans ?_
  refine (x_aload f19_96 rfl rfl).trans ?_
  refine (x_get0 f19_97 rfl rfl).trans ?_
  refine g_c ?_
  refine (x_put0 f19_100 rfl rfl).trans ?_
  refine g_c ?_
  refine (x_aload f19_103 rfl rfl).trans ?_
  refine (x_aload f19_104 rfl rfl).trans ?_
  refine (x_get0 f19_105 rfl rfl).trans ?_
  refine g_c ?_
  refine (x_put0 f19_108 rfl rfl).trans ?_
  refine g_c ?_
  refine (x_aload f19_111 rfl rfl).trans ?_
  refine (x_aload f19_112 rfl rfl).trans ?_
  refine (x_get0 f19_113 rfl rfl).trans ?_
  refine g_c ?_
  refine (x_put0 f19_116 rfl rfl).trans ?_
  refine g_c ?_
  rfl
set_option maxRecDepth 10000 in
theorem e19_119 (l0 l1 : Int) (s : SG) : sem 19 119 [aA l0, aA l1] [] s = grd (kd l1 = 1) (grd (kd l0 = 1) (some (aU, up s l0 10 (s l1 10)))) := by
  refine (x_aload f19_119 rfl rfl).trans ?_
  refine (x_aload f19_120 rfl rfl).trans ?_
  refine (x_get0 f19_121 rfl rfl).trans ?_
  refine g_c ?_
  refine (x_put0 f19_124 rfl rfl).trans ?_
  refine g_c ?_
  exact x_return f19_127 rfl
theorem f20_0 : fch 20 0 = some (.iload 0, 1, []) := by decide +kernel
theorem f20_1 : fch 20 1 = some (.tableswitch 60 0 2 #[28, 38, 55], 28, []) := by decide +kernel
theorem f20_28 : fch 20 28 = some (.iload 1, 29, []) := by decide +kernel
theorem f20_29 : fch 20 29 = some (.ifCond .ne 36, 32, []) := by decide +kernel
theorem f20_32 : fch 20 32 = some (.iconst 1, 33, []) := by decide +kernel
theorem f20_33 : fch 20 33 = some (.goto 37, 36, []) := by decide +kernel
theorem f20_36 : fch 20 36 = some (.iconst 0, 37, []) := by decide +kernel
theorem f20_37 : fch 20 37 = some (.ireturn, 38, [0, 1]) := by decide +kernel
theorem f20_38 : fch 20 38 = some (.iload 1, 39, []) := by decide +kernel
theorem f20_39 : fch 20 39 = some (.iconst 1, 40, []) := by decide +kernel
theorem f20_40 : fch 20 40 = some (.if_icmp .lt 53, 43, []) := by decide +kernel
theorem f20_43 : fch 20 43 = some (.iload 1, 44, []) := by decide +kernel
theorem f20_44 : fch 20 44 = some (.iconst 20, 46, []) := by decide +kernel
theorem f20_46 : fch 20 46 = some (.if_icmp .gt 53, 49, []) := by decide +kernel
theorem f20_49 : fch 20 49 = some (.iconst 1, 50, []) := by decide +kernel
theorem f20_50 : fch 20 50 = some (.goto 54, 53, []) := by decide +kernel
theorem f20_53 : fch 20 53 = some (.iconst 0, 54, [0, 1]) := by decide +kernel
theorem f20_54 : fch 20 54 = some (.ireturn, 55, [0, 1]) := by decide +kernel
theorem f20_55 : fch 20 55 = some (.iload 1, 56, []) := by decide +kernel
theorem f20_56 : fch 20 56 = some (.invokestatic 141, 59, []) := by decide +kernel
theorem f20_59 : fch 20 59 = some (.ireturn, 60, []) := by decide +kernel
theorem f20_60 : fch 20 60 = some (.iconst 0, 61, []) := by decide +kernel
theorem f20_61 : fch 20 61 = some (.ireturn, 62, []) := by decide +kernel
set_option maxRecDepth 10000 in
theorem e20_0 (l0 l1 : Int) (s : SG) : sem 20 0 [aI l0, aI l1] [] s = if l0 = 0 then if l1 = 0 then some (aI 1, s) else some (aI 0, s) else if l0 = 1 then if l1 < 1 then some (aI 0, s) else if (20 : Int) < l1 then some (aI 0, s) else some (aI 1, s) else if l0 = 2 then bnI (sem 141 0 [aI l1] [] s) fun a2 s1 => grd (a2 = 0 ∨ a2 = 1) (some (aI a2, s1)) else some (aI 0, s) := by
  refine (x_iload f20_0 rfl rfl).trans ?_
  refine (x_tsw f20_1 rfl).trans ?_
  refine Eq.trans (b := sem 20 (if l0 = 0 then 28 else if l0 = 1 then 38 else if l0 = 2 then 55 else 60) [aI l0, aI l1] [] s) rfl ?_
  refine x_ite.trans (i_c ?_ ?_)
  · refine (x_iload f20_28 rfl rfl).trans ?_
    refine (x_if_ne (tg := 36) f20_29 rfl rfl).trans (i_c ?_ ?_)
    · refine (x_iconst f20_32 rfl).trans ?_
      refine (x_goto (tg := 37) f20_33 rfl rfl).trans ?_
      refine (x_kil (l2 := [aU, aU]) f20_37 rfl).trans ?_
      exact x_zreturn1 f20_37 rfl
    · refine (x_iconst f20_36 rfl).trans ?_
      refine (x_kil (l2 := [aU, aU]) f20_37 rfl).trans ?_
      exact x_zreturn0 f20_37 rfl
  refine x_ite.trans (i_c ?_ ?_)
  · refine (x_iload f20_38 rfl rfl).trans ?_
    refine (x_iconst f20_39 rfl).trans ?_
    refine (x_icmp_lt (tg := 53) f20_40 rfl rfl).trans (i_c ?_ ?_)
    · refine (x_kil (l2 := [aU, aU]) f20_53 rfl).trans ?_
      refine (x_iconst f20_53 rfl).trans ?_
      exact x_zreturn0 f20_54 rfl
    · refine (x_iload f20_43 rfl rfl).trans ?_
      refine (x_iconst f20_44 rfl).trans ?_
      refine (x_icmp_gt (tg := 53) f20_46 rfl rfl).trans (i_c ?_ ?_)
      · refine (x_kil (l2 := [aU, aU]) f20_53 rfl).trans ?_
        refine (x_iconst f20_53 rfl).trans ?_
        exact x_zreturn0 f20_54 rfl
      · refine (x_iconst f20_49 rfl).trans ?_
        refine (x_goto (tg := 54) f20_50 rfl rfl).trans ?_
        refine (x_kil (l2 := [aU, aU]) f20_54 rfl).trans ?_
        exact x_zreturn1 f20_54 rfl
  refine x_ite.trans (i_c ?_ ?_)
  · refine (x_iload f20_55 rfl rfl).trans ?_
    refine (x_invokestatic (G := bnI (sem 141 0 [aI l1] [] s) fun a2 s1 => sem 20 59 [aI l0, aI l1] [aI a2] s1) f20_56 rfl rfl).trans ?_
    refine bI_c fun a2 s1 => ?_
    exact x_zreturn f20_59 rfl
  refine (x_iconst f20_60 rfl).trans ?_
  exact x_zreturn0 f20_61 rfl
theorem f21_0 : fch 21 0 = some (.iload 1, 1, []) := by decide +kernel
theorem f21_1 : fch 21 1 = some (.invokestatic 139, 4, []) := by decide +kernel
theorem f21_4 : fch 21 4 = some (.ifCond .eq 16, 7, []) := by decide +kernel
theorem f21_7 : fch 21 7 = some (.aload 0, 8, []) := by decide +kernel
theorem f21_8 : fch 21 8 = some (.invokeinterface 1 0, 11, []) := by decide +kernel
theorem f21_11 : fch 21 11 = some (.iload 1, 12, []) := by decide +kernel
theorem f21_12 : fch 21 12 = some (.iaload, 13, []) := by decide +kernel
theorem f21_13 : fch 21 13 = some (.goto 17, 16, []) := by decide +kernel
theorem f21_16 : fch 21 16 = some (.iconst 0, 17, []) := by decide +kernel
theorem f21_17 : fch 21 17 = some (.ireturn, 18, [0, 1]) := by decide +kernel
set_option maxRecDepth 10000 in
theorem e21_0 (l0 l1 : Int) (s : SG) : sem 21 0 [aA l0, aI l1] [] s = bnI (sem 139 0 [aI l1] [] s) fun a2 s1 => if a2 = 0 then some (aI 0, s1) else grd (kd l0 = 1) (grd (0 ≤ s1 l0 0) (grd (kd (s1 l0 0) = 101) (grd ((0 : Int) ≤ l1 ∧ l1 < kl (s1 l0 0)) (some (aI (s1 (s1 l0 0) l1), s1))))) := by
  refine (x_iload f21_0 rfl rfl).trans ?_
  refine (x_invokestatic (G := bnI (sem 139 0 [aI l1] [] s) fun a2 s1 => sem 21 4 [aA l0, aI l1] [aI a2] s1) f21_1 rfl rfl).trans ?_
  refine bI_c fun a2 s1 => ?_
  refine (x_if_eq (tg := 16) f21_4 rfl rfl).trans (i_c ?_ ?_)
  · refine (x_iconst f21_16 rfl).trans ?_
    refine (x_kil (l2 := [aU, aU]) f21_17 rfl).trans ?_
    exact x_ireturn f21_17 rfl
  · refine (x_aload f21_7 rfl rfl).trans ?_
    refine (x_get2 f21_8 rfl rfl).trans ?_
    refine g_c ?_
    refine g_c ?_
    refine (x_iload f21_11 rfl rfl).trans ?_
    refine (x_iaload f21_12 rfl).trans ?_
    refine g_c ?_
    refine g_c ?_
    refine (x_goto (tg := 17) f21_13 rfl rfl).trans ?_
    refine (x_kil (l2 := [aU, aU]) f21_17 rfl).trans ?_
    exact x_ireturn f21_17 rfl
theorem f22_0 : fch 22 0 = some (.iload 1, 1, []) := by decide +kernel
theorem f22_1 : fch 22 1 = some (.invokestatic 139, 4, []) := by decide +kernel
theorem f22_4 : fch 22 4 = some (.ifCond .eq 16, 7, []) := by decide +kernel
theorem f22_7 : fch 22 7 = some (.aload 0, 8, []) := by decide +kernel
theorem f22_8 : fch 22 8 = some (.invokeinterface 1 1, 11, []) := by decide +kernel
theorem f22_11 : fch 22 11 = some (.iload 1, 12, []) := by decide +kernel
theorem f22_12 : fch 22 12 = some (.iaload, 13, []) := by decide +kernel
theorem f22_13 : fch 22 13 = some (.goto 17, 16, []) := by decide +kernel
theorem f22_16 : fch 22 16 = some (.iconst 0, 17, []) := by decide +kernel
theorem f22_17 : fch 22 17 = some (.ireturn, 18, [0, 1]) := by decide +kernel
set_option maxRecDepth 10000 in
theorem e22_0 (l0 l1 : Int) (s : SG) : sem 22 0 [aA l0, aI l1] [] s = bnI (sem 139 0 [aI l1] [] s) fun a2 s1 => if a2 = 0 then some (aI 0, s1) else grd (kd l0 = 1) (grd (0 ≤ s1 l0 1) (grd (kd (s1 l0 1) = 101) (grd ((0 : Int) ≤ l1 ∧ l1 < kl (s1 l0 1)) (some (aI (s1 (s1 l0 1) l1), s1))))) := by
  refine (x_iload f22_0 rfl rfl).trans ?_
  refine (x_invokestatic (G := bnI (sem 139 0 [aI l1] [] s) fun a2 s1 => sem 22 4 [aA l0, aI l1] [aI a2] s1) f22_1 rfl rfl).trans ?_
  refine bI_c fun a2 s1 => ?_
  refine (x_if_eq (tg := 16) f22_4 rfl rfl).trans (i_c ?_ ?_)
  · refine (x_iconst f22_16 rfl).trans ?_
    refine (x_kil (l2 := [aU, aU]) f22_17 rfl).trans ?_
    exact x_ireturn f22_17 rfl
  · refine (x_aload f22_7 rfl rfl).trans ?_
    refine (x_get2 f22_8 rfl rfl).trans ?_
    refine g_c ?_
    refine g_c ?_
    refine (x_iload f22_11 rfl rfl).trans ?_
    refine (x_iaload f22_12 rfl).trans ?_
    refine g_c ?_
    refine g_c ?_
    refine (x_goto (tg := 17) f22_13 rfl rfl).trans ?_
    refine (x_kil (l2 := [aU, aU]) f22_17 rfl).trans ?_
    exact x_ireturn f22_17 rfl
theorem f23_0 : fch 23 0 = some (.iload 1, 1, []) := by decide +kernel
theorem f23_1 : fch 23 1 = some (.invokestatic 139, 4, []) := by decide +kernel
theorem f23_4 : fch 23 4 = some (.ifCond .eq 32, 7, []) := by decide +kernel
theorem f23_7 : fch 23 7 = some (.iload 2, 8, []) := by decide +kernel
theorem f23_8 : fch 23 8 = some (.invokestatic 141, 11, []) := by decide +kernel
theorem f23_11 : fch 23 11 = some (.ifCond .eq 32, 14, []) := by decide +kernel
theorem f23_14 : fch 23 14 = some (.aload 0, 15, []) := by decide +kernel
theorem f23_15 : fch 23 15 = some (.invokeinterface 1 2, 18, []) := by decide +kernel
theorem f23_18 : fch 23 18 = some (.iload 1, 19, []) := by decide +kernel
theorem f23_19 : fch 23 19 = some (.iaload, 20, []) := by decide +kernel
theorem f23_20 : fch 23 20 = some (.iload 2, 21, []) := by decide +kernel
theorem f23_21 : fch 23 21 = some (.ishr, 22, []) := by decide +kernel
theorem f23_22 : fch 23 22 = some (.iconst 1, 23, []) := by decide +kernel
theorem f23_23 : fch 23 23 = some (.iand, 24, []) := by decide +kernel
theorem f23_24 : fch 23 24 = some (.iconst 1, 25, []) := by decide +kernel
theorem f23_25 : fch 23 25 = some (.if_icmp .ne 32, 28, []) := by decide +kernel
theorem f23_28 : fch 23 28 = some (.iconst 1, 29, []) := by decide +kernel
theorem f23_29 : fch 23 29 = some (.goto 33, 32, []) := by decide +kernel
theorem f23_32 : fch 23 32 = some (.iconst 0, 33, [0, 1, 2]) := by decide +kernel
theorem f23_33 : fch 23 33 = some (.ireturn, 34, [0, 1, 2]) := by decide +kernel
set_option maxRecDepth 10000 in
theorem e23_0 (l0 l1 l2 : Int) (s : SG) : sem 23 0 [aA l0, aI l1, aI l2] [] s = bnI (sem 139 0 [aI l1] [] s) fun a2 s1 => if a2 = 0 then some (aI 0, s1) else bnI (sem 141 0 [aI l2] [] s1) fun a4 s3 => if a4 = 0 then some (aI 0, s3) else grd (kd l0 = 1) (grd (0 ≤ s3 l0 2) (grd (kd (s3 l0 2) = 101) (grd ((0 : Int) ≤ l1 ∧ l1 < kl (s3 l0 2)) (if (iandA (ishrA (s3 (s3 l0 2) l1) l2) 1) = 1 then some (aI 1, s3) else some (aI 0, s3))))) := by
  refine (x_iload f23_0 rfl rfl).trans ?_
  refine (x_invokestatic (G := bnI (sem 139 0 [aI l1] [] s) fun a2 s1 => sem 23 4 [aA l0, aI l1, aI l2] [aI a2] s1) f23_1 rfl rfl).trans ?_
  refine bI_c fun a2 s1 => ?_
  refine (x_if_eq (tg := 32) f23_4 rfl rfl).trans (i_c ?_ ?_)
  · refine (x_kil (l2 := [aU, aU, aU]) f23_32 rfl).trans ?_
    refine (x_iconst f23_32 rfl).trans ?_
    exact x_zreturn0 f23_33 rfl
  · refine (x_iload f23_7 rfl rfl).trans ?_
    refine (x_invokestatic (G := bnI (sem 141 0 [aI l2] [] s1) fun a4 s3 => sem 23 11 [aA l0, aI l1, aI l2] [aI a4] s3) f23_8 rfl rfl).trans ?_
    refine bI_c fun a4 s3 => ?_
    refine (x_if_eq (tg := 32) f23_11 rfl rfl).trans (i_c ?_ ?_)
    · refine (x_kil (l2 := [aU, aU, aU]) f23_32 rfl).trans ?_
      refine (x_iconst f23_32 rfl).trans ?_
      exact x_zreturn0 f23_33 rfl
    · refine (x_aload f23_14 rfl rfl).trans ?_
      refine (x_get2 f23_15 rfl rfl).trans ?_
      refine g_c ?_
      refine g_c ?_
      refine (x_iload f23_18 rfl rfl).trans ?_
      refine (x_iaload f23_19 rfl).trans ?_
      refine g_c ?_
      refine g_c ?_
      refine (x_iload f23_20 rfl rfl).trans ?_
      refine (x_ishr f23_21 rfl).trans ?_
      refine (x_iconst f23_22 rfl).trans ?_
      refine (x_iand f23_23 rfl).trans ?_
      refine (x_iconst f23_24 rfl).trans ?_
      refine (x_icmp_ne (tg := 32) f23_25 rfl rfl).trans (i_c ?_ ?_)
      · refine (x_iconst f23_28 rfl).trans ?_
        refine (x_goto (tg := 33) f23_29 rfl rfl).trans ?_
        refine (x_kil (l2 := [aU, aU, aU]) f23_33 rfl).trans ?_
        exact x_zreturn1 f23_33 rfl
      · refine (x_kil (l2 := [aU, aU, aU]) f23_32 rfl).trans ?_
        refine (x_iconst f23_32 rfl).trans ?_
        exact x_zreturn0 f23_33 rfl
theorem f24_0 : fch 24 0 = some (.aload 0, 1, []) := by decide +kernel
theorem f24_1 : fch 24 1 = some (.iload 1, 2, []) := by decide +kernel
theorem f24_2 : fch 24 2 = some (.invokevirtual 21, 5, []) := by decide +kernel
theorem f24_5 : fch 24 5 = some (.istore 3, 6, []) := by decide +kernel
theorem f24_6 : fch 24 6 = some (.iload 1, 7, []) := by decide +kernel
theorem f24_7 : fch 24 7 = some (.invokestatic 139, 10, []) := by decide +kernel
theorem f24_10 : fch 24 10 = some (.ifCond .eq 20, 13, []) := by decide +kernel
theorem f24_13 : fch 24 13 = some (.aload 0, 14, []) := by decide +kernel
theorem f24_14 : fch 24 14 = some (.invokeinterface 1 0, 17, []) := by decide +kernel
theorem f24_17 : fch 24 17 = some (.iload 1, 18, []) := by decide +kernel
theorem f24_18 : fch 24 18 = some (.iload 2, 19, []) := by decide +kernel
theorem f24_19 : fch 24 19 = some (.iastore, 20, []) := by decide +kernel
theorem f24_20 : fch 24 20 = some (.iload 3, 21, [0, 1, 2]) := by decide +kernel
theorem f24_21 : fch 24 21 = some (.ireturn, 22, []) := by decide +kernel
set_option maxRecDepth 10000 in
theorem e24_0 (l0 l1 l2 : Int) (s : SG) : sem 24 0 [aA l0, aI l1, aI l2, aU] [] s = grd (kd l0 = 1) (bnI (sem 21 0 [aA l0, aI l1] [] s) fun a2 s1 => bnI (sem 139 0 [aI l1] [] s1) fun a4 s3 => if a4 = 0 then some (aI a2, s3) else grd (kd l0 = 1) (grd (0 ≤ s3 l0 0) (grd (kd (s3 l0 0) = 101) (grd ((0 : Int) ≤ l1 ∧ l1 < kl (s3 l0 0)) (some (aI a2, up s3 (s3 l0 0) l1 l2)))))) := by
  refine (x_aload f24_0 rfl rfl).trans ?_
  refine (x_iload f24_1 rfl rfl).trans ?_
  refine (x_invokevirtual (G := grd (kd l0 = 1) (bnI (sem 21 0 [aA l0, aI l1] [] s) fun a2 s1 => sem 24 5 [aA l0, aI l1, aI l2, aU] [aI a2] s1)) f24_2 rfl rfl).trans ?_
  refine g_c ?_
  refine bI_c fun a2 s1 => ?_
  refine (x_istore (l2 := [aA l0, aI l1, aI l2, aI a2]) f24_5 rfl rfl).trans ?_
  refine (x_iload f24_6 rfl rfl).trans ?_
  refine (x_invokestatic (G := bnI (sem 139 0 [aI l1] [] s1) fun a4 s3 => sem 24 10 [aA l0, aI l1, aI l2, aI a2] [aI a4] s3) f24_7 rfl rfl).trans ?_
  refine bI_c fun a4 s3 => ?_
  refine (x_if_eq (tg := 20) f24_10 rfl rfl).trans (i_c ?_ ?_)
  · refine (x_kil (l2 := [aU, aU, aU, aI a2]) f24_20 rfl).trans ?_
    refine (x_iload f24_20 rfl rfl).trans ?_
    exact x_ireturn f24_21 rfl
  · refine (x_aload f24_13 rfl rfl).trans ?_
    refine (x_get2 f24_14 rfl rfl).trans ?_
    refine g_c ?_
    refine g_c ?_
    refine (x_iload f24_17 rfl rfl).trans ?_
    refine (x_iload f24_18 rfl rfl).trans ?_
    refine (x_iastore f24_19 rfl).trans ?_
    refine g_c ?_
    refine g_c ?_
    refine (x_kil (l2 := [aU, aU, aU, aI a2]) f24_20 rfl).trans ?_
    refine (x_iload f24_20 rfl rfl).trans ?_
    exact x_ireturn f24_21 rfl
theorem f25_0 : fch 25 0 = some (.iload 1, 1, []) := by decide +kernel
theorem f25_1 : fch 25 1 = some (.invokestatic 139, 4, []) := by decide +kernel
theorem f25_4 : fch 25 4 = some (.ifCond .ne 9, 7, []) := by decide +kernel
theorem f25_7 : fch 25 7 = some (.iconst 0, 8, []) := by decide +kernel
theorem f25_8 : fch 25 8 = some (.ireturn, 9, []) := by decide +kernel
theorem f25_9 : fch 25 9 = some (.aload 0, 10, []) := by decide +kernel
theorem f25_10 : fch 25 10 = some (.invokeinterface 1 2, 13, []) := by decide +kernel
theorem f25_13 : fch 25 13 = some (.iload 1, 14, []) := by decide +kernel
theorem f25_14 : fch 25 14 = some (.iaload, 15, []) := by decide +kernel
theorem f25_15 : fch 25 15 = some (.istore 3, 16, []) := by decide +kernel
theorem f25_16 : fch 25 16 = some (.aload 0, 17, []) := by decide +kernel
theorem f25_17 : fch 25 17 = some (.invokeinterface 1 2, 20, []) := by decide +kernel
theorem f25_20 : fch 25 20 = some (.iload 1, 21, []) := by decide +kernel
theorem f25_21 : fch 25 21 = some (.iload 2, 22, []) := by decide +kernel
theorem f25_22 : fch 25 22 = some (.iastore, 23, []) := by decide +kernel
theorem f25_23 : fch 25 23 = some (.iload 3, 24, []) := by decide +kernel
theorem f25_24 : fch 25 24 = some (.ireturn, 25, []) := by decide +kernel
set_option maxRecDepth 10000 in
theorem e25_0 (l0 l1 l2 : Int) (s : SG) : sem 25 0 [aA l0, aI l1, aI l2, aU] [] s = bnI (sem 139 0 [aI l1] [] s) fun a2 s1 => if a2 = 0 then some (aI 0, s1) else grd (kd l0 = 1) (grd (0 ≤ s1 l0 2) (grd (kd (s1 l0 2) = 101) (grd ((0 : Int) ≤ l1 ∧ l1 < kl (s1 l0 2)) (grd (kd l0 = 1) (grd (0 ≤ s1 l0 2) (grd (kd (s1 l0 2) = 101) (grd ((0 : Int) ≤ l1 ∧ l1 < kl (s1 l0 2)) (some (aI (s1 (s1 l0 2) l1), up s1 (s1 l0 2) l1 l2))))))))) := by
  refine (x_iload f25_0 rfl rfl).trans ?_
  refine (x_invokestatic (G := bnI (sem 139 0 [aI l1] [] s) fun a2 s1 => sem 25 4 [aA l0, aI l1, aI l2, aU] [aI a2] s1) f25_1 rfl rfl).trans ?_
  refine bI_c fun a2 s1 => ?_
  refine (x_if_ne (tg := 9) f25_4 rfl rfl).trans (i_c ?_ ?_)
  · refine (x_iconst f25_7 rfl).trans ?_
    exact x_ireturn f25_8 rfl
  · refine (x_aload f25_9 rfl rfl).trans ?_
    refine (x_get2 f25_10 rfl rfl).trans ?_
    refine g_c ?_
    refine g_c ?_
    refine (x_iload f25_13 rfl rfl).trans ?_
    refine (x_iaload f25_14 rfl).trans ?_
    refine g_c ?_
    refine g_c ?_
    refine (x_istore (l2 := [aA l0, aI l1, aI l2, aI (s1 (s1 l0 2) l1)]) f25_15 rfl rfl).trans ?_
    refine (x_aload f25_16 rfl rfl).trans ?_
    refine (x_get2 f25_17 rfl rfl).trans ?_
    refine g_c ?_
    refine g_c ?_
    refine (x_iload f25_20 rfl rfl).trans ?_
    refine (x_iload f25_21 rfl rfl).trans ?_
    refine (x_iastore f25_22 rfl).trans ?_
    refine g_c ?_
    refine g_c ?_
    refine (x_iload f25_23 rfl rfl).trans ?_
    exact x_ireturn f25_24 rfl
theorem f26_0 : fch 26 0 = some (.aload 0, 1, []) := by decide +kernel
theorem f26_1 : fch 26 1 = some (.invokeinterface 1 10, 4, []) := by decide +kernel
theorem f26_4 : fch 26 4 = some (.iconst 6, 6, []) := by decide +kernel
theorem f26_6 : fch 26 6 = some (.if_icmp .lt 11, 9, []) := by decide +kernel
theorem f26_9 : fch 26 9 = some (.iconst 0, 10, []) := by decide +kernel
theorem f26_10 : fch 26 10 = some (.ireturn, 11, []) := by decide +kernel
theorem f26_11 : fch 26 11 = some (.aload 0, 12, []) := by decide +kernel
theorem f26_12 : fch 26 12 = some (.invokeinterface 1 3, 15, []) := by decide +kernel
theorem f26_15 : fch 26 15 = some (.aload 0, 16, []) := by decide +kernel
theorem f26_16 : fch 26 16 = some (.invokeinterface 1 10, 19, []) := by decide +kernel
theorem f26_19 : fch 26 19 = some (.iload 1, 20, []) := by decide +kernel
theorem f26_20 : fch 26 20 = some (.iastore, 21, []) := by decide +kernel
theorem f26_21 : fch 26 21 = some (.aload 0, 22, []) := by decide +kernel
theorem f26_22 : fch 26 22 = some (.invokeinterface 1 4, 25, []) := by decide +kernel
theorem f26_25 : fch 26 25 = some (.aload 0, 26, []) := by decide +kernel
theorem f26_26 : fch 26 26 = some (.invokeinterface 1 10, 29, []) := by decide +kernel
theorem f26_29 : fch 26 29 = some (.iload 2, 30, []) := by decide +kernel
theorem f26_30 : fch 26 30 = some (.iastore, 31, []) := by decide +kernel
theorem f26_31 : fch 26 31 = some (.aload 0, 32, []) := by decide +kernel
theorem f26_32 : fch 26 32 = some (.invokeinterface 1 5, 35, []) := by decide +kernel
theorem f26_35 : fch 26 35 = some (.aload 0, 36, []) := by decide +kernel
theorem f26_36 : fch 26 36 = some (.invokeinterface 1 10, 39, []) := by decide +kernel
theorem f26_39 : fch 26 39 = some (.iload 3, 40, []) := by decide +kernel
theorem f26_40 : fch 26 40 = some (.iastore, 41, []) := by decide +kernel
theorem f26_41 : fch 26 41 = some (.aload 0, 42, []) := by decide +kernel
theorem f26_42 : fch 26 42 = some (.dup, 43, []) := by decide +kernel
theorem f26_43 : fch 26 43 = some (.invokeinterface 1 10, 46, []) := by decide +kernel
theorem f26_46 : fch 26 46 = some (.iconst 1, 47, []) := by decide +kernel
theorem f26_47 : fch 26 47 = some (.iadd, 48, []) := by decide +kernel
theorem f26_48 : fch 26 48 = some (.multianewarray 1 10, 51, []) := by decide +kernel
theorem f26_51 : fch 26 51 = some (.iconst 1, 52, []) := by decide +kernel
theorem f26_52 : fch 26 52 = some (.ireturn, 53, []) := by decide +kernel
set_option maxRecDepth 10000 in
theorem e26_0 (l0 l1 l2 l3 : Int) (s : SG) : sem 26 0 [aA l0, aI l1, aI l2, aI l3] [] s = grd (kd l0 = 1) (if (s l0 10) < 6 then grd (kd l0 = 1) (grd (0 ≤ s l0 3) (grd (kd l0 = 1) (grd (kd (s l0 3) = 101) (grd ((0 : Int) ≤ (s l0 10) ∧ (s l0 10) < kl (s l0 3)) (grd (kd l0 = 1) (grd (0 ≤ (up s (s l0 3) (s l0 10) l1) l0 4) (grd (kd l0 = 1) (grd (kd ((up s (s l0 3) (s l0 10) l1) l0 4) = 101) (grd ((0 : Int) ≤ ((up s (s l0 3) (s l0 10) l1) l0 10) ∧ ((up s (s l0 3) (s l0 10) l1) l0 10) < kl ((up s (s l0 3) (s l0 10) l1) l0 4)) (grd (kd l0 = 1) (grd (0 ≤ (up (up s (s l0 3) (s l0 10) l1) ((up s (s l0 3) (s l0 10) l1) l0 4) ((up s (s l0 3) (s l0 10) l1) l0 10) l2) l0 5) (grd (kd l0 = 1) (grd (kd ((up (up s (s l0 3) (s l0 10) l1) ((up s (s l0 3) (s l0 10) l1) l0 4) ((up s (s l0 3) (s l0 10) l1) l0 10) l2) l0 5) = 101) (grd ((0 : Int) ≤ ((up (up s (s l0 3) (s l0 10) l1) ((up s (s l0 3) (s l0 10) l1) l0 4) ((up s (s l0 3) (s l0 10) l1) l0 10) l2) l0 10) ∧ ((up (up s (s l0 3) (s l0 10) l1) ((up s (s l0 3) (s l0 10) l1) l0 4) ((up s (s l0 3) (s l0 10) l1) l0 10) l2) l0 10) < kl ((up (up s (s l0 3) (s l0 10) l1) ((up s (s l0 3) (s l0 10) l1) l0 4) ((up s (s l0 3) (s l0 10) l1) l0 10) l2) l0 5)) (sem 26 41 [aA l0, aI l1, aI l2, aI l3] [] (up (up (up s (s l0 3) (s l0 10) l1) ((up s (s l0 3) (s l0 10) l1) l0 4) ((up s (s l0 3) (s l0 10) l1) l0 10) l2) ((up (up s (s l0 3) (s l0 10) l1) ((up s (s l0 3) (s l0 10) l1) l0 4) ((up s (s l0 3) (s l0 10) l1) l0 10) l2) l0 5) ((up (up s (s l0 3) (s l0 10) l1) ((up s (s l0 3) (s l0 10) l1) l0 4) ((up s (s l0 3) (s l0 10) l1) l0 10) l2) l0 10) l3)))))))))))))))) else some (aI 0, s)) := by
  refine (x_aload f26_0 rfl rfl).trans ?_
  refine (x_get0 f26_1 rfl rfl).trans ?_
  refine g_c ?_
  refine (x_iconst f26_4 rfl).trans ?_
  refine (x_icmp_lt (tg := 11) f26_6 rfl rfl).trans (i_c ?_ ?_)
  · refine (x_aload f26_11 rfl rfl).trans ?_
    refine (x_get2 f26_12 rfl rfl).trans ?_
    refine g_c ?_
    refine g_c ?_
    refine (x_aload f26_15 rfl rfl).trans ?_
    refine (x_get0 f26_16 rfl rfl).trans ?_
    refine g_c ?_
    refine (x_iload f26_19 rfl rfl).trans ?_
    refine (x_iastore f26_20 rfl).trans ?_
    refine g_c ?_
    refine g_c ?_
    refine (x_aload f26_21 rfl rfl).trans ?_
    refine (x_get2 f26_22 rfl rfl).trans ?_
    refine g_c ?_
    refine g_c ?_
    refine (x_aload f26_25 rfl rfl).trans ?_
    refine (x_get0 f26_26 rfl rfl).trans ?_
    refine g_c ?_
    refine (x_iload f26_29 rfl rfl).trans ?_
    refine (x_iastore f26_30 rfl).trans ?_
    refine g_c ?_
    refine g_c ?_
    refine (x_aload f26_31 rfl rfl).trans ?_
    refine (x_get2 f26_32 rfl rfl).trans ?_
    refine g_c ?_
    refine g_c ?_
    refine (x_aload f26_35 rfl rfl).trans ?_
    refine (x_get0 f26_36 rfl rfl).trans ?_
    refine g_c ?_
    refine (x_iload f26_39 rfl rfl).trans ?_
    refine (x_iastore f26_40 rfl).trans ?_
    refine g_c ?_
    refine g_c ?_
    rfl
  · refine (x_iconst f26_9 rfl).trans ?_
    exact x_zreturn0 f26_10 rfl
set_option maxRecDepth 10000 in
theorem e26_41 (l0 l1 l2 l3 : Int) (s : SG) : sem 26 41 [aA l0, aI l1, aI l2, aI l3] [] s = grd (kd l0 = 1) (grd (kd l0 = 1) (some (aI 1, up s l0 10 (w32 ((s l0 10) + 1))))) := by
  refine (x_aload f26_41 rfl rfl).trans ?_
  refine (x_dup f26_42 rfl rfl).trans ?_
  refine (x_get0 f26_43 rfl rfl).trans ?_
  refine g_c ?_
  refine (x_iconst f26_46 rfl).trans ?_
  refine (x_iadd f26_47 rfl).trans ?_
  refine (x_put0 f26_48 rfl rfl).trans ?_
  refine g_c ?_
  refine (x_iconst f26_51 rfl).trans ?_
  exact x_zreturn1 f26_52 rfl
theorem f27_0 : fch 27 0 = some (.iconst 0, 1, []) := by decide +kernel
theorem f27_1 : fch 27 1 = some (.istore 1, 2, []) := by decide +kernel
theorem f27_2 : fch 27 2 = some (.iconst 0, 3, []) := by decide +kernel
theorem f27_3 : fch 27 3 = some (.istore 2, 4, []) := by decide +kernel
theorem f27_4 : fch 27 4 = some (.iload 2, 5, []) := by decide +kernel
theorem f27_5 : fch 27 5 = some (.iconst 3, 6, []) := by decide +kernel
theorem f27_6 : fch 27 6 = some (.if_icmp .ge 24, 9, []) := by decide +kernel
theorem f27_9 : fch 27 9 = some (.iload 1, 10, []) := by decide +kernel
theorem f27_10 : fch 27 10 = some (.aload 0, 11, []) := by decide +kernel
theorem f27_11 : fch 27 11 = some (.invokeinterface 1 0, 14, []) := by decide +kernel
theorem f27_14 : fch 27 14 = some (.iload 2, 15, []) := by decide +kernel
theorem f27_15 : fch 27 15 = some (.iaload, 16, []) := by decide +kernel
theorem f27_16 : fch 27 16 = some (.iadd, 17, []) := by decide +kernel
theorem f27_17 : fch 27 17 = some (.istore 1, 18, []) := by decide +kernel
theorem f27_18 : fch 27 18 = some (.iinc 2 1, 21, []) := by decide +kernel
theorem f27_21 : fch 27 21 = some (.goto 4, 24, []) := by decide +kernel
theorem f27_24 : fch 27 24 = some (.iload 1, 25, []) := by decide +kernel
theorem f27_25 : fch 27 25 = some (.ireturn, 26, []) := by decide +kernel
set_option maxRecDepth 10000 in
theorem e27_0 (l0 : Int) (s : SG) : sem 27 0 [aA l0, aU, aU] [] s = sem 27 4 [aA l0, aI 0, aI 0] [] s := by
  refine (x_iconst f27_0 rfl).trans ?_
  refine (x_istore (l2 := [aA l0, aI 0, aU]) f27_1 rfl rfl).trans ?_
  refine (x_iconst f27_2 rfl).trans ?_
  refine (x_istore (l2 := [aA l0, aI 0, aI 0]) f27_3 rfl rfl).trans ?_
  rfl
set_option maxRecDepth 10000 in
theorem e27_4 (l0 l1 l2 : Int) (s : SG) : sem 27 4 [aA l0, aI l1, aI l2] [] s = if l2 < 3 then grd (kd l0 = 1) (grd (0 ≤ s l0 0) (grd (kd (s l0 0) = 101) (grd ((0 : Int) ≤ l2 ∧ l2 < kl (s l0 0)) (sem 27 4 [aA l0, aI (w32 (l1 + (s (s l0 0) l2))), aI (w32 (l2 + 1))] [] s)))) else some (aI l1, s) := by
  refine (x_iload f27_4 rfl rfl).trans ?_
  refine (x_iconst f27_5 rfl).trans ?_
  refine (x_icmp_ge (tg := 24) f27_6 rfl rfl).trans (i_c ?_ ?_)
  · refine (x_iload f27_9 rfl rfl).trans ?_
    refine (x_aload f27_10 rfl rfl).trans ?_
    refine (x_get2 f27_11 rfl rfl).trans ?_
    refine g_c ?_
    refine g_c ?_
    refine (x_iload f27_14 rfl rfl).trans ?_
    refine (x_iaload f27_15 rfl).trans ?_
    refine g_c ?_
    refine g_c ?_
    refine (x_iadd f27_16 rfl).trans ?_
    refine (x_istore (l2 := [aA l0, aI (w32 (l1 + (s (s l0 0) l2))), aI l2]) f27_17 rfl rfl).trans ?_
    refine (x_iinc (l2 := [aA l0, aI (w32 (l1 + (s (s l0 0) l2))), aI (w32 (l2 + 1))]) f27_18 rfl rfl rfl).trans ?_
    refine (x_goto (tg := 4) f27_21 rfl rfl).trans ?_
    rfl
  · refine (x_iload f27_24 rfl rfl).trans ?_
    exact x_ireturn f27_25 rfl
theorem f28_0 : fch 28 0 = some (.iload 1, 1, []) := by decide +kernel
theorem f28_1 : fch 28 1 = some (.invokestatic 139, 4, []) := by decide +kernel
theorem f28_4 : fch 28 4 = some (.ifCond .ne 9, 7, []) := by decide +kernel
theorem f28_7 : fch 28 7 = some (.iconst 0, 8, []) := by decide +kernel
theorem f28_8 : fch 28 8 = some (.ireturn, 9, []) := by decide +kernel
theorem f28_9 : fch 28 9 = some (.aload 0, 10, []) := by decide +kernel
theorem f28_10 : fch 28 10 = some (.invokeinterface 1 1, 13, []) := by decide +kernel
theorem f28_13 : fch 28 13 = some (.iload 1, 14, []) := by decide +kernel
theorem f28_14 : fch 28 14 = some (.iaload, 15, []) := by decide +kernel
theorem f28_15 : fch 28 15 = some (.istore 3, 16, []) := by decide +kernel
theorem f28_16 : fch 28 16 = some (.aload 0, 17, []) := by decide +kernel
theorem f28_17 : fch 28 17 = some (.invokeinterface 1 1, 20, []) := by decide +kernel
theorem f28_20 : fch 28 20 = some (.iload 1, 21, []) := by decide +kernel
theorem f28_21 : fch 28 21 = some (.iload 2, 22, []) := by decide +kernel
theorem f28_22 : fch 28 22 = some (.ifCond .eq 36, 25, []) := by decide +kernel
theorem f28_25 : fch 28 25 = some (.iload 3, 26, []) := by decide +kernel
theorem f28_26 : fch 28 26 = some (.iconst 1, 27, []) := by decide +kernel
theorem f28_27 : fch 28 27 = some (.iadd, 28, []) := by decide +kernel
theorem f28_28 : fch 28 28 = some (.iconst 9, 30, []) := by decide +kernel
theorem f28_30 : fch 28 30 = some (.fsub, 33, []) := by decide +kernel
theorem f28_33 : fch 28 33 = some (.goto 43, 36, []) := by decide +kernel
theorem f28_36 : fch 28 36 = some (.iload 3, 37, []) := by decide +kernel
theorem f28_37 : fch 28 37 = some (.iconst 1, 38, []) := by decide +kernel
theorem f28_38 : fch 28 38 = some (.isub, 39, []) := by decide +kernel
theorem f28_39 : fch 28 39 = some (.iconst 0, 40, []) := by decide +kernel
theorem f28_40 : fch 28 40 = some (.fadd, 43, []) := by decide +kernel
theorem f28_43 : fch 28 43 = some (.iastore, 44, [2]) := by decide +kernel
theorem f28_44 : fch 28 44 = some (.aload 0, 45, []) := by decide +kernel
theorem f28_45 : fch 28 45 = some (.invokeinterface 1 1, 48, []) := by decide +kernel
theorem f28_48 : fch 28 48 = some (.iload 1, 49, []) := by decide +kernel
theorem f28_49 : fch 28 49 = some (.iaload, 50, []) := by decide +kernel
theorem f28_50 : fch 28 50 = some (.iload 3, 51, []) := by decide +kernel
theorem f28_51 : fch 28 51 = some (.if_icmp .ge 58, 54, []) := by decide +kernel
theorem f28_54 : fch 28 54 = some (.iconst 1, 55, []) := by decide +kernel
theorem f28_55 : fch 28 55 = some (.goto 59, 58, []) := by decide +kernel
theorem f28_58 : fch 28 58 = some (.iconst 0, 59, []) := by decide +kernel
theorem f28_59 : fch 28 59 = some (.ireturn, 60, [0, 1, 2, 3]) := by decide +kernel
set_option maxRecDepth 10000 in
theorem e28_0 (l0 l1 l2 : Int) (s : SG) : sem 28 0 [aA l0, aI l1, aI l2, aU] [] s = bnI (sem 139 0 [aI l1] [] s) fun a2 s1 => if a2 = 0 then some (aI 0, s1) else grd (kd l0 = 1) (grd (0 ≤ s1 l0 1) (grd (kd (s1 l0 1) = 101) (grd ((0 : Int) ≤ l1 ∧ l1 < kl (s1 l0 1)) (grd (kd l0 = 1) (grd (0 ≤ s1 l0 1) (grd (kd (s1 l0 1) = 101) (grd ((0 : Int) ≤ l1 ∧ l1 < kl (s1 l0 1)) (grd (kd l0 = 1) (grd (0 ≤ (up s1 (s1 l0 1) l1 (if l2 = 0 then max (w32 ((s1 (s1 l0 1) l1) - 1)) 0 else min (w32 ((s1 (s1 l0 1) l1) + 1)) 9)) l0 1) (grd (kd ((up s1 (s1 l0 1) l1 (if l2 = 0 then max (w32 ((s1 (s1 l0 1) l1) - 1)) 0 else min (w32 ((s1 (s1 l0 1) l1) + 1)) 9)) l0 1) = 101) (grd ((0 : Int) ≤ l1 ∧ l1 < kl ((up s1 (s1 l0 1) l1 (if l2 = 0 then max (w32 ((s1 (s1 l0 1) l1) - 1)) 0 else min (w32 ((s1 (s1 l0 1) l1) + 1)) 9)) l0 1)) (if ((up s1 (s1 l0 1) l1 (if l2 = 0 then max (w32 ((s1 (s1 l0 1) l1) - 1)) 0 else min (w32 ((s1 (s1 l0 1) l1) + 1)) 9)) ((up s1 (s1 l0 1) l1 (if l2 = 0 then max (w32 ((s1 (s1 l0 1) l1) - 1)) 0 else min (w32 ((s1 (s1 l0 1) l1) + 1)) 9)) l0 1) l1) < (s1 (s1 l0 1) l1) then some (aI 1, up s1 (s1 l0 1) l1 (if l2 = 0 then max (w32 ((s1 (s1 l0 1) l1) - 1)) 0 else min (w32 ((s1 (s1 l0 1) l1) + 1)) 9)) else some (aI 0, up s1 (s1 l0 1) l1 (if l2 = 0 then max (w32 ((s1 (s1 l0 1) l1) - 1)) 0 else min (w32 ((s1 (s1 l0 1) l1) + 1)) 9)))))))))))))) := by
  refine (x_iload f28_0 rfl rfl).trans ?_
  refine (x_invokestatic (G := bnI (sem 139 0 [aI l1] [] s) fun a2 s1 => sem 28 4 [aA l0, aI l1, aI l2, aU] [aI a2] s1) f28_1 rfl rfl).trans ?_
  refine bI_c fun a2 s1 => ?_
  refine (x_if_ne (tg := 9) f28_4 rfl rfl).trans (i_c ?_ ?_)
  · refine (x_iconst f28_7 rfl).trans ?_
    exact x_zreturn0 f28_8 rfl
  · refine (x_aload f28_9 rfl rfl).trans ?_
    refine (x_get2 f28_10 rfl rfl).trans ?_
    refine g_c ?_
    refine g_c ?_
    refine (x_iload f28_13 rfl rfl).trans ?_
    refine (x_iaload f28_14 rfl).trans ?_
    refine g_c ?_
    refine g_c ?_
    refine (x_istore (l2 := [aA l0, aI l1, aI l2, aI (s1 (s1 l0 1) l1)]) f28_15 rfl rfl).trans ?_
    refine (x_aload f28_16 rfl rfl).trans ?_
    refine (x_get2 f28_17 rfl rfl).trans ?_
    refine g_c ?_
    refine g_c ?_
    refine (x_iload f28_20 rfl rfl).trans ?_
    refine (x_iload f28_21 rfl rfl).trans ?_
    refine (x_if_eq (tg := 36) f28_22 rfl rfl).trans ?_
    refine Eq.trans (b := if l2 = 0 then sem 28 43 [aA l0, aI l1, aU, aI (s1 (s1 l0 1) l1)] [aI (max (w32 ((s1 (s1 l0 1) l1) - 1)) 0), aI l1, aA (s1 l0 1)] s1 else sem 28 43 [aA l0, aI l1, aU, aI (s1 (s1 l0 1) l1)] [aI (min (w32 ((s1 (s1 l0 1) l1) + 1)) 9), aI l1, aA (s1 l0 1)] s1) (i_c ?_ ?_) ?_
    · refine (x_iload f28_36 rfl rfl).trans ?_
      refine (x_iconst f28_37 rfl).trans ?_
      refine (x_isub f28_38 rfl).trans ?_
      refine (x_iconst f28_39 rfl).trans ?_
      refine (x_fadd f28_40 rfl rfl).trans ?_
      exact x_kil f28_43 rfl
    · refine (x_iload f28_25 rfl rfl).trans ?_
      refine (x_iconst f28_26 rfl).trans ?_
      refine (x_iadd f28_27 rfl).trans ?_
      refine (x_iconst f28_28 rfl).trans ?_
      refine (x_fsub f28_30 rfl rfl).trans ?_
      refine (x_goto (tg := 43) f28_33 rfl rfl).trans ?_
      exact x_kil f28_43 rfl
    refine m_I.trans ?_
    refine (x_iastore f28_43 rfl).trans ?_
    refine g_c ?_
    refine g_c ?_
    refine (x_aload f28_44 rfl rfl).trans ?_
    refine (x_get2 f28_45 rfl rfl).trans ?_
    refine g_c ?_
    refine g_c ?_
    refine (x_iload f28_48 rfl rfl).trans ?_
    refine (x_iaload f28_49 rfl).trans ?_
    refine g_c ?_
    refine g_c ?_
    refine (x_iload f28_50 rfl rfl).trans ?_
    refine (x_icmp_ge (tg := 58) f28_51 rfl rfl).trans (i_c ?_ ?_)
    · refine (x_iconst f28_54 rfl).trans ?_
      refine (x_goto (tg := 59) f28_55 rfl rfl).trans ?_
      refine (x_kil (l2 := [aU, aU, aU, aU]) f28_59 rfl).trans ?_
      exact x_zreturn1 f28_59 rfl
    · refine (x_iconst f28_58 rfl).trans ?_
      refine (x_kil (l2 := [aU, aU, aU, aU]) f28_59 rfl).trans ?_
      exact x_zreturn0 f28_59 rfl
theorem f29_0 : fch 29 0 = some (.aload 0, 1, []) := by decide +kernel
theorem f29_1 : fch 29 1 = some (.iload 1, 2, []) := by decide +kernel
theorem f29_2 : fch 29 2 = some (.invokevirtual 22, 5, []) := by decide +kernel
theorem f29_5 : fch 29 5 = some (.istore 3, 6, []) := by decide +kernel
theorem f29_6 : fch 29 6 = some (.iload 3, 7, []) := by decide +kernel
theorem f29_7 : fch 29 7 = some (.iconst 3, 8, []) := by decide +kernel
theorem f29_8 : fch 29 8 = some (.if_icmp .ge 19, 11, []) := by decide +kernel
theorem f29_11 : fch 29 11 = some (.iload 2, 12, []) := by decide +kernel
theorem f29_12 : fch 29 12 = some (.iconst 1, 13, []) := by decide +kernel
theorem f29_13 : fch 29 13 = some (.isub, 14, []) := by decide +kernel
theorem f29_14 : fch 29 14 = some (.iconst 0, 15, []) := by decide +kernel
theorem f29_15 : fch 29 15 = some (.fadd, 18, []) := by decide +kernel
theorem f29_18 : fch 29 18 = some (.ireturn, 19, []) := by decide +kernel
theorem f29_19 : fch 29 19 = some (.iload 3, 20, []) := by decide +kernel
theorem f29_20 : fch 29 20 = some (.iconst 7, 22, []) := by decide +kernel
theorem f29_22 : fch 29 22 = some (.if_icmp .le 31, 25, []) := by decide +kernel
theorem f29_25 : fch 29 25 = some (.iload 2, 26, []) := by decide +kernel
theorem f29_26 : fch 29 26 = some (.iconst 1, 27, []) := by decide +kernel
theorem f29_27 : fch 29 27 = some (.iadd, 28, []) := by decide +kernel
theorem f29_28 : fch 29 28 = some (.goto 32, 31, []) := by decide +kernel
theorem f29_31 : fch 29 31 = some (.iload 2, 32, []) := by decide +kernel
theorem f29_32 : fch 29 32 = some (.ireturn, 33, [0, 1, 2, 3]) := by decide +kernel
set_option maxRecDepth 10000 in
theorem e29_0 (l0 l1 l2 : Int) (s : SG) : sem 29 0 [aA l0, aI l1, aI l2, aU] [] s = grd (kd l0 = 1) (bnI (sem 22 0 [aA l0, aI l1] [] s) fun a2 s1 => if a2 < 3 then some (aI (max (w32 (l2 - 1)) 0), s1) else if (7 : Int) < a2 then some (aI (w32 (l2 + 1)), s1) else some (aI l2, s1)) := by
  refine (x_aload f29_0 rfl rfl).trans ?_
  refine (x_iload f29_1 rfl rfl).trans ?_
  refine (x_invokevirtual (G := grd (kd l0 = 1) (bnI (sem 22 0 [aA l0, aI l1] [] s) fun a2 s1 => sem 29 5 [aA l0, aI l1, aI l2, aU] [aI a2] s1)) f29_2 rfl rfl).trans ?_
  refine g_c ?_
  refine bI_c fun a2 s1 => ?_
  refine (x_istore (l2 := [aA l0, aI l1, aI l2, aI a2]) f29_5 rfl rfl).trans ?_
  refine (x_iload f29_6 rfl rfl).trans ?_
  refine (x_iconst f29_7 rfl).trans ?_
  refine (x_icmp_ge (tg := 19) f29_8 rfl rfl).trans (i_c ?_ ?_)
  · refine (x_iload f29_11 rfl rfl).trans ?_
    refine (x_iconst f29_12 rfl).trans ?_
    refine (x_isub f29_13 rfl).trans ?_
    refine (x_iconst f29_14 rfl).trans ?_
    refine (x_fadd f29_15 rfl rfl).trans ?_
    exact x_ireturn f29_18 rfl
  · refine (x_iload f29_19 rfl rfl).trans ?_
    refine (x_iconst f29_20 rfl).trans ?_
    refine (x_icmp_le (tg := 31) f29_22 rfl rfl).trans (i_c ?_ ?_)
    · refine (x_iload f29_25 rfl rfl).trans ?_
      refine (x_iconst f29_26 rfl).trans ?_
      refine (x_iadd f29_27 rfl).trans ?_
      refine (x_goto (tg := 32) f29_28 rfl rfl).trans ?_
      refine (x_kil (l2 := [aU, aU, aU, aU]) f29_32 rfl).trans ?_
      exact x_ireturn f29_32 rfl
    · refine (x_iload f29_31 rfl rfl).trans ?_
      refine (x_kil (l2 := [aU, aU, aU, aU]) f29_32 rfl).trans ?_
      exact x_ireturn f29_32 rfl
theorem f30_0 : fch 30 0 = some (.aload 0, 1, []) := by decide +kernel
theorem f30_1 : fch 30 1 = some (.monitorexit, 4, []) := by decide +kernel
theorem f30_4 : fch 30 4 = some (.aload 0, 5, []) := by decide +kernel
theorem f30_5 : fch 30 5 = some (.iconst 18, 7, []) := by decide +kernel
theorem f30_7 : fch 30 7 = some (.newarray .boolean, 9, []) := by decide +kernel
theorem f30_9 : fch 30 9 = some (.multianewarray 2 0, 12, []) := by decide +kernel
theorem f30_12 : fch 30 12 = some (.aload 0, 13, []) := by decide +kernel
theorem f30_13 : fch 30 13 = some (.iconst 0, 14, []) := by decide +kernel
theorem f30_14 : fch 30 14 = some (.multianewarray 2 1, 17, []) := by decide +kernel
theorem f30_17 : fch 30 17 = some (.aload 0, 18, []) := by decide +kernel
theorem f30_18 : fch 30 18 = some (.iconst 0, 19, []) := by decide +kernel
theorem f30_19 : fch 30 19 = some (.multianewarray 2 2, 22, []) := by decide +kernel
theorem f30_22 : fch 30 22 = some (.return_, 23, []) := by decide +kernel
set_option maxRecDepth 10000 in
theorem e30_0 (l0 : Int) (s : SG) : sem 30 0 [aA l0] [] s = grd (kd (s (-1) 0) = akind .boolean ∧ kl (s (-1) 0) = 18) (grd (kd l0 = 2) (grd (0 ≤ s (-1) 0) (grd (kd l0 = 2) (grd (kd l0 = 2) (some (aU, up (up (up (alc s 18 (fun _ => 0)) l0 0 (s (-1) 0)) l0 1 0) l0 2 0)))))) := by
  refine (x_aload f30_0 rfl rfl).trans ?_
  refine (x_monitorexit f30_1 rfl rfl).trans ?_
  refine (x_aload f30_4 rfl rfl).trans ?_
  refine (x_iconst f30_5 rfl).trans ?_
  refine (x_newarray f30_7 rfl).trans ?_
  refine g_c ?_
  refine (x_put2 f30_9 rfl rfl).trans ?_
  refine g_c ?_
  refine g_c ?_
  refine (x_aload f30_12 rfl rfl).trans ?_
  refine (x_iconst f30_13 rfl).trans ?_
  refine (x_put0 f30_14 rfl rfl).trans ?_
  refine g_c ?_
  refine (x_aload f30_17 rfl rfl).trans ?_
  refine (x_iconst f30_18 rfl).trans ?_
  refine (x_put0 f30_19 rfl rfl).trans ?_
  refine g_c ?_
  exact x_return f30_22 rfl
theorem f31_0 : fch 31 0 = some (.aload 0, 1, []) := by decide +kernel
theorem f31_1 : fch 31 1 = some (.invokeinterface 2 2, 4, []) := by decide +kernel
theorem f31_4 : fch 31 4 = some (.ireturn, 5, []) := by decide +kernel
set_option maxRecDepth 10000 in
theorem e31_0 (l0 : Int) (s : SG) : sem 31 0 [aA l0] [] s = grd (kd l0 = 2) (some (aI (s l0 2), s)) := by
  refine (x_aload f31_0 rfl rfl).trans ?_
  refine (x_get0 f31_1 rfl rfl).trans ?_
  refine g_c ?_
  exact x_ireturn f31_4 rfl
theorem f32_0 : fch 32 0 = some (.aload 0, 1, []) := by decide +kernel
theorem f32_1 : fch 32 1 = some (.iconst 0, 2, []) := by decide +kernel
theorem f32_2 : fch 32 2 = some (.multianewarray 2 1, 5, []) := by decide +kernel
theorem f32_5 : fch 32 5 = some (.aload 0, 6, []) := by decide +kernel
theorem f32_6 : fch 32 6 = some (.iconst 0, 7, []) := by decide +kernel
theorem f32_7 : fch 32 7 = some (.multianewarray 2 2, 10, []) := by decide +kernel
theorem f32_10 : fch 32 10 = some (.iconst 0, 11, []) := by decide +kernel
theorem f32_11 : fch 32 11 = some (.istore 3, 12, []) := by decide +kernel
theorem f32_12 : fch 32 12 = some (.iload 3, 13, []) := by decide +kernel
theorem f32_13 : fch 32 13 = some (.iconst 18, 15, []) := by decide +kernel
theorem f32_15 : fch 32 15 = some (.if_icmp .ge 31, 18, []) := by decide +kernel
theorem f32_18 : fch 32 18 = some (.aload 0, 19, []) := by decide +kernel
theorem f32_19 : fch 32 19 = some (.invokeinterface 2 0, 22, []) := by decide +kernel
theorem f32_22 : fch 32 22 = some (.iload 3, 23, []) := by decide +kernel
theorem f32_23 : fch 32 23 = some (.iconst 0, 24, []) := by decide +kernel
theorem f32_24 : fch 32 24 = some (.bastore, 25, []) := by decide +kernel
theorem f32_25 : fch 32 25 = some (.iinc 3 1, 28, []) := by decide +kernel
theorem f32_28 : fch 32 28 = some (.goto 12, 31, []) := by decide +kernel
theorem f32_31 : fch 32 31 = some (.aload 2, 32, []) := by decide +kernel
theorem f32_32 : fch 32 32 = some (.invokevirtual 81, 35, []) := by decide +kernel
theorem f32_35 : fch 32 35 = some (.aload 0, 36, []) := by decide +kernel
theorem f32_36 : fch 32 36 = some (.aload 1, 37, []) := by decide +kernel
theorem f32_37 : fch 32 37 = some (.aload 2, 38, []) := by decide +kernel
theorem f32_38 : fch 32 38 = some (.invokevirtual 33, 41, []) := by decide +kernel
theorem f32_41 : fch 32 41 = some (.ifCond .ne 49, 44, []) := by decide +kernel
theorem f32_44 : fch 32 44 = some (.aload 0, 45, []) := by decide +kernel
theorem f32_45 : fch 32 45 = some (.invokeinterface 2 1, 48, []) := by decide +kernel
theorem f32_48 : fch 32 48 = some (.ireturn, 49, []) := by decide +kernel
theorem f32_49 : fch 32 49 = some (.aload 0, 50, []) := by decide +kernel
theorem f32_50 : fch 32 50 = some (.iconst 1, 51, []) := by decide +kernel
theorem f32_51 : fch 32 51 = some (.multianewarray 2 2, 54, []) := by decide +kernel
theorem f32_54 : fch 32 54 = some (.aload 0, 55, [3]) := by decide +kernel
theorem f32_55 : fch 32 55 = some (.invokeinterface 2 2, 58, []) := by decide +kernel
theorem f32_58 : fch 32 58 = some (.iconst 18, 60, []) := by decide +kernel
theorem f32_60 : fch 32 60 = some (.if_icmp .gt 101, 63, []) := by decide +kernel
theorem f32_63 : fch 32 63 = some (.aload 0, 64, []) := by decide +kernel
theorem f32_64 : fch 32 64 = some (.invokeinterface 2 1, 67, []) := by decide +kernel
theorem f32_67 : fch 32 67 = some (.aload 1, 68, []) := by decide +kernel
theorem f32_68 : fch 32 68 = some (.invokevirtual 75, 71, []) := by decide +kernel
theorem f32_71 : fch 32 71 = some (.if_icmp .ge 101, 74, []) := by decide +kernel
theorem f32_74 : fch 32 74 = some (.aload 0, 75, []) := by decide +kernel
theorem f32_75 : fch 32 75 = some (.aload 1, 76, []) := by decide +kernel
theorem f32_76 : fch 32 76 = some (.aload 2, 77, []) := by decide +kernel
theorem f32_77 : fch 32 77 = some (.invokevirtual 34, 80, []) := by decide +kernel
theorem f32_80 : fch 32 80 = some (.ifCond .ne 88, 83, []) := by decide +kernel
theorem f32_83 : fch 32 83 = some (.aload 0, 84, []) := by decide +kernel
theorem f32_84 : fch 32 84 = some (.invokeinterface 2 1, 87, []) := by decide +kernel
theorem f32_87 : fch 32 87 = some (.ireturn, 88, []) := by decide +kernel
theorem f32_88 : fch 32 88 = some (.aload 0, 89, []) := by decide +kernel
theorem f32_89 : fch 32 89 = some (.dup, 90, []) := by decide +kernel
theorem f32_90 : fch 32 90 = some (.invokeinterface 2 2, 93, []) := by decide +kernel
theorem f32_93 : fch 32 93 = some (.iconst 1, 94, []) := by decide +kernel
theorem f32_94 : fch 32 94 = some (.iadd, 95, []) := by decide +kernel
theorem f32_95 : fch 32 95 = some (.multianewarray 2 2, 98, []) := by decide +kernel
theorem f32_98 : fch 32 98 = some (.goto 54, 101, []) := by decide +kernel
theorem f32_101 : fch 32 101 = some (.iconst (-9), 103, [0, 1, 2, 3]) := by decide +kernel
theorem f32_103 : fch 32 103 = some (.ireturn, 104, []) := by decide +kernel
set_option maxRecDepth 10000 in
theorem e32_0 (l0 l1 l2 : Int) (s : SG) : sem 32 0 [aA l0, aA l1, aA l2, aU] [] s = grd (kd l0 = 2) (grd (kd l0 = 2) (sem 32 12 [aA l0, aA l1, aA l2, aI 0] [] (up (up s l0 1 0) l0 2 0))) := by
  refine (x_aload f32_0 rfl rfl).trans ?_
  refine (x_iconst f32_1 rfl).trans ?_
  refine (x_put0 f32_2 rfl rfl).trans ?_
  refine g_c ?_
  refine (x_aload f32_5 rfl rfl).trans ?_
  refine (x_iconst f32_6 rfl).trans ?_
  refine (x_put0 f32_7 rfl rfl).trans ?_
  refine g_c ?_
  refine (x_iconst f32_10 rfl).trans ?_
  refine (x_istore (l2 := [aA l0, aA l1, aA l2, aI 0]) f32_11 rfl rfl).trans ?_
  rfl
set_option maxRecDepth 10000 in
theorem e32_12 (l0 l1 l2 l3 : Int) (s : SG) : sem 32 12 [aA l0, aA l1, aA l2, aI l3] [] s = if l3 < 18 then grd (kd l0 = 2) (grd (0 ≤ s l0 0) (grd (kd (s l0 0) = 102) (grd ((0 : Int) ≤ l3 ∧ l3 < kl (s l0 0)) (grd ((0 : Int) = 0 ∨ (0 : Int) = 1) (sem 32 12 [aA l0, aA l1, aA l2, aI (w32 (l3 + 1))] [] (up s (s l0 0) l3 0)))))) else grd (kd l2 = 6) (bnV (sem 81 0 [aA l2] [] s) fun s1 => grd (kd l0 = 2) (bnI (sem 33 0 [aA l0, aA l1, aA l2, aU] [] s1) fun a3 s2 => if a3 = 0 then grd (kd l0 = 2) (some (aI (s2 l0 1), s2)) else grd (kd l0 = 2) (sem 32 54 [aA l0, aA l1, aA l2, aU] [] (up s2 l0 2 1)))) := by
  refine (x_iload f32_12 rfl rfl).trans ?_
  refine (x_iconst f32_13 rfl).trans ?_
  refine (x_icmp_ge (tg := 31) f32_15 rfl rfl).trans (i_c ?_ ?_)
  · refine (x_aload f32_18 rfl rfl).trans ?_
    refine (x_get2 f32_19 rfl rfl).trans ?_
    refine g_c ?_
    refine g_c ?_
    refine (x_iload f32_22 rfl rfl).trans ?_
    refine (x_iconst f32_23 rfl).trans ?_
    refine (x_bastore f32_24 rfl).trans ?_
    refine g_c ?_
    refine g_c ?_
    refine g_c ?_
    refine (x_iinc (l2 := [aA l0, aA l1, aA l2, aI (w32 (l3 + 1))]) f32_25 rfl rfl rfl).trans ?_
    refine (x_goto (tg := 12) f32_28 rfl rfl).trans ?_
    rfl
  · refine (x_aload f32_31 rfl rfl).trans ?_
    refine (x_invokevirtual (G := grd (kd l2 = 6) (bnV (sem 81 0 [aA l2] [] s) fun s1 => sem 32 35 [aA l0, aA l1, aA l2, aI l3] [] s1)) f32_32 rfl rfl).trans ?_
    refine g_c ?_
    refine bV_c fun s1 => ?_
    refine (x_aload f32_35 rfl rfl).trans ?_
    refine (x_aload f32_36 rfl rfl).trans ?_
    refine (x_aload f32_37 rfl rfl).trans ?_
    refine (x_invokevirtual (G := grd (kd l0 = 2) (bnI (sem 33 0 [aA l0, aA l1, aA l2, aU] [] s1) fun a3 s2 => sem 32 41 [aA l0, aA l1, aA l2, aI l3] [aI a3] s2)) f32_38 rfl rfl).trans ?_
    refine g_c ?_
    refine bI_c fun a3 s2 => ?_
    refine (x_if_ne (tg := 49) f32_41 rfl rfl).trans (i_c ?_ ?_)
    · refine (x_aload f32_44 rfl rfl).trans ?_
      refine (x_get0 f32_45 rfl rfl).trans ?_
      refine g_c ?_
      exact x_ireturn f32_48 rfl
    · refine (x_aload f32_49 rfl rfl).trans ?_
      refine (x_iconst f32_50 rfl).trans ?_
      refine (x_put0 f32_51 rfl rfl).trans ?_
      refine g_c ?_
      exact x_kil f32_54 rfl
set_option maxRecDepth 10000 in
theorem e32_54 (l0 l1 l2 : Int) (s : SG) : sem 32 54 [aA l0, aA l1, aA l2, aU] [] s = grd (kd l0 = 2) (if (18 : Int) < (s l0 2) then some (aI ((-9)), s) else grd (kd l0 = 2) (grd (kd l1 = 5) (bnI (sem 75 0 [aA l1] [] s) fun a2 s1 => if (s l0 1) < a2 then grd (kd l0 = 2) (bnI (sem 34 0 [aA l0, aA l1, aA l2] [] s1) fun a4 s3 => if a4 = 0 then grd (kd l0 = 2) (some (aI (s3 l0 1), s3)) else grd (kd l0 = 2) (grd (kd l0 = 2) (sem 32 54 [aA l0, aA l1, aA l2, aU] [] (up s3 l0 2 (w32 ((s3 l0 2) + 1)))))) else some (aI ((-9)), s1)))) := by
  refine (x_aload f32_54 rfl rfl).trans ?_
  refine (x_get0 f32_55 rfl rfl).trans ?_
  refine g_c ?_
  refine (x_iconst f32_58 rfl).trans ?_
  refine (x_icmp_gt (tg := 101) f32_60 rfl rfl).trans (i_c ?_ ?_)
  · refine (x_kil (l2 := [aU, aU, aU, aU]) f32_101 rfl).trans ?_
    refine (x_iconst f32_101 rfl).trans ?_
    exact x_ireturn f32_103 rfl
  · refine (x_aload f32_63 rfl rfl).trans ?_
    refine (x_get0 f32_64 rfl rfl).trans ?_
    refine g_c ?_
    refine (x_aload f32_67 rfl rfl).trans ?_
    refine (x_invokevirtual (G := grd (kd l1 = 5) (bnI (sem 75 0 [aA l1] [] s) fun a2 s1 => sem 32 71 [aA l0, aA l1, aA l2, aU] [aI a2, aI (s l0 1)] s1)) f32_68 rfl rfl).trans ?_
    refine g_c ?_
    refine bI_c fun a2 s1 => ?_
    refine (x_icmp_ge (tg := 101) f32_71 rfl rfl).trans (i_c ?_ ?_)
    · refine (x_aload f32_74 rfl rfl).trans ?_
      refine (x_aload f32_75 rfl rfl).trans ?_
      refine (x_aload f32_76 rfl rfl).trans ?_
      refine (x_invokevirtual (G := grd (kd l0 = 2) (bnI (sem 34 0 [aA l0, aA l1, aA l2] [] s1) fun a4 s3 => sem 32 80 [aA l0, aA l1, aA l2, aU] [aI a4] s3)) f32_77 rfl rfl).trans ?_
      refine g_c ?_
      refine bI_c fun a4 s3 => ?_
      refine (x_if_ne (tg := 88) f32_80 rfl rfl).trans (i_c ?_ ?_)
      · refine (x_aload f32_83 rfl rfl).trans ?_
        refine (x_get0 f32_84 rfl rfl).trans ?_
        refine g_c ?_
        exact x_ireturn f32_87 rfl
      · refine (x_aload f32_88 rfl rfl).trans ?_
        refine (x_dup f32_89 rfl rfl).trans ?_
        refine (x_get0 f32_90 rfl rfl).trans ?_
        refine g_c ?_
        refine (x_iconst f32_93 rfl).trans ?_
        refine (x_iadd f32_94 rfl).trans ?_
        refine (x_put0 f32_95 rfl rfl).trans ?_
        refine g_c ?_
        refine (x_goto (tg := 54) f32_98 rfl rfl).trans ?_
        rfl
    · refine (x_kil (l2 := [aU, aU, aU, aU]) f32_101 rfl).trans ?_
      refine (x_iconst f32_101 rfl).trans ?_
      exact x_ireturn f32_103 rfl
theorem f33_0 : fch 33 0 = some (.aload 1, 1, []) := by decide +kernel
theorem f33_1 : fch 33 1 = some (.aload 0, 2, []) := by decide +kernel
theorem f33_2 : fch 33 2 = some (.invokeinterface 2 1, 5, []) := by decide +kernel
theorem f33_5 : fch 33 5 = some (.invokevirtual 79, 8, []) := by decide +kernel
theorem f33_8 : fch 33 8 = some (.iconst 78, 10, []) := by decide +kernel
theorem f33_10 : fch 33 10 = some (.if_icmp .eq 15, 13, []) := by decide +kernel
theorem f33_13 : fch 33 13 = some (.iconst 0, 14, []) := by decide +kernel
theorem f33_14 : fch 33 14 = some (.ireturn, 15, []) := by decide +kernel
theorem f33_15 : fch 33 15 = some (.aload 0, 16, []) := by decide +kernel
theorem f33_16 : fch 33 16 = some (.dup, 17, []) := by decide +kernel
theorem f33_17 : fch 33 17 = some (.invokeinterface 2 1, 20, []) := by decide +kernel
theorem f33_20 : fch 33 20 = some (.iconst 1, 21, []) := by decide +kernel
theorem f33_21 : fch 33 21 = some (.iadd, 22, []) := by decide +kernel
theorem f33_22 : fch 33 22 = some (.multianewarray 2 1, 25, []) := by decide +kernel
theorem f33_25 : fch 33 25 = some (.aload 0, 26, []) := by decide +kernel
theorem f33_26 : fch 33 26 = some (.aload 1, 27, []) := by decide +kernel
theorem f33_27 : fch 33 27 = some (.iconst 1, 28, []) := by decide +kernel
theorem f33_28 : fch 33 28 = some (.iconst 3, 29, []) := by decide +kernel
theorem f33_29 : fch 33 29 = some (.invokevirtual 40, 32, []) := by decide +kernel
theorem f33_32 : fch 33 32 = some (.istore 3, 33, []) := by decide +kernel
theorem f33_33 : fch 33 33 = some (.iload 3, 34, []) := by decide +kernel
theorem f33_34 : fch 33 34 = some (.iconst (-9), 36, []) := by decide +kernel
theorem f33_36 : fch 33 36 = some (.if_icmp .ne 41, 39, []) := by decide +kernel
theorem f33_39 : fch 33 39 = some (.iconst 0, 40, []) := by decide +kernel
theorem f33_40 : fch 33 40 = some (.ireturn, 41, []) := by decide +kernel
theorem f33_41 : fch 33 41 = some (.aload 2, 42, []) := by decide +kernel
theorem f33_42 : fch 33 42 = some (.iload 3, 43, []) := by decide +kernel
theorem f33_43 : fch 33 43 = some (.multianewarray 6 4, 46, []) := by decide +kernel
theorem f33_46 : fch 33 46 = some (.iconst 1, 47, []) := by decide +kernel
theorem f33_47 : fch 33 47 = some (.ireturn, 48, []) := by decide +kernel
set_option maxRecDepth 10000 in
theorem e33_0 (l0 l1 l2 : Int) (s : SG) : sem 33 0 [aA l0, aA l1, aA l2, aU] [] s = grd (kd l0 = 2) (grd (kd l1 = 5) (bnI (sem 79 0 [aA l1, aI (s l0 1)] [] s) fun a2 s1 => if a2 = 78 then grd (kd l0 = 2) (grd (kd l0 = 2) (grd (kd l0 = 2) (bnI (sem 40 0 [aA l0, aA l1, aI 1, aI 3, aU] [] (up s1 l0 1 (w32 ((s1 l0 1) + 1)))) fun a4 s3 => if a4 = ((-9)) then some (aI 0, s3) else grd (kd l2 = 6) (some (aI 1, up s3 l2 4 a4))))) else some (aI 0, s1))) := by
  refine (x_aload f33_0 rfl rfl).trans ?_
  refine (x_aload f33_1 rfl rfl).trans ?_
  refine (x_get0 f33_2 rfl rfl).trans ?_
  refine g_c ?_
  refine (x_invokevirtual (G := grd (kd l1 = 5) (bnI (sem 79 0 [aA l1, aI (s l0 1)] [] s) fun a2 s1 => sem 33 8 [aA l0, aA l1, aA l2, aU] [aI a2] s1)) f33_5 rfl rfl).trans ?_
  refine g_c ?_
  refine bI_c fun a2 s1 => ?_
  refine (x_iconst f33_8 rfl).trans ?_
  refine (x_icmp_eq (tg := 15) f33_10 rfl rfl).trans (i_c ?_ ?_)
  · refine (x_aload f33_15 rfl rfl).trans ?_
    refine (x_dup f33_16 rfl rfl).trans ?_
    refine (x_get0 f33_17 rfl rfl).trans ?_
    refine g_c ?_
    refine (x_iconst f33_20 rfl).trans ?_
    refine (x_iadd f33_21 rfl).trans ?_
    refine (x_put0 f33_22 rfl rfl).trans ?_
    refine g_c ?_
    refine (x_aload f33_25 rfl rfl).trans ?_
    refine (x_aload f33_26 rfl rfl).trans ?_
    refine (x_iconst f33_27 rfl).trans ?_
    refine (x_iconst f33_28 rfl).trans ?_
    refine (x_invokevirtual (G := grd (kd l0 = 2) (bnI (sem 40 0 [aA l0, aA l1, aI 1, aI 3, aU] [] (up s1 l0 1 (w32 ((s1 l0 1) + 1)))) fun a4 s3 => sem 33 32 [aA l0, aA l1, aA l2, aU] [aI a4] s3)) f33_29 rfl rfl).trans ?_
    refine g_c ?_
    refine bI_c fun a4 s3 => ?_
    refine (x_istore (l2 := [aA l0, aA l1, aA l2, aI a4]) f33_32 rfl rfl).trans ?_
    refine (x_iload f33_33 rfl rfl).trans ?_
    refine (x_iconst f33_34 rfl).trans ?_
    refine (x_icmp_ne (tg := 41) f33_36 rfl rfl).trans (i_c ?_ ?_)
    · refine (x_iconst f33_39 rfl).trans ?_
      exact x_zreturn0 f33_40 rfl
    · refine (x_aload f33_41 rfl rfl).trans ?_
      refine (x_iload f33_42 rfl rfl).trans ?_
      refine (x_put0 f33_43 rfl rfl).trans ?_
      refine g_c ?_
      refine (x_iconst f33_46 rfl).trans ?_
      exact x_zreturn1 f33_47 rfl
  · refine (x_iconst f33_13 rfl).trans ?_
    exact x_zreturn0 f33_14 rfl
theorem f34_0 : fch 34 0 = some (.aload 1, 1, []) := by decide +kernel
theorem f34_1 : fch 34 1 = some (.aload 0, 2, []) := by decide +kernel
theorem f34_2 : fch 34 2 = some (.invokeinterface 2 1, 5, []) := by decide +kernel
theorem f34_5 : fch 34 5 = some (.invokevirtual 79, 8, []) := by decide +kernel
theorem f34_8 : fch 34 8 = some (.lookupswitch 116 #[(67, 89), (71, 82), (75, 68), (80, 98), (82, 107), (87, 75)], 68, []) := by decide +kernel
theorem f34_68 : fch 34 68 = some (.aload 0, 69, []) := by decide +kernel
theorem f34_69 : fch 34 69 = some (.aload 1, 70, []) := by decide +kernel
theorem f34_70 : fch 34 70 = some (.aload 2, 71, []) := by decide +kernel
theorem f34_71 : fch 34 71 = some (.invokevirtual 35, 74, []) := by decide +kernel
theorem f34_74 : fch 34 74 = some (.ireturn, 75, []) := by decide +kernel
theorem f34_75 : fch 34 75 = some (.aload 0, 76, []) := by decide +kernel
theorem f34_76 : fch 34 76 = some (.aload 1, 77, []) := by decide +kernel
theorem f34_77 : fch 34 77 = some (.aload 2, 78, []) := by decide +kernel
theorem f34_78 : fch 34 78 = some (.invokevirtual 36, 81, []) := by decide +kernel
theorem f34_81 : fch 34 81 = some (.ireturn, 82, []) := by decide +kernel
theorem f34_82 : fch 34 82 = some (.aload 0, 83, []) := by decide +kernel
theorem f34_83 : fch 34 83 = some (.aload 1, 84, []) := by decide +kernel
theorem f34_84 : fch 34 84 = some (.aload 2, 85, []) := by decide +kernel
theorem f34_85 : fch 34 85 = some (.invokevirtual 37, 88, []) := by decide +kernel
theorem f34_88 : fch 34 88 = some (.ireturn, 89, []) := by decide +kernel
theorem f34_89 : fch 34 89 = some (.aload 0, 90, []) := by decide +kernel
theorem f34_90 : fch 34 90 = some (.aload 1, 91, []) := by decide +kernel
theorem f34_91 : fch 34 91 = some (.aload 2, 92, []) := by decide +kernel
theorem f34_92 : fch 34 92 = some (.iconst 15, 94, []) := by decide +kernel
theorem f34_94 : fch 34 94 = some (.invokevirtual 38, 97, []) := by decide +kernel
theorem f34_97 : fch 34 97 = some (.ireturn, 98, []) := by decide +kernel
theorem f34_98 : fch 34 98 = some (.aload 0, 99, []) := by decide +kernel
theorem f34_99 : fch 34 99 = some (.aload 1, 100, []) := by decide +kernel
theorem f34_100 : fch 34 100 = some (.aload 2, 101, []) := by decide +kernel
theorem f34_101 : fch 34 101 = some (.iconst 16, 103, []) := by decide +kernel
theorem f34_103 : fch 34 103 = some (.invokevirtual 38, 106, []) := by decide +kernel
theorem f34_106 : fch 34 106 = some (.ireturn, 107, []) := by decide +kernel
theorem f34_107 : fch 34 107 = some (.aload 0, 108, []) := by decide +kernel
theorem f34_108 : fch 34 108 = some (.aload 1, 109, []) := by decide +kernel
theorem f34_109 : fch 34 109 = some (.aload 2, 110, []) := by decide +kernel
theorem f34_110 : fch 34 110 = some (.iconst 17, 112, []) := by decide +kernel
theorem f34_112 : fch 34 112 = some (.invokevirtual 38, 115, []) := by decide +kernel
theorem f34_115 : fch 34 115 = some (.ireturn, 116, []) := by decide +kernel
theorem f34_116 : fch 34 116 = some (.iconst 0, 117, []) := by decide +kernel
theorem f34_117 : fch 34 117 = some (.ireturn, 118, []) := by decide +kernel
set_option maxRecDepth 10000 in
theorem e34_0 (l0 l1 l2 : Int) (s : SG) : sem 34 0 [aA l0, aA l1, aA l2] [] s = grd (kd l0 = 2) (grd (kd l1 = 5) (bnI (sem 79 0 [aA l1, aI (s l0 1)] [] s) fun a2 s1 => if a2 = 67 then grd (kd l0 = 2) (bnI (sem 38 0 [aA l0, aA l1, aA l2, aI 15, aU, aU, aU] [] s1) fun a4 s3 => grd (a4 = 0 ∨ a4 = 1) (some (aI a4, s3))) else if a2 = 71 then grd (kd l0 = 2) (bnI (sem 37 0 [aA l0, aA l1, aA l2, aU, aU] [] s1) fun a6 s5 => grd (a6 = 0 ∨ a6 = 1) (some (aI a6, s5))) else if a2 = 75 then grd (kd l0 = 2) (bnI (sem 35 0 [aA l0, aA l1, aA l2, aU, aU] [] s1) fun a8 s7 => grd (a8 = 0 ∨ a8 = 1) (some (aI a8, s7))) else if a2 = 80 then grd (kd l0 = 2) (bnI (sem 38 0 [aA l0, aA l1, aA l2, aI 16, aU, aU, aU] [] s1) fun a10 s9 => grd (a10 = 0 ∨ a10 = 1) (some (aI a10, s9))) else if a2 = 82 then grd (kd l0 = 2) (bnI (sem 38 0 [aA l0, aA l1, aA l2, aI 17, aU, aU, aU] [] s1) fun a12 s11 => grd (a12 = 0 ∨ a12 = 1) (some (aI a12, s11))) else if a2 = 87 then grd (kd l0 = 2) (bnI (sem 36 0 [aA l0, aA l1, aA l2, aU, aU, aU, aU] [] s1) fun a14 s13 => grd (a14 = 0 ∨ a14 = 1) (some (aI a14, s13))) else some (aI 0, s1))) := by
  refine (x_aload f34_0 rfl rfl).trans ?_
  refine (x_aload f34_1 rfl rfl).trans ?_
  refine (x_get0 f34_2 rfl rfl).trans ?_
  refine g_c ?_
  refine (x_invokevirtual (G := grd (kd l1 = 5) (bnI (sem 79 0 [aA l1, aI (s l0 1)] [] s) fun a2 s1 => sem 34 8 [aA l0, aA l1, aA l2] [aI a2] s1)) f34_5 rfl rfl).trans ?_
  refine g_c ?_
  refine bI_c fun a2 s1 => ?_
  refine (x_lsw f34_8 rfl).trans ?_
  refine Eq.trans (b := sem 34 (if a2 = 67 then 89 else if a2 = 71 then 82 else if a2 = 75 then 68 else if a2 = 80 then 98 else if a2 = 82 then 107 else if a2 = 87 then 75 else 116) [aA l0, aA l1, aA l2] [] s1) rfl ?_
  refine x_ite.trans (i_c ?_ ?_)
  · refine (x_aload f34_89 rfl rfl).trans ?_
    refine (x_aload f34_90 rfl rfl).trans ?_
    refine (x_aload f34_91 rfl rfl).trans ?_
    refine (x_iconst f34_92 rfl).trans ?_
    refine (x_invokevirtual (G := grd (kd l0 = 2) (bnI (sem 38 0 [aA l0, aA l1, aA l2, aI 15, aU, aU, aU] [] s1) fun a4 s3 => sem 34 97 [aA l0, aA l1, aA l2] [aI a4] s3)) f34_94 rfl rfl).trans ?_
    refine g_c ?_
    refine bI_c fun a4 s3 => ?_
    exact x_zreturn f34_97 rfl
  refine x_ite.trans (i_c ?_ ?_)
  · refine (x_aload f34_82 rfl rfl).trans ?_
    refine (x_aload f34_83 rfl rfl).trans ?_
    refine (x_aload f34_84 rfl rfl).trans ?_
    refine (x_invokevirtual (G := grd (kd l0 = 2) (bnI (sem 37 0 [aA l0, aA l1, aA l2, aU, aU] [] s1) fun a6 s5 => sem 34 88 [aA l0, aA l1, aA l2] [aI a6] s5)) f34_85 rfl rfl).trans ?_
    refine g_c ?_
    refine bI_c fun a6 s5 => ?_
    exact x_zreturn f34_88 rfl
  refine x_ite.trans (i_c ?_ ?_)
  · refine (x_aload f34_68 rfl rfl).trans ?_
    refine (x_aload f34_69 rfl rfl).trans ?_
    refine (x_aload f34_70 rfl rfl).trans ?_
    refine (x_invokevirtual (G := grd (kd l0 = 2) (bnI (sem 35 0 [aA l0, aA l1, aA l2, aU, aU] [] s1) fun a8 s7 => sem 34 74 [aA l0, aA l1, aA l2] [aI a8] s7)) f34_71 rfl rfl).trans ?_
    refine g_c ?_
    refine bI_c fun a8 s7 => ?_
    exact x_zreturn f34_74 rfl
  refine x_ite.trans (i_c ?_ ?_)
  · refine (x_aload f34_98 rfl rfl).trans ?_
    refine (x_aload f34_99 rfl rfl).trans ?_
    refine (x_aload f34_100 rfl rfl).trans ?_
    refine (x_iconst f34_101 rfl).trans ?_
    refine (x_invokevirtual (G := grd (kd l0 = 2) (bnI (sem 38 0 [aA l0, aA l1, aA l2, aI 16, aU, aU, aU] [] s1) fun a10 s9 => sem 34 106 [aA l0, aA l1, aA l2] [aI a10] s9)) f34_103 rfl rfl).trans ?_
    refine g_c ?_
    refine bI_c fun a10 s9 => ?_
    exact x_zreturn f34_106 rfl
  refine x_ite.trans (i_c ?_ ?_)
  · refine (x_aload f34_107 rfl rfl).trans ?_
    refine (x_aload f34_108 rfl rfl).trans ?_
    refine (x_aload f34_109 rfl rfl).trans ?_
    refine (x_iconst f34_110 rfl).trans ?_
    refine (x_invokevirtual (G := grd (kd l0 = 2) (bnI (sem 38 0 [aA l0, aA l1, aA l2, aI 17, aU, aU, aU] [] s1) fun a12 s11 => sem 34 115 [aA l0, aA l1, aA l2] [aI a12] s11)) f34_112 rfl rfl).trans ?_
    refine g_c ?_
    refine bI_c fun a12 s11 => ?_
    exact x_zreturn f34_115 rfl
  refine x_ite.trans (i_c ?_ ?_)
  · refine (x_aload f34_75 rfl rfl).trans ?_
    refine (x_aload f34_76 rfl rfl).trans ?_
    refine (x_aload f34_77 rfl rfl).trans ?_
    refine (x_invokevirtual (G := grd (kd l0 = 2) (bnI (sem 36 0 [aA l0, aA l1, aA l2, aU, aU, aU, aU] [] s1) fun a14 s13 => sem 34 81 [aA l0, aA l1, aA l2] [aI a14] s13)) f34_78 rfl rfl).trans ?_
    refine g_c ?_
    refine bI_c fun a14 s13 => ?_
    exact x_zreturn f34_81 rfl
  refine (x_iconst f34_116 rfl).trans ?_
  exact x_zreturn0 f34_117 rfl
theorem f35_0 : fch 35 0 = some (.aload 0, 1, []) := by decide +kernel
theorem f35_1 : fch 35 1 = some (.iconst 0, 2, []) := by decide +kernel
theorem f35_2 : fch 35 2 = some (.iconst 3, 3, []) := by decide +kernel
theorem f35_3 : fch 35 3 = some (.invokevirtual 43, 6, []) := by decide +kernel
theorem f35_6 : fch 35 6 = some (.ifCond .eq 11, 9, []) := by decide +kernel
theorem f35_9 : fch 35 9 = some (.iconst 0, 10, []) := by decide +kernel
theorem f35_10 : fch 35 10 = some (.ireturn, 11, []) := by decide +kernel
theorem f35_11 : fch 35 11 = some (.aload 0, 12, []) := by decide +kernel
theorem f35_12 : fch 35 12 = some (.dup, 13, []) := by decide +kernel
theorem f35_13 : fch 35 13 = some (.invokeinterface 2 1, 16, []) := by decide +kernel
theorem f35_16 : fch 35 16 = some (.iconst 1, 17, []) := by decide +kernel
theorem f35_17 : fch 35 17 = some (.iadd, 18, []) := by decide +kernel
theorem f35_18 : fch 35 18 = some (.multianewarray 2 1, 21, []) := by decide +kernel
theorem f35_21 : fch 35 21 = some (.aload 0, 22, []) := by decide +kernel
theorem f35_22 : fch 35 22 = some (.aload 1, 23, []) := by decide +kernel
theorem f35_23 : fch 35 23 = some (.iconst 2, 24, []) := by decide +kernel
theorem f35_24 : fch 35 24 = some (.iconst 0, 25, []) := by decide +kernel
theorem f35_25 : fch 35 25 = some (.invokevirtual 41, 28, []) := by decide +kernel
theorem f35_28 : fch 35 28 = some (.istore 3, 29, []) := by decide +kernel
theorem f35_29 : fch 35 29 = some (.iload 3, 30, []) := by decide +kernel
theorem f35_30 : fch 35 30 = some (.iconst (-9), 32, []) := by decide +kernel
theorem f35_32 : fch 35 32 = some (.if_icmp .ne 40, 35, []) := by decide +kernel
theorem f35_35 : fch 35 35 = some (.iconst (-9), 37, []) := by decide +kernel
theorem f35_37 : fch 35 37 = some (.goto 48, 40, []) := by decide +kernel
theorem f35_40 : fch 35 40 = some (.aload 0, 41, []) := by decide +kernel
theorem f35_41 : fch 35 41 = some (.aload 1, 42, []) := by decide +kernel
theorem f35_42 : fch 35 42 = some (.iconst 1, 43, []) := by decide +kernel
theorem f35_43 : fch 35 43 = some (.iconst 9, 45, []) := by decide +kernel
theorem f35_45 : fch 35 45 = some (.invokevirtual 40, 48, []) := by decide +kernel
theorem f35_48 : fch 35 48 = some (.istore 4, 50, [0, 1]) := by decide +kernel
theorem f35_50 : fch 35 50 = some (.iload 4, 52, []) := by decide +kernel
theorem f35_52 : fch 35 52 = some (.iconst (-9), 54, []) := by decide +kernel
theorem f35_54 : fch 35 54 = some (.if_icmp .ne 59, 57, []) := by decide +kernel
theorem f35_57 : fch 35 57 = some (.iconst 0, 58, []) := by decide +kernel
theorem f35_58 : fch 35 58 = some (.ireturn, 59, []) := by decide +kernel
theorem f35_59 : fch 35 59 = some (.aload 2, 60, []) := by decide +kernel
theorem f35_60 : fch 35 60 = some (.iload 3, 61, []) := by decide +kernel
theorem f35_61 : fch 35 61 = some (.iload 4, 63, []) := by decide +kernel
theorem f35_63 : fch 35 63 = some (.invokevirtual 87, 66, []) := by decide +kernel
theorem f35_66 : fch 35 66 = some (.iconst 1, 67, []) := by decide +kernel
theorem f35_67 : fch 35 67 = some (.ireturn, 68, []) := by decide +kernel
set_option maxRecDepth 10000 in
theorem e35_0 (l0 l1 l2 : Int) (s : SG) : sem 35 0 [aA l0, aA l1, aA l2, aU, aU] [] s = grd (kd l0 = 2) (bnI (sem 43 0 [aA l0, aI 0, aI 3, aU] [] s) fun a2 s1 => if a2 = 0 then grd (kd l0 = 2) (grd (kd l0 = 2) (grd (kd l0 = 2) (bnI (sem 41 0 [aA l0, aA l1, aI 2, aI 0, aU] [] (up s1 l0 1 (w32 ((s1 l0 1) + 1)))) fun a4 s3 => if a4 = ((-9)) then if ((-9) : Int) = ((-9)) then some (aI 0, s3) else grd (kd l2 = 6) (bnV (sem 87 0 [aA l2, aI a4, aI ((-9))] [] s3) fun s5 => some (aI 1, s5)) else grd (kd l0 = 2) (bnI (sem 40 0 [aA l0, aA l1, aI 1, aI 9, aU] [] s3) fun a7 s6 => if a7 = ((-9)) then some (aI 0, s6) else grd (kd l2 = 6) (bnV (sem 87 0 [aA l2, aI a4, aI a7] [] s6) fun s8 => some (aI 1, s8)))))) else some (aI 0, s1)) := by
  refine (x_aload f35_0 rfl rfl).trans ?_
  refine (x_iconst f35_1 rfl).trans ?_
  refine (x_iconst f35_2 rfl).trans ?_
  refine (x_invokevirtual (G := grd (kd l0 = 2) (bnI (sem 43 0 [aA l0, aI 0, aI 3, aU] [] s) fun a2 s1 => sem 35 6 [aA l0, aA l1, aA l2, aU, aU] [aI a2] s1)) f35_3 rfl rfl).trans ?_
  refine g_c ?_
  refine bI_c fun a2 s1 => ?_
  refine (x_if_eq (tg := 11) f35_6 rfl rfl).trans (i_c ?_ ?_)
  · refine (x_aload f35_11 rfl rfl).trans ?_
    refine (x_dup f35_12 rfl rfl).trans ?_
    refine (x_get0 f35_13 rfl rfl).trans ?_
    refine g_c ?_
    refine (x_iconst f35_16 rfl).trans ?_
    refine (x_iadd f35_17 rfl).trans ?_
    refine (x_put0 f35_18 rfl rfl).trans ?_
    refine g_c ?_
    refine (x_aload f35_21 rfl rfl).trans ?_
    refine (x_aload f35_22 rfl rfl).trans ?_
    refine (x_iconst f35_23 rfl).trans ?_
    refine (x_iconst f35_24 rfl).trans ?_
    refine (x_invokevirtual (G := grd (kd l0 = 2) (bnI (sem 41 0 [aA l0, aA l1, aI 2, aI 0, aU] [] (up s1 l0 1 (w32 ((s1 l0 1) + 1)))) fun a4 s3 => sem 35 28 [aA l0, aA l1, aA l2, aU, aU] [aI a4] s3)) f35_25 rfl rfl).trans ?_
    refine g_c ?_
    refine bI_c fun a4 s3 => ?_
    refine (x_istore (l2 := [aA l0, aA l1, aA l2, aI a4, aU]) f35_28 rfl rfl).trans ?_
    refine (x_iload f35_29 rfl rfl).trans ?_
    refine (x_iconst f35_30 rfl).trans ?_
    refine (x_icmp_ne (tg := 40) f35_32 rfl rfl).trans (i_c ?_ ?_)
    · refine (x_iconst f35_35 rfl).trans ?_
      refine (x_goto (tg := 48) f35_37 rfl rfl).trans ?_
      refine (x_kil (l2 := [aU, aU, aA l2, aI a4, aU]) f35_48 rfl).trans ?_
      refine (x_istore (l2 := [aU, aU, aA l2, aI a4, aI ((-9))]) f35_48 rfl rfl).trans ?_
      refine (x_iload f35_50 rfl rfl).trans ?_
      refine (x_iconst f35_52 rfl).trans ?_
      refine (x_icmp_ne (tg := 59) f35_54 rfl rfl).trans (i_c ?_ ?_)
      · refine (x_iconst f35_57 rfl).trans ?_
        exact x_zreturn0 f35_58 rfl
      · refine (x_aload f35_59 rfl rfl).trans ?_
        refine (x_iload f35_60 rfl rfl).trans ?_
        refine (x_iload f35_61 rfl rfl).trans ?_
        refine (x_invokevirtual (G := grd (kd l2 = 6) (bnV (sem 87 0 [aA l2, aI a4, aI ((-9))] [] s3) fun s5 => sem 35 66 [aU, aU, aA l2, aI a4, aI ((-9))] [] s5)) f35_63 rfl rfl).trans ?_
        refine g_c ?_
        refine bV_c fun s5 => ?_
        refine (x_iconst f35_66 rfl).trans ?_
        exact x_zreturn1 f35_67 rfl
    · refine (x_aload f35_40 rfl rfl).trans ?_
      refine (x_aload f35_41 rfl rfl).trans ?_
      refine (x_iconst f35_42 rfl).trans ?_
      refine (x_iconst f35_43 rfl).trans ?_
      refine (x_invokevirtual (G := grd (kd l0 = 2) (bnI (sem 40 0 [aA l0, aA l1, aI 1, aI 9, aU] [] s3) fun a7 s6 => sem 35 48 [aA l0, aA l1, aA l2, aI a4, aU] [aI a7] s6)) f35_45 rfl rfl).trans ?_
      refine g_c ?_
      refine bI_c fun a7 s6 => ?_
      refine (x_kil (l2 := [aU, aU, aA l2, aI a4, aU]) f35_48 rfl).trans ?_
      refine (x_istore (l2 := [aU, aU, aA l2, aI a4, aI a7]) f35_48 rfl rfl).trans ?_
      refine (x_iload f35_50 rfl rfl).trans ?_
      refine (x_iconst f35_52 rfl).trans ?_
      refine (x_icmp_ne (tg := 59) f35_54 rfl rfl).trans (i_c ?_ ?_)
      · refine (x_iconst f35_57 rfl).trans ?_
        exact x_zreturn0 f35_58 rfl
      · refine (x_aload f35_59 rfl rfl).trans ?_
        refine (x_iload f35_60 rfl rfl).trans ?_
        refine (x_iload f35_61 rfl rfl).trans ?_
        refine (x_invokevirtual (G := grd (kd l2 = 6) (bnV (sem 87 0 [aA l2, aI a4, aI a7] [] s6) fun s8 => sem 35 66 [aU, aU, aA l2, aI a4, aI a7] [] s8)) f35_63 rfl rfl).trans ?_
        refine g_c ?_
        refine bV_c fun s8 => ?_
        refine (x_iconst f35_66 rfl).trans ?_
        exact x_zreturn1 f35_67 rfl
  · refine (x_iconst f35_9 rfl).trans ?_
    exact x_zreturn0 f35_10 rfl
theorem f36_0 : fch 36 0 = some (.aload 0, 1, []) := by decide +kernel
theorem f36_1 : fch 36 1 = some (.iconst 3, 2, []) := by decide +kernel
theorem f36_2 : fch 36 2 = some (.aload 2, 3, []) := by decide +kernel
theorem f36_3 : fch 36 3 = some (.invokeinterface 6 4, 6, []) := by decide +kernel
theorem f36_6 : fch 36 6 = some (.iconst 3, 7, []) := by decide +kernel
theorem f36_7 : fch 36 7 = some (.imul, 8, []) := by decide +kernel
theorem f36_8 : fch 36 8 = some (.invokevirtual 43, 11, []) := by decide +kernel
theorem f36_11 : fch 36 11 = some (.ifCond .eq 16, 14, []) := by decide +kernel
theorem f36_14 : fch 36 14 = some (.iconst 0, 15, []) := by decide +kernel
theorem f36_15 : fch 36 15 = some (.ireturn, 16, []) := by decide +kernel
theorem f36_16 : fch 36 16 = some (.aload 0, 17, []) := by decide +kernel
theorem f36_17 : fch 36 17 = some (.dup, 18, []) := by decide +kernel
theorem f36_18 : fch 36 18 = some (.invokeinterface 2 1, 21, []) := by decide +kernel
theorem f36_21 : fch 36 21 = some (.iconst 1, 22, []) := by decide +kernel
theorem f36_22 : fch 36 22 = some (.iadd, 23, []) := by decide +kernel
theorem f36_23 : fch 36 23 = some (.multianewarray 2 1, 26, []) := by decide +kernel
theorem f36_26 : fch 36 26 = some (.aload 0, 27, []) := by decide +kernel
theorem f36_27 : fch 36 27 = some (.aload 1, 28, []) := by decide +kernel
theorem f36_28 : fch 36 28 = some (.iconst 0, 29, []) := by decide +kernel
theorem f36_29 : fch 36 29 = some (.aload 2, 30, []) := by decide +kernel
theorem f36_30 : fch 36 30 = some (.invokeinterface 6 4, 33, []) := by decide +kernel
theorem f36_33 : fch 36 33 = some (.iconst 1, 34, []) := by decide +kernel
theorem f36_34 : fch 36 34 = some (.isub, 35, []) := by decide +kernel
theorem f36_35 : fch 36 35 = some (.invokevirtual 39, 38, []) := by decide +kernel
theorem f36_38 : fch 36 38 = some (.istore 3, 39, []) := by decide +kernel
theorem f36_39 : fch 36 39 = some (.iload 3, 40, []) := by decide +kernel
theorem f36_40 : fch 36 40 = some (.iconst (-9), 42, []) := by decide +kernel
theorem f36_42 : fch 36 42 = some (.if_icmp .eq 58, 45, []) := by decide +kernel
theorem f36_45 : fch 36 45 = some (.aload 0, 46, []) := by decide +kernel
theorem f36_46 : fch 36 46 = some (.iconst 3, 47, []) := by decide +kernel
theorem f36_47 : fch 36 47 = some (.iload 3, 48, []) := by decide +kernel
theorem f36_48 : fch 36 48 = some (.iconst 3, 49, []) := by decide +kernel
theorem f36_49 : fch 36 49 = some (.imul, 50, []) := by decide +kernel
theorem f36_50 : fch 36 50 = some (.iadd, 51, []) := by decide +kernel
theorem f36_51 : fch 36 51 = some (.iconst 3, 52, []) := by decide +kernel
theorem f36_52 : fch 36 52 = some (.invokevirtual 43, 55, []) := by decide +kernel
theorem f36_55 : fch 36 55 = some (.ifCond .eq 60, 58, []) := by decide +kernel
theorem f36_58 : fch 36 58 = some (.iconst 0, 59, [0, 1, 2, 3]) := by decide +kernel
theorem f36_59 : fch 36 59 = some (.ireturn, 60, []) := by decide +kernel
theorem f36_60 : fch 36 60 = some (.aload 0, 61, []) := by decide +kernel
theorem f36_61 : fch 36 61 = some (.dup, 62, []) := by decide +kernel
theorem f36_62 : fch 36 62 = some (.invokeinterface 2 1, 65, []) := by decide +kernel
theorem f36_65 : fch 36 65 = some (.iconst 1, 66, []) := by decide +kernel
theorem f36_66 : fch 36 66 = some (.iadd, 67, []) := by decide +kernel
theorem f36_67 : fch 36 67 = some (.multianewarray 2 1, 70, []) := by decide +kernel
theorem f36_70 : fch 36 70 = some (.aload 0, 71, []) := by decide +kernel
theorem f36_71 : fch 36 71 = some (.aload 1, 72, []) := by decide +kernel
theorem f36_72 : fch 36 72 = some (.iconst 2, 73, []) := by decide +kernel
theorem f36_73 : fch 36 73 = some (.iconst 3, 74, []) := by decide +kernel
theorem f36_74 : fch 36 74 = some (.iload 3, 75, []) := by decide +kernel
theorem f36_75 : fch 36 75 = some (.iconst 3, 76, []) := by decide +kernel
theorem f36_76 : fch 36 76 = some (.imul, 77, []) := by decide +kernel
theorem f36_77 : fch 36 77 = some (.iadd, 78, []) := by decide +kernel
theorem f36_78 : fch 36 78 = some (.invokevirtual 41, 81, []) := by decide +kernel
theorem f36_81 : fch 36 81 = some (.istore 4, 83, []) := by decide +kernel
theorem f36_83 : fch 36 83 = some (.iload 4, 85, []) := by decide +kernel
theorem f36_85 : fch 36 85 = some (.iconst (-9), 87, []) := by decide +kernel
theorem f36_87 : fch 36 87 = some (.if_icmp .ne 95, 90, []) := by decide +kernel
theorem f36_90 : fch 36 90 = some (.iconst (-9), 92, []) := by decide +kernel
theorem f36_92 : fch 36 92 = some (.goto 102, 95, []) := by decide +kernel
theorem f36_95 : fch 36 95 = some (.aload 0, 96, []) := by decide +kernel
theorem f36_96 : fch 36 96 = some (.aload 1, 97, []) := by decide +kernel
theorem f36_97 : fch 36 97 = some (.iconst 0, 98, []) := by decide +kernel
theorem f36_98 : fch 36 98 = some (.iconst 3, 99, []) := by decide +kernel
theorem f36_99 : fch 36 99 = some (.invokevirtual 40, 102, []) := by decide +kernel
theorem f36_102 : fch 36 102 = some (.istore 5, 104, []) := by decide +kernel
theorem f36_104 : fch 36 104 = some (.iload 5, 106, []) := by decide +kernel
theorem f36_106 : fch 36 106 = some (.iconst (-9), 108, []) := by decide +kernel
theorem f36_108 : fch 36 108 = some (.if_icmp .ne 116, 111, []) := by decide +kernel
theorem f36_111 : fch 36 111 = some (.iconst (-9), 113, []) := by decide +kernel
theorem f36_113 : fch 36 113 = some (.goto 124, 116, []) := by decide +kernel
theorem f36_116 : fch 36 116 = some (.aload 0, 117, []) := by decide +kernel
theorem f36_117 : fch 36 117 = some (.aload 1, 118, []) := by decide +kernel
theorem f36_118 : fch 36 118 = some (.iconst 0, 119, []) := by decide +kernel
theorem f36_119 : fch 36 119 = some (.iconst 9, 121, []) := by decide +kernel
theorem f36_121 : fch 36 121 = some (.invokevirtual 40, 124, []) := by decide +kernel
theorem f36_124 : fch 36 124 = some (.istore 6, 126, [0, 1]) := by decide +kernel
theorem f36_126 : fch 36 126 = some (.iload 6, 128, []) := by decide +kernel
theorem f36_128 : fch 36 128 = some (.iconst (-9), 130, []) := by decide +kernel
theorem f36_130 : fch 36 130 = some (.if_icmp .ne 135, 133, []) := by decide +kernel
theorem f36_133 : fch 36 133 = some (.iconst 0, 134, []) := by decide +kernel
theorem f36_134 : fch 36 134 = some (.ireturn, 135, []) := by decide +kernel
theorem f36_135 : fch 36 135 = some (.aload 2, 136, []) := by decide +kernel
theorem f36_136 : fch 36 136 = some (.iload 3, 137, []) := by decide +kernel
theorem f36_137 : fch 36 137 = some (.iload 4, 139, []) := by decide +kernel
theorem f36_139 : fch 36 139 = some (.iload 5, 141, []) := by decide +kernel
theorem f36_141 : fch 36 141 = some (.iload 6, 143, []) := by decide +kernel
theorem f36_143 : fch 36 143 = some (.invokevirtual 88, 146, []) := by decide +kernel
theorem f36_146 : fch 36 146 = some (.iconst 1, 147, []) := by decide +kernel
theorem f36_147 : fch 36 147 = some (.ireturn, 148, []) := by decide +kernel
set_option maxRecDepth 10000 in
theorem e36_0 (l0 l1 l2 : Int) (s : SG) : sem 36 0 [aA l0, aA l1, aA l2, aU, aU, aU, aU] [] s = grd (kd l2 = 6) (grd (kd l0 = 2) (bnI (sem 43 0 [aA l0, aI 3, aI (w32 ((s l2 4) * 3)), aU] [] s) fun a2 s1 => if a2 = 0 then grd (kd l0 = 2) (grd (kd l0 = 2) (grd (kd l2 = 6) (grd (kd l0 = 2) (bnI (sem 39 0 [aA l0, aA l1, aI 0, aI (w32 (((up s1 l0 1 (w32 ((s1 l0 1) + 1))) l2 4) - 1)), aU] [] (up s1 l0 1 (w32 ((s1 l0 1) + 1)))) fun a4 s3 => if a4 = ((-9)) then some (aI 0, s3) else grd (kd l0 = 2) (bnI (sem 43 0 [aA l0, aI (w32 (3 + (w32 (a4 * 3)))), aI 3, aU] [] s3) fun a6 s5 => if a6 = 0 then grd (kd l0 = 2) (grd (kd l0 = 2) (grd (kd l0 = 2) (bnI (sem 41 0 [aA l0, aA l1, aI 2, aI (w32 (3 + (w32 (a4 * 3)))), aU] [] (up s5 l0 1 (w32 ((s5 l0 1) + 1)))) fun a8 s7 => if a8 = ((-9)) then sem 36 102 [aA l0, aA l1, aA l2, aI a4, aI a8, aU, aU] [aI ((-9))] s7 else grd (kd l0 = 2) (bnI (sem 40 0 [aA l0, aA l1, aI 0, aI 3, aU] [] s7) fun a10 s9 => sem 36 102 [aA l0, aA l1, aA l2, aI a4, aI a8, aU, aU] [aI a10] s9)))) else some (aI 0, s5)))))) else some (aI 0, s1))) := by
  refine (x_aload f36_0 rfl rfl).trans ?_
  refine (x_iconst f36_1 rfl).trans ?_
  refine (x_aload f36_2 rfl rfl).trans ?_
  refine (x_get0 f36_3 rfl rfl).trans ?_
  refine g_c ?_
  refine (x_iconst f36_6 rfl).trans ?_
  refine (x_imul f36_7 rfl).trans ?_
  refine (x_invokevirtual (G := grd (kd l0 = 2) (bnI (sem 43 0 [aA l0, aI 3, aI (w32 ((s l2 4) * 3)), aU] [] s) fun a2 s1 => sem 36 11 [aA l0, aA l1, aA l2, aU, aU, aU, aU] [aI a2] s1)) f36_8 rfl rfl).trans ?_
  refine g_c ?_
  refine bI_c fun a2 s1 => ?_
  refine (x_if_eq (tg := 16) f36_11 rfl rfl).trans (i_c ?_ ?_)
  · refine (x_aload f36_16 rfl rfl).trans ?_
    refine (x_dup f36_17 rfl rfl).trans ?_
    refine (x_get0 f36_18 rfl rfl).trans ?_
    refine g_c ?_
    refine (x_iconst f36_21 rfl).trans ?_
    refine (x_iadd f36_22 rfl).trans ?_
    refine (x_put0 f36_23 rfl rfl).trans ?_
    refine g_c ?_
    refine (x_aload f36_26 rfl rfl).trans ?_
    refine (x_aload f36_27 rfl rfl).trans ?_
    refine (x_iconst f36_28 rfl).trans ?_
    refine (x_aload f36_29 rfl rfl).trans ?_
    refine (x_get0 f36_30 rfl rfl).trans ?_
    refine g_c ?_
    refine (x_iconst f36_33 rfl).trans ?_
    refine (x_isub f36_34 rfl).trans ?_
    refine (x_invokevirtual (G := grd (kd l0 = 2) (bnI (sem 39 0 [aA l0, aA l1, aI 0, aI (w32 (((up s1 l0 1 (w32 ((s1 l0 1) + 1))) l2 4) - 1)), aU] [] (up s1 l0 1 (w32 ((s1 l0 1) + 1)))) fun a4 s3 => sem 36 38 [aA l0, aA l1, aA l2, aU, aU, aU, aU] [aI a4] s3)) f36_35 rfl rfl).trans ?_
    refine g_c ?_
    refine bI_c fun a4 s3 => ?_
    refine (x_istore (l2 := [aA l0, aA l1, aA l2, aI a4, aU, aU, aU]) f36_38 rfl rfl).trans ?_
    refine (x_iload f36_39 rfl rfl).trans ?_
    refine (x_iconst f36_40 rfl).trans ?_
    refine (x_icmp_eq (tg := 58) f36_42 rfl rfl).trans (i_c ?_ ?_)
    · refine (x_kil (l2 := [aU, aU, aU, aU, aU, aU, aU]) f36_58 rfl).trans ?_
      refine (x_iconst f36_58 rfl).trans ?_
      exact x_zreturn0 f36_59 rfl
    · refine (x_aload f36_45 rfl rfl).trans ?_
      refine (x_iconst f36_46 rfl).trans ?_
      refine (x_iload f36_47 rfl rfl).trans ?_
      refine (x_iconst f36_48 rfl).trans ?_
      refine (x_imul f36_49 rfl).trans ?_
      refine (x_iadd f36_50 rfl).trans ?_
      refine (x_iconst f36_51 rfl).trans ?_
      refine (x_invokevirtual (G := grd (kd l0 = 2) (bnI (sem 43 0 [aA l0, aI (w32 (3 + (w32 (a4 * 3)))), aI 3, aU] [] s3) fun a6 s5 => sem 36 55 [aA l0, aA l1, aA l2, aI a4, aU, aU, aU] [aI a6] s5)) f36_52 rfl rfl).trans ?_
      refine g_c ?_
      refine bI_c fun a6 s5 => ?_
      refine (x_if_eq (tg := 60) f36_55 rfl rfl).trans (i_c ?_ ?_)
      · refine (x_aload f36_60 rfl rfl).trans ?_
        refine (x_dup f36_61 rfl rfl).trans ?_
        refine (x_get0 f36_62 rfl rfl).trans ?_
        refine g_c ?_
        refine (x_iconst f36_65 rfl).trans ?_
        refine (x_iadd f36_66 rfl).trans ?_
        refine (x_put0 f36_67 rfl rfl).trans ?_
        refine g_c ?_
        refine (x_aload f36_70 rfl rfl).trans ?_
        refine (x_aload f36_71 rfl rfl).trans ?_
        refine (x_iconst f36_72 rfl).trans ?_
        refine (x_iconst f36_73 rfl).trans ?_
        refine (x_iload f36_74 rfl rfl).trans ?_
        refine (x_iconst f36_75 rfl).trans ?_
        refine (x_imul f36_76 rfl).trans ?_
        refine (x_iadd f36_77 rfl).trans ?_
        refine (x_invokevirtual (G := grd (kd l0 = 2) (bnI (sem 41 0 [aA l0, aA l1, aI 2, aI (w32 (3 + (w32 (a4 * 3)))), aU] [] (up s5 l0 1 (w32 ((s5 l0 1) + 1)))) fun a8 s7 => sem 36 81 [aA l0, aA l1, aA l2, aI a4, aU, aU, aU] [aI a8] s7)) f36_78 rfl rfl).trans ?_
        refine g_c ?_
        refine bI_c fun a8 s7 => ?_
        refine (x_istore (l2 := [aA l0, aA l1, aA l2, aI a4, aI a8, aU, aU]) f36_81 rfl rfl).trans ?_
        refine (x_iload f36_83 rfl rfl).trans ?_
        refine (x_iconst f36_85 rfl).trans ?_
        refine (x_icmp_ne (tg := 95) f36_87 rfl rfl).trans (i_c ?_ ?_)
        · refine (x_iconst f36_90 rfl).trans ?_
          refine (x_goto (tg := 102) f36_92 rfl rfl).trans ?_
          rfl
        · refine (x_aload f36_95 rfl rfl).trans ?_
          refine (x_aload f36_96 rfl rfl).trans ?_
          refine (x_iconst f36_97 rfl).trans ?_
          refine (x_iconst f36_98 rfl).trans ?_
          refine (x_invokevirtual (G := grd (kd l0 = 2) (bnI (sem 40 0 [aA l0, aA l1, aI 0, aI 3, aU] [] s7) fun a10 s9 => sem 36 102 [aA l0, aA l1, aA l2, aI a4, aI a8, aU, aU] [aI a10] s9)) f36_99 rfl rfl).trans ?_
          refine g_c ?_
          refine bI_c fun a10 s9 => ?_
          rfl
      · refine (x_kil (l2 := [aU, aU, aU, aU, aU, aU, aU]) f36_58 rfl).trans ?_
        refine (x_iconst f36_58 rfl).trans ?_
        exact x_zreturn0 f36_59 rfl
  · refine (x_iconst f36_14 rfl).trans ?_
    exact x_zreturn0 f36_15 rfl
set_option maxRecDepth 10000 in
theorem e36_102 (l0 l1 l2 l3 l4 v0 : Int) (s : SG) : sem 36 102 [aA l0, aA l1, aA l2, aI l3, aI l4, aU, aU] [aI v0] s = if v0 = ((-9)) then if ((-9) : Int) = ((-9)) then some (aI 0, s) else grd (kd l2 = 6) (bnV (sem 88 0 [aA l2, aI l3, aI l4, aI v0, aI ((-9)), aU] [] s) fun s1 => some (aI 1, s1)) else grd (kd l0 = 2) (bnI (sem 40 0 [aA l0, aA l1, aI 0, aI 9, aU] [] s) fun a3 s2 => if a3 = ((-9)) then some (aI 0, s2) else grd (kd l2 = 6) (bnV (sem 88 0 [aA l2, aI l3, aI l4, aI v0, aI a3, aU] [] s2) fun s4 => some (aI 1, s4))) := by
  refine (x_istore (l2 := [aA l0, aA l1, aA l2, aI l3, aI l4, aI v0, aU]) f36_102 rfl rfl).trans ?_
  refine (x_iload f36_104 rfl rfl).trans ?_
  refine (x_iconst f36_106 rfl).trans ?_
  refine (x_icmp_ne (tg := 116) f36_108 rfl rfl).trans (i_c ?_ ?_)
  · refine (x_iconst f36_111 rfl).trans ?_
    refine (x_goto (tg := 124) f36_113 rfl rfl).trans ?_
    refine (x_kil (l2 := [aU, aU, aA l2, aI l3, aI l4, aI v0, aU]) f36_124 rfl).trans ?_
    refine (x_istore (l2 := [aU, aU, aA l2, aI l3, aI l4, aI v0, aI ((-9))]) f36_124 rfl rfl).trans ?_
    refine (x_iload f36_126 rfl rfl).trans ?_
    refine (x_iconst f36_128 rfl).trans ?_
    refine (x_icmp_ne (tg := 135) f36_130 rfl rfl).trans (i_c ?_ ?_)
    · refine (x_iconst f36_133 rfl).trans ?_
      exact x_zreturn0 f36_134 rfl
    · refine (x_aload f36_135 rfl rfl).trans ?_
      refine (x_iload f36_136 rfl rfl).trans ?_
      refine (x_iload f36_137 rfl rfl).trans ?_
      refine (x_iload f36_139 rfl rfl).trans ?_
      refine (x_iload f36_141 rfl rfl).trans ?_
      refine (x_invokevirtual (G := grd (kd l2 = 6) (bnV (sem 88 0 [aA l2, aI l3, aI l4, aI v0, aI ((-9)), aU] [] s) fun s1 => sem 36 146 [aU, aU, aA l2, aI l3, aI l4, aI v0, aI ((-9))] [] s1)) f36_143 rfl rfl).trans ?_
      refine g_c ?_
      refine bV_c fun s1 => ?_
      refine (x_iconst f36_146 rfl).trans ?_
      exact x_zreturn1 f36_147 rfl
  · refine (x_aload f36_116 rfl rfl).trans ?_
    refine (x_aload f36_117 rfl rfl).trans ?_
    refine (x_iconst f36_118 rfl).trans ?_
    refine (x_iconst f36_119 rfl).trans ?_
    refine (x_invokevirtual (G := grd (kd l0 = 2) (bnI (sem 40 0 [aA l0, aA l1, aI 0, aI 9, aU] [] s) fun a3 s2 => sem 36 124 [aA l0, aA l1, aA l2, aI l3, aI l4, aI v0, aU] [aI a3] s2)) f36_121 rfl rfl).trans ?_
    refine g_c ?_
    refine bI_c fun a3 s2 => ?_
    refine (x_kil (l2 := [aU, aU, aA l2, aI l3, aI l4, aI v0, aU]) f36_124 rfl).trans ?_
    refine (x_istore (l2 := [aU, aU, aA l2, aI l3, aI l4, aI v0, aI a3]) f36_124 rfl rfl).trans ?_
    refine (x_iload f36_126 rfl rfl).trans ?_
    refine (x_iconst f36_128 rfl).trans ?_
    refine (x_icmp_ne (tg := 135) f36_130 rfl rfl).trans (i_c ?_ ?_)
    · refine (x_iconst f36_133 rfl).trans ?_
      exact x_zreturn0 f36_134 rfl
    · refine (x_aload f36_135 rfl rfl).trans ?_
      refine (x_iload f36_136 rfl rfl).trans ?_
      refine (x_iload f36_137 rfl rfl).trans ?_
      refine (x_iload f36_139 rfl rfl).trans ?_
      refine (x_iload f36_141 rfl rfl).trans ?_
      refine (x_invokevirtual (G := grd (kd l2 = 6) (bnV (sem 88 0 [aA l2, aI l3, aI l4, aI v0, aI a3, aU] [] s2) fun s4 => sem 36 146 [aU, aU, aA l2, aI l3, aI l4, aI v0, aI a3] [] s4)) f36_143 rfl rfl).trans ?_
      refine g_c ?_
      refine bV_c fun s4 => ?_
      refine (x_iconst f36_146 rfl).trans ?_
      exact x_zreturn1 f36_147 rfl
theorem f37_0 : fch 37 0 = some (.aload 2, 1, []) := by decide +kernel
theorem f37_1 : fch 37 1 = some (.invokeinterface 6 4, 4, []) := by decide +kernel
theorem f37_4 : fch 37 4 = some (.iconst 1, 5, []) := by decide +kernel
theorem f37_5 : fch 37 5 = some (.if_icmp .eq 21, 8, []) := by decide +kernel
theorem f37_8 : fch 37 8 = some (.aload 0, 9, []) := by decide +kernel
theorem f37_9 : fch 37 9 = some (.iconst 12, 11, []) := by decide +kernel
theorem f37_11 : fch 37 11 = some (.aload 2, 12, []) := by decide +kernel
theorem f37_12 : fch 37 12 = some (.invokeinterface 6 4, 15, []) := by decide +kernel
theorem f37_15 : fch 37 15 = some (.invokevirtual 43, 18, []) := by decide +kernel
theorem f37_18 : fch 37 18 = some (.ifCond .eq 23, 21, []) := by decide +kernel
theorem f37_21 : fch 37 21 = some (.iconst 0, 22, [0, 1, 2]) := by decide +kernel
theorem f37_22 : fch 37 22 = some (.ireturn, 23, []) := by decide +kernel
theorem f37_23 : fch 37 23 = some (.aload 0, 24, []) := by decide +kernel
theorem f37_24 : fch 37 24 = some (.dup, 25, []) := by decide +kernel
theorem f37_25 : fch 37 25 = some (.invokeinterface 2 1, 28, []) := by decide +kernel
theorem f37_28 : fch 37 28 = some (.iconst 1, 29, []) := by decide +kernel
theorem f37_29 : fch 37 29 = some (.iadd, 30, []) := by decide +kernel
theorem f37_30 : fch 37 30 = some (.multianewarray 2 1, 33, []) := by decide +kernel
theorem f37_33 : fch 37 33 = some (.aload 0, 34, []) := by decide +kernel
theorem f37_34 : fch 37 34 = some (.aload 1, 35, []) := by decide +kernel
theorem f37_35 : fch 37 35 = some (.aload 2, 36, []) := by decide +kernel
theorem f37_36 : fch 37 36 = some (.invokeinterface 6 4, 39, []) := by decide +kernel
theorem f37_39 : fch 37 39 = some (.iconst 1, 40, []) := by decide +kernel
theorem f37_40 : fch 37 40 = some (.isub, 41, []) := by decide +kernel
theorem f37_41 : fch 37 41 = some (.iconst 12, 43, []) := by decide +kernel
theorem f37_43 : fch 37 43 = some (.invokevirtual 41, 46, []) := by decide +kernel
theorem f37_46 : fch 37 46 = some (.istore 3, 47, []) := by decide +kernel
theorem f37_47 : fch 37 47 = some (.iload 3, 48, []) := by decide +kernel
theorem f37_48 : fch 37 48 = some (.iconst (-9), 50, []) := by decide +kernel
theorem f37_50 : fch 37 50 = some (.if_icmp .ne 58, 53, []) := by decide +kernel
theorem f37_53 : fch 37 53 = some (.iconst (-9), 55, []) := by decide +kernel
theorem f37_55 : fch 37 55 = some (.goto 70, 58, []) := by decide +kernel
theorem f37_58 : fch 37 58 = some (.aload 0, 59, []) := by decide +kernel
theorem f37_59 : fch 37 59 = some (.aload 1, 60, []) := by decide +kernel
theorem f37_60 : fch 37 60 = some (.iconst 0, 61, []) := by decide +kernel
theorem f37_61 : fch 37 61 = some (.aload 2, 62, []) := by decide +kernel
theorem f37_62 : fch 37 62 = some (.invokeinterface 6 4, 65, []) := by decide +kernel
theorem f37_65 : fch 37 65 = some (.iconst 1, 66, []) := by decide +kernel
theorem f37_66 : fch 37 66 = some (.isub, 67, []) := by decide +kernel
theorem f37_67 : fch 37 67 = some (.invokevirtual 39, 70, []) := by decide +kernel
theorem f37_70 : fch 37 70 = some (.istore 4, 72, [1]) := by decide +kernel
theorem f37_72 : fch 37 72 = some (.iload 4, 74, []) := by decide +kernel
theorem f37_74 : fch 37 74 = some (.iconst (-9), 76, []) := by decide +kernel
theorem f37_76 : fch 37 76 = some (.if_icmp .eq 85, 79, []) := by decide +kernel
theorem f37_79 : fch 37 79 = some (.iload 4, 81, []) := by decide +kernel
theorem f37_81 : fch 37 81 = some (.iload 3, 82, []) := by decide +kernel
theorem f37_82 : fch 37 82 = some (.if_icmp .ne 87, 85, []) := by decide +kernel
theorem f37_85 : fch 37 85 = some (.iconst 0, 86, [0, 1, 2, 3, 4]) := by decide +kernel
theorem f37_86 : fch 37 86 = some (.ireturn, 87, []) := by decide +kernel
theorem f37_87 : fch 37 87 = some (.aload 0, 88, []) := by decide +kernel
theorem f37_88 : fch 37 88 = some (.dup, 89, []) := by decide +kernel
theorem f37_89 : fch 37 89 = some (.invokeinterface 2 1, 92, []) := by decide +kernel
theorem f37_92 : fch 37 92 = some (.iconst 1, 93, []) := by decide +kernel
theorem f37_93 : fch 37 93 = some (.iadd, 94, []) := by decide +kernel
theorem f37_94 : fch 37 94 = some (.multianewarray 2 1, 97, []) := by decide +kernel
theorem f37_97 : fch 37 97 = some (.aload 2, 98, []) := by decide +kernel
theorem f37_98 : fch 37 98 = some (.iload 3, 99, []) := by decide +kernel
theorem f37_99 : fch 37 99 = some (.iload 4, 101, []) := by decide +kernel
theorem f37_101 : fch 37 101 = some (.invokevirtual 89, 104, []) := by decide +kernel
theorem f37_104 : fch 37 104 = some (.iconst 1, 105, []) := by decide +kernel
theorem f37_105 : fch 37 105 = some (.ireturn, 106, []) := by decide +kernel
set_option maxRecDepth 10000 in
theorem e37_0 (l0 l1 l2 : Int) (s : SG) : sem 37 0 [aA l0, aA l1, aA l2, aU, aU] [] s = grd (kd l2 = 6) (if (s l2 4) = 1 then some (aI 0, s) else grd (kd l2 = 6) (grd (kd l0 = 2) (bnI (sem 43 0 [aA l0, aI 12, aI (s l2 4), aU] [] s) fun a2 s1 => if a2 = 0 then grd (kd l0 = 2) (grd (kd l0 = 2) (grd (kd l2 = 6) (grd (kd l0 = 2) (bnI (sem 41 0 [aA l0, aA l1, aI (w32 (((up s1 l0 1 (w32 ((s1 l0 1) + 1))) l2 4) - 1)), aI 12, aU] [] (up s1 l0 1 (w32 ((s1 l0 1) + 1)))) fun a4 s3 => if a4 = ((-9)) then sem 37 70 [aA l0, aU, aA l2, aI a4, aU] [aI ((-9))] s3 else grd (kd l2 = 6) (grd (kd l0 = 2) (bnI (sem 39 0 [aA l0, aA l1, aI 0, aI (w32 ((s3 l2 4) - 1)), aU] [] s3) fun a6 s5 => sem 37 70 [aA l0, aU, aA l2, aI a4, aU] [aI a6] s5)))))) else some (aI 0, s1)))) := by
  refine (x_aload f37_0 rfl rfl).trans ?_
  refine (x_get0 f37_1 rfl rfl).trans ?_
  refine g_c ?_
  refine (x_iconst f37_4 rfl).trans ?_
  refine (x_icmp_eq (tg := 21) f37_5 rfl rfl).trans (i_c ?_ ?_)
  · refine (x_kil (l2 := [aU, aU, aU, aU, aU]) f37_21 rfl).trans ?_
    refine (x_iconst f37_21 rfl).trans ?_
    exact x_zreturn0 f37_22 rfl
  · refine (x_aload f37_8 rfl rfl).trans ?_
    refine (x_iconst f37_9 rfl).trans ?_
    refine (x_aload f37_11 rfl rfl).trans ?_
    refine (x_get0 f37_12 rfl rfl).trans ?_
    refine g_c ?_
    refine (x_invokevirtual (G := grd (kd l0 = 2) (bnI (sem 43 0 [aA l0, aI 12, aI (s l2 4), aU] [] s) fun a2 s1 => sem 37 18 [aA l0, aA l1, aA l2, aU, aU] [aI a2] s1)) f37_15 rfl rfl).trans ?_
    refine g_c ?_
    refine bI_c fun a2 s1 => ?_
    refine (x_if_eq (tg := 23) f37_18 rfl rfl).trans (i_c ?_ ?_)
    · refine (x_aload f37_23 rfl rfl).trans ?_
      refine (x_dup f37_24 rfl rfl).trans ?_
      refine (x_get0 f37_25 rfl rfl).trans ?_
      refine g_c ?_
      refine (x_iconst f37_28 rfl).trans ?_
      refine (x_iadd f37_29 rfl).trans ?_
      refine (x_put0 f37_30 rfl rfl).trans ?_
      refine g_c ?_
      refine (x_aload f37_33 rfl rfl).trans ?_
      refine (x_aload f37_34 rfl rfl).trans ?_
      refine (x_aload f37_35 rfl rfl).trans ?_
      refine (x_get0 f37_36 rfl rfl).trans ?_
      refine g_c ?_
      refine (x_iconst f37_39 rfl).trans ?_
      refine (x_isub f37_40 rfl).trans ?_
      refine (x_iconst f37_41 rfl).trans ?_
      refine (x_invokevirtual (G := grd (kd l0 = 2) (bnI (sem 41 0 [aA l0, aA l1, aI (w32 (((up s1 l0 1 (w32 ((s1 l0 1) + 1))) l2 4) - 1)), aI 12, aU] [] (up s1 l0 1 (w32 ((s1 l0 1) + 1)))) fun a4 s3 => sem 37 46 [aA l0, aA l1, aA l2, aU, aU] [aI a4] s3)) f37_43 rfl rfl).trans ?_
      refine g_c ?_
      refine bI_c fun a4 s3 => ?_
      refine (x_istore (l2 := [aA l0, aA l1, aA l2, aI a4, aU]) f37_46 rfl rfl).trans ?_
      refine (x_iload f37_47 rfl rfl).trans ?_
      refine (x_iconst f37_48 rfl).trans ?_
      refine (x_icmp_ne (tg := 58) f37_50 rfl rfl).trans (i_c ?_ ?_)
      · refine (x_iconst f37_53 rfl).trans ?_
        refine (x_goto (tg := 70) f37_55 rfl rfl).trans ?_
        exact x_kil f37_70 rfl
      · refine (x_aload f37_58 rfl rfl).trans ?_
        refine (x_aload f37_59 rfl rfl).trans ?_
        refine (x_iconst f37_60 rfl).trans ?_
        refine (x_aload f37_61 rfl rfl).trans ?_
        refine (x_get0 f37_62 rfl rfl).trans ?_
        refine g_c ?_
        refine (x_iconst f37_65 rfl).trans ?_
        refine (x_isub f37_66 rfl).trans ?_
        refine (x_invokevirtual (G := grd (kd l0 = 2) (bnI (sem 39 0 [aA l0, aA l1, aI 0, aI (w32 ((s3 l2 4) - 1)), aU] [] s3) fun a6 s5 => sem 37 70 [aA l0, aA l1, aA l2, aI a4, aU] [aI a6] s5)) f37_67 rfl rfl).trans ?_
        refine g_c ?_
        refine bI_c fun a6 s5 => ?_
        exact x_kil f37_70 rfl
    · refine (x_kil (l2 := [aU, aU, aU, aU, aU]) f37_21 rfl).trans ?_
      refine (x_iconst f37_21 rfl).trans ?_
      exact x_zreturn0 f37_22 rfl
set_option maxRecDepth 10000 in
theorem e37_70 (l0 l2 l3 v0 : Int) (s : SG) : sem 37 70 [aA l0, aU, aA l2, aI l3, aU] [aI v0] s = if v0 = ((-9)) then some (aI 0, s) else if v0 = l3 then some (aI 0, s) else grd (kd l0 = 2) (grd (kd l0 = 2) (grd (kd l2 = 6) (bnV (sem 89 0 [aA l2, aI l3, aI v0] [] (up s l0 1 (w32 ((s l0 1) + 1)))) fun s1 => some (aI 1, s1)))) := by
  refine (x_istore (l2 := [aA l0, aU, aA l2, aI l3, aI v0]) f37_70 rfl rfl).trans ?_
  refine (x_iload f37_72 rfl rfl).trans ?_
  refine (x_iconst f37_74 rfl).trans ?_
  refine (x_icmp_eq (tg := 85) f37_76 rfl rfl).trans (i_c ?_ ?_)
  · refine (x_kil (l2 := [aU, aU, aU, aU, aU]) f37_85 rfl).trans ?_
    refine (x_iconst f37_85 rfl).trans ?_
    exact x_zreturn0 f37_86 rfl
  · refine (x_iload f37_79 rfl rfl).trans ?_
    refine (x_iload f37_81 rfl rfl).trans ?_
    refine (x_icmp_ne (tg := 87) f37_82 rfl rfl).trans (i_c ?_ ?_)
    · refine (x_kil (l2 := [aU, aU, aU, aU, aU]) f37_85 rfl).trans ?_
      refine (x_iconst f37_85 rfl).trans ?_
      exact x_zreturn0 f37_86 rfl
    · refine (x_aload f37_87 rfl rfl).trans ?_
      refine (x_dup f37_88 rfl rfl).trans ?_
      refine (x_get0 f37_89 rfl rfl).trans ?_
      refine g_c ?_
      refine (x_iconst f37_92 rfl).trans ?_
      refine (x_iadd f37_93 rfl).trans ?_
      refine (x_put0 f37_94 rfl rfl).trans ?_
      refine g_c ?_
      refine (x_aload f37_97 rfl rfl).trans ?_
      refine (x_iload f37_98 rfl rfl).trans ?_
      refine (x_iload f37_99 rfl rfl).trans ?_
      refine (x_invokevirtual (G := grd (kd l2 = 6) (bnV (sem 89 0 [aA l2, aI l3, aI v0] [] (up s l0 1 (w32 ((s l0 1) + 1)))) fun s1 => sem 37 104 [aA l0, aU, aA l2, aI l3, aI v0] [] s1)) f37_101 rfl rfl).trans ?_
      refine g_c ?_
      refine bV_c fun s1 => ?_
      refine (x_iconst f37_104 rfl).trans ?_
      exact x_zreturn1 f37_105 rfl
theorem f38_0 : fch 38 0 = some (.aload 0, 1, []) := by decide +kernel
theorem f38_1 : fch 38 1 = some (.iload 3, 2, []) := by decide +kernel
theorem f38_2 : fch 38 2 = some (.invokevirtual 42, 5, []) := by decide +kernel
theorem f38_5 : fch 38 5 = some (.ifCond .ne 10, 8, []) := by decide +kernel
theorem f38_8 : fch 38 8 = some (.iconst 0, 9, []) := by decide +kernel
theorem f38_9 : fch 38 9 = some (.ireturn, 10, []) := by decide +kernel
theorem f38_10 : fch 38 10 = some (.aload 0, 11, []) := by decide +kernel
theorem f38_11 : fch 38 11 = some (.dup, 12, []) := by decide +kernel
theorem f38_12 : fch 38 12 = some (.invokeinterface 2 1, 15, []) := by decide +kernel
theorem f38_15 : fch 38 15 = some (.iconst 1, 16, []) := by decide +kernel
theorem f38_16 : fch 38 16 = some (.iadd, 17, []) := by decide +kernel
theorem f38_17 : fch 38 17 = some (.multianewarray 2 1, 20, []) := by decide +kernel
theorem f38_20 : fch 38 20 = some (.aload 0, 21, []) := by decide +kernel
theorem f38_21 : fch 38 21 = some (.aload 1, 22, []) := by decide +kernel
theorem f38_22 : fch 38 22 = some (.iconst 0, 23, []) := by decide +kernel
theorem f38_23 : fch 38 23 = some (.iconst 9, 25, []) := by decide +kernel
theorem f38_25 : fch 38 25 = some (.invokevirtual 40, 28, []) := by decide +kernel
theorem f38_28 : fch 38 28 = some (.istore 4, 30, []) := by decide +kernel
theorem f38_30 : fch 38 30 = some (.iload 4, 32, []) := by decide +kernel
theorem f38_32 : fch 38 32 = some (.iconst (-9), 34, []) := by decide +kernel
theorem f38_34 : fch 38 34 = some (.if_icmp .ne 42, 37, []) := by decide +kernel
theorem f38_37 : fch 38 37 = some (.iconst (-9), 39, []) := by decide +kernel
theorem f38_39 : fch 38 39 = some (.goto 50, 42, []) := by decide +kernel
theorem f38_42 : fch 38 42 = some (.aload 0, 43, []) := by decide +kernel
theorem f38_43 : fch 38 43 = some (.aload 1, 44, []) := by decide +kernel
theorem f38_44 : fch 38 44 = some (.iconst 0, 45, []) := by decide +kernel
theorem f38_45 : fch 38 45 = some (.iconst 9, 47, []) := by decide +kernel
theorem f38_47 : fch 38 47 = some (.invokevirtual 40, 50, []) := by decide +kernel
theorem f38_50 : fch 38 50 = some (.istore 5, 52, [0, 1]) := by decide +kernel
theorem f38_52 : fch 38 52 = some (.iload 5, 54, []) := by decide +kernel
theorem f38_54 : fch 38 54 = some (.iconst (-9), 56, []) := by decide +kernel
theorem f38_56 : fch 38 56 = some (.if_icmp .ne 61, 59, []) := by decide +kernel
theorem f38_59 : fch 38 59 = some (.iconst 0, 60, []) := by decide +kernel
theorem f38_60 : fch 38 60 = some (.ireturn, 61, []) := by decide +kernel
theorem f38_61 : fch 38 61 = some (.iload 4, 63, []) := by decide +kernel
theorem f38_63 : fch 38 63 = some (.iconst 10, 65, []) := by decide +kernel
theorem f38_65 : fch 38 65 = some (.imul, 66, []) := by decide +kernel
theorem f38_66 : fch 38 66 = some (.iload 5, 68, []) := by decide +kernel
theorem f38_68 : fch 38 68 = some (.iadd, 69, []) := by decide +kernel
theorem f38_69 : fch 38 69 = some (.istore 6, 71, []) := by decide +kernel
theorem f38_71 : fch 38 71 = some (.iload 3, 72, []) := by decide +kernel
theorem f38_72 : fch 38 72 = some (.iconst 15, 74, []) := by decide +kernel
theorem f38_74 : fch 38 74 = some (.if_icmp .ne 86, 77, []) := by decide +kernel
theorem f38_77 : fch 38 77 = some (.aload 2, 78, []) := by decide +kernel
theorem f38_78 : fch 38 78 = some (.iload 6, 80, []) := by decide +kernel
theorem f38_80 : fch 38 80 = some (.multianewarray 6 5, 83, []) := by decide +kernel
theorem f38_83 : fch 38 83 = some (.goto 107, 86, []) := by decide +kernel
theorem f38_86 : fch 38 86 = some (.iload 3, 87, []) := by decide +kernel
theorem f38_87 : fch 38 87 = some (.iconst 16, 89, []) := by decide +kernel
theorem f38_89 : fch 38 89 = some (.if_icmp .ne 101, 92, []) := by decide +kernel
theorem f38_92 : fch 38 92 = some (.aload 2, 93, []) := by decide +kernel
theorem f38_93 : fch 38 93 = some (.iload 6, 95, []) := by decide +kernel
theorem f38_95 : fch 38 95 = some (.multianewarray 6 6, 98, []) := by decide +kernel
theorem f38_98 : fch 38 98 = some (.goto 107, 101, []) := by decide +kernel
theorem f38_101 : fch 38 101 = some (.aload 2, 102, []) := by decide +kernel
theorem f38_102 : fch 38 102 = some (.iload 6, 104, []) := by decide +kernel
theorem f38_104 : fch 38 104 = some (.multianewarray 6 7, 107, []) := by decide +kernel
theorem f38_107 : fch 38 107 = some (.iconst 1, 108, [0, 1, 2, 3, 4, 5, 6]) := by decide +kernel
theorem f38_108 : fch 38 108 = some (.ireturn, 109, []) := by decide +kernel
set_option maxRecDepth 10000 in
theorem e38_0 (l0 l1 l2 l3 : Int) (s : SG) : sem 38 0 [aA l0, aA l1, aA l2, aI l3, aU, aU, aU] [] s = grd (kd l0 = 2) (bnI (sem 42 0 [aA l0, aI l3] [] s) fun a2 s1 => if a2 = 0 then some (aI 0, s1) else grd (kd l0 = 2) (grd (kd l0 = 2) (grd (kd l0 = 2) (bnI (sem 40 0 [aA l0, aA l1, aI 0, aI 9, aU] [] (up s1 l0 1 (w32 ((s1 l0 1) + 1)))) fun a4 s3 => if a4 = ((-9)) then sem 38 50 [aU, aU, aA l2, aI l3, aI a4, aU, aU] [aI ((-9))] s3 else grd (kd l0 = 2) (bnI (sem 40 0 [aA l0, aA l1, aI 0, aI 9, aU] [] s3) fun a6 s5 => sem 38 50 [aU, aU, aA l2, aI l3, aI a4, aU, aU] [aI a6] s5))))) := by
  refine (x_aload f38_0 rfl rfl).trans ?_
  refine (x_iload f38_1 rfl rfl).trans ?_
  refine (x_invokevirtual (G := grd (kd l0 = 2) (bnI (sem 42 0 [aA l0, aI l3] [] s) fun a2 s1 => sem 38 5 [aA l0, aA l1, aA l2, aI l3, aU, aU, aU] [aI a2] s1)) f38_2 rfl rfl).trans ?_
  refine g_c ?_
  refine bI_c fun a2 s1 => ?_
  refine (x_if_ne (tg := 10) f38_5 rfl rfl).trans (i_c ?_ ?_)
  · refine (x_iconst f38_8 rfl).trans ?_
    exact x_zreturn0 f38_9 rfl
  · refine (x_aload f38_10 rfl rfl).trans ?_
    refine (x_dup f38_11 rfl rfl).trans ?_
    refine (x_get0 f38_12 rfl rfl).trans ?_
    refine g_c ?_
    refine (x_iconst f38_15 rfl).trans ?_
    refine (x_iadd f38_16 rfl).trans ?_
    refine (x_put0 f38_17 rfl rfl).trans ?_
    refine g_c ?_
    refine (x_aload f38_20 rfl rfl).trans ?_
    refine (x_aload f38_21 rfl rfl).trans ?_
    refine (x_iconst f38_22 rfl).trans ?_
    refine (x_iconst f38_23 rfl).trans ?_
    refine (x_invokevirtual (G := grd (kd l0 = 2) (bnI (sem 40 0 [aA l0, aA l1, aI 0, aI 9, aU] [] (up s1 l0 1 (w32 ((s1 l0 1) + 1)))) fun a4 s3 => sem 38 28 [aA l0, aA l1, aA l2, aI l3, aU, aU, aU] [aI a4] s3)) f38_25 rfl rfl).trans ?_
    refine g_c ?_
    refine bI_c fun a4 s3 => ?_
    refine (x_istore (l2 := [aA l0, aA l1, aA l2, aI l3, aI a4, aU, aU]) f38_28 rfl rfl).trans ?_
    refine (x_iload f38_30 rfl rfl).trans ?_
    refine (x_iconst f38_32 rfl).trans ?_
    refine (x_icmp_ne (tg := 42) f38_34 rfl rfl).trans (i_c ?_ ?_)
    · refine (x_iconst f38_37 rfl).trans ?_
      refine (x_goto (tg := 50) f38_39 rfl rfl).trans ?_
      exact x_kil f38_50 rfl
    · refine (x_aload f38_42 rfl rfl).trans ?_
      refine (x_aload f38_43 rfl rfl).trans ?_
      refine (x_iconst f38_44 rfl).trans ?_
      refine (x_iconst f38_45 rfl).trans ?_
      refine (x_invokevirtual (G := grd (kd l0 = 2) (bnI (sem 40 0 [aA l0, aA l1, aI 0, aI 9, aU] [] s3) fun a6 s5 => sem 38 50 [aA l0, aA l1, aA l2, aI l3, aI a4, aU, aU] [aI a6] s5)) f38_47 rfl rfl).trans ?_
      refine g_c ?_
      refine bI_c fun a6 s5 => ?_
      exact x_kil f38_50 rfl
set_option maxRecDepth 10000 in
theorem e38_50 (l2 l3 l4 v0 : Int) (s : SG) : sem 38 50 [aU, aU, aA l2, aI l3, aI l4, aU, aU] [aI v0] s = if v0 = ((-9)) then some (aI 0, s) else if l3 = 15 then grd (kd l2 = 6) (some (aI 1, up s l2 5 (w32 ((w32 (l4 * 10)) + v0)))) else if l3 = 16 then grd (kd l2 = 6) (some (aI 1, up s l2 6 (w32 ((w32 (l4 * 10)) + v0)))) else grd (kd l2 = 6) (some (aI 1, up s l2 7 (w32 ((w32 (l4 * 10)) + v0)))) := by
  refine (x_istore (l2 := [aU, aU, aA l2, aI l3, aI l4, aI v0, aU]) f38_50 rfl rfl).trans ?_
  refine (x_iload f38_52 rfl rfl).trans ?_
  refine (x_iconst f38_54 rfl).trans ?_
  refine (x_icmp_ne (tg := 61) f38_56 rfl rfl).trans (i_c ?_ ?_)
  · refine (x_iconst f38_59 rfl).trans ?_
    exact x_zreturn0 f38_60 rfl
  · refine (x_iload f38_61 rfl rfl).trans ?_
    refine (x_iconst f38_63 rfl).trans ?_
    refine (x_imul f38_65 rfl).trans ?_
    refine (x_iload f38_66 rfl rfl).trans ?_
    refine (x_iadd f38_68 rfl).trans ?_
    refine (x_istore (l2 := [aU, aU, aA l2, aI l3, aI l4, aI v0, aI (w32 ((w32 (l4 * 10)) + v0))]) f38_69 rfl rfl).trans ?_
    refine (x_iload f38_71 rfl rfl).trans ?_
    refine (x_iconst f38_72 rfl).trans ?_
    refine (x_icmp_ne (tg := 86) f38_74 rfl rfl).trans (i_c ?_ ?_)
    · refine (x_aload f38_77 rfl rfl).trans ?_
      refine (x_iload f38_78 rfl rfl).trans ?_
      refine (x_put0 f38_80 rfl rfl).trans ?_
      refine g_c ?_
      refine (x_goto (tg := 107) f38_83 rfl rfl).trans ?_
      refine (x_kil (l2 := [aU, aU, aU, aU, aU, aU, aU]) f38_107 rfl).trans ?_
      refine (x_iconst f38_107 rfl).trans ?_
      exact x_zreturn1 f38_108 rfl
    · refine (x_iload f38_86 rfl rfl).trans ?_
      refine (x_iconst f38_87 rfl).trans ?_
      refine (x_icmp_ne (tg := 101) f38_89 rfl rfl).trans (i_c ?_ ?_)
      · refine (x_aload f38_92 rfl rfl).trans ?_
        refine (x_iload f38_93 rfl rfl).trans ?_
        refine (x_put0 f38_95 rfl rfl).trans ?_
        refine g_c ?_
        refine (x_goto (tg := 107) f38_98 rfl rfl).trans ?_
        refine (x_kil (l2 := [aU, aU, aU, aU, aU, aU, aU]) f38_107 rfl).trans ?_
        refine (x_iconst f38_107 rfl).trans ?_
        exact x_zreturn1 f38_108 rfl
      · refine (x_aload f38_101 rfl rfl).trans ?_
        refine (x_iload f38_102 rfl rfl).trans ?_
        refine (x_put0 f38_104 rfl rfl).trans ?_
        refine g_c ?_
        refine (x_kil (l2 := [aU, aU, aU, aU, aU, aU, aU]) f38_107 rfl).trans ?_
        refine (x_iconst f38_107 rfl).trans ?_
        exact x_zreturn1 f38_108 rfl
theorem f39_0 : fch 39 0 = some (.aload 1, 1, []) := by decide +kernel
theorem f39_1 : fch 39 1 = some (.aload 0, 2, []) := by decide +kernel
theorem f39_2 : fch 39 2 = some (.invokeinterface 2 1, 5, []) := by decide +kernel
theorem f39_5 : fch 39 5 = some (.invokevirtual 79, 8, []) := by decide +kernel
theorem f39_8 : fch 39 8 = some (.iconst 48, 10, []) := by decide +kernel
theorem f39_10 : fch 39 10 = some (.isub, 11, []) := by decide +kernel
theorem f39_11 : fch 39 11 = some (.istore 4, 13, []) := by decide +kernel
theorem f39_13 : fch 39 13 = some (.iload 4, 15, []) := by decide +kernel
theorem f39_15 : fch 39 15 = some (.iload 2, 16, []) := by decide +kernel
theorem f39_16 : fch 39 16 = some (.if_icmp .lt 25, 19, []) := by decide +kernel
theorem f39_19 : fch 39 19 = some (.iload 4, 21, []) := by decide +kernel
theorem f39_21 : fch 39 21 = some (.iload 3, 22, []) := by decide +kernel
theorem f39_22 : fch 39 22 = some (.if_icmp .le 30, 25, []) := by decide +kernel
theorem f39_25 : fch 39 25 = some (.iconst (-9), 27, [0, 1, 2, 3, 4]) := by decide +kernel
theorem f39_27 : fch 39 27 = some (.goto 32, 30, []) := by decide +kernel
theorem f39_30 : fch 39 30 = some (.iload 4, 32, []) := by decide +kernel
theorem f39_32 : fch 39 32 = some (.ireturn, 33, [0, 1, 2, 3, 4]) := by decide +kernel
set_option maxRecDepth 10000 in
theorem e39_0 (l0 l1 l2 l3 : Int) (s : SG) : sem 39 0 [aA l0, aA l1, aI l2, aI l3, aU] [] s = grd (kd l0 = 2) (grd (kd l1 = 5) (bnI (sem 79 0 [aA l1, aI (s l0 1)] [] s) fun a2 s1 => if (w32 (a2 - 48)) < l2 then some (aI ((-9)), s1) else if l3 < (w32 (a2 - 48)) then some (aI ((-9)), s1) else some (aI (w32 (a2 - 48)), s1))) := by
  refine (x_aload f39_0 rfl rfl).trans ?_
  refine (x_aload f39_1 rfl rfl).trans ?_
  refine (x_get0 f39_2 rfl rfl).trans ?_
  refine g_c ?_
  refine (x_invokevirtual (G := grd (kd l1 = 5) (bnI (sem 79 0 [aA l1, aI (s l0 1)] [] s) fun a2 s1 => sem 39 8 [aA l0, aA l1, aI l2, aI l3, aU] [aI a2] s1)) f39_5 rfl rfl).trans ?_
  refine g_c ?_
  refine bI_c fun a2 s1 => ?_
  refine (x_iconst f39_8 rfl).trans ?_
  refine (x_isub f39_10 rfl).trans ?_
  refine (x_istore (l2 := [aA l0, aA l1, aI l2, aI l3, aI (w32 (a2 - 48))]) f39_11 rfl rfl).trans ?_
  refine (x_iload f39_13 rfl rfl).trans ?_
  refine (x_iload f39_15 rfl rfl).trans ?_
  refine (x_icmp_lt (tg := 25) f39_16 rfl rfl).trans (i_c ?_ ?_)
  · refine (x_kil (l2 := [aU, aU, aU, aU, aU]) f39_25 rfl).trans ?_
    refine (x_iconst f39_25 rfl).trans ?_
    refine (x_goto (tg := 32) f39_27 rfl rfl).trans ?_
    exact x_ireturn f39_32 rfl
  · refine (x_iload f39_19 rfl rfl).trans ?_
    refine (x_iload f39_21 rfl rfl).trans ?_
    refine (x_icmp_le (tg := 30) f39_22 rfl rfl).trans (i_c ?_ ?_)
    · refine (x_kil (l2 := [aU, aU, aU, aU, aU]) f39_25 rfl).trans ?_
      refine (x_iconst f39_25 rfl).trans ?_
      refine (x_goto (tg := 32) f39_27 rfl rfl).trans ?_
      exact x_ireturn f39_32 rfl
    · refine (x_iload f39_30 rfl rfl).trans ?_
      refine (x_kil (l2 := [aU, aU, aU, aU, aU]) f39_32 rfl).trans ?_
      exact x_ireturn f39_32 rfl
theorem f40_0 : fch 40 0 = some (.aload 0, 1, []) := by decide +kernel
theorem f40_1 : fch 40 1 = some (.aload 1, 2, []) := by decide +kernel
theorem f40_2 : fch 40 2 = some (.iload 2, 3, []) := by decide +kernel
theorem f40_3 : fch 40 3 = some (.iload 3, 4, []) := by decide +kernel
theorem f40_4 : fch 40 4 = some (.invokevirtual 39, 7, []) := by decide +kernel
theorem f40_7 : fch 40 7 = some (.istore 4, 9, []) := by decide +kernel
theorem f40_9 : fch 40 9 = some (.iload 4, 11, []) := by decide +kernel
theorem f40_11 : fch 40 11 = some (.iconst (-9), 13, []) := by decide +kernel
theorem f40_13 : fch 40 13 = some (.if_icmp .eq 26, 16, []) := by decide +kernel
theorem f40_16 : fch 40 16 = some (.aload 0, 17, []) := by decide +kernel
theorem f40_17 : fch 40 17 = some (.dup, 18, []) := by decide +kernel
theorem f40_18 : fch 40 18 = some (.invokeinterface 2 1, 21, []) := by decide +kernel
theorem f40_21 : fch 40 21 = some (.iconst 1, 22, []) := by decide +kernel
theorem f40_22 : fch 40 22 = some (.iadd, 23, []) := by decide +kernel
theorem f40_23 : fch 40 23 = some (.multianewarray 2 1, 26, []) := by decide +kernel
theorem f40_26 : fch 40 26 = some (.iload 4, 28, [0, 1, 2, 3]) := by decide +kernel
theorem f40_28 : fch 40 28 = some (.ireturn, 29, []) := by decide +kernel
set_option maxRecDepth 10000 in
theorem e40_0 (l0 l1 l2 l3 : Int) (s : SG) : sem 40 0 [aA l0, aA l1, aI l2, aI l3, aU] [] s = grd (kd l0 = 2) (bnI (sem 39 0 [aA l0, aA l1, aI l2, aI l3, aU] [] s) fun a2 s1 => if a2 = ((-9)) then some (aI a2, s1) else grd (kd l0 = 2) (grd (kd l0 = 2) (some (aI a2, up s1 l0 1 (w32 ((s1 l0 1) + 1)))))) := by
  refine (x_aload f40_0 rfl rfl).trans ?_
  refine (x_aload f40_1 rfl rfl).trans ?_
  refine (x_iload f40_2 rfl rfl).trans ?_
  refine (x_iload f40_3 rfl rfl).trans ?_
  refine (x_invokevirtual (G := grd (kd l0 = 2) (bnI (sem 39 0 [aA l0, aA l1, aI l2, aI l3, aU] [] s) fun a2 s1 => sem 40 7 [aA l0, aA l1, aI l2, aI l3, aU] [aI a2] s1)) f40_4 rfl rfl).trans ?_
  refine g_c ?_
  refine bI_c fun a2 s1 => ?_
  refine (x_istore (l2 := [aA l0, aA l1, aI l2, aI l3, aI a2]) f40_7 rfl rfl).trans ?_
  refine (x_iload f40_9 rfl rfl).trans ?_
  refine (x_iconst f40_11 rfl).trans ?_
  refine (x_icmp_eq (tg := 26) f40_13 rfl rfl).trans (i_c ?_ ?_)
  · refine (x_kil (l2 := [aU, aU, aU, aU, aI a2]) f40_26 rfl).trans ?_
    refine (x_iload f40_26 rfl rfl).trans ?_
    exact x_ireturn f40_28 rfl
  · refine (x_aload f40_16 rfl rfl).trans ?_
    refine (x_dup f40_17 rfl rfl).trans ?_
    refine (x_get0 f40_18 rfl rfl).trans ?_
    refine g_c ?_
    refine (x_iconst f40_21 rfl).trans ?_
    refine (x_iadd f40_22 rfl).trans ?_
    refine (x_put0 f40_23 rfl rfl).trans ?_
    refine g_c ?_
    refine (x_kil (l2 := [aU, aU, aU, aU, aI a2]) f40_26 rfl).trans ?_
    refine (x_iload f40_26 rfl rfl).trans ?_
    exact x_ireturn f40_28 rfl
theorem f41_0 : fch 41 0 = some (.aload 0, 1, []) := by decide +kernel
theorem f41_1 : fch 41 1 = some (.aload 1, 2, []) := by decide +kernel
theorem f41_2 : fch 41 2 = some (.iconst 0, 3, []) := by decide +kernel
theorem f41_3 : fch 41 3 = some (.iload 2, 4, []) := by decide +kernel
theorem f41_4 : fch 41 4 = some (.invokevirtual 39, 7, []) := by decide +kernel
theorem f41_7 : fch 41 7 = some (.istore 4, 9, []) := by decide +kernel
theorem f41_9 : fch 41 9 = some (.iload 4, 11, []) := by decide +kernel
theorem f41_11 : fch 41 11 = some (.iconst (-9), 13, []) := by decide +kernel
theorem f41_13 : fch 41 13 = some (.if_icmp .eq 27, 16, []) := by decide +kernel
theorem f41_16 : fch 41 16 = some (.aload 0, 17, []) := by decide +kernel
theorem f41_17 : fch 41 17 = some (.iload 3, 18, []) := by decide +kernel
theorem f41_18 : fch 41 18 = some (.iload 4, 20, []) := by decide +kernel
theorem f41_20 : fch 41 20 = some (.iadd, 21, []) := by decide +kernel
theorem f41_21 : fch 41 21 = some (.invokevirtual 42, 24, []) := by decide +kernel
theorem f41_24 : fch 41 24 = some (.ifCond .ne 30, 27, []) := by decide +kernel
theorem f41_27 : fch 41 27 = some (.iconst (-9), 29, [0, 1, 2, 3, 4]) := by decide +kernel
theorem f41_29 : fch 41 29 = some (.ireturn, 30, []) := by decide +kernel
theorem f41_30 : fch 41 30 = some (.aload 0, 31, []) := by decide +kernel
theorem f41_31 : fch 41 31 = some (.dup, 32, []) := by decide +kernel
theorem f41_32 : fch 41 32 = some (.invokeinterface 2 1, 35, []) := by decide +kernel
theorem f41_35 : fch 41 35 = some (.iconst 1, 36, []) := by decide +kernel
theorem f41_36 : fch 41 36 = some (.iadd, 37, []) := by decide +kernel
theorem f41_37 : fch 41 37 = some (.multianewarray 2 1, 40, []) := by decide +kernel
theorem f41_40 : fch 41 40 = some (.iload 4, 42, []) := by decide +kernel
theorem f41_42 : fch 41 42 = some (.ireturn, 43, []) := by decide +kernel
set_option maxRecDepth 10000 in
theorem e41_0 (l0 l1 l2 l3 : Int) (s : SG) : sem 41 0 [aA l0, aA l1, aI l2, aI l3, aU] [] s = grd (kd l0 = 2) (bnI (sem 39 0 [aA l0, aA l1, aI 0, aI l2, aU] [] s) fun a2 s1 => if a2 = ((-9)) then some (aI ((-9)), s1) else grd (kd l0 = 2) (bnI (sem 42 0 [aA l0, aI (w32 (l3 + a2))] [] s1) fun a4 s3 => if a4 = 0 then some (aI ((-9)), s3) else grd (kd l0 = 2) (grd (kd l0 = 2) (some (aI a2, up s3 l0 1 (w32 ((s3 l0 1) + 1))))))) := by
  refine (x_aload f41_0 rfl rfl).trans ?_
  refine (x_aload f41_1 rfl rfl).trans ?_
  refine (x_iconst f41_2 rfl).trans ?_
  refine (x_iload f41_3 rfl rfl).trans ?_
  refine (x_invokevirtual (G := grd (kd l0 = 2) (bnI (sem 39 0 [aA l0, aA l1, aI 0, aI l2, aU] [] s) fun a2 s1 => sem 41 7 [aA l0, aA l1, aI l2, aI l3, aU] [aI a2] s1)) f41_4 rfl rfl).trans ?_
  refine g_c ?_
  refine bI_c fun a2 s1 => ?_
  refine (x_istore (l2 := [aA l0, aA l1, aI l2, aI l3, aI a2]) f41_7 rfl rfl).trans ?_
  refine (x_iload f41_9 rfl rfl).trans ?_
  refine (x_iconst f41_11 rfl).trans ?_
  refine (x_icmp_eq (tg := 27) f41_13 rfl rfl).trans (i_c ?_ ?_)
  · refine (x_kil (l2 := [aU, aU, aU, aU, aU]) f41_27 rfl).trans ?_
    refine (x_iconst f41_27 rfl).trans ?_
    exact x_ireturn f41_29 rfl
  · refine (x_aload f41_16 rfl rfl).trans ?_
    refine (x_iload f41_17 rfl rfl).trans ?_
    refine (x_iload f41_18 rfl rfl).trans ?_
    refine (x_iadd f41_20 rfl).trans ?_
    refine (x_invokevirtual (G := grd (kd l0 = 2) (bnI (sem 42 0 [aA l0, aI (w32 (l3 + a2))] [] s1) fun a4 s3 => sem 41 24 [aA l0, aA l1, aI l2, aI l3, aI a2] [aI a4] s3)) f41_21 rfl rfl).trans ?_
    refine g_c ?_
    refine bI_c fun a4 s3 => ?_
    refine (x_if_ne (tg := 30) f41_24 rfl rfl).trans (i_c ?_ ?_)
    · refine (x_kil (l2 := [aU, aU, aU, aU, aU]) f41_27 rfl).trans ?_
      refine (x_iconst f41_27 rfl).trans ?_
      exact x_ireturn f41_29 rfl
    · refine (x_aload f41_30 rfl rfl).trans ?_
      refine (x_dup f41_31 rfl rfl).trans ?_
      refine (x_get0 f41_32 rfl rfl).trans ?_
      refine g_c ?_
      refine (x_iconst f41_35 rfl).trans ?_
      refine (x_iadd f41_36 rfl).trans ?_
      refine (x_put0 f41_37 rfl rfl).trans ?_
      refine g_c ?_
      refine (x_iload f41_40 rfl rfl).trans ?_
      exact x_ireturn f41_42 rfl
theorem f42_0 : fch 42 0 = some (.iload 1, 1, []) := by decide +kernel
theorem f42_1 : fch 42 1 = some (.ifCond .lt 19, 4, []) := by decide +kernel
theorem f42_4 : fch 42 4 = some (.iload 1, 5, []) := by decide +kernel
theorem f42_5 : fch 42 5 = some (.iconst 18, 7, []) := by decide +kernel
theorem f42_7 : fch 42 7 = some (.if_icmp .ge 19, 10, []) := by decide +kernel
theorem f42_10 : fch 42 10 = some (.aload 0, 11, []) := by decide +kernel
theorem f42_11 : fch 42 11 = some (.invokeinterface 2 0, 14, []) := by decide +kernel
theorem f42_14 : fch 42 14 = some (.iload 1, 15, []) := by decide +kernel
theorem f42_15 : fch 42 15 = some (.baload, 16, []) := by decide +kernel
theorem f42_16 : fch 42 16 = some (.ifCond .eq 21, 19, []) := by decide +kernel
theorem f42_19 : fch 42 19 = some (.iconst 0, 20, [0, 1]) := by decide +kernel
theorem f42_20 : fch 42 20 = some (.ireturn, 21, []) := by decide +kernel
theorem f42_21 : fch 42 21 = some (.aload 0, 22, []) := by decide +kernel
theorem f42_22 : fch 42 22 = some (.invokeinterface 2 0, 25, []) := by decide +kernel
theorem f42_25 : fch 42 25 = some (.iload 1, 26, []) := by decide +kernel
theorem f42_26 : fch 42 26 = some (.iconst 1, 27, []) := by decide +kernel
theorem f42_27 : fch 42 27 = some (.bastore, 28, []) := by decide +kernel
theorem f42_28 : fch 42 28 = some (.iconst 1, 29, []) := by decide +kernel
theorem f42_29 : fch 42 29 = some (.ireturn, 30, []) := by decide +kernel
set_option maxRecDepth 10000 in
theorem e42_0 (l0 l1 : Int) (s : SG) : sem 42 0 [aA l0, aI l1] [] s = if l1 < 0 then some (aI 0, s) else if l1 < 18 then grd (kd l0 = 2) (grd (0 ≤ s l0 0) (grd (kd (s l0 0) = 102) (grd ((0 : Int) ≤ l1 ∧ l1 < kl (s l0 0)) (if (s (s l0 0) l1) = 0 then grd (kd l0 = 2) (grd (0 ≤ s l0 0) (grd (kd (s l0 0) = 102) (grd ((0 : Int) ≤ l1 ∧ l1 < kl (s l0 0)) (grd ((1 : Int) = 0 ∨ (1 : Int) = 1) (some (aI 1, up s (s l0 0) l1 1)))))) else some (aI 0, s))))) else some (aI 0, s) := by
  refine (x_iload f42_0 rfl rfl).trans ?_
  refine (x_if_lt (tg := 19) f42_1 rfl rfl).trans (i_c ?_ ?_)
  · refine (x_kil (l2 := [aU, aU]) f42_19 rfl).trans ?_
    refine (x_iconst f42_19 rfl).trans ?_
    exact x_zreturn0 f42_20 rfl
  · refine (x_iload f42_4 rfl rfl).trans ?_
    refine (x_iconst f42_5 rfl).trans ?_
    refine (x_icmp_ge (tg := 19) f42_7 rfl rfl).trans (i_c ?_ ?_)
    · refine (x_aload f42_10 rfl rfl).trans ?_
      refine (x_get2 f42_11 rfl rfl).trans ?_
      refine g_c ?_
      refine g_c ?_
      refine (x_iload f42_14 rfl rfl).trans ?_
      refine (x_baload f42_15 rfl).trans ?_
      refine g_c ?_
      refine g_c ?_
      refine (x_if_eq (tg := 21) f42_16 rfl rfl).trans (i_c ?_ ?_)
      · refine (x_aload f42_21 rfl rfl).trans ?_
        refine (x_get2 f42_22 rfl rfl).trans ?_
        refine g_c ?_
        refine g_c ?_
        refine (x_iload f42_25 rfl rfl).trans ?_
        refine (x_iconst f42_26 rfl).trans ?_
        refine (x_bastore f42_27 rfl).trans ?_
        refine g_c ?_
        refine g_c ?_
        refine g_c ?_
        refine (x_iconst f42_28 rfl).trans ?_
        exact x_zreturn1 f42_29 rfl
      · refine (x_kil (l2 := [aU, aU]) f42_19 rfl).trans ?_
        refine (x_iconst f42_19 rfl).trans ?_
        exact x_zreturn0 f42_20 rfl
    · refine (x_kil (l2 := [aU, aU]) f42_19 rfl).trans ?_
      refine (x_iconst f42_19 rfl).trans ?_
      exact x_zreturn0 f42_20 rfl
theorem f43_0 : fch 43 0 = some (.iload 1, 1, []) := by decide +kernel
theorem f43_1 : fch 43 1 = some (.iconst 0, 2, []) := by decide +kernel
theorem f43_2 : fch 43 2 = some (.fadd, 5, []) := by decide +kernel
theorem f43_5 : fch 43 5 = some (.istore 3, 6, []) := by decide +kernel
theorem f43_6 : fch 43 6 = some (.iload 3, 7, []) := by decide +kernel
theorem f43_7 : fch 43 7 = some (.iload 1, 8, []) := by decide +kernel
theorem f43_8 : fch 43 8 = some (.iload 2, 9, []) := by decide +kernel
theorem f43_9 : fch 43 9 = some (.iadd, 10, []) := by decide +kernel
theorem f43_10 : fch 43 10 = some (.if_icmp .ge 36, 13, []) := by decide +kernel
theorem f43_13 : fch 43 13 = some (.iload 3, 14, []) := by decide +kernel
theorem f43_14 : fch 43 14 = some (.iconst 18, 16, []) := by decide +kernel
theorem f43_16 : fch 43 16 = some (.if_icmp .ge 36, 19, []) := by decide +kernel
theorem f43_19 : fch 43 19 = some (.aload 0, 20, []) := by decide +kernel
theorem f43_20 : fch 43 20 = some (.invokeinterface 2 0, 23, []) := by decide +kernel
theorem f43_23 : fch 43 23 = some (.iload 3, 24, []) := by decide +kernel
theorem f43_24 : fch 43 24 = some (.baload, 25, []) := by decide +kernel
theorem f43_25 : fch 43 25 = some (.ifCond .ne 30, 28, []) := by decide +kernel
theorem f43_28 : fch 43 28 = some (.iconst 0, 29, []) := by decide +kernel
theorem f43_29 : fch 43 29 = some (.ireturn, 30, []) := by decide +kernel
theorem f43_30 : fch 43 30 = some (.iinc 3 1, 33, []) := by decide +kernel
theorem f43_33 : fch 43 33 = some (.goto 6, 36, []) := by decide +kernel
theorem f43_36 : fch 43 36 = some (.iconst 1, 37, [0, 1, 2, 3]) := by decide +kernel
theorem f43_37 : fch 43 37 = some (.ireturn, 38, []) := by decide +kernel
set_option maxRecDepth 10000 in
theorem e43_0 (l0 l1 l2 : Int) (s : SG) : sem 43 0 [aA l0, aI l1, aI l2, aU] [] s = sem 43 6 [aA l0, aI l1, aI l2, aI (max l1 0)] [] s := by
  refine (x_iload f43_0 rfl rfl).trans ?_
  refine (x_iconst f43_1 rfl).trans ?_
  refine (x_fadd f43_2 rfl rfl).trans ?_
  refine (x_istore (l2 := [aA l0, aI l1, aI l2, aI (max l1 0)]) f43_5 rfl rfl).trans ?_
  rfl
set_option maxRecDepth 10000 in
theorem e43_6 (l0 l1 l2 l3 : Int) (s : SG) : sem 43 6 [aA l0, aI l1, aI l2, aI l3] [] s = if l3 < (w32 (l1 + l2)) then if l3 < 18 then grd (kd l0 = 2) (grd (0 ≤ s l0 0) (grd (kd (s l0 0) = 102) (grd ((0 : Int) ≤ l3 ∧ l3 < kl (s l0 0)) (if (s (s l0 0) l3) = 0 then some (aI 0, s) else sem 43 6 [aA l0, aI l1, aI l2, aI (w32 (l3 + 1))] [] s)))) else some (aI 1, s) else some (aI 1, s) := by
  refine (x_iload f43_6 rfl rfl).trans ?_
  refine (x_iload f43_7 rfl rfl).trans ?_
  refine (x_iload f43_8 rfl rfl).trans ?_
  refine (x_iadd f43_9 rfl).trans ?_
  refine (x_icmp_ge (tg := 36) f43_10 rfl rfl).trans (i_c ?_ ?_)
  · refine (x_iload f43_13 rfl rfl).trans ?_
    refine (x_iconst f43_14 rfl).trans ?_
    refine (x_icmp_ge (tg := 36) f43_16 rfl rfl).trans (i_c ?_ ?_)
    · refine (x_aload f43_19 rfl rfl).trans ?_
      refine (x_get2 f43_20 rfl rfl).trans ?_
      refine g_c ?_
      refine g_c ?_
      refine (x_iload f43_23 rfl rfl).trans ?_
      refine (x_baload f43_24 rfl).trans ?_
      refine g_c ?_
      refine g_c ?_
      refine (x_if_ne (tg := 30) f43_25 rfl rfl).trans (i_c ?_ ?_)
      · refine (x_iconst f43_28 rfl).trans ?_
        exact x_zreturn0 f43_29 rfl
      · refine (x_iinc (l2 := [aA l0, aI l1, aI l2, aI (w32 (l3 + 1))]) f43_30 rfl rfl rfl).trans ?_
        refine (x_goto (tg := 6) f43_33 rfl rfl).trans ?_
        rfl
    · refine (x_kil (l2 := [aU, aU, aU, aU]) f43_36 rfl).trans ?_
      refine (x_iconst f43_36 rfl).trans ?_
      exact x_zreturn1 f43_37 rfl
  · refine (x_kil (l2 := [aU, aU, aU, aU]) f43_36 rfl).trans ?_
    refine (x_iconst f43_36 rfl).trans ?_
    exact x_zreturn1 f43_37 rfl
theorem f44_0 : fch 44 0 = some (.aload 0, 1, []) := by decide +kernel
theorem f44_1 : fch 44 1 = some (.monitorexit, 4, []) := by decide +kernel
theorem f44_4 : fch 44 4 = some (.aload 0, 5, []) := by decide +kernel
theorem f44_5 : fch 44 5 = some (.iconst 18, 7, []) := by decide +kernel
theorem f44_7 : fch 44 7 = some (.newarray .int, 9, []) := by decide +kernel
theorem f44_9 : fch 44 9 = some (.multianewarray 3 0, 12, []) := by decide +kernel
theorem f44_12 : fch 44 12 = some (.aload 0, 13, []) := by decide +kernel
theorem f44_13 : fch 44 13 = some (.iconst 18, 15, []) := by decide +kernel
theorem f44_15 : fch 44 15 = some (.newarray .int, 17, []) := by decide +kernel
theorem f44_17 : fch 44 17 = some (.multianewarray 3 1, 20, []) := by decide +kernel
theorem f44_20 : fch 44 20 = some (.aload 0, 21, []) := by decide +kernel
theorem f44_21 : fch 44 21 = some (.iconst 18, 23, []) := by decide +kernel
theorem f44_23 : fch 44 23 = some (.newarray .int, 25, []) := by decide +kernel
theorem f44_25 : fch 44 25 = some (.multianewarray 3 2, 28, []) := by decide +kernel
theorem f44_28 : fch 44 28 = some (.aload 0, 29, []) := by decide +kernel
theorem f44_29 : fch 44 29 = some (.iconst 18, 31, []) := by decide +kernel
theorem f44_31 : fch 44 31 = some (.newarray .int, 33, []) := by decide +kernel
theorem f44_33 : fch 44 33 = some (.multianewarray 3 3, 36, []) := by decide +kernel
theorem f44_36 : fch 44 36 = some (.aload 0, 37, []) := by decide +kernel
theorem f44_37 : fch 44 37 = some (.iconst 3, 38, []) := by decide +kernel
theorem f44_38 : fch 44 38 = some (.newarray .int, 40, []) := by decide +kernel
theorem f44_40 : fch 44 40 = some (.multianewarray 3 4, 43, []) := by decide +kernel
theorem f44_43 : fch 44 43 = some (.aload 0, 44, []) := by decide +kernel
theorem f44_44 : fch 44 44 = some (.iconst 3, 45, []) := by decide +kernel
theorem f44_45 : fch 44 45 = some (.newarray .int, 47, []) := by decide +kernel
theorem f44_47 : fch 44 47 = some (.multianewarray 3 5, 50, []) := by decide +kernel
theorem f44_50 : fch 44 50 = some (.aload 0, 51, []) := by decide +kernel
theorem f44_51 : fch 44 51 = some (.iconst (-9), 53, []) := by decide +kernel
theorem f44_53 : fch 44 53 = some (.multianewarray 3 9, 56, []) := by decide +kernel
theorem f44_56 : fch 44 56 = some (.aload 0, 57, []) := by decide +kernel
theorem f44_57 : fch 44 57 = some (.iconst (-9), 59, []) := by decide +kernel
theorem f44_59 : fch 44 59 = some (.multianewarray 3 10, 62, []) := by decide +kernel
theorem f44_62 : fch 44 62 = some (.aload 0, 63, []) := by decide +kernel
theorem f44_63 : fch 44 63 = some (.iconst (-9), 65, []) := by decide +kernel
theorem f44_65 : fch 44 65 = some (.multianewarray 3 11, 68, []) := by decide +kernel
theorem f44_68 : fch 44 68 = some (.aload 0, 69, []) := by decide +kernel
theorem f44_69 : fch 44 69 = some (.iconst 0, 70, []) := by decide +kernel
theorem f44_70 : fch 44 70 = some (.multianewarray 3 12, 73, []) := by decide +kernel
theorem f44_73 : fch 44 73 = some (.return_, 74, []) := by decide +kernel
set_option maxRecDepth 10000 in
theorem e44_0 (l0 : Int) (s : SG) : sem 44 0 [aA l0] [] s = grd (kd (s (-1) 0) = akind .int ∧ kl (s (-1) 0) = 18) (grd (kd l0 = 3) (grd (0 ≤ s (-1) 0) (grd (kd ((up (alc s 18 (fun _ => 0)) l0 0 (s (-1) 0)) (-1) 0) = akind .int ∧ kl ((up (alc s 18 (fun _ => 0)) l0 0 (s (-1) 0)) (-1) 0) = 18) (grd (kd l0 = 3) (grd (0 ≤ (up (alc s 18 (fun _ => 0)) l0 0 (s (-1) 0)) (-1) 0) (grd (kd ((up (alc (up (alc s 18 (fun _ => 0)) l0 0 (s (-1) 0)) 18 (fun _ => 0)) l0 1 ((up (alc s 18 (fun _ => 0)) l0 0 (s (-1) 0)) (-1) 0)) (-1) 0) = akind .int ∧ kl ((up (alc (up (alc s 18 (fun _ => 0)) l0 0 (s (-1) 0)) 18 (fun _ => 0)) l0 1 ((up (alc s 18 (fun _ => 0)) l0 0 (s (-1) 0)) (-1) 0)) (-1) 0) = 18) (grd (kd l0 = 3) (grd (0 ≤ (up (alc (up (alc s 18 (fun _ => 0)) l0 0 (s (-1) 0)) 18 (fun _ => 0)) l0 1 ((up (alc s 18 (fun _ => 0)) l0 0 (s (-1) 0)) (-1) 0)) (-1) 0) (sem 44 28 [aA l0] [] (up (alc (up (alc (up (alc s 18 (fun _ => 0)) l0 0 (s (-1) 0)) 18 (fun _ => 0)) l0 1 ((up (alc s 18 (fun _ => 0)) l0 0 (s (-1) 0)) (-1) 0)) 18 (fun _ => 0)) l0 2 ((up (alc (up (alc s 18 (fun _ => 0)) l0 0 (s (-1) 0)) 18 (fun _ => 0)) l0 1 ((up (alc s 18 (fun _ => 0)) l0 0 (s (-1) 0)) (-1) 0)) (-1) 0))))))))))) := by
  refine (x_aload f44_0 rfl rfl).trans ?_
  refine (x_monitorexit f44_1 rfl rfl).trans ?_
  refine (x_aload f44_4 rfl rfl).trans ?_
  refine (x_iconst f44_5 rfl).trans ?_
  refine (x_newarray f44_7 rfl).trans ?_
  refine g_c ?_
  refine (x_put2 f44_9 rfl rfl).trans ?_
  refine g_c ?_
  refine g_c ?_
  refine (x_aload f44_12 rfl rfl).trans ?_
  refine (x_iconst f44_13 rfl).trans ?_
  refine (x_newarray f44_15 rfl).trans ?_
  refine g_c ?_
  refine (x_put2 f44_17 rfl rfl).trans ?_
  refine g_c ?_
  refine g_c ?_
  refine (x_aload f44_20 rfl rfl).trans ?_
  refine (x_iconst f44_21 rfl).trans ?_
  refine (x_newarray f44_23 rfl).trans ?_
  refine g_c ?_
  refine (x_put2 f44_25 rfl rfl).trans ?_
  refine g_c ?_
  refine g_c ?_
  rfl
set_option maxRecDepth 10000 in
theorem e44_28 (l0 : Int) (s : SG) : sem 44 28 [aA l0] [] s = grd (kd (s (-1) 0) = akind .int ∧ kl (s (-1) 0) = 18) (grd (kd l0 = 3) (grd (0 ≤ s (-1) 0) (grd (kd ((up (alc s 18 (fun _ => 0)) l0 3 (s (-1) 0)) (-1) 0) = akind .int ∧ kl ((up (alc s 18 (fun _ => 0)) l0 3 (s (-1) 0)) (-1) 0) = 3) (grd (kd l0 = 3) (grd (0 ≤ (up (alc s 18 (fun _ => 0)) l0 3 (s (-1) 0)) (-1) 0) (grd (kd ((up (alc (up (alc s 18 (fun _ => 0)) l0 3 (s (-1) 0)) 3 (fun _ => 0)) l0 4 ((up (alc s 18 (fun _ => 0)) l0 3 (s (-1) 0)) (-1) 0)) (-1) 0) = akind .int ∧ kl ((up (alc (up (alc s 18 (fun _ => 0)) l0 3 (s (-1) 0)) 3 (fun _ => 0)) l0 4 ((up (alc s 18 (fun _ => 0)) l0 3 (s (-1) 0)) (-1) 0)) (-1) 0) = 3) (grd (kd l0 = 3) (grd (0 ≤ (up (alc (up (alc s 18 (fun _ => 0)) l0 3 (s (-1) 0)) 3 (fun _ => 0)) l0 4 ((up (alc s 18 (fun _ => 0)) l0 3 (s (-1) 0)) (-1) 0)) (-1) 0) (sem 44 50 [aA l0] [] (up (alc (up (alc (up (alc s 18 (fun _ => 0)) l0 3 (s (-1) 0)) 3 (fun _ => 0)) l0 4 ((up (alc s 18 (fun _ => 0)) l0 3 (s (-1) 0)) (-1) 0)) 3 (fun _ => 0)) l0 5 ((up (alc (up (alc s 18 (fun _ => 0)) l0 3 (s (-1) 0)) 3 (fun _ => 0)) l0 4 ((up (alc s 18 (fun _ => 0)) l0 3 (s (-1) 0)) (-1) 0)) (-1) 0))))))))))) := by
  refine (x_aload f44_28 rfl rfl).trans ?_
  refine (x_iconst f44_29 rfl).trans ?_
  refine (x_newarray f44_31 rfl).trans ?_
  refine g_c ?_
  refine (x_put2 f44_33 rfl rfl).trans ?_
  refine g_c ?_
  refine g_c ?_
  refine (x_aload f44_36 rfl rfl).trans ?_
  refine (x_iconst f44_37 rfl).trans ?_
  refine (x_newarray f44_38 rfl).trans ?_
  refine g_c ?_
  refine (x_put2 f44_40 rfl rfl).trans ?_
  refine g_c ?_
  refine g_c ?_
  refine (x_aload f44_43 rfl rfl).trans ?_
  refine (x_iconst f44_44 rfl).trans ?_
  refine (x_newarray f44_45 rfl).trans ?_
  refine g_c ?_
  refine (x_put2 f44_47 rfl rfl).trans ?_
  refine g_c ?_
  refine g_c ?_
  rfl
set_option maxRecDepth 10000 in
theorem e44_50 (l0 : Int) (s : SG) : sem 44 50 [aA l0] [] s = grd (kd l0 = 3) (grd (kd l0 = 3) (grd (kd l0 = 3) (grd (kd l0 = 3) (some (aU, up (up (up (up s l0 9 ((-9))) l0 10 ((-9))) l0 11 ((-9))) l0 12 0))))) := by
  refine (x_aload f44_50 rfl rfl).trans ?_
  refine (x_iconst f44_51 rfl).trans ?_
  refine (x_put0 f44_53 rfl rfl).trans ?_
  refine g_c ?_
  refine (x_aload f44_56 rfl rfl).trans ?_
  refine (x_iconst f44_57 rfl).trans ?_
  refine (x_put0 f44_59 rfl rfl).trans ?_
  refine g_c ?_
  refine (x_aload f44_62 rfl rfl).trans ?_
  refine (x_iconst f44_63 rfl).trans ?_
  refine (x_put0 f44_65 rfl rfl).trans ?_
  refine g_c ?_
  refine (x_aload f44_68 rfl rfl).trans ?_
  refine (x_iconst f44_69 rfl).trans ?_
  refine (x_put0 f44_70 rfl rfl).trans ?_
  refine g_c ?_
  exact x_return f44_73 rfl
theorem f45_0 : fch 45 0 = some (.aload 0, 1, []) := by decide +kernel
theorem f45_1 : fch 45 1 = some (.iconst (-9), 3, []) := by decide +kernel
theorem f45_3 : fch 45 3 = some (.multianewarray 3 9, 6, []) := by decide +kernel
theorem f45_6 : fch 45 6 = some (.aload 0, 7, []) := by decide +kernel
theorem f45_7 : fch 45 7 = some (.iconst (-9), 9, []) := by decide +kernel
theorem f45_9 : fch 45 9 = some (.multianewarray 3 10, 12, []) := by decide +kernel
theorem f45_12 : fch 45 12 = some (.aload 0, 13, []) := by decide +kernel
theorem f45_13 : fch 45 13 = some (.aload 1, 14, []) := by decide +kernel
theorem f45_14 : fch 45 14 = some (.aload 2, 15, []) := by decide +kernel
theorem f45_15 : fch 45 15 = some (.invokevirtual 48, 18, []) := by decide +kernel
theorem f45_18 : fch 45 18 = some (.return_, 19, []) := by decide +kernel
set_option maxRecDepth 10000 in
theorem e45_0 (l0 l1 l2 : Int) (s : SG) : sem 45 0 [aA l0, aA l1, aA l2] [] s = grd (kd l0 = 3) (grd (kd l0 = 3) (grd (kd l0 = 3) (bnV (sem 48 0 [aA l0, aA l1, aA l2, aU, aU] [] (up (up s l0 9 ((-9))) l0 10 ((-9)))) fun s1 => some (aU, s1)))) := by
  refine (x_aload f45_0 rfl rfl).trans ?_
  refine (x_iconst f45_1 rfl).trans ?_
  refine (x_put0 f45_3 rfl rfl).trans ?_
  refine g_c ?_
  refine (x_aload f45_6 rfl rfl).trans ?_
  refine (x_iconst f45_7 rfl).trans ?_
  refine (x_put0 f45_9 rfl rfl).trans ?_
  refine g_c ?_
  refine (x_aload f45_12 rfl rfl).trans ?_
  refine (x_aload f45_13 rfl rfl).trans ?_
  refine (x_aload f45_14 rfl rfl).trans ?_
  refine (x_invokevirtual (G := grd (kd l0 = 3) (bnV (sem 48 0 [aA l0, aA l1, aA l2, aU, aU] [] (up (up s l0 9 ((-9))) l0 10 ((-9)))) fun s1 => sem 45 18 [aA l0, aA l1, aA l2] [] s1)) f45_15 rfl rfl).trans ?_
  refine g_c ?_
  refine bV_c fun s1 => ?_
  exact x_return f45_18 rfl
theorem f46_0 : fch 46 0 = some (.aload 0, 1, []) := by decide +kernel
theorem f46_1 : fch 46 1 = some (.iload 3, 2, []) := by decide +kernel
theorem f46_2 : fch 46 2 = some (.multianewarray 3 9, 5, []) := by decide +kernel
theorem f46_5 : fch 46 5 = some (.aload 0, 6, []) := by decide +kernel
theorem f46_6 : fch 46 6 = some (.iconst (-9), 8, []) := by decide +kernel
theorem f46_8 : fch 46 8 = some (.multianewarray 3 10, 11, []) := by decide +kernel
theorem f46_11 : fch 46 11 = some (.aload 0, 12, []) := by decide +kernel
theorem f46_12 : fch 46 12 = some (.aload 1, 13, []) := by decide +kernel
theorem f46_13 : fch 46 13 = some (.aload 2, 14, []) := by decide +kernel
theorem f46_14 : fch 46 14 = some (.invokevirtual 48, 17, []) := by decide +kernel
theorem f46_17 : fch 46 17 = some (.return_, 18, []) := by decide +kernel
set_option maxRecDepth 10000 in
theorem e46_0 (l0 l1 l2 l3 : Int) (s : SG) : sem 46 0 [aA l0, aA l1, aA l2, aI l3] [] s = grd (kd l0 = 3) (grd (kd l0 = 3) (grd (kd l0 = 3) (bnV (sem 48 0 [aA l0, aA l1, aA l2, aU, aU] [] (up (up s l0 9 l3) l0 10 ((-9)))) fun s1 => some (aU, s1)))) := by
  refine (x_aload f46_0 rfl rfl).trans ?_
  refine (x_iload f46_1 rfl rfl).trans ?_
  refine (x_put0 f46_2 rfl rfl).trans ?_
  refine g_c ?_
  refine (x_aload f46_5 rfl rfl).trans ?_
  refine (x_iconst f46_6 rfl).trans ?_
  refine (x_put0 f46_8 rfl rfl).trans ?_
  refine g_c ?_
  refine (x_aload f46_11 rfl rfl).trans ?_
  refine (x_aload f46_12 rfl rfl).trans ?_
  refine (x_aload f46_13 rfl rfl).trans ?_
  refine (x_invokevirtual (G := grd (kd l0 = 3) (bnV (sem 48 0 [aA l0, aA l1, aA l2, aU, aU] [] (up (up s l0 9 l3) l0 10 ((-9)))) fun s1 => sem 46 17 [aA l0, aA l1, aA l2, aI l3] [] s1)) f46_14 rfl rfl).trans ?_
  refine g_c ?_
  refine bV_c fun s1 => ?_
  exact x_return f46_17 rfl
theorem f47_0 : fch 47 0 = some (.aload 0, 1, []) := by decide +kernel
theorem f47_1 : fch 47 1 = some (.iconst (-9), 3, []) := by decide +kernel
theorem f47_3 : fch 47 3 = some (.multianewarray 3 9, 6, []) := by decide +kernel
theorem f47_6 : fch 47 6 = some (.aload 0, 7, []) := by decide +kernel
theorem f47_7 : fch 47 7 = some (.iload 3, 8, []) := by decide +kernel
theorem f47_8 : fch 47 8 = some (.multianewarray 3 10, 11, []) := by decide +kernel
theorem f47_11 : fch 47 11 = some (.aload 0, 12, []) := by decide +kernel
theorem f47_12 : fch 47 12 = some (.iload 4, 14, []) := by decide +kernel
theorem f47_14 : fch 47 14 = some (.multianewarray 3 11, 17, []) := by decide +kernel
theorem f47_17 : fch 47 17 = some (.aload 0, 18, []) := by decide +kernel
theorem f47_18 : fch 47 18 = some (.iload 5, 20, []) := by decide +kernel
theorem f47_20 : fch 47 20 = some (.multianewarray 3 12, 23, []) := by decide +kernel
theorem f47_23 : fch 47 23 = some (.aload 0, 24, []) := by decide +kernel
theorem f47_24 : fch 47 24 = some (.aload 1, 25, []) := by decide +kernel
theorem f47_25 : fch 47 25 = some (.aload 2, 26, []) := by decide +kernel
theorem f47_26 : fch 47 26 = some (.invokevirtual 48, 29, []) := by decide +kernel
theorem f47_29 : fch 47 29 = some (.return_, 30, []) := by decide +kernel
set_option maxRecDepth 10000 in
theorem e47_0 (l0 l1 l2 l3 l4 l5 : Int) (s : SG) : sem 47 0 [aA l0, aA l1, aA l2, aI l3, aI l4, aI l5] [] s = grd (kd l0 = 3) (grd (kd l0 = 3) (grd (kd l0 = 3) (grd (kd l0 = 3) (grd (kd l0 = 3) (bnV (sem 48 0 [aA l0, aA l1, aA l2, aU, aU] [] (up (up (up (up s l0 9 ((-9))) l0 10 l3) l0 11 l4) l0 12 l5)) fun s1 => some (aU, s1)))))) := by
  refine (x_aload f47_0 rfl rfl).trans ?_
  refine (x_iconst f47_1 rfl).trans ?_
  refine (x_put0 f47_3 rfl rfl).trans ?_
  refine g_c ?_
  refine (x_aload f47_6 rfl rfl).trans ?_
  refine (x_iload f47_7 rfl rfl).trans ?_
  refine (x_put0 f47_8 rfl rfl).trans ?_
  refine g_c ?_
  refine (x_aload f47_11 rfl rfl).trans ?_
  refine (x_iload f47_12 rfl rfl).trans ?_
  refine (x_put0 f47_14 rfl rfl).trans ?_
  refine g_c ?_
  refine (x_aload f47_17 rfl rfl).trans ?_
  refine (x_iload f47_18 rfl rfl).trans ?_
  refine (x_put0 f47_20 rfl rfl).trans ?_
  refine g_c ?_
  refine (x_aload f47_23 rfl rfl).trans ?_
  refine (x_aload f47_24 rfl rfl).trans ?_
  refine (x_aload f47_25 rfl rfl).trans ?_
  refine (x_invokevirtual (G := grd (kd l0 = 3) (bnV (sem 48 0 [aA l0, aA l1, aA l2, aU, aU] [] (up (up (up (up s l0 9 ((-9))) l0 10 l3) l0 11 l4) l0 12 l5)) fun s1 => sem 47 29 [aA l0, aA l1, aA l2, aI l3, aI l4, aI l5] [] s1)) f47_26 rfl rfl).trans ?_
  refine g_c ?_
  refine bV_c fun s1 => ?_
  exact x_return f47_29 rfl
theorem f48_0 : fch 48 0 = some (.aload 0, 1, []) := by decide +kernel
theorem f48_1 : fch 48 1 = some (.aload 1, 2, []) := by decide +kernel
theorem f48_2 : fch 48 2 = some (.invokeinterface 6 4, 5, []) := by decide +kernel
theorem f48_5 : fch 48 5 = some (.multianewarray 3 6, 8, []) := by decide +kernel
theorem f48_8 : fch 48 8 = some (.aload 0, 9, []) := by decide +kernel
theorem f48_9 : fch 48 9 = some (.aload 2, 10, []) := by decide +kernel
theorem f48_10 : fch 48 10 = some (.invokeinterface 1 7, 13, []) := by decide +kernel
theorem f48_13 : fch 48 13 = some (.multianewarray 3 7, 16, []) := by decide +kernel
theorem f48_16 : fch 48 16 = some (.aload 0, 17, []) := by decide +kernel
theorem f48_17 : fch 48 17 = some (.iconst 0, 18, []) := by decide +kernel
theorem f48_18 : fch 48 18 = some (.multianewarray 3 8, 21, []) := by decide +kernel
theorem f48_21 : fch 48 21 = some (.iconst 0, 22, []) := by decide +kernel
theorem f48_22 : fch 48 22 = some (.istore 3, 23, []) := by decide +kernel
theorem f48_23 : fch 48 23 = some (.iload 3, 24, []) := by decide +kernel
theorem f48_24 : fch 48 24 = some (.aload 0, 25, []) := by decide +kernel
theorem f48_25 : fch 48 25 = some (.invokeinterface 3 6, 28, []) := by decide +kernel
theorem f48_28 : fch 48 28 = some (.if_icmp .ge 60, 31, []) := by decide +kernel
theorem f48_31 : fch 48 31 = some (.iload 3, 32, []) := by decide +kernel
theorem f48_32 : fch 48 32 = some (.iconst 3, 33, []) := by decide +kernel
theorem f48_33 : fch 48 33 = some (.if_icmp .ge 60, 36, []) := by decide +kernel
theorem f48_36 : fch 48 36 = some (.aload 0, 37, []) := by decide +kernel
theorem f48_37 : fch 48 37 = some (.invokeinterface 3 4, 40, []) := by decide +kernel
theorem f48_40 : fch 48 40 = some (.iload 3, 41, []) := by decide +kernel
theorem f48_41 : fch 48 41 = some (.aload 2, 42, []) := by decide +kernel
theorem f48_42 : fch 48 42 = some (.iload 3, 43, []) := by decide +kernel
theorem f48_43 : fch 48 43 = some (.invokevirtual 21, 46, []) := by decide +kernel
theorem f48_46 : fch 48 46 = some (.iastore, 47, []) := by decide +kernel
theorem f48_47 : fch 48 47 = some (.aload 0, 48, []) := by decide +kernel
theorem f48_48 : fch 48 48 = some (.invokeinterface 3 5, 51, []) := by decide +kernel
theorem f48_51 : fch 48 51 = some (.iload 3, 52, []) := by decide +kernel
theorem f48_52 : fch 48 52 = some (.iconst 0, 53, []) := by decide +kernel
theorem f48_53 : fch 48 53 = some (.iastore, 54, []) := by decide +kernel
theorem f48_54 : fch 48 54 = some (.iinc 3 1, 57, []) := by decide +kernel
theorem f48_57 : fch 48 57 = some (.goto 23, 60, []) := by decide +kernel
theorem f48_60 : fch 48 60 = some (.iconst 0, 61, [3]) := by decide +kernel
theorem f48_61 : fch 48 61 = some (.istore 3, 62, []) := by decide +kernel
theorem f48_62 : fch 48 62 = some (.iload 3, 63, [4]) := by decide +kernel
theorem f48_63 : fch 48 63 = some (.iconst 6, 65, []) := by decide +kernel
theorem f48_65 : fch 48 65 = some (.if_icmp .ge 118, 68, []) := by decide +kernel
theorem f48_68 : fch 48 68 = some (.aload 0, 69, []) := by decide +kernel
theorem f48_69 : fch 48 69 = some (.aload 2, 70, []) := by decide +kernel
theorem f48_70 : fch 48 70 = some (.iload 3, 71, []) := by decide +kernel
theorem f48_71 : fch 48 71 = some (.invokevirtual 49, 74, []) := by decide +kernel
theorem f48_74 : fch 48 74 = some (.aload 0, 75, []) := by decide +kernel
theorem f48_75 : fch 48 75 = some (.aload 2, 76, []) := by decide +kernel
theorem f48_76 : fch 48 76 = some (.iload 3, 77, []) := by decide +kernel
theorem f48_77 : fch 48 77 = some (.invokevirtual 50, 80, []) := by decide +kernel
theorem f48_80 : fch 48 80 = some (.aload 0, 81, []) := by decide +kernel
theorem f48_81 : fch 48 81 = some (.iload 3, 82, []) := by decide +kernel
theorem f48_82 : fch 48 82 = some (.invokevirtual 52, 85, []) := by decide +kernel
theorem f48_85 : fch 48 85 = some (.iconst 0, 86, []) := by decide +kernel
theorem f48_86 : fch 48 86 = some (.istore 4, 88, []) := by decide +kernel
theorem f48_88 : fch 48 88 = some (.iload 4, 90, []) := by decide +kernel
theorem f48_90 : fch 48 90 = some (.aload 0, 91, []) := by decide +kernel
theorem f48_91 : fch 48 91 = some (.invokeinterface 3 6, 94, []) := by decide +kernel
theorem f48_94 : fch 48 94 = some (.if_icmp .ge 112, 97, []) := by decide +kernel
theorem f48_97 : fch 48 97 = some (.aload 0, 98, []) := by decide +kernel
theorem f48_98 : fch 48 98 = some (.aload 1, 99, []) := by decide +kernel
theorem f48_99 : fch 48 99 = some (.aload 2, 100, []) := by decide +kernel
theorem f48_100 : fch 48 100 = some (.iload 4, 102, []) := by decide +kernel
theorem f48_102 : fch 48 102 = some (.iload 3, 103, []) := by decide +kernel
theorem f48_103 : fch 48 103 = some (.invokevirtual 53, 106, []) := by decide +kernel
theorem f48_106 : fch 48 106 = some (.iinc 4 1, 109, []) := by decide +kernel
theorem f48_109 : fch 48 109 = some (.goto 88, 112, []) := by decide +kernel
theorem f48_112 : fch 48 112 = some (.iinc 3 1, 115, []) := by decide +kernel
theorem f48_115 : fch 48 115 = some (.goto 62, 118, []) := by decide +kernel
theorem f48_118 : fch 48 118 = some (.return_, 119, []) := by decide +kernel
set_option maxRecDepth 10000 in
theorem e48_0 (l0 l1 l2 : Int) (s : SG) : sem 48 0 [aA l0, aA l1, aA l2, aU, aU] [] s = grd (kd l1 = 6) (grd (kd l0 = 3) (grd (kd l2 = 1) (grd (kd l0 = 3) (grd (kd l0 = 3) (sem 48 23 [aA l0, aA l1, aA l2, aI 0, aU] [] (up (up (up s l0 6 (s l1 4)) l0 7 ((up s l0 6 (s l1 4)) l2 7)) l0 8 0)))))) := by
  refine (x_aload f48_0 rfl rfl).trans ?_
  refine (x_aload f48_1 rfl rfl).trans ?_
  refine (x_get0 f48_2 rfl rfl).trans ?_
  refine g_c ?_
  refine (x_put0 f48_5 rfl rfl).trans ?_
  refine g_c ?_
  refine (x_aload f48_8 rfl rfl).trans ?_
  refine (x_aload f48_9 rfl rfl).trans ?_
  refine (x_get0 f48_10 rfl rfl).trans ?_
  refine g_c ?_
  refine (x_put0 f48_13 rfl rfl).trans ?_
  refine g_c ?_
  refine (x_aload f48_16 rfl rfl).trans ?_
  refine (x_iconst f48_17 rfl).trans ?_
  refine (x_put0 f48_18 rfl rfl).trans ?_
  refine g_c ?_
  refine (x_iconst f48_21 rfl).trans ?_
  refine (x_istore (l2 := [aA l0, aA l1, aA l2, aI 0, aU]) f48_22 rfl rfl).trans ?_
  rfl
set_option maxRecDepth 10000 in
theorem e48_23 (l0 l1 l2 l3 : Int) (s : SG) : sem 48 23 [aA l0, aA l1, aA l2, aI l3, aU] [] s = grd (kd l0 = 3) (if l3 < (s l0 6) then if l3 < 3 then grd (kd l0 = 3) (grd (0 ≤ s l0 4) (grd (kd l2 = 1) (bnI (sem 21 0 [aA l2, aI l3] [] s) fun a2 s1 => grd (kd (s l0 4) = 101) (grd ((0 : Int) ≤ l3 ∧ l3 < kl (s l0 4)) (grd (kd l0 = 3) (grd (0 ≤ (up s1 (s l0 4) l3 a2) l0 5) (grd (kd ((up s1 (s l0 4) l3 a2) l0 5) = 101) (grd ((0 : Int) ≤ l3 ∧ l3 < kl ((up s1 (s l0 4) l3 a2) l0 5)) (sem 48 23 [aA l0, aA l1, aA l2, aI (w32 (l3 + 1)), aU] [] (up (up s1 (s l0 4) l3 a2) ((up s1 (s l0 4) l3 a2) l0 5) l3 0)))))))))) else sem 48 62 [aA l0, aA l1, aA l2, aI 0, aU] [] s else sem 48 62 [aA l0, aA l1, aA l2, aI 0, aU] [] s) := by
  refine (x_iload f48_23 rfl rfl).trans ?_
  refine (x_aload f48_24 rfl rfl).trans ?_
  refine (x_get0 f48_25 rfl rfl).trans ?_
  refine g_c ?_
  refine (x_icmp_ge (tg := 60) f48_28 rfl rfl).trans (i_c ?_ ?_)
  · refine (x_iload f48_31 rfl rfl).trans ?_
    refine (x_iconst f48_32 rfl).trans ?_
    refine (x_icmp_ge (tg := 60) f48_33 rfl rfl).trans (i_c ?_ ?_)
    · refine (x_aload f48_36 rfl rfl).trans ?_
      refine (x_get2 f48_37 rfl rfl).trans ?_
      refine g_c ?_
      refine g_c ?_
      refine (x_iload f48_40 rfl rfl).trans ?_
      refine (x_aload f48_41 rfl rfl).trans ?_
      refine (x_iload f48_42 rfl rfl).trans ?_
      refine (x_invokevirtual (G := grd (kd l2 = 1) (bnI (sem 21 0 [aA l2, aI l3] [] s) fun a2 s1 => sem 48 46 [aA l0, aA l1, aA l2, aI l3, aU] [aI a2, aI l3, aA (s l0 4)] s1)) f48_43 rfl rfl).trans ?_
      refine g_c ?_
      refine bI_c fun a2 s1 => ?_
      refine (x_iastore f48_46 rfl).trans ?_
      refine g_c ?_
      refine g_c ?_
      refine (x_aload f48_47 rfl rfl).trans ?_
      refine (x_get2 f48_48 rfl rfl).trans ?_
      refine g_c ?_
      refine g_c ?_
      refine (x_iload f48_51 rfl rfl).trans ?_
      refine (x_iconst f48_52 rfl).trans ?_
      refine (x_iastore f48_53 rfl).trans ?_
      refine g_c ?_
      refine g_c ?_
      refine (x_iinc (l2 := [aA l0, aA l1, aA l2, aI (w32 (l3 + 1)), aU]) f48_54 rfl rfl rfl).trans ?_
      refine (x_goto (tg := 23) f48_57 rfl rfl).trans ?_
      rfl
    · refine (x_kil (l2 := [aA l0, aA l1, aA l2, aU, aU]) f48_60 rfl).trans ?_
      refine (x_iconst f48_60 rfl).trans ?_
      refine (x_istore (l2 := [aA l0, aA l1, aA l2, aI 0, aU]) f48_61 rfl rfl).trans ?_
      rfl
  · refine (x_kil (l2 := [aA l0, aA l1, aA l2, aU, aU]) f48_60 rfl).trans ?_
    refine (x_iconst f48_60 rfl).trans ?_
    refine (x_istore (l2 := [aA l0, aA l1, aA l2, aI 0, aU]) f48_61 rfl rfl).trans ?_
    rfl
set_option maxRecDepth 10000 in
theorem e48_62 (l0 l1 l2 l3 : Int) (s : SG) : sem 48 62 [aA l0, aA l1, aA l2, aI l3, aU] [] s = if l3 < 6 then grd (kd l0 = 3) (bnV (sem 49 0 [aA l0, aA l2, aI l3, aU] [] s) fun s1 => grd (kd l0 = 3) (bnV (sem 50 0 [aA l0, aA l2, aI l3, aU, aU] [] s1) fun s2 => grd (kd l0 = 3) (bnV (sem 52 0 [aA l0, aI l3] [] s2) fun s3 => sem 48 88 [aA l0, aA l1, aA l2, aI l3, aI 0] [] s3))) else some (aU, s) := by
  refine (x_iload f48_62 rfl rfl).trans ?_
  refine (x_iconst f48_63 rfl).trans ?_
  refine (x_icmp_ge (tg := 118) f48_65 rfl rfl).trans (i_c ?_ ?_)
  · refine (x_aload f48_68 rfl rfl).trans ?_
    refine (x_aload f48_69 rfl rfl).trans ?_
    refine (x_iload f48_70 rfl rfl).trans ?_
    refine (x_invokevirtual (G := grd (kd l0 = 3) (bnV (sem 49 0 [aA l0, aA l2, aI l3, aU] [] s) fun s1 => sem 48 74 [aA l0, aA l1, aA l2, aI l3, aU] [] s1)) f48_71 rfl rfl).trans ?_
    refine g_c ?_
    refine bV_c fun s1 => ?_
    refine (x_aload f48_74 rfl rfl).trans ?_
    refine (x_aload f48_75 rfl rfl).trans ?_
    refine (x_iload f48_76 rfl rfl).trans ?_
    refine (x_invokevirtual (G := grd (kd l0 = 3) (bnV (sem 50 0 [aA l0, aA l2, aI l3, aU, aU] [] s1) fun s2 => sem 48 80 [aA l0, aA l1, aA l2, aI l3, aU] [] s2)) f48_77 rfl rfl).trans ?_
    refine g_c ?_
    refine bV_c fun s2 => ?_
    refine (x_aload f48_80 rfl rfl).trans ?_
    refine (x_iload f48_81 rfl rfl).trans ?_
    refine (x_invokevirtual (G := grd (kd l0 = 3) (bnV (sem 52 0 [aA l0, aI l3] [] s2) fun s3 => sem 48 85 [aA l0, aA l1, aA l2, aI l3, aU] [] s3)) f48_82 rfl rfl).trans ?_
    refine g_c ?_
    refine bV_c fun s3 => ?_
    refine (x_iconst f48_85 rfl).trans ?_
    refine (x_istore (l2 := [aA l0, aA l1, aA l2, aI l3, aI 0]) f48_86 rfl rfl).trans ?_
    rfl
  · exact x_return f48_118 rfl
set_option maxRecDepth 10000 in
theorem e48_88 (l0 l1 l2 l3 l4 : Int) (s : SG) : sem 48 88 [aA l0, aA l1, aA l2, aI l3, aI l4] [] s = grd (kd l0 = 3) (if l4 < (s l0 6) then grd (kd l0 = 3) (bnV (sem 53 0 [aA l0, aA l1, aA l2, aI l4, aI l3, aU, aU, aU] [] s) fun s1 => sem 48 88 [aA l0, aA l1, aA l2, aI l3, aI (w32 (l4 + 1))] [] s1) else sem 48 62 [aA l0, aA l1, aA l2, aI (w32 (l3 + 1)), aU] [] s) := by
  refine (x_iload f48_88 rfl rfl).trans ?_
  refine (x_aload f48_90 rfl rfl).trans ?_
  refine (x_get0 f48_91 rfl rfl).trans ?_
  refine g_c ?_
  refine (x_icmp_ge (tg := 112) f48_94 rfl rfl).trans (i_c ?_ ?_)
  · refine (x_aload f48_97 rfl rfl).trans ?_
    refine (x_aload f48_98 rfl rfl).trans ?_
    refine (x_aload f48_99 rfl rfl).trans ?_
    refine (x_iload f48_100 rfl rfl).trans ?_
    refine (x_iload f48_102 rfl rfl).trans ?_
    refine (x_invokevirtual (G := grd (kd l0 = 3) (bnV (sem 53 0 [aA l0, aA l1, aA l2, aI l4, aI l3, aU, aU, aU] [] s) fun s1 => sem 48 106 [aA l0, aA l1, aA l2, aI l3, aI l4] [] s1)) f48_103 rfl rfl).trans ?_
    refine g_c ?_
    refine bV_c fun s1 => ?_
    refine (x_iinc (l2 := [aA l0, aA l1, aA l2, aI l3, aI (w32 (l4 + 1))]) f48_106 rfl rfl rfl).trans ?_
    refine (x_goto (tg := 88) f48_109 rfl rfl).trans ?_
    rfl
  · refine (x_iinc (l2 := [aA l0, aA l1, aA l2, aI (w32 (l3 + 1)), aI l4]) f48_112 rfl rfl rfl).trans ?_
    refine (x_goto (tg := 62) f48_115 rfl rfl).trans ?_
    exact x_kil f48_62 rfl
theorem f49_0 : fch 49 0 = some (.iconst 0, 1, []) := by decide +kernel
theorem f49_1 : fch 49 1 = some (.istore 3, 2, []) := by decide +kernel
theorem f49_2 : fch 49 2 = some (.iload 3, 3, []) := by decide +kernel
theorem f49_3 : fch 49 3 = some (.aload 1, 4, []) := by decide +kernel
theorem f49_4 : fch 49 4 = some (.invokeinterface 1 10, 7, []) := by decide +kernel
theorem f49_7 : fch 49 7 = some (.if_icmp .ge 48, 10, []) := by decide +kernel
theorem f49_10 : fch 49 10 = some (.iload 3, 11, []) := by decide +kernel
theorem f49_11 : fch 49 11 = some (.iconst 6, 13, []) := by decide +kernel
theorem f49_13 : fch 49 13 = some (.if_icmp .ge 48, 16, []) := by decide +kernel
theorem f49_16 : fch 49 16 = some (.aload 1, 17, []) := by decide +kernel
theorem f49_17 : fch 49 17 = some (.invokeinterface 1 3, 20, []) := by decide +kernel
theorem f49_20 : fch 49 20 = some (.iload 3, 21, []) := by decide +kernel
theorem f49_21 : fch 49 21 = some (.iaload, 22, []) := by decide +kernel
theorem f49_22 : fch 49 22 = some (.iload 2, 23, []) := by decide +kernel
theorem f49_23 : fch 49 23 = some (.if_icmp .ne 42, 26, []) := by decide +kernel
theorem f49_26 : fch 49 26 = some (.aload 0, 27, []) := by decide +kernel
theorem f49_27 : fch 49 27 = some (.aload 1, 28, []) := by decide +kernel
theorem f49_28 : fch 49 28 = some (.invokeinterface 1 4, 31, []) := by decide +kernel
theorem f49_31 : fch 49 31 = some (.iload 3, 32, []) := by decide +kernel
theorem f49_32 : fch 49 32 = some (.iaload, 33, []) := by decide +kernel
theorem f49_33 : fch 49 33 = some (.aload 1, 34, []) := by decide +kernel
theorem f49_34 : fch 49 34 = some (.invokeinterface 1 5, 37, []) := by decide +kernel
theorem f49_37 : fch 49 37 = some (.iload 3, 38, []) := by decide +kernel
theorem f49_38 : fch 49 38 = some (.iaload, 39, []) := by decide +kernel
theorem f49_39 : fch 49 39 = some (.invokevirtual 51, 42, []) := by decide +kernel
theorem f49_42 : fch 49 42 = some (.iinc 3 1, 45, []) := by decide +kernel
theorem f49_45 : fch 49 45 = some (.goto 2, 48, []) := by decide +kernel
theorem f49_48 : fch 49 48 = some (.return_, 49, [0, 1, 2, 3]) := by decide +kernel
set_option maxRecDepth 10000 in
theorem e49_0 (l0 l1 l2 : Int) (s : SG) : sem 49 0 [aA l0, aA l1, aI l2, aU] [] s = sem 49 2 [aA l0, aA l1, aI l2, aI 0] [] s := by
  refine (x_iconst f49_0 rfl).trans ?_
  refine (x_istore (l2 := [aA l0, aA l1, aI l2, aI 0]) f49_1 rfl rfl).trans ?_
  rfl
set_option maxRecDepth 10000 in
theorem e49_2 (l0 l1 l2 l3 : Int) (s : SG) : sem 49 2 [aA l0, aA l1, aI l2, aI l3] [] s = grd (kd l1 = 1) (if l3 < (s l1 10) then if l3 < 6 then grd (kd l1 = 1) (grd (0 ≤ s l1 3) (grd (kd (s l1 3) = 101) (grd ((0 : Int) ≤ l3 ∧ l3 < kl (s l1 3)) (if (s (s l1 3) l3) = l2 then grd (kd l1 = 1) (grd (0 ≤ s l1 4) (grd (kd (s l1 4) = 101) (grd ((0 : Int) ≤ l3 ∧ l3 < kl (s l1 4)) (grd (kd l1 = 1) (grd (0 ≤ s l1 5) (grd (kd (s l1 5) = 101) (grd ((0 : Int) ≤ l3 ∧ l3 < kl (s l1 5)) (grd (kd l0 = 3) (bnV (sem 51 0 [aA l0, aI (s (s l1 4) l3), aI (s (s l1 5) l3), aU] [] s) fun s1 => sem 49 2 [aA l0, aA l1, aI l2, aI (w32 (l3 + 1))] [] s1))))))))) else sem 49 2 [aA l0, aA l1, aI l2, aI (w32 (l3 + 1))] [] s)))) else some (aU, s) else some (aU, s)) := by
  refine (x_iload f49_2 rfl rfl).trans ?_
  refine (x_aload f49_3 rfl rfl).trans ?_
  refine (x_get0 f49_4 rfl rfl).trans ?_
  refine g_c ?_
  refine (x_icmp_ge (tg := 48) f49_7 rfl rfl).trans (i_c ?_ ?_)
  · refine (x_iload f49_10 rfl rfl).trans ?_
    refine (x_iconst f49_11 rfl).trans ?_
    refine (x_icmp_ge (tg := 48) f49_13 rfl rfl).trans (i_c ?_ ?_)
    · refine (x_aload f49_16 rfl rfl).trans ?_
      refine (x_get2 f49_17 rfl rfl).trans ?_
      refine g_c ?_
      refine g_c ?_
      refine (x_iload f49_20 rfl rfl).trans ?_
      refine (x_iaload f49_21 rfl).trans ?_
      refine g_c ?_
      refine g_c ?_
      refine (x_iload f49_22 rfl rfl).trans ?_
      refine (x_icmp_ne (tg := 42) f49_23 rfl rfl).trans (i_c ?_ ?_)
      · refine (x_aload f49_26 rfl rfl).trans ?_
        refine (x_aload f49_27 rfl rfl).trans ?_
        refine (x_get2 f49_28 rfl rfl).trans ?_
        refine g_c ?_
        refine g_c ?_
        refine (x_iload f49_31 rfl rfl).trans ?_
        refine (x_iaload f49_32 rfl).trans ?_
        refine g_c ?_
        refine g_c ?_
        refine (x_aload f49_33 rfl rfl).trans ?_
        refine (x_get2 f49_34 rfl rfl).trans ?_
        refine g_c ?_
        refine g_c ?_
        refine (x_iload f49_37 rfl rfl).trans ?_
        refine (x_iaload f49_38 rfl).trans ?_
        refine g_c ?_
        refine g_c ?_
        refine (x_invokevirtual (G := grd (kd l0 = 3) (bnV (sem 51 0 [aA l0, aI (s (s l1 4) l3), aI (s (s l1 5) l3), aU] [] s) fun s1 => sem 49 42 [aA l0, aA l1, aI l2, aI l3] [] s1)) f49_39 rfl rfl).trans ?_
        refine g_c ?_
        refine bV_c fun s1 => ?_
        refine (x_iinc (l2 := [aA l0, aA l1, aI l2, aI (w32 (l3 + 1))]) f49_42 rfl rfl rfl).trans ?_
        refine (x_goto (tg := 2) f49_45 rfl rfl).trans ?_
        rfl
      · refine (x_iinc (l2 := [aA l0, aA l1, aI l2, aI (w32 (l3 + 1))]) f49_42 rfl rfl rfl).trans ?_
        refine (x_goto (tg := 2) f49_45 rfl rfl).trans ?_
        rfl
    · refine (x_kil (l2 := [aU, aU, aU, aU]) f49_48 rfl).trans ?_
      exact x_return f49_48 rfl
  · refine (x_kil (l2 := [aU, aU, aU, aU]) f49_48 rfl).trans ?_
    exact x_return f49_48 rfl
theorem f50_0 : fch 50 0 = some (.aload 1, 1, []) := by decide +kernel
theorem f50_1 : fch 50 1 = some (.invokeinterface 1 8, 4, []) := by decide +kernel
theorem f50_4 : fch 50 4 = some (.iconst 1, 5, []) := by decide +kernel
theorem f50_5 : fch 50 5 = some (.if_icmp .ne 51, 8, []) := by decide +kernel
theorem f50_8 : fch 50 8 = some (.iload 2, 9, []) := by decide +kernel
theorem f50_9 : fch 50 9 = some (.ifCond .le 51, 12, []) := by decide +kernel
theorem f50_12 : fch 50 12 = some (.iconst 0, 13, []) := by decide +kernel
theorem f50_13 : fch 50 13 = some (.istore 3, 14, []) := by decide +kernel
theorem f50_14 : fch 50 14 = some (.iload 3, 15, []) := by decide +kernel
theorem f50_15 : fch 50 15 = some (.aload 0, 16, []) := by decide +kernel
theorem f50_16 : fch 50 16 = some (.invokeinterface 3 6, 19, []) := by decide +kernel
theorem f50_19 : fch 50 19 = some (.if_icmp .ge 51, 22, []) := by decide +kernel
theorem f50_22 : fch 50 22 = some (.iload 3, 23, []) := by decide +kernel
theorem f50_23 : fch 50 23 = some (.iconst 3, 24, []) := by decide +kernel
theorem f50_24 : fch 50 24 = some (.if_icmp .ge 51, 27, []) := by decide +kernel
theorem f50_27 : fch 50 27 = some (.aload 0, 28, []) := by decide +kernel
theorem f50_28 : fch 50 28 = some (.invokeinterface 3 4, 31, []) := by decide +kernel
theorem f50_31 : fch 50 31 = some (.iload 3, 32, []) := by decide +kernel
theorem f50_32 : fch 50 32 = some (.iaload, 33, []) := by decide +kernel
theorem f50_33 : fch 50 33 = some (.ifCond .ne 45, 36, []) := by decide +kernel
theorem f50_36 : fch 50 36 = some (.aload 0, 37, []) := by decide +kernel
theorem f50_37 : fch 50 37 = some (.iload 3, 38, []) := by decide +kernel
theorem f50_38 : fch 50 38 = some (.aload 1, 39, []) := by decide +kernel
theorem f50_39 : fch 50 39 = some (.invokeinterface 1 9, 42, []) := by decide +kernel
theorem f50_42 : fch 50 42 = some (.invokevirtual 51, 45, []) := by decide +kernel
theorem f50_45 : fch 50 45 = some (.iinc 3 1, 48, []) := by decide +kernel
theorem f50_48 : fch 50 48 = some (.goto 14, 51, []) := by decide +kernel
theorem f50_51 : fch 50 51 = some (.aload 1, 52, [3]) := by decide +kernel
theorem f50_52 : fch 50 52 = some (.invokeinterface 1 8, 55, []) := by decide +kernel
theorem f50_55 : fch 50 55 = some (.iconst 2, 56, []) := by decide +kernel
theorem f50_56 : fch 50 56 = some (.if_icmp .ne 106, 59, []) := by decide +kernel
theorem f50_59 : fch 50 59 = some (.iload 2, 60, []) := by decide +kernel
theorem f50_60 : fch 50 60 = some (.aload 1, 61, []) := by decide +kernel
theorem f50_61 : fch 50 61 = some (.invokeinterface 1 9, 64, []) := by decide +kernel
theorem f50_64 : fch 50 64 = some (.if_icmp .ne 106, 67, []) := by decide +kernel
theorem f50_67 : fch 50 67 = some (.aload 0, 68, []) := by decide +kernel
theorem f50_68 : fch 50 68 = some (.invokeinterface 3 7, 71, []) := by decide +kernel
theorem f50_71 : fch 50 71 = some (.istore 3, 72, []) := by decide +kernel
theorem f50_72 : fch 50 72 = some (.iconst 0, 73, []) := by decide +kernel
theorem f50_73 : fch 50 73 = some (.istore 4, 75, []) := by decide +kernel
theorem f50_75 : fch 50 75 = some (.iload 4, 77, [1, 2]) := by decide +kernel
theorem f50_77 : fch 50 77 = some (.iload 3, 78, []) := by decide +kernel
theorem f50_78 : fch 50 78 = some (.if_icmp .ge 106, 81, []) := by decide +kernel
theorem f50_81 : fch 50 81 = some (.aload 0, 82, []) := by decide +kernel
theorem f50_82 : fch 50 82 = some (.invokeinterface 3 6, 85, []) := by decide +kernel
theorem f50_85 : fch 50 85 = some (.ifCond .le 106, 88, []) := by decide +kernel
theorem f50_88 : fch 50 88 = some (.aload 0, 89, []) := by decide +kernel
theorem f50_89 : fch 50 89 = some (.iload 4, 91, []) := by decide +kernel
theorem f50_91 : fch 50 91 = some (.aload 0, 92, []) := by decide +kernel
theorem f50_92 : fch 50 92 = some (.invokeinterface 3 6, 95, []) := by decide +kernel
theorem f50_95 : fch 50 95 = some (.irem, 96, []) := by decide +kernel
theorem f50_96 : fch 50 96 = some (.iconst 1, 97, []) := by decide +kernel
theorem f50_97 : fch 50 97 = some (.invokevirtual 51, 100, []) := by decide +kernel
theorem f50_100 : fch 50 100 = some (.iinc 4 1, 103, []) := by decide +kernel
theorem f50_103 : fch 50 103 = some (.goto 75, 106, []) := by decide +kernel
theorem f50_106 : fch 50 106 = some (.return_, 107, [0, 1, 2, 3, 4]) := by decide +kernel
set_option maxRecDepth 10000 in
theorem e50_0 (l0 l1 l2 : Int) (s : SG) : sem 50 0 [aA l0, aA l1, aI l2, aU, aU] [] s = grd (kd l1 = 1) (if (s l1 8) = 1 then if (0 : Int) < l2 then sem 50 14 [aA l0, aA l1, aI l2, aI 0, aU] [] s else sem 50 51 [aA l0, aA l1, aI l2, aU, aU] [] s else sem 50 51 [aA l0, aA l1, aI l2, aU, aU] [] s) := by
  refine (x_aload f50_0 rfl rfl).trans ?_
  refine (x_get0 f50_1 rfl rfl).trans ?_
  refine g_c ?_
  refine (x_iconst f50_4 rfl).trans ?_
  refine (x_icmp_ne (tg := 51) f50_5 rfl rfl).trans (i_c ?_ ?_)
  · refine (x_iload f50_8 rfl rfl).trans ?_
    refine (x_if_le (tg := 51) f50_9 rfl rfl).trans (i_c ?_ ?_)
    · refine (x_iconst f50_12 rfl).trans ?_
      refine (x_istore (l2 := [aA l0, aA l1, aI l2, aI 0, aU]) f50_13 rfl rfl).trans ?_
      rfl
    · rfl
  · rfl
set_option maxRecDepth 10000 in
theorem e50_14 (l0 l1 l2 l3 : Int) (s : SG) : sem 50 14 [aA l0, aA l1, aI l2, aI l3, aU] [] s = grd (kd l0 = 3) (if l3 < (s l0 6) then if l3 < 3 then grd (kd l0 = 3) (grd (0 ≤ s l0 4) (grd (kd (s l0 4) = 101) (grd ((0 : Int) ≤ l3 ∧ l3 < kl (s l0 4)) (if (s (s l0 4) l3) = 0 then grd (kd l1 = 1) (grd (kd l0 = 3) (bnV (sem 51 0 [aA l0, aI l3, aI (s l1 9), aU] [] s) fun s1 => sem 50 14 [aA l0, aA l1, aI l2, aI (w32 (l3 + 1)), aU] [] s1)) else sem 50 14 [aA l0, aA l1, aI l2, aI (w32 (l3 + 1)), aU] [] s)))) else sem 50 51 [aA l0, aA l1, aI l2, aU, aU] [] s else sem 50 51 [aA l0, aA l1, aI l2, aU, aU] [] s) := by
  refine (x_iload f50_14 rfl rfl).trans ?_
  refine (x_aload f50_15 rfl rfl).trans ?_
  refine (x_get0 f50_16 rfl rfl).trans ?_
  refine g_c ?_
  refine (x_icmp_ge (tg := 51) f50_19 rfl rfl).trans (i_c ?_ ?_)
  · refine (x_iload f50_22 rfl rfl).trans ?_
    refine (x_iconst f50_23 rfl).trans ?_
    refine (x_icmp_ge (tg := 51) f50_24 rfl rfl).trans (i_c ?_ ?_)
    · refine (x_aload f50_27 rfl rfl).trans ?_
      refine (x_get2 f50_28 rfl rfl).trans ?_
      refine g_c ?_
      refine g_c ?_
      refine (x_iload f50_31 rfl rfl).trans ?_
      refine (x_iaload f50_32 rfl).trans ?_
      refine g_c ?_
      refine g_c ?_
      refine (x_if_ne (tg := 45) f50_33 rfl rfl).trans (i_c ?_ ?_)
      · refine (x_aload f50_36 rfl rfl).trans ?_
        refine (x_iload f50_37 rfl rfl).trans ?_
        refine (x_aload f50_38 rfl rfl).trans ?_
        refine (x_get0 f50_39 rfl rfl).trans ?_
        refine g_c ?_
        refine (x_invokevirtual (G := grd (kd l0 = 3) (bnV (sem 51 0 [aA l0, aI l3, aI (s l1 9), aU] [] s) fun s1 => sem 50 45 [aA l0, aA l1, aI l2, aI l3, aU] [] s1)) f50_42 rfl rfl).trans ?_
        refine g_c ?_
        refine bV_c fun s1 => ?_
        refine (x_iinc (l2 := [aA l0, aA l1, aI l2, aI (w32 (l3 + 1)), aU]) f50_45 rfl rfl rfl).trans ?_
        refine (x_goto (tg := 14) f50_48 rfl rfl).trans ?_
        rfl
      · refine (x_iinc (l2 := [aA l0, aA l1, aI l2, aI (w32 (l3 + 1)), aU]) f50_45 rfl rfl rfl).trans ?_
        refine (x_goto (tg := 14) f50_48 rfl rfl).trans ?_
        rfl
    · exact x_kil f50_51 rfl
  · exact x_kil f50_51 rfl
set_option maxRecDepth 10000 in
theorem e50_51 (l0 l1 l2 : Int) (s : SG) : sem 50 51 [aA l0, aA l1, aI l2, aU, aU] [] s = grd (kd l1 = 1) (if (s l1 8) = 2 then grd (kd l1 = 1) (if l2 = (s l1 9) then grd (kd l0 = 3) (sem 50 75 [aA l0, aU, aU, aI (s l0 7), aI 0] [] s) else some (aU, s)) else some (aU, s)) := by
  refine (x_aload f50_51 rfl rfl).trans ?_
  refine (x_get0 f50_52 rfl rfl).trans ?_
  refine g_c ?_
  refine (x_iconst f50_55 rfl).trans ?_
  refine (x_icmp_ne (tg := 106) f50_56 rfl rfl).trans (i_c ?_ ?_)
  · refine (x_iload f50_59 rfl rfl).trans ?_
    refine (x_aload f50_60 rfl rfl).trans ?_
    refine (x_get0 f50_61 rfl rfl).trans ?_
    refine g_c ?_
    refine (x_icmp_ne (tg := 106) f50_64 rfl rfl).trans (i_c ?_ ?_)
    · refine (x_aload f50_67 rfl rfl).trans ?_
      refine (x_get0 f50_68 rfl rfl).trans ?_
      refine g_c ?_
      refine (x_istore (l2 := [aA l0, aA l1, aI l2, aI (s l0 7), aU]) f50_71 rfl rfl).trans ?_
      refine (x_iconst f50_72 rfl).trans ?_
      refine (x_istore (l2 := [aA l0, aA l1, aI l2, aI (s l0 7), aI 0]) f50_73 rfl rfl).trans ?_
      exact x_kil f50_75 rfl
    · refine (x_kil (l2 := [aU, aU, aU, aU, aU]) f50_106 rfl).trans ?_
      exact x_return f50_106 rfl
  · refine (x_kil (l2 := [aU, aU, aU, aU, aU]) f50_106 rfl).trans ?_
    exact x_return f50_106 rfl
set_option maxRecDepth 10000 in
theorem e50_75 (l0 l3 l4 : Int) (s : SG) : sem 50 75 [aA l0, aU, aU, aI l3, aI l4] [] s = if l4 < l3 then grd (kd l0 = 3) (if (0 : Int) < (s l0 6) then grd (kd l0 = 3) (grd ((s l0 6) ≠ 0) (grd (kd l0 = 3) (bnV (sem 51 0 [aA l0, aI (remA l4 (s l0 6)), aI 1, aU] [] s) fun s1 => sem 50 75 [aA l0, aU, aU, aI l3, aI (w32 (l4 + 1))] [] s1))) else some (aU, s)) else some (aU, s) := by
  refine (x_iload f50_75 rfl rfl).trans ?_
  refine (x_iload f50_77 rfl rfl).trans ?_
  refine (x_icmp_ge (tg := 106) f50_78 rfl rfl).trans (i_c ?_ ?_)
  · refine (x_aload f50_81 rfl rfl).trans ?_
    refine (x_get0 f50_82 rfl rfl).trans ?_
    refine g_c ?_
    refine (x_if_le (tg := 106) f50_85 rfl rfl).trans (i_c ?_ ?_)
    · refine (x_aload f50_88 rfl rfl).trans ?_
      refine (x_iload f50_89 rfl rfl).trans ?_
      refine (x_aload f50_91 rfl rfl).trans ?_
      refine (x_get0 f50_92 rfl rfl).trans ?_
      refine g_c ?_
      refine (x_irem f50_95 rfl).trans ?_
      refine g_c ?_
      refine (x_iconst f50_96 rfl).trans ?_
      refine (x_invokevirtual (G := grd (kd l0 = 3) (bnV (sem 51 0 [aA l0, aI (remA l4 (s l0 6)), aI 1, aU] [] s) fun s1 => sem 50 100 [aA l0, aU, aU, aI l3, aI l4] [] s1)) f50_97 rfl rfl).trans ?_
      refine g_c ?_
      refine bV_c fun s1 => ?_
      refine (x_iinc (l2 := [aA l0, aU, aU, aI l3, aI (w32 (l4 + 1))]) f50_100 rfl rfl rfl).trans ?_
      refine (x_goto (tg := 75) f50_103 rfl rfl).trans ?_
      rfl
    · refine (x_kil (l2 := [aU, aU, aU, aU, aU]) f50_106 rfl).trans ?_
      exact x_return f50_106 rfl
  · refine (x_kil (l2 := [aU, aU, aU, aU, aU]) f50_106 rfl).trans ?_
    exact x_return f50_106 rfl
theorem f51_0 : fch 51 0 = some (.iload 1, 1, []) := by decide +kernel
theorem f51_1 : fch 51 1 = some (.invokestatic 139, 4, []) := by decide +kernel
theorem f51_4 : fch 51 4 = some (.ifCond .eq 36, 7, []) := by decide +kernel
theorem f51_7 : fch 51 7 = some (.iload 2, 8, []) := by decide +kernel
theorem f51_8 : fch 51 8 = some (.aload 0, 9, []) := by decide +kernel
theorem f51_9 : fch 51 9 = some (.invokeinterface 3 7, 12, []) := by decide +kernel
theorem f51_12 : fch 51 12 = some (.fsub, 15, []) := by decide +kernel
theorem f51_15 : fch 51 15 = some (.istore 3, 16, []) := by decide +kernel
theorem f51_16 : fch 51 16 = some (.aload 0, 17, []) := by decide +kernel
theorem f51_17 : fch 51 17 = some (.invokeinterface 3 4, 20, []) := by decide +kernel
theorem f51_20 : fch 51 20 = some (.iload 1, 21, []) := by decide +kernel
theorem f51_21 : fch 51 21 = some (.dup2, 22, []) := by decide +kernel
theorem f51_22 : fch 51 22 = some (.iaload, 23, []) := by decide +kernel
theorem f51_23 : fch 51 23 = some (.iload 3, 24, []) := by decide +kernel
theorem f51_24 : fch 51 24 = some (.iadd, 25, []) := by decide +kernel
theorem f51_25 : fch 51 25 = some (.iastore, 26, []) := by decide +kernel
theorem f51_26 : fch 51 26 = some (.aload 0, 27, []) := by decide +kernel
theorem f51_27 : fch 51 27 = some (.dup, 28, []) := by decide +kernel
theorem f51_28 : fch 51 28 = some (.invokeinterface 3 7, 31, []) := by decide +kernel
theorem f51_31 : fch 51 31 = some (.iload 3, 32, []) := by decide +kernel
theorem f51_32 : fch 51 32 = some (.isub, 33, []) := by decide +kernel
theorem f51_33 : fch 51 33 = some (.multianewarray 3 7, 36, []) := by decide +kernel
theorem f51_36 : fch 51 36 = some (.return_, 37, [0, 1, 2, 3]) := by decide +kernel
set_option maxRecDepth 10000 in
theorem e51_0 (l0 l1 l2 : Int) (s : SG) : sem 51 0 [aA l0, aI l1, aI l2, aU] [] s = bnI (sem 139 0 [aI l1] [] s) fun a2 s1 => if a2 = 0 then some (aU, s1) else grd (kd l0 = 3) (grd (kd l0 = 3) (grd (0 ≤ s1 l0 4) (grd (kd (s1 l0 4) = 101) (grd ((0 : Int) ≤ l1 ∧ l1 < kl (s1 l0 4)) (grd (kd (s1 l0 4) = 101) (grd ((0 : Int) ≤ l1 ∧ l1 < kl (s1 l0 4)) (grd (kd l0 = 3) (grd (kd l0 = 3) (some (aU, up (up s1 (s1 l0 4) l1 (w32 ((s1 (s1 l0 4) l1) + (min l2 (s1 l0 7))))) l0 7 (w32 (((up s1 (s1 l0 4) l1 (w32 ((s1 (s1 l0 4) l1) + (min l2 (s1 l0 7))))) l0 7) - (min l2 (s1 l0 7)))))))))))))) := by
  refine (x_iload f51_0 rfl rfl).trans ?_
  refine (x_invokestatic (G := bnI (sem 139 0 [aI l1] [] s) fun a2 s1 => sem 51 4 [aA l0, aI l1, aI l2, aU] [aI a2] s1) f51_1 rfl rfl).trans ?_
  refine bI_c fun a2 s1 => ?_
  refine (x_if_eq (tg := 36) f51_4 rfl rfl).trans (i_c ?_ ?_)
  · refine (x_kil (l2 := [aU, aU, aU, aU]) f51_36 rfl).trans ?_
    exact x_return f51_36 rfl
  · refine (x_iload f51_7 rfl rfl).trans ?_
    refine (x_aload f51_8 rfl rfl).trans ?_
    refine (x_get0 f51_9 rfl rfl).trans ?_
    refine g_c ?_
    refine (x_fsub f51_12 rfl rfl).trans ?_
    refine (x_istore (l2 := [aA l0, aI l1, aI l2, aI (min l2 (s1 l0 7))]) f51_15 rfl rfl).trans ?_
    refine (x_aload f51_16 rfl rfl).trans ?_
    refine (x_get2 f51_17 rfl rfl).trans ?_
    refine g_c ?_
    refine g_c ?_
    refine (x_iload f51_20 rfl rfl).trans ?_
    refine (x_dup2 f51_21 rfl rfl).trans ?_
    refine (x_iaload f51_22 rfl).trans ?_
    refine g_c ?_
    refine g_c ?_
    refine (x_iload f51_23 rfl rfl).trans ?_
    refine (x_iadd f51_24 rfl).trans ?_
    refine (x_iastore f51_25 rfl).trans ?_
    refine g_c ?_
    refine g_c ?_
    refine (x_aload f51_26 rfl rfl).trans ?_
    refine (x_dup f51_27 rfl rfl).trans ?_
    refine (x_get0 f51_28 rfl rfl).trans ?_
    refine g_c ?_
    refine (x_iload f51_31 rfl rfl).trans ?_
    refine (x_isub f51_32 rfl).trans ?_
    refine (x_put0 f51_33 rfl rfl).trans ?_
    refine g_c ?_
    refine (x_kil (l2 := [aU, aU, aU, aU]) f51_36 rfl).trans ?_
    exact x_return f51_36 rfl
theorem f52_0 : fch 52 0 = some (.iload 1, 1, []) := by decide +kernel
theorem f52_1 : fch 52 1 = some (.aload 0, 2, []) := by decide +kernel
theorem f52_2 : fch 52 2 = some (.invokeinterface 3 11, 5, []) := by decide +kernel
theorem f52_5 : fch 52 5 = some (.if_icmp .ne 34, 8, []) := by decide +kernel
theorem f52_8 : fch 52 8 = some (.aload 0, 9, []) := by decide +kernel
theorem f52_9 : fch 52 9 = some (.invokeinterface 3 10, 12, []) := by decide +kernel
theorem f52_12 : fch 52 12 = some (.invokestatic 139, 15, []) := by decide +kernel
theorem f52_15 : fch 52 15 = some (.ifCond .eq 34, 18, []) := by decide +kernel
theorem f52_18 : fch 52 18 = some (.aload 0, 19, []) := by decide +kernel
theorem f52_19 : fch 52 19 = some (.invokeinterface 3 4, 22, []) := by decide +kernel
theorem f52_22 : fch 52 22 = some (.aload 0, 23, []) := by decide +kernel
theorem f52_23 : fch 52 23 = some (.invokeinterface 3 10, 26, []) := by decide +kernel
theorem f52_26 : fch 52 26 = some (.dup2, 27, []) := by decide +kernel
theorem f52_27 : fch 52 27 = some (.iaload, 28, []) := by decide +kernel
theorem f52_28 : fch 52 28 = some (.aload 0, 29, []) := by decide +kernel
theorem f52_29 : fch 52 29 = some (.invokeinterface 3 12, 32, []) := by decide +kernel
theorem f52_32 : fch 52 32 = some (.iadd, 33, []) := by decide +kernel
theorem f52_33 : fch 52 33 = some (.iastore, 34, []) := by decide +kernel
theorem f52_34 : fch 52 34 = some (.return_, 35, [0, 1]) := by decide +kernel
set_option maxRecDepth 10000 in
theorem e52_0 (l0 l1 : Int) (s : SG) : sem 52 0 [aA l0, aI l1] [] s = grd (kd l0 = 3) (if l1 = (s l0 11) then grd (kd l0 = 3) (bnI (sem 139 0 [aI (s l0 10)] [] s) fun a2 s1 => if a2 = 0 then some (aU, s1) else grd (kd l0 = 3) (grd (0 ≤ s1 l0 4) (grd (kd l0 = 3) (grd (kd (s1 l0 4) = 101) (grd ((0 : Int) ≤ (s1 l0 10) ∧ (s1 l0 10) < kl (s1 l0 4)) (grd (kd l0 = 3) (grd (kd (s1 l0 4) = 101) (grd ((0 : Int) ≤ (s1 l0 10) ∧ (s1 l0 10) < kl (s1 l0 4)) (some (aU, up s1 (s1 l0 4) (s1 l0 10) (w32 ((s1 (s1 l0 4) (s1 l0 10)) + (s1 l0 12))))))))))))) else some (aU, s)) := by
  refine (x_iload f52_0 rfl rfl).trans ?_
  refine (x_aload f52_1 rfl rfl).trans ?_
  refine (x_get0 f52_2 rfl rfl).trans ?_
  refine g_c ?_
  refine (x_icmp_ne (tg := 34) f52_5 rfl rfl).trans (i_c ?_ ?_)
  · refine (x_aload f52_8 rfl rfl).trans ?_
    refine (x_get0 f52_9 rfl rfl).trans ?_
    refine g_c ?_
    refine (x_invokestatic (G := bnI (sem 139 0 [aI (s l0 10)] [] s) fun a2 s1 => sem 52 15 [aA l0, aI l1] [aI a2] s1) f52_12 rfl rfl).trans ?_
    refine bI_c fun a2 s1 => ?_
    refine (x_if_eq (tg := 34) f52_15 rfl rfl).trans (i_c ?_ ?_)
    · refine (x_kil (l2 := [aU, aU]) f52_34 rfl).trans ?_
      exact x_return f52_34 rfl
    · refine (x_aload f52_18 rfl rfl).trans ?_
      refine (x_get2 f52_19 rfl rfl).trans ?_
      refine g_c ?_
      refine g_c ?_
      refine (x_aload f52_22 rfl rfl).trans ?_
      refine (x_get0 f52_23 rfl rfl).trans ?_
      refine g_c ?_
      refine (x_dup2 f52_26 rfl rfl).trans ?_
      refine (x_iaload f52_27 rfl).trans ?_
      refine g_c ?_
      refine g_c ?_
      refine (x_aload f52_28 rfl rfl).trans ?_
      refine (x_get0 f52_29 rfl rfl).trans ?_
      refine g_c ?_
      refine (x_iadd f52_32 rfl).trans ?_
      refine (x_iastore f52_33 rfl).trans ?_
      refine g_c ?_
      refine g_c ?_
      refine (x_kil (l2 := [aU, aU]) f52_34 rfl).trans ?_
      exact x_return f52_34 rfl
  · refine (x_kil (l2 := [aU, aU]) f52_34 rfl).trans ?_
    exact x_return f52_34 rfl
theorem f53_0 : fch 53 0 = some (.iload 3, 1, []) := by decide +kernel
theorem f53_1 : fch 53 1 = some (.invokestatic 139, 4, []) := by decide +kernel
theorem f53_4 : fch 53 4 = some (.ifCond .ne 8, 7, []) := by decide +kernel
theorem f53_7 : fch 53 7 = some (.return_, 8, []) := by decide +kernel
theorem f53_8 : fch 53 8 = some (.aload 2, 9, []) := by decide +kernel
theorem f53_9 : fch 53 9 = some (.iload 3, 10, []) := by decide +kernel
theorem f53_10 : fch 53 10 = some (.aload 1, 11, []) := by decide +kernel
theorem f53_11 : fch 53 11 = some (.iload 3, 12, []) := by decide +kernel
theorem f53_12 : fch 53 12 = some (.aload 2, 13, []) := by decide +kernel
theorem f53_13 : fch 53 13 = some (.invokeinterface 1 6, 16, []) := by decide +kernel
theorem f53_16 : fch 53 16 = some (.invokevirtual 84, 19, []) := by decide +kernel
theorem f53_19 : fch 53 19 = some (.invokevirtual 29, 22, []) := by decide +kernel
theorem f53_22 : fch 53 22 = some (.aload 0, 23, []) := by decide +kernel
theorem f53_23 : fch 53 23 = some (.aload 1, 24, []) := by decide +kernel
theorem f53_24 : fch 53 24 = some (.iload 3, 25, []) := by decide +kernel
theorem f53_25 : fch 53 25 = some (.iload 4, 27, []) := by decide +kernel
theorem f53_27 : fch 53 27 = some (.invokevirtual 54, 30, []) := by decide +kernel
theorem f53_30 : fch 53 30 = some (.iadd, 31, []) := by decide +kernel
theorem f53_31 : fch 53 31 = some (.istore 5, 33, []) := by decide +kernel
theorem f53_33 : fch 53 33 = some (.iload 3, 34, []) := by decide +kernel
theorem f53_34 : fch 53 34 = some (.aload 0, 35, []) := by decide +kernel
theorem f53_35 : fch 53 35 = some (.invokeinterface 3 9, 38, []) := by decide +kernel
theorem f53_38 : fch 53 38 = some (.if_icmp .eq 51, 41, []) := by decide +kernel
theorem f53_41 : fch 53 41 = some (.aload 2, 42, []) := by decide +kernel
theorem f53_42 : fch 53 42 = some (.iload 3, 43, []) := by decide +kernel
theorem f53_43 : fch 53 43 = some (.iload 4, 45, []) := by decide +kernel
theorem f53_45 : fch 53 45 = some (.invokevirtual 23, 48, []) := by decide +kernel
theorem f53_48 : fch 53 48 = some (.ifCond .eq 54, 51, []) := by decide +kernel
theorem f53_51 : fch 53 51 = some (.iinc 5 1, 54, [2]) := by decide +kernel
theorem f53_54 : fch 53 54 = some (.iload 5, 56, [2]) := by decide +kernel
theorem f53_56 : fch 53 56 = some (.aload 0, 57, []) := by decide +kernel
theorem f53_57 : fch 53 57 = some (.invokeinterface 3 4, 60, []) := by decide +kernel
theorem f53_60 : fch 53 60 = some (.iload 3, 61, []) := by decide +kernel
theorem f53_61 : fch 53 61 = some (.iaload, 62, []) := by decide +kernel
theorem f53_62 : fch 53 62 = some (.fsub, 65, []) := by decide +kernel
theorem f53_65 : fch 53 65 = some (.istore 6, 67, []) := by decide +kernel
theorem f53_67 : fch 53 67 = some (.aload 0, 68, []) := by decide +kernel
theorem f53_68 : fch 53 68 = some (.invokeinterface 3 4, 71, []) := by decide +kernel
theorem f53_71 : fch 53 71 = some (.iload 3, 72, []) := by decide +kernel
theorem f53_72 : fch 53 72 = some (.dup2, 73, []) := by decide +kernel
theorem f53_73 : fch 53 73 = some (.iaload, 74, []) := by decide +kernel
theorem f53_74 : fch 53 74 = some (.iload 6, 76, []) := by decide +kernel
theorem f53_76 : fch 53 76 = some (.isub, 77, []) := by decide +kernel
theorem f53_77 : fch 53 77 = some (.iastore, 78, []) := by decide +kernel
theorem f53_78 : fch 53 78 = some (.aload 0, 79, []) := by decide +kernel
theorem f53_79 : fch 53 79 = some (.invokeinterface 3 5, 82, []) := by decide +kernel
theorem f53_82 : fch 53 82 = some (.iload 3, 83, []) := by decide +kernel
theorem f53_83 : fch 53 83 = some (.dup2, 84, []) := by decide +kernel
theorem f53_84 : fch 53 84 = some (.iaload, 85, []) := by decide +kernel
theorem f53_85 : fch 53 85 = some (.iload 6, 87, []) := by decide +kernel
theorem f53_87 : fch 53 87 = some (.iadd, 88, []) := by decide +kernel
theorem f53_88 : fch 53 88 = some (.iastore, 89, []) := by decide +kernel
theorem f53_89 : fch 53 89 = some (.iload 3, 90, []) := by decide +kernel
theorem f53_90 : fch 53 90 = some (.iload 4, 92, []) := by decide +kernel
theorem f53_92 : fch 53 92 = some (.invokestatic 55, 95, []) := by decide +kernel
theorem f53_95 : fch 53 95 = some (.istore 7, 97, []) := by decide +kernel
theorem f53_97 : fch 53 97 = some (.aload 0, 98, []) := by decide +kernel
theorem f53_98 : fch 53 98 = some (.invokeinterface 3 0, 101, []) := by decide +kernel
theorem f53_101 : fch 53 101 = some (.iload 7, 103, []) := by decide +kernel
theorem f53_103 : fch 53 103 = some (.aload 0, 104, []) := by decide +kernel
theorem f53_104 : fch 53 104 = some (.invokeinterface 3 4, 107, []) := by decide +kernel
theorem f53_107 : fch 53 107 = some (.iload 3, 108, []) := by decide +kernel
theorem f53_108 : fch 53 108 = some (.iaload, 109, []) := by decide +kernel
theorem f53_109 : fch 53 109 = some (.iastore, 110, []) := by decide +kernel
theorem f53_110 : fch 53 110 = some (.aload 0, 111, []) := by decide +kernel
theorem f53_111 : fch 53 111 = some (.invokeinterface 3 1, 114, []) := by decide +kernel
theorem f53_114 : fch 53 114 = some (.iload 7, 116, []) := by decide +kernel
theorem f53_116 : fch 53 116 = some (.aload 0, 117, []) := by decide +kernel
theorem f53_117 : fch 53 117 = some (.invokeinterface 3 5, 120, []) := by decide +kernel
theorem f53_120 : fch 53 120 = some (.iload 3, 121, []) := by decide +kernel
theorem f53_121 : fch 53 121 = some (.iaload, 122, []) := by decide +kernel
theorem f53_122 : fch 53 122 = some (.iastore, 123, []) := by decide +kernel
theorem f53_123 : fch 53 123 = some (.aload 0, 124, []) := by decide +kernel
theorem f53_124 : fch 53 124 = some (.invokeinterface 3 2, 127, []) := by decide +kernel
theorem f53_127 : fch 53 127 = some (.iload 7, 129, []) := by decide +kernel
theorem f53_129 : fch 53 129 = some (.iload 5, 131, []) := by decide +kernel
theorem f53_131 : fch 53 131 = some (.iastore, 132, []) := by decide +kernel
theorem f53_132 : fch 53 132 = some (.aload 0, 133, []) := by decide +kernel
theorem f53_133 : fch 53 133 = some (.invokeinterface 3 3, 136, []) := by decide +kernel
theorem f53_136 : fch 53 136 = some (.iload 7, 138, []) := by decide +kernel
theorem f53_138 : fch 53 138 = some (.iload 5, 140, []) := by decide +kernel
theorem f53_140 : fch 53 140 = some (.iload 6, 142, []) := by decide +kernel
theorem f53_142 : fch 53 142 = some (.isub, 143, []) := by decide +kernel
theorem f53_143 : fch 53 143 = some (.iastore, 144, []) := by decide +kernel
theorem f53_144 : fch 53 144 = some (.iload 4, 146, []) := by decide +kernel
theorem f53_146 : fch 53 146 = some (.iconst 5, 147, []) := by decide +kernel
theorem f53_147 : fch 53 147 = some (.if_icmp .eq 160, 150, []) := by decide +kernel
theorem f53_150 : fch 53 150 = some (.aload 1, 151, []) := by decide +kernel
theorem f53_151 : fch 53 151 = some (.iload 3, 152, []) := by decide +kernel
theorem f53_152 : fch 53 152 = some (.invokevirtual 86, 155, []) := by decide +kernel
theorem f53_155 : fch 53 155 = some (.iconst (-9), 157, []) := by decide +kernel
theorem f53_157 : fch 53 157 = some (.if_icmp .ne 174, 160, []) := by decide +kernel
theorem f53_160 : fch 53 160 = some (.aload 0, 161, [1, 2, 3, 4, 7]) := by decide +kernel
theorem f53_161 : fch 53 161 = some (.dup, 162, []) := by decide +kernel
theorem f53_162 : fch 53 162 = some (.invokeinterface 3 8, 165, []) := by decide +kernel
theorem f53_165 : fch 53 165 = some (.iload 5, 167, []) := by decide +kernel
theorem f53_167 : fch 53 167 = some (.iload 6, 169, []) := by decide +kernel
theorem f53_169 : fch 53 169 = some (.isub, 170, []) := by decide +kernel
theorem f53_170 : fch 53 170 = some (.iadd, 171, []) := by decide +kernel
theorem f53_171 : fch 53 171 = some (.multianewarray 3 8, 174, []) := by decide +kernel
theorem f53_174 : fch 53 174 = some (.return_, 175, [0, 1, 2, 3, 4, 5, 6, 7]) := by decide +kernel
set_option maxRecDepth 10000 in
theorem e53_0 (l0 l1 l2 l3 l4 : Int) (s : SG) : sem 53 0 [aA l0, aA l1, aA l2, aI l3, aI l4, aU, aU, aU] [] s = bnI (sem 139 0 [aI l3] [] s) fun a2 s1 => if a2 = 0 then some (aU, s1) else grd (kd l2 = 1) (grd (kd l1 = 6) (bnI (sem 84 0 [aA l1, aI l3, aI (s1 l2 6), aU] [] s1) fun a4 s3 => grd (kd l2 = 1) (bnI (sem 29 0 [aA l2, aI l3, aI a4, aU] [] s3) fun a6 s5 => grd (kd l0 = 3) (bnI (sem 54 0 [aA l0, aA l1, aI l3, aI l4, aU, aU] [] s5) fun a8 s7 => grd (kd l0 = 3) (if l3 = (s7 l0 9) then sem 53 54 [aA l0, aA l1, aU, aI l3, aI l4, aI (w32 ((w32 (a6 + a8)) + 1)), aU, aU] [] s7 else grd (kd l2 = 1) (bnI (sem 23 0 [aA l2, aI l3, aI l4] [] s7) fun a10 s9 => if a10 = 0 then sem 53 54 [aA l0, aA l1, aU, aI l3, aI l4, aI (w32 (a6 + a8)), aU, aU] [] s9 else sem 53 54 [aA l0, aA l1, aU, aI l3, aI l4, aI (w32 ((w32 (a6 + a8)) + 1)), aU, aU] [] s9)))))) := by
  refine (x_iload f53_0 rfl rfl).trans ?_
  refine (x_invokestatic (G := bnI (sem 139 0 [aI l3] [] s) fun a2 s1 => sem 53 4 [aA l0, aA l1, aA l2, aI l3, aI l4, aU, aU, aU] [aI a2] s1) f53_1 rfl rfl).trans ?_
  refine bI_c fun a2 s1 => ?_
  refine (x_if_ne (tg := 8) f53_4 rfl rfl).trans (i_c ?_ ?_)
  · exact x_return f53_7 rfl
  · refine (x_aload f53_8 rfl rfl).trans ?_
    refine (x_iload f53_9 rfl rfl).trans ?_
    refine (x_aload f53_10 rfl rfl).trans ?_
    refine (x_iload f53_11 rfl rfl).trans ?_
    refine (x_aload f53_12 rfl rfl).trans ?_
    refine (x_get0 f53_13 rfl rfl).trans ?_
    refine g_c ?_
    refine (x_invokevirtual (G := grd (kd l1 = 6) (bnI (sem 84 0 [aA l1, aI l3, aI (s1 l2 6), aU] [] s1) fun a4 s3 => sem 53 19 [aA l0, aA l1, aA l2, aI l3, aI l4, aU, aU, aU] [aI a4, aI l3, aA l2] s3)) f53_16 rfl rfl).trans ?_
    refine g_c ?_
    refine bI_c fun a4 s3 => ?_
    refine (x_invokevirtual (G := grd (kd l2 = 1) (bnI (sem 29 0 [aA l2, aI l3, aI a4, aU] [] s3) fun a6 s5 => sem 53 22 [aA l0, aA l1, aA l2, aI l3, aI l4, aU, aU, aU] [aI a6] s5)) f53_19 rfl rfl).trans ?_
    refine g_c ?_
    refine bI_c fun a6 s5 => ?_
    refine (x_aload f53_22 rfl rfl).trans ?_
    refine (x_aload f53_23 rfl rfl).trans ?_
    refine (x_iload f53_24 rfl rfl).trans ?_
    refine (x_iload f53_25 rfl rfl).trans ?_
    refine (x_invokevirtual (G := grd (kd l0 = 3) (bnI (sem 54 0 [aA l0, aA l1, aI l3, aI l4, aU, aU] [] s5) fun a8 s7 => sem 53 30 [aA l0, aA l1, aA l2, aI l3, aI l4, aU, aU, aU] [aI a8, aI a6] s7)) f53_27 rfl rfl).trans ?_
    refine g_c ?_
    refine bI_c fun a8 s7 => ?_
    refine (x_iadd f53_30 rfl).trans ?_
    refine (x_istore (l2 := [aA l0, aA l1, aA l2, aI l3, aI l4, aI (w32 (a6 + a8)), aU, aU]) f53_31 rfl rfl).trans ?_
    refine (x_iload f53_33 rfl rfl).trans ?_
    refine (x_aload f53_34 rfl rfl).trans ?_
    refine (x_get0 f53_35 rfl rfl).trans ?_
    refine g_c ?_
    refine (x_icmp_eq (tg := 51) f53_38 rfl rfl).trans (i_c ?_ ?_)
    · refine (x_kil (l2 := [aA l0, aA l1, aU, aI l3, aI l4, aI (w32 (a6 + a8)), aU, aU]) f53_51 rfl).trans ?_
      refine (x_iinc (l2 := [aA l0, aA l1, aU, aI l3, aI l4, aI (w32 ((w32 (a6 + a8)) + 1)), aU, aU]) f53_51 rfl rfl rfl).trans ?_
      rfl
    · refine (x_aload f53_41 rfl rfl).trans ?_
      refine (x_iload f53_42 rfl rfl).trans ?_
      refine (x_iload f53_43 rfl rfl).trans ?_
      refine (x_invokevirtual (G := grd (kd l2 = 1) (bnI (sem 23 0 [aA l2, aI l3, aI l4] [] s7) fun a10 s9 => sem 53 48 [aA l0, aA l1, aA l2, aI l3, aI l4, aI (w32 (a6 + a8)), aU, aU] [aI a10] s9)) f53_45 rfl rfl).trans ?_
      refine g_c ?_
      refine bI_c fun a10 s9 => ?_
      refine (x_if_eq (tg := 54) f53_48 rfl rfl).trans (i_c ?_ ?_)
      · exact x_kil f53_54 rfl
      · refine (x_kil (l2 := [aA l0, aA l1, aU, aI l3, aI l4, aI (w32 (a6 + a8)), aU, aU]) f53_51 rfl).trans ?_
        refine (x_iinc (l2 := [aA l0, aA l1, aU, aI l3, aI l4, aI (w32 ((w32 (a6 + a8)) + 1)), aU, aU]) f53_51 rfl rfl rfl).trans ?_
        rfl
set_option maxRecDepth 10000 in
theorem e53_54 (l0 l1 l3 l4 l5 : Int) (s : SG) : sem 53 54 [aA l0, aA l1, aU, aI l3, aI l4, aI l5, aU, aU] [] s = grd (kd l0 = 3) (grd (0 ≤ s l0 4) (grd (kd (s l0 4) = 101) (grd ((0 : Int) ≤ l3 ∧ l3 < kl (s l0 4)) (grd (kd l0 = 3) (grd (0 ≤ s l0 4) (grd (kd (s l0 4) = 101) (grd ((0 : Int) ≤ l3 ∧ l3 < kl (s l0 4)) (grd (kd (s l0 4) = 101) (grd ((0 : Int) ≤ l3 ∧ l3 < kl (s l0 4)) (grd (kd l0 = 3) (grd (0 ≤ (up s (s l0 4) l3 (w32 ((s (s l0 4) l3) - (min l5 (s (s l0 4) l3))))) l0 5) (grd (kd ((up s (s l0 4) l3 (w32 ((s (s l0 4) l3) - (min l5 (s (s l0 4) l3))))) l0 5) = 101) (grd ((0 : Int) ≤ l3 ∧ l3 < kl ((up s (s l0 4) l3 (w32 ((s (s l0 4) l3) - (min l5 (s (s l0 4) l3))))) l0 5)) (grd (kd ((up s (s l0 4) l3 (w32 ((s (s l0 4) l3) - (min l5 (s (s l0 4) l3))))) l0 5) = 101) (grd ((0 : Int) ≤ l3 ∧ l3 < kl ((up s (s l0 4) l3 (w32 ((s (s l0 4) l3) - (min l5 (s (s l0 4) l3))))) l0 5)) (sem 53 89 [aA l0, aA l1, aU, aI l3, aI l4, aI l5, aI (min l5 (s (s l0 4) l3)), aU] [] (up (up s (s l0 4) l3 (w32 ((s (s l0 4) l3) - (min l5 (s (s l0 4) l3))))) ((up s (s l0 4) l3 (w32 ((s (s l0 4) l3) - (min l5 (s (s l0 4) l3))))) l0 5) l3 (w32 (((up s (s l0 4) l3 (w32 ((s (s l0 4) l3) - (min l5 (s (s l0 4) l3))))) ((up s (s l0 4) l3 (w32 ((s (s l0 4) l3) - (min l5 (s (s l0 4) l3))))) l0 5) l3) + (min l5 (s (s l0 4) l3))))))))))))))))))))) := by
  refine (x_iload f53_54 rfl rfl).trans ?_
  refine (x_aload f53_56 rfl rfl).trans ?_
  refine (x_get2 f53_57 rfl rfl).trans ?_
  refine g_c ?_
  refine g_c ?_
  refine (x_iload f53_60 rfl rfl).trans ?_
  refine (x_iaload f53_61 rfl).trans ?_
  refine g_c ?_
  refine g_c ?_
  refine (x_fsub f53_62 rfl rfl).trans ?_
  refine (x_istore (l2 := [aA l0, aA l1, aU, aI l3, aI l4, aI l5, aI (min l5 (s (s l0 4) l3)), aU]) f53_65 rfl rfl).trans ?_
  refine (x_aload f53_67 rfl rfl).trans ?_
  refine (x_get2 f53_68 rfl rfl).trans ?_
  refine g_c ?_
  refine g_c ?_
  refine (x_iload f53_71 rfl rfl).trans ?_
  refine (x_dup2 f53_72 rfl rfl).trans ?_
  refine (x_iaload f53_73 rfl).trans ?_
  refine g_c ?_
  refine g_c ?_
  refine (x_iload f53_74 rfl rfl).trans ?_
  refine (x_isub f53_76 rfl).trans ?_
  refine (x_iastore f53_77 rfl).trans ?_
  refine g_c ?_
  refine g_c ?_
  refine (x_aload f53_78 rfl rfl).trans ?_
  refine (x_get2 f53_79 rfl rfl).trans ?_
  refine g_c ?_
  refine g_c ?_
  refine (x_iload f53_82 rfl rfl).trans ?_
  refine (x_dup2 f53_83 rfl rfl).trans ?_
  refine (x_iaload f53_84 rfl).trans ?_
  refine g_c ?_
  refine g_c ?_
  refine (x_iload f53_85 rfl rfl).trans ?_
  refine (x_iadd f53_87 rfl).trans ?_
  refine (x_iastore f53_88 rfl).trans ?_
  refine g_c ?_
  refine g_c ?_
  rfl
set_option maxRecDepth 10000 in
theorem e53_89 (l0 l1 l2 l3 l4 l5 l6 : Int) (s : SG) : sem 53 89 [aA l0, aA l1, aA l2, aI l3, aI l4, aI l5, aI l6, aU] [] s = bnI (sem 55 0 [aI l3, aI l4, aU] [] s) fun a2 s1 => grd (kd l0 = 3) (grd (0 ≤ s1 l0 0) (grd (kd l0 = 3) (grd (0 ≤ s1 l0 4) (grd (kd (s1 l0 4) = 101) (grd ((0 : Int) ≤ l3 ∧ l3 < kl (s1 l0 4)) (grd (kd (s1 l0 0) = 101) (grd ((0 : Int) ≤ a2 ∧ a2 < kl (s1 l0 0)) (grd (kd l0 = 3) (grd (0 ≤ (up s1 (s1 l0 0) a2 (s1 (s1 l0 4) l3)) l0 1) (grd (kd l0 = 3) (grd (0 ≤ (up s1 (s1 l0 0) a2 (s1 (s1 l0 4) l3)) l0 5) (grd (kd ((up s1 (s1 l0 0) a2 (s1 (s1 l0 4) l3)) l0 5) = 101) (grd ((0 : Int) ≤ l3 ∧ l3 < kl ((up s1 (s1 l0 0) a2 (s1 (s1 l0 4) l3)) l0 5)) (grd (kd ((up s1 (s1 l0 0) a2 (s1 (s1 l0 4) l3)) l0 1) = 101) (grd ((0 : Int) ≤ a2 ∧ a2 < kl ((up s1 (s1 l0 0) a2 (s1 (s1 l0 4) l3)) l0 1)) (grd (kd l0 = 3) (grd (0 ≤ (up (up s1 (s1 l0 0) a2 (s1 (s1 l0 4) l3)) ((up s1 (s1 l0 0) a2 (s1 (s1 l0 4) l3)) l0 1) a2 ((up s1 (s1 l0 0) a2 (s1 (s1 l0 4) l3)) ((up s1 (s1 l0 0) a2 (s1 (s1 l0 4) l3)) l0 5) l3)) l0 2) (grd (kd ((up (up s1 (s1 l0 0) a2 (s1 (s1 l0 4) l3)) ((up s1 (s1 l0 0) a2 (s1 (s1 l0 4) l3)) l0 1) a2 ((up s1 (s1 l0 0) a2 (s1 (s1 l0 4) l3)) ((up s1 (s1 l0 0) a2 (s1 (s1 l0 4) l3)) l0 5) l3)) l0 2) = 101) (grd ((0 : Int) ≤ a2 ∧ a2 < kl ((up (up s1 (s1 l0 0) a2 (s1 (s1 l0 4) l3)) ((up s1 (s1 l0 0) a2 (s1 (s1 l0 4) l3)) l0 1) a2 ((up s1 (s1 l0 0) a2 (s1 (s1 l0 4) l3)) ((up s1 (s1 l0 0) a2 (s1 (s1 l0 4) l3)) l0 5) l3)) l0 2)) (sem 53 132 [aA l0, aA l1, aA l2, aI l3, aI l4, aI l5, aI l6, aI a2] [] (up (up (up s1 (s1 l0 0) a2 (s1 (s1 l0 4) l3)) ((up s1 (s1 l0 0) a2 (s1 (s1 l0 4) l3)) l0 1) a2 ((up s1 (s1 l0 0) a2 (s1 (s1 l0 4) l3)) ((up s1 (s1 l0 0) a2 (s1 (s1 l0 4) l3)) l0 5) l3)) ((up (up s1 (s1 l0 0) a2 (s1 (s1 l0 4) l3)) ((up s1 (s1 l0 0) a2 (s1 (s1 l0 4) l3)) l0 1) a2 ((up s1 (s1 l0 0) a2 (s1 (s1 l0 4) l3)) ((up s1 (s1 l0 0) a2 (s1 (s1 l0 4) l3)) l0 5) l3)) l0 2) a2 l5))))))))))))))))))))) := by
  refine (x_iload f53_89 rfl rfl).trans ?_
  refine (x_iload f53_90 rfl rfl).trans ?_
  refine (x_invokestatic (G := bnI (sem 55 0 [aI l3, aI l4, aU] [] s) fun a2 s1 => sem 53 95 [aA l0, aA l1, aA l2, aI l3, aI l4, aI l5, aI l6, aU] [aI a2] s1) f53_92 rfl rfl).trans ?_
  refine bI_c fun a2 s1 => ?_
  refine (x_istore (l2 := [aA l0, aA l1, aA l2, aI l3, aI l4, aI l5, aI l6, aI a2]) f53_95 rfl rfl).trans ?_
  refine (x_aload f53_97 rfl rfl).trans ?_
  refine (x_get2 f53_98 rfl rfl).trans ?_
  refine g_c ?_
  refine g_c ?_
  refine (x_iload f53_101 rfl rfl).trans ?_
  refine (x_aload f53_103 rfl rfl).trans ?_
  refine (x_get2 f53_104 rfl rfl).trans ?_
  refine g_c ?_
  refine g_c ?_
  refine (x_iload f53_107 rfl rfl).trans ?_
  refine (x_iaload f53_108 rfl).trans ?_
  refine g_c ?_
  refine g_c ?_
  refine (x_iastore f53_109 rfl).trans ?_
  refine g_c ?_
  refine g_c ?_
  refine (x_aload f53_110 rfl rfl).trans ?_
  refine (x_get2 f53_111 rfl rfl).trans ?_
  refine g_c ?_
  refine g_c ?_
  refine (x_iload f53_114 rfl rfl).trans ?_
  refine (x_aload f53_116 rfl rfl).trans ?_
  refine (x_get2 f53_117 rfl rfl).trans ?_
  refine g_c ?_
  refine g_c ?_
  refine (x_iload f53_120 rfl rfl).trans ?_
  refine (x_iaload f53_121 rfl).trans ?_
  refine g_c ?_
  refine g_c ?_
  refine (x_iastore f53_122 rfl).trans ?_
  refine g_c ?_
  refine g_c ?_
  refine (x_aload f53_123 rfl rfl).trans ?_
  refine (x_get2 f53_124 rfl rfl).trans ?_
  refine g_c ?_
  refine g_c ?_
  refine (x_iload f53_127 rfl rfl).trans ?_
  refine (x_iload f53_129 rfl rfl).trans ?_
  refine (x_iastore f53_131 rfl).trans ?_
  refine g_c ?_
  refine g_c ?_
  rfl
set_option maxRecDepth 10000 in
theorem e53_132 (l0 l1 l2 l3 l4 l5 l6 l7 : Int) (s : SG) : sem 53 132 [aA l0, aA l1, aA l2, aI l3, aI l4, aI l5, aI l6, aI l7] [] s = grd (kd l0 = 3) (grd (0 ≤ s l0 3) (grd (kd (s l0 3) = 101) (grd ((0 : Int) ≤ l7 ∧ l7 < kl (s l0 3)) (if l4 = 5 then grd (kd l0 = 3) (grd (kd l0 = 3) (some (aU, up (up s (s l0 3) l7 (w32 (l5 - l6))) l0 8 (w32 (((up s (s l0 3) l7 (w32 (l5 - l6))) l0 8) + (w32 (l5 - l6))))))) else grd (kd l1 = 6) (bnI (sem 86 0 [aA l1, aI l3] [] (up s (s l0 3) l7 (w32 (l5 - l6)))) fun a2 s1 => if a2 = ((-9)) then grd (kd l0 = 3) (grd (kd l0 = 3) (some (aU, up s1 l0 8 (w32 ((s1 l0 8) + (w32 (l5 - l6))))))) else some (aU, s1)))))) := by
  refine (x_aload f53_132 rfl rfl).trans ?_
  refine (x_get2 f53_133 rfl rfl).trans ?_
  refine g_c ?_
  refine g_c ?_
  refine (x_iload f53_136 rfl rfl).trans ?_
  refine (x_iload f53_138 rfl rfl).trans ?_
  refine (x_iload f53_140 rfl rfl).trans ?_
  refine (x_isub f53_142 rfl).trans ?_
  refine (x_iastore f53_143 rfl).trans ?_
  refine g_c ?_
  refine g_c ?_
  refine (x_iload f53_144 rfl rfl).trans ?_
  refine (x_iconst f53_146 rfl).trans ?_
  refine (x_icmp_eq (tg := 160) f53_147 rfl rfl).trans (i_c ?_ ?_)
  · refine (x_kil (l2 := [aA l0, aU, aU, aU, aU, aI l5, aI l6, aU]) f53_160 rfl).trans ?_
    refine (x_aload f53_160 rfl rfl).trans ?_
    refine (x_dup f53_161 rfl rfl).trans ?_
    refine (x_get0 f53_162 rfl rfl).trans ?_
    refine g_c ?_
    refine (x_iload f53_165 rfl rfl).trans ?_
    refine (x_iload f53_167 rfl rfl).trans ?_
    refine (x_isub f53_169 rfl).trans ?_
    refine (x_iadd f53_170 rfl).trans ?_
    refine (x_put0 f53_171 rfl rfl).trans ?_
    refine g_c ?_
    refine (x_kil (l2 := [aU, aU, aU, aU, aU, aU, aU, aU]) f53_174 rfl).trans ?_
    exact x_return f53_174 rfl
  · refine (x_aload f53_150 rfl rfl).trans ?_
    refine (x_iload f53_151 rfl rfl).trans ?_
    refine (x_invokevirtual (G := grd (kd l1 = 6) (bnI (sem 86 0 [aA l1, aI l3] [] (up s (s l0 3) l7 (w32 (l5 - l6)))) fun a2 s1 => sem 53 155 [aA l0, aA l1, aA l2, aI l3, aI l4, aI l5, aI l6, aI l7] [aI a2] s1)) f53_152 rfl rfl).trans ?_
    refine g_c ?_
    refine bI_c fun a2 s1 => ?_
    refine (x_iconst f53_155 rfl).trans ?_
    refine (x_icmp_ne (tg := 174) f53_157 rfl rfl).trans (i_c ?_ ?_)
    · refine (x_kil (l2 := [aA l0, aU, aU, aU, aU, aI l5, aI l6, aU]) f53_160 rfl).trans ?_
      refine (x_aload f53_160 rfl rfl).trans ?_
      refine (x_dup f53_161 rfl rfl).trans ?_
      refine (x_get0 f53_162 rfl rfl).trans ?_
      refine g_c ?_
      refine (x_iload f53_165 rfl rfl).trans ?_
      refine (x_iload f53_167 rfl rfl).trans ?_
      refine (x_isub f53_169 rfl).trans ?_
      refine (x_iadd f53_170 rfl).trans ?_
      refine (x_put0 f53_171 rfl rfl).trans ?_
      refine g_c ?_
      refine (x_kil (l2 := [aU, aU, aU, aU, aU, aU, aU, aU]) f53_174 rfl).trans ?_
      exact x_return f53_174 rfl
    · refine (x_kil (l2 := [aU, aU, aU, aU, aU, aU, aU, aU]) f53_174 rfl).trans ?_
      exact x_return f53_174 rfl
theorem f54_0 : fch 54 0 = some (.iconst 0, 1, []) := by decide +kernel
theorem f54_1 : fch 54 1 = some (.istore 4, 3, []) := by decide +kernel
theorem f54_3 : fch 54 3 = some (.iconst 0, 4, []) := by decide +kernel
theorem f54_4 : fch 54 4 = some (.istore 5, 6, []) := by decide +kernel
theorem f54_6 : fch 54 6 = some (.iload 5, 8, []) := by decide +kernel
theorem f54_8 : fch 54 8 = some (.aload 0, 9, []) := by decide +kernel
theorem f54_9 : fch 54 9 = some (.invokeinterface 3 6, 12, []) := by decide +kernel
theorem f54_12 : fch 54 12 = some (.if_icmp .ge 53, 15, []) := by decide +kernel
theorem f54_15 : fch 54 15 = some (.iload 3, 16, []) := by decide +kernel
theorem f54_16 : fch 54 16 = some (.ifCond .le 53, 19, []) := by decide +kernel
theorem f54_19 : fch 54 19 = some (.aload 1, 20, []) := by decide +kernel
theorem f54_20 : fch 54 20 = some (.iload 5, 22, []) := by decide +kernel
theorem f54_22 : fch 54 22 = some (.invokevirtual 86, 25, []) := by decide +kernel
theorem f54_25 : fch 54 25 = some (.iload 2, 26, []) := by decide +kernel
theorem f54_26 : fch 54 26 = some (.if_icmp .ne 47, 29, []) := by decide +kernel
theorem f54_29 : fch 54 29 = some (.iload 4, 31, []) := by decide +kernel
theorem f54_31 : fch 54 31 = some (.aload 0, 32, []) := by decide +kernel
theorem f54_32 : fch 54 32 = some (.invokeinterface 3 3, 35, []) := by decide +kernel
theorem f54_35 : fch 54 35 = some (.iload 5, 37, []) := by decide +kernel
theorem f54_37 : fch 54 37 = some (.iload 3, 38, []) := by decide +kernel
theorem f54_38 : fch 54 38 = some (.iconst 1, 39, []) := by decide +kernel
theorem f54_39 : fch 54 39 = some (.isub, 40, []) := by decide +kernel
theorem f54_40 : fch 54 40 = some (.invokestatic 55, 43, []) := by decide +kernel
theorem f54_43 : fch 54 43 = some (.iaload, 44, []) := by decide +kernel
theorem f54_44 : fch 54 44 = some (.iadd, 45, []) := by decide +kernel
theorem f54_45 : fch 54 45 = some (.istore 4, 47, []) := by decide +kernel
theorem f54_47 : fch 54 47 = some (.iinc 5 1, 50, []) := by decide +kernel
theorem f54_50 : fch 54 50 = some (.goto 6, 53, []) := by decide +kernel
theorem f54_53 : fch 54 53 = some (.iload 4, 55, [0, 1, 2, 3, 5]) := by decide +kernel
theorem f54_55 : fch 54 55 = some (.ireturn, 56, []) := by decide +kernel
set_option maxRecDepth 10000 in
theorem e54_0 (l0 l1 l2 l3 : Int) (s : SG) : sem 54 0 [aA l0, aA l1, aI l2, aI l3, aU, aU] [] s = sem 54 6 [aA l0, aA l1, aI l2, aI l3, aI 0, aI 0] [] s := by
  refine (x_iconst f54_0 rfl).trans ?_
  refine (x_istore (l2 := [aA l0, aA l1, aI l2, aI l3, aI 0, aU]) f54_1 rfl rfl).trans ?_
  refine (x_iconst f54_3 rfl).trans ?_
  refine (x_istore (l2 := [aA l0, aA l1, aI l2, aI l3, aI 0, aI 0]) f54_4 rfl rfl).trans ?_
  rfl
set_option maxRecDepth 10000 in
theorem e54_6 (l0 l1 l2 l3 l4 l5 : Int) (s : SG) : sem 54 6 [aA l0, aA l1, aI l2, aI l3, aI l4, aI l5] [] s = grd (kd l0 = 3) (if l5 < (s l0 6) then if (0 : Int) < l3 then grd (kd l1 = 6) (bnI (sem 86 0 [aA l1, aI l5] [] s) fun a2 s1 => if a2 = l2 then grd (kd l0 = 3) (grd (0 ≤ s1 l0 3) (bnI (sem 55 0 [aI l5, aI (w32 (l3 - 1)), aU] [] s1) fun a4 s3 => grd (kd (s1 l0 3) = 101) (grd ((0 : Int) ≤ a4 ∧ a4 < kl (s1 l0 3)) (sem 54 6 [aA l0, aA l1, aI l2, aI l3, aI (w32 (l4 + (s3 (s1 l0 3) a4))), aI (w32 (l5 + 1))] [] s3)))) else sem 54 6 [aA l0, aA l1, aI l2, aI l3, aI l4, aI (w32 (l5 + 1))] [] s1) else some (aI l4, s) else some (aI l4, s)) := by
  refine (x_iload f54_6 rfl rfl).trans ?_
  refine (x_aload f54_8 rfl rfl).trans ?_
  refine (x_get0 f54_9 rfl rfl).trans ?_
  refine g_c ?_
  refine (x_icmp_ge (tg := 53) f54_12 rfl rfl).trans (i_c ?_ ?_)
  · refine (x_iload f54_15 rfl rfl).trans ?_
    refine (x_if_le (tg := 53) f54_16 rfl rfl).trans (i_c ?_ ?_)
    · refine (x_aload f54_19 rfl rfl).trans ?_
      refine (x_iload f54_20 rfl rfl).trans ?_
      refine (x_invokevirtual (G := grd (kd l1 = 6) (bnI (sem 86 0 [aA l1, aI l5] [] s) fun a2 s1 => sem 54 25 [aA l0, aA l1, aI l2, aI l3, aI l4, aI l5] [aI a2] s1)) f54_22 rfl rfl).trans ?_
      refine g_c ?_
      refine bI_c fun a2 s1 => ?_
      refine (x_iload f54_25 rfl rfl).trans ?_
      refine (x_icmp_ne (tg := 47) f54_26 rfl rfl).trans (i_c ?_ ?_)
      · refine (x_iload f54_29 rfl rfl).trans ?_
        refine (x_aload f54_31 rfl rfl).trans ?_
        refine (x_get2 f54_32 rfl rfl).trans ?_
        refine g_c ?_
        refine g_c ?_
        refine (x_iload f54_35 rfl rfl).trans ?_
        refine (x_iload f54_37 rfl rfl).trans ?_
        refine (x_iconst f54_38 rfl).trans ?_
        refine (x_isub f54_39 rfl).trans ?_
        refine (x_invokestatic (G := bnI (sem 55 0 [aI l5, aI (w32 (l3 - 1)), aU] [] s1) fun a4 s3 => sem 54 43 [aA l0, aA l1, aI l2, aI l3, aI l4, aI l5] [aI a4, aA (s1 l0 3), aI l4] s3) f54_40 rfl rfl).trans ?_
        refine bI_c fun a4 s3 => ?_
        refine (x_iaload f54_43 rfl).trans ?_
        refine g_c ?_
        refine g_c ?_
        refine (x_iadd f54_44 rfl).trans ?_
        refine (x_istore (l2 := [aA l0, aA l1, aI l2, aI l3, aI (w32 (l4 + (s3 (s1 l0 3) a4))), aI l5]) f54_45 rfl rfl).trans ?_
        refine (x_iinc (l2 := [aA l0, aA l1, aI l2, aI l3, aI (w32 (l4 + (s3 (s1 l0 3) a4))), aI (w32 (l5 + 1))]) f54_47 rfl rfl rfl).trans ?_
        refine (x_goto (tg := 6) f54_50 rfl rfl).trans ?_
        rfl
      · refine (x_iinc (l2 := [aA l0, aA l1, aI l2, aI l3, aI l4, aI (w32 (l5 + 1))]) f54_47 rfl rfl rfl).trans ?_
        refine (x_goto (tg := 6) f54_50 rfl rfl).trans ?_
        rfl
    · refine (x_kil (l2 := [aU, aU, aU, aU, aI l4, aU]) f54_53 rfl).trans ?_
      refine (x_iload f54_53 rfl rfl).trans ?_
      exact x_ireturn f54_55 rfl
  · refine (x_kil (l2 := [aU, aU, aU, aU, aI l4, aU]) f54_53 rfl).trans ?_
    refine (x_iload f54_53 rfl rfl).trans ?_
    exact x_ireturn f54_55 rfl
theorem f55_0 : fch 55 0 = some (.iload 0, 1, []) := by decide +kernel
theorem f55_1 : fch 55 1 = some (.iconst 6, 3, []) := by decide +kernel
theorem f55_3 : fch 55 3 = some (.imul, 4, []) := by decide +kernel
theorem f55_4 : fch 55 4 = some (.iload 1, 5, []) := by decide +kernel
theorem f55_5 : fch 55 5 = some (.iadd, 6, []) := by decide +kernel
theorem f55_6 : fch 55 6 = some (.istore 2, 7, []) := by decide +kernel
theorem f55_7 : fch 55 7 = some (.iload 2, 8, []) := by decide +kernel
theorem f55_8 : fch 55 8 = some (.ifCond .lt 21, 11, []) := by decide +kernel
theorem f55_11 : fch 55 11 = some (.iload 2, 12, []) := by decide +kernel
theorem f55_12 : fch 55 12 = some (.iconst 18, 14, []) := by decide +kernel
theorem f55_14 : fch 55 14 = some (.if_icmp .ge 21, 17, []) := by decide +kernel
theorem f55_17 : fch 55 17 = some (.iload 2, 18, []) := by decide +kernel
theorem f55_18 : fch 55 18 = some (.goto 22, 21, []) := by decide +kernel
theorem f55_21 : fch 55 21 = some (.iconst 0, 22, [0, 1, 2]) := by decide +kernel
theorem f55_22 : fch 55 22 = some (.ireturn, 23, [0, 1, 2]) := by decide +kernel
set_option maxRecDepth 10000 in
theorem e55_0 (l0 l1 : Int) (s : SG) : sem 55 0 [aI l0, aI l1, aU] [] s = if (w32 ((w32 (l0 * 6)) + l1)) < 0 then some (aI 0, s) else if (w32 ((w32 (l0 * 6)) + l1)) < 18 then some (aI (w32 ((w32 (l0 * 6)) + l1)), s) else some (aI 0, s) := by
  refine (x_iload f55_0 rfl rfl).trans ?_
  refine (x_iconst f55_1 rfl).trans ?_
  refine (x_imul f55_3 rfl).trans ?_
  refine (x_iload f55_4 rfl rfl).trans ?_
  refine (x_iadd f55_5 rfl).trans ?_
  refine (x_istore (l2 := [aI l0, aI l1, aI (w32 ((w32 (l0 * 6)) + l1))]) f55_6 rfl rfl).trans ?_
  refine (x_iload f55_7 rfl rfl).trans ?_
  refine (x_if_lt (tg := 21) f55_8 rfl rfl).trans (i_c ?_ ?_)
  · refine (x_kil (l2 := [aU, aU, aU]) f55_21 rfl).trans ?_
    refine (x_iconst f55_21 rfl).trans ?_
    exact x_ireturn f55_22 rfl
  · refine (x_iload f55_11 rfl rfl).trans ?_
    refine (x_iconst f55_12 rfl).trans ?_
    refine (x_icmp_ge (tg := 21) f55_14 rfl rfl).trans (i_c ?_ ?_)
    · refine (x_iload f55_17 rfl rfl).trans ?_
      refine (x_goto (tg := 22) f55_18 rfl rfl).trans ?_
      refine (x_kil (l2 := [aU, aU, aU]) f55_22 rfl).trans ?_
      exact x_ireturn f55_22 rfl
    · refine (x_kil (l2 := [aU, aU, aU]) f55_21 rfl).trans ?_
      refine (x_iconst f55_21 rfl).trans ?_
      exact x_ireturn f55_22 rfl
theorem f56_0 : fch 56 0 = some (.iload 1, 1, []) := by decide +kernel
theorem f56_1 : fch 56 1 = some (.iload 2, 2, []) := by decide +kernel
theorem f56_2 : fch 56 2 = some (.invokestatic 55, 5, []) := by decide +kernel
theorem f56_5 : fch 56 5 = some (.istore 4, 7, []) := by decide +kernel
theorem f56_7 : fch 56 7 = some (.iload 3, 8, []) := by decide +kernel
theorem f56_8 : fch 56 8 = some (.tableswitch 60 0 2 #[36, 44, 52], 36, []) := by decide +kernel
theorem f56_36 : fch 56 36 = some (.aload 0, 37, []) := by decide +kernel
theorem f56_37 : fch 56 37 = some (.invokeinterface 3 0, 40, []) := by decide +kernel
theorem f56_40 : fch 56 40 = some (.iload 4, 42, []) := by decide +kernel
theorem f56_42 : fch 56 42 = some (.iaload, 43, []) := by decide +kernel
theorem f56_43 : fch 56 43 = some (.ireturn, 44, []) := by decide +kernel
theorem f56_44 : fch 56 44 = some (.aload 0, 45, []) := by decide +kernel
theorem f56_45 : fch 56 45 = some (.invokeinterface 3 1, 48, []) := by decide +kernel
theorem f56_48 : fch 56 48 = some (.iload 4, 50, []) := by decide +kernel
theorem f56_50 : fch 56 50 = some (.iaload, 51, []) := by decide +kernel
theorem f56_51 : fch 56 51 = some (.ireturn, 52, []) := by decide +kernel
theorem f56_52 : fch 56 52 = some (.aload 0, 53, []) := by decide +kernel
theorem f56_53 : fch 56 53 = some (.invokeinterface 3 2, 56, []) := by decide +kernel
theorem f56_56 : fch 56 56 = some (.iload 4, 58, []) := by decide +kernel
theorem f56_58 : fch 56 58 = some (.iaload, 59, []) := by decide +kernel
theorem f56_59 : fch 56 59 = some (.ireturn, 60, []) := by decide +kernel
theorem f56_60 : fch 56 60 = some (.aload 0, 61, []) := by decide +kernel
theorem f56_61 : fch 56 61 = some (.invokeinterface 3 3, 64, []) := by decide +kernel
theorem f56_64 : fch 56 64 = some (.iload 4, 66, []) := by decide +kernel
theorem f56_66 : fch 56 66 = some (.iaload, 67, []) := by decide +kernel
theorem f56_67 : fch 56 67 = some (.ireturn, 68, []) := by decide +kernel
set_option maxRecDepth 10000 in
theorem e56_0 (l0 l1 l2 l3 : Int) (s : SG) : sem 56 0 [aA l0, aI l1, aI l2, aI l3, aU] [] s = bnI (sem 55 0 [aI l1, aI l2, aU] [] s) fun a2 s1 => if l3 = 0 then grd (kd l0 = 3) (grd (0 ≤ s1 l0 0) (grd (kd (s1 l0 0) = 101) (grd ((0 : Int) ≤ a2 ∧ a2 < kl (s1 l0 0)) (some (aI (s1 (s1 l0 0) a2), s1))))) else if l3 = 1 then grd (kd l0 = 3) (grd (0 ≤ s1 l0 1) (grd (kd (s1 l0 1) = 101) (grd ((0 : Int) ≤ a2 ∧ a2 < kl (s1 l0 1)) (some (aI (s1 (s1 l0 1) a2), s1))))) else if l3 = 2 then grd (kd l0 = 3) (grd (0 ≤ s1 l0 2) (grd (kd (s1 l0 2) = 101) (grd ((0 : Int) ≤ a2 ∧ a2 < kl (s1 l0 2)) (some (aI (s1 (s1 l0 2) a2), s1))))) else grd (kd l0 = 3) (grd (0 ≤ s1 l0 3) (grd (kd (s1 l0 3) = 101) (grd ((0 : Int) ≤ a2 ∧ a2 < kl (s1 l0 3)) (some (aI (s1 (s1 l0 3) a2), s1))))) := by
  refine (x_iload f56_0 rfl rfl).trans ?_
  refine (x_iload f56_1 rfl rfl).trans ?_
  refine (x_invokestatic (G := bnI (sem 55 0 [aI l1, aI l2, aU] [] s) fun a2 s1 => sem 56 5 [aA l0, aI l1, aI l2, aI l3, aU] [aI a2] s1) f56_2 rfl rfl).trans ?_
  refine bI_c fun a2 s1 => ?_
  refine (x_istore (l2 := [aA l0, aI l1, aI l2, aI l3, aI a2]) f56_5 rfl rfl).trans ?_
  refine (x_iload f56_7 rfl rfl).trans ?_
  refine (x_tsw f56_8 rfl).trans ?_
  refine Eq.trans (b := sem 56 (if l3 = 0 then 36 else if l3 = 1 then 44 else if l3 = 2 then 52 else 60) [aA l0, aI l1, aI l2, aI l3, aI a2] [] s1) rfl ?_
  refine x_ite.trans (i_c ?_ ?_)
  · refine (x_aload f56_36 rfl rfl).trans ?_
    refine (x_get2 f56_37 rfl rfl).trans ?_
    refine g_c ?_
    refine g_c ?_
    refine (x_iload f56_40 rfl rfl).trans ?_
    refine (x_iaload f56_42 rfl).trans ?_
    refine g_c ?_
    refine g_c ?_
    exact x_ireturn f56_43 rfl
  refine x_ite.trans (i_c ?_ ?_)
  · refine (x_aload f56_44 rfl rfl).trans ?_
    refine (x_get2 f56_45 rfl rfl).trans ?_
    refine g_c ?_
    refine g_c ?_
    refine (x_iload f56_48 rfl rfl).trans ?_
    refine (x_iaload f56_50 rfl).trans ?_
    refine g_c ?_
    refine g_c ?_
    exact x_ireturn f56_51 rfl
  refine x_ite.trans (i_c ?_ ?_)
  · refine (x_aload f56_52 rfl rfl).trans ?_
    refine (x_get2 f56_53 rfl rfl).trans ?_
    refine g_c ?_
    refine g_c ?_
    refine (x_iload f56_56 rfl rfl).trans ?_
    refine (x_iaload f56_58 rfl).trans ?_
    refine g_c ?_
    refine g_c ?_
    exact x_ireturn f56_59 rfl
  refine (x_aload f56_60 rfl rfl).trans ?_
  refine (x_get2 f56_61 rfl rfl).trans ?_
  refine g_c ?_
  refine g_c ?_
  refine (x_iload f56_64 rfl rfl).trans ?_
  refine (x_iaload f56_66 rfl).trans ?_
  refine g_c ?_
  refine g_c ?_
  exact x_ireturn f56_67 rfl
