theorem f57_0 : fch 57 0 = some (.aload 0, 1, []) := by decide +kernel
theorem f57_1 : fch 57 1 = some (.invokeinterface 3 1, 4, []) := by decide +kernel
theorem f57_4 : fch 57 4 = some (.iload 1, 5, []) := by decide +kernel
theorem f57_5 : fch 57 5 = some (.iload 2, 6, []) := by decide +kernel
theorem f57_6 : fch 57 6 = some (.invokestatic 55, 9, []) := by decide +kernel
theorem f57_9 : fch 57 9 = some (.iaload, 10, []) := by decide +kernel
theorem f57_10 : fch 57 10 = some (.ireturn, 11, []) := by decide +kernel
set_option maxRecDepth 10000 in
theorem e57_0 (l0 l1 l2 : Int) (s : SG) : sem 57 0 [aA l0, aI l1, aI l2] [] s = grd (kd l0 = 3) (grd (0 ≤ s l0 1) (bnI (sem 55 0 [aI l1, aI l2, aU] [] s) fun a2 s1 => grd (kd (s l0 1) = 101) (grd ((0 : Int) ≤ a2 ∧ a2 < kl (s l0 1)) (some (aI (s1 (s l0 1) a2), s1))))) := by
  refine (x_aload f57_0 rfl rfl).trans ?_
  refine (x_get2 f57_1 rfl rfl).trans ?_
  refine g_c ?_
  refine g_c ?_
  refine (x_iload f57_4 rfl rfl).trans ?_
  refine (x_iload f57_5 rfl rfl).trans ?_
  refine (x_invokestatic (G := bnI (sem 55 0 [aI l1, aI l2, aU] [] s) fun a2 s1 => sem 57 9 [aA l0, aI l1, aI l2] [aI a2, aA (s l0 1)] s1) f57_6 rfl rfl).trans ?_
  refine bI_c fun a2 s1 => ?_
  refine (x_iaload f57_9 rfl).trans ?_
  refine g_c ?_
  refine g_c ?_
  exact x_ireturn f57_10 rfl
theorem f58_0 : fch 58 0 = some (.iconst 0, 1, []) := by decide +kernel
theorem f58_1 : fch 58 1 = some (.istore 2, 2, []) := by decide +kernel
theorem f58_2 : fch 58 2 = some (.iload 2, 3, []) := by decide +kernel
theorem f58_3 : fch 58 3 = some (.iconst 6, 5, []) := by decide +kernel
theorem f58_5 : fch 58 5 = some (.if_icmp .ge 29, 8, []) := by decide +kernel
theorem f58_8 : fch 58 8 = some (.aload 0, 9, []) := by decide +kernel
theorem f58_9 : fch 58 9 = some (.invokeinterface 3 3, 12, []) := by decide +kernel
theorem f58_12 : fch 58 12 = some (.iload 1, 13, []) := by decide +kernel
theorem f58_13 : fch 58 13 = some (.iload 2, 14, []) := by decide +kernel
theorem f58_14 : fch 58 14 = some (.invokestatic 55, 17, []) := by decide +kernel
theorem f58_17 : fch 58 17 = some (.iaload, 18, []) := by decide +kernel
theorem f58_18 : fch 58 18 = some (.ifCond .le 23, 21, []) := by decide +kernel
theorem f58_21 : fch 58 21 = some (.iload 2, 22, []) := by decide +kernel
theorem f58_22 : fch 58 22 = some (.ireturn, 23, []) := by decide +kernel
theorem f58_23 : fch 58 23 = some (.iinc 2 1, 26, []) := by decide +kernel
theorem f58_26 : fch 58 26 = some (.goto 2, 29, []) := by decide +kernel
theorem f58_29 : fch 58 29 = some (.iconst (-9), 31, []) := by decide +kernel
theorem f58_31 : fch 58 31 = some (.ireturn, 32, []) := by decide +kernel
set_option maxRecDepth 10000 in
theorem e58_0 (l0 l1 : Int) (s : SG) : sem 58 0 [aA l0, aI l1, aU] [] s = sem 58 2 [aA l0, aI l1, aI 0] [] s := by
  refine (x_iconst f58_0 rfl).trans ?_
  refine (x_istore (l2 := [aA l0, aI l1, aI 0]) f58_1 rfl rfl).trans ?_
  rfl
set_option maxRecDepth 10000 in
theorem e58_2 (l0 l1 l2 : Int) (s : SG) : sem 58 2 [aA l0, aI l1, aI l2] [] s = if l2 < 6 then grd (kd l0 = 3) (grd (0 ≤ s l0 3) (bnI (sem 55 0 [aI l1, aI l2, aU] [] s) fun a2 s1 => grd (kd (s l0 3) = 101) (grd ((0 : Int) ≤ a2 ∧ a2 < kl (s l0 3)) (if (0 : Int) < (s1 (s l0 3) a2) then some (aI l2, s1) else sem 58 2 [aA l0, aI l1, aI (w32 (l2 + 1))] [] s1)))) else some (aI ((-9)), s) := by
  refine (x_iload f58_2 rfl rfl).trans ?_
  refine (x_iconst f58_3 rfl).trans ?_
  refine (x_icmp_ge (tg := 29) f58_5 rfl rfl).trans (i_c ?_ ?_)
  · refine (x_aload f58_8 rfl rfl).trans ?_
    refine (x_get2 f58_9 rfl rfl).trans ?_
    refine g_c ?_
    refine g_c ?_
    refine (x_iload f58_12 rfl rfl).trans ?_
    refine (x_iload f58_13 rfl rfl).trans ?_
    refine (x_invokestatic (G := bnI (sem 55 0 [aI l1, aI l2, aU] [] s) fun a2 s1 => sem 58 17 [aA l0, aI l1, aI l2] [aI a2, aA (s l0 3)] s1) f58_14 rfl rfl).trans ?_
    refine bI_c fun a2 s1 => ?_
    refine (x_iaload f58_17 rfl).trans ?_
    refine g_c ?_
    refine g_c ?_
    refine (x_if_le (tg := 23) f58_18 rfl rfl).trans (i_c ?_ ?_)
    · refine (x_iload f58_21 rfl rfl).trans ?_
      exact x_ireturn f58_22 rfl
    · refine (x_iinc (l2 := [aA l0, aI l1, aI (w32 (l2 + 1))]) f58_23 rfl rfl rfl).trans ?_
      refine (x_goto (tg := 2) f58_26 rfl rfl).trans ?_
      rfl
  · refine (x_iconst f58_29 rfl).trans ?_
    exact x_ireturn f58_31 rfl
theorem f59_0 : fch 59 0 = some (.iconst 0, 1, []) := by decide +kernel
theorem f59_1 : fch 59 1 = some (.istore 1, 2, []) := by decide +kernel
theorem f59_2 : fch 59 2 = some (.iconst 0, 3, []) := by decide +kernel
theorem f59_3 : fch 59 3 = some (.istore 2, 4, []) := by decide +kernel
theorem f59_4 : fch 59 4 = some (.iload 2, 5, []) := by decide +kernel
theorem f59_5 : fch 59 5 = some (.aload 0, 6, []) := by decide +kernel
theorem f59_6 : fch 59 6 = some (.invokeinterface 3 6, 9, []) := by decide +kernel
theorem f59_9 : fch 59 9 = some (.if_icmp .ge 32, 12, []) := by decide +kernel
theorem f59_12 : fch 59 12 = some (.iload 2, 13, []) := by decide +kernel
theorem f59_13 : fch 59 13 = some (.iconst 3, 14, []) := by decide +kernel
theorem f59_14 : fch 59 14 = some (.if_icmp .ge 32, 17, []) := by decide +kernel
theorem f59_17 : fch 59 17 = some (.iload 1, 18, []) := by decide +kernel
theorem f59_18 : fch 59 18 = some (.aload 0, 19, []) := by decide +kernel
theorem f59_19 : fch 59 19 = some (.invokeinterface 3 5, 22, []) := by decide +kernel
theorem f59_22 : fch 59 22 = some (.iload 2, 23, []) := by decide +kernel
theorem f59_23 : fch 59 23 = some (.iaload, 24, []) := by decide +kernel
theorem f59_24 : fch 59 24 = some (.iadd, 25, []) := by decide +kernel
theorem f59_25 : fch 59 25 = some (.istore 1, 26, []) := by decide +kernel
theorem f59_26 : fch 59 26 = some (.iinc 2 1, 29, []) := by decide +kernel
theorem f59_29 : fch 59 29 = some (.goto 4, 32, []) := by decide +kernel
theorem f59_32 : fch 59 32 = some (.iload 1, 33, [0, 2]) := by decide +kernel
theorem f59_33 : fch 59 33 = some (.ireturn, 34, []) := by decide +kernel
set_option maxRecDepth 10000 in
theorem e59_0 (l0 : Int) (s : SG) : sem 59 0 [aA l0, aU, aU] [] s = sem 59 4 [aA l0, aI 0, aI 0] [] s := by
  refine (x_iconst f59_0 rfl).trans ?_
  refine (x_istore (l2 := [aA l0, aI 0, aU]) f59_1 rfl rfl).trans ?_
  refine (x_iconst f59_2 rfl).trans ?_
  refine (x_istore (l2 := [aA l0, aI 0, aI 0]) f59_3 rfl rfl).trans ?_
  rfl
set_option maxRecDepth 10000 in
theorem e59_4 (l0 l1 l2 : Int) (s : SG) : sem 59 4 [aA l0, aI l1, aI l2] [] s = grd (kd l0 = 3) (if l2 < (s l0 6) then if l2 < 3 then grd (kd l0 = 3) (grd (0 ≤ s l0 5) (grd (kd (s l0 5) = 101) (grd ((0 : Int) ≤ l2 ∧ l2 < kl (s l0 5)) (sem 59 4 [aA l0, aI (w32 (l1 + (s (s l0 5) l2))), aI (w32 (l2 + 1))] [] s)))) else some (aI l1, s) else some (aI l1, s)) := by
  refine (x_iload f59_4 rfl rfl).trans ?_
  refine (x_aload f59_5 rfl rfl).trans ?_
  refine (x_get0 f59_6 rfl rfl).trans ?_
  refine g_c ?_
  refine (x_icmp_ge (tg := 32) f59_9 rfl rfl).trans (i_c ?_ ?_)
  · refine (x_iload f59_12 rfl rfl).trans ?_
    refine (x_iconst f59_13 rfl).trans ?_
    refine (x_icmp_ge (tg := 32) f59_14 rfl rfl).trans (i_c ?_ ?_)
    · refine (x_iload f59_17 rfl rfl).trans ?_
      refine (x_aload f59_18 rfl rfl).trans ?_
      refine (x_get2 f59_19 rfl rfl).trans ?_
      refine g_c ?_
      refine g_c ?_
      refine (x_iload f59_22 rfl rfl).trans ?_
      refine (x_iaload f59_23 rfl).trans ?_
      refine g_c ?_
      refine g_c ?_
      refine (x_iadd f59_24 rfl).trans ?_
      refine (x_istore (l2 := [aA l0, aI (w32 (l1 + (s (s l0 5) l2))), aI l2]) f59_25 rfl rfl).trans ?_
      refine (x_iinc (l2 := [aA l0, aI (w32 (l1 + (s (s l0 5) l2))), aI (w32 (l2 + 1))]) f59_26 rfl rfl rfl).trans ?_
      refine (x_goto (tg := 4) f59_29 rfl rfl).trans ?_
      rfl
    · refine (x_kil (l2 := [aU, aI l1, aU]) f59_32 rfl).trans ?_
      refine (x_iload f59_32 rfl rfl).trans ?_
      exact x_ireturn f59_33 rfl
  · refine (x_kil (l2 := [aU, aI l1, aU]) f59_32 rfl).trans ?_
    refine (x_iload f59_32 rfl rfl).trans ?_
    exact x_ireturn f59_33 rfl
theorem f60_0 : fch 60 0 = some (.iconst 0, 1, []) := by decide +kernel
theorem f60_1 : fch 60 1 = some (.istore 1, 2, []) := by decide +kernel
theorem f60_2 : fch 60 2 = some (.iconst 0, 3, []) := by decide +kernel
theorem f60_3 : fch 60 3 = some (.istore 2, 4, []) := by decide +kernel
theorem f60_4 : fch 60 4 = some (.iload 2, 5, []) := by decide +kernel
theorem f60_5 : fch 60 5 = some (.aload 0, 6, []) := by decide +kernel
theorem f60_6 : fch 60 6 = some (.invokeinterface 3 6, 9, []) := by decide +kernel
theorem f60_9 : fch 60 9 = some (.if_icmp .ge 32, 12, []) := by decide +kernel
theorem f60_12 : fch 60 12 = some (.iload 2, 13, []) := by decide +kernel
theorem f60_13 : fch 60 13 = some (.iconst 3, 14, []) := by decide +kernel
theorem f60_14 : fch 60 14 = some (.if_icmp .ge 32, 17, []) := by decide +kernel
theorem f60_17 : fch 60 17 = some (.iload 1, 18, []) := by decide +kernel
theorem f60_18 : fch 60 18 = some (.aload 0, 19, []) := by decide +kernel
theorem f60_19 : fch 60 19 = some (.invokeinterface 3 4, 22, []) := by decide +kernel
theorem f60_22 : fch 60 22 = some (.iload 2, 23, []) := by decide +kernel
theorem f60_23 : fch 60 23 = some (.iaload, 24, []) := by decide +kernel
theorem f60_24 : fch 60 24 = some (.iadd, 25, []) := by decide +kernel
theorem f60_25 : fch 60 25 = some (.istore 1, 26, []) := by decide +kernel
theorem f60_26 : fch 60 26 = some (.iinc 2 1, 29, []) := by decide +kernel
theorem f60_29 : fch 60 29 = some (.goto 4, 32, []) := by decide +kernel
theorem f60_32 : fch 60 32 = some (.iload 1, 33, [0, 2]) := by decide +kernel
theorem f60_33 : fch 60 33 = some (.ireturn, 34, []) := by decide +kernel
set_option maxRecDepth 10000 in
theorem e60_0 (l0 : Int) (s : SG) : sem 60 0 [aA l0, aU, aU] [] s = sem 60 4 [aA l0, aI 0, aI 0] [] s := by
  refine (x_iconst f60_0 rfl).trans ?_
  refine (x_istore (l2 := [aA l0, aI 0, aU]) f60_1 rfl rfl).trans ?_
  refine (x_iconst f60_2 rfl).trans ?_
  refine (x_istore (l2 := [aA l0, aI 0, aI 0]) f60_3 rfl rfl).trans ?_
  rfl
set_option maxRecDepth 10000 in
theorem e60_4 (l0 l1 l2 : Int) (s : SG) : sem 60 4 [aA l0, aI l1, aI l2] [] s = grd (kd l0 = 3) (if l2 < (s l0 6) then if l2 < 3 then grd (kd l0 = 3) (grd (0 ≤ s l0 4) (grd (kd (s l0 4) = 101) (grd ((0 : Int) ≤ l2 ∧ l2 < kl (s l0 4)) (sem 60 4 [aA l0, aI (w32 (l1 + (s (s l0 4) l2))), aI (w32 (l2 + 1))] [] s)))) else some (aI l1, s) else some (aI l1, s)) := by
  refine (x_iload f60_4 rfl rfl).trans ?_
  refine (x_aload f60_5 rfl rfl).trans ?_
  refine (x_get0 f60_6 rfl rfl).trans ?_
  refine g_c ?_
  refine (x_icmp_ge (tg := 32) f60_9 rfl rfl).trans (i_c ?_ ?_)
  · refine (x_iload f60_12 rfl rfl).trans ?_
    refine (x_iconst f60_13 rfl).trans ?_
    refine (x_icmp_ge (tg := 32) f60_14 rfl rfl).trans (i_c ?_ ?_)
    · refine (x_iload f60_17 rfl rfl).trans ?_
      refine (x_aload f60_18 rfl rfl).trans ?_
      refine (x_get2 f60_19 rfl rfl).trans ?_
      refine g_c ?_
      refine g_c ?_
      refine (x_iload f60_22 rfl rfl).trans ?_
      refine (x_iaload f60_23 rfl).trans ?_
      refine g_c ?_
      refine g_c ?_
      refine (x_iadd f60_24 rfl).trans ?_
      refine (x_istore (l2 := [aA l0, aI (w32 (l1 + (s (s l0 4) l2))), aI l2]) f60_25 rfl rfl).trans ?_
      refine (x_iinc (l2 := [aA l0, aI (w32 (l1 + (s (s l0 4) l2))), aI (w32 (l2 + 1))]) f60_26 rfl rfl rfl).trans ?_
      refine (x_goto (tg := 4) f60_29 rfl rfl).trans ?_
      rfl
    · refine (x_kil (l2 := [aU, aI l1, aU]) f60_32 rfl).trans ?_
      refine (x_iload f60_32 rfl rfl).trans ?_
      exact x_ireturn f60_33 rfl
  · refine (x_kil (l2 := [aU, aI l1, aU]) f60_32 rfl).trans ?_
    refine (x_iload f60_32 rfl rfl).trans ?_
    exact x_ireturn f60_33 rfl
theorem f61_0 : fch 61 0 = some (.aload 0, 1, []) := by decide +kernel
theorem f61_1 : fch 61 1 = some (.invokeinterface 3 7, 4, []) := by decide +kernel
theorem f61_4 : fch 61 4 = some (.ireturn, 5, []) := by decide +kernel
set_option maxRecDepth 10000 in
theorem e61_0 (l0 : Int) (s : SG) : sem 61 0 [aA l0] [] s = grd (kd l0 = 3) (some (aI (s l0 7), s)) := by
  refine (x_aload f61_0 rfl rfl).trans ?_
  refine (x_get0 f61_1 rfl rfl).trans ?_
  refine g_c ?_
  exact x_ireturn f61_4 rfl
theorem f62_0 : fch 62 0 = some (.aload 0, 1, []) := by decide +kernel
theorem f62_1 : fch 62 1 = some (.invokeinterface 3 8, 4, []) := by decide +kernel
theorem f62_4 : fch 62 4 = some (.ireturn, 5, []) := by decide +kernel
set_option maxRecDepth 10000 in
theorem e62_0 (l0 : Int) (s : SG) : sem 62 0 [aA l0] [] s = grd (kd l0 = 3) (some (aI (s l0 8), s)) := by
  refine (x_aload f62_0 rfl rfl).trans ?_
  refine (x_get0 f62_1 rfl rfl).trans ?_
  refine g_c ?_
  exact x_ireturn f62_4 rfl
theorem f63_0 : fch 63 0 = some (.aload 0, 1, []) := by decide +kernel
theorem f63_1 : fch 63 1 = some (.invokevirtual 60, 4, []) := by decide +kernel
theorem f63_4 : fch 63 4 = some (.aload 0, 5, []) := by decide +kernel
theorem f63_5 : fch 63 5 = some (.invokeinterface 3 7, 8, []) := by decide +kernel
theorem f63_8 : fch 63 8 = some (.iadd, 9, []) := by decide +kernel
theorem f63_9 : fch 63 9 = some (.istore 3, 10, []) := by decide +kernel
theorem f63_10 : fch 63 10 = some (.aload 2, 11, []) := by decide +kernel
theorem f63_11 : fch 63 11 = some (.invokevirtual 27, 14, []) := by decide +kernel
theorem f63_14 : fch 63 14 = some (.aload 2, 15, []) := by decide +kernel
theorem f63_15 : fch 63 15 = some (.invokeinterface 1 7, 18, []) := by decide +kernel
theorem f63_18 : fch 63 18 = some (.iadd, 19, []) := by decide +kernel
theorem f63_19 : fch 63 19 = some (.aload 1, 20, []) := by decide +kernel
theorem f63_20 : fch 63 20 = some (.invokeinterface 6 5, 23, []) := by decide +kernel
theorem f63_23 : fch 63 23 = some (.imul, 24, []) := by decide +kernel
theorem f63_24 : fch 63 24 = some (.istore 4, 26, []) := by decide +kernel
theorem f63_26 : fch 63 26 = some (.aload 0, 27, []) := by decide +kernel
theorem f63_27 : fch 63 27 = some (.invokevirtual 59, 30, []) := by decide +kernel
theorem f63_30 : fch 63 30 = some (.aload 1, 31, []) := by decide +kernel
theorem f63_31 : fch 63 31 = some (.invokeinterface 6 6, 34, []) := by decide +kernel
theorem f63_34 : fch 63 34 = some (.imul, 35, []) := by decide +kernel
theorem f63_35 : fch 63 35 = some (.iload 3, 36, []) := by decide +kernel
theorem f63_36 : fch 63 36 = some (.aload 1, 37, []) := by decide +kernel
theorem f63_37 : fch 63 37 = some (.invokeinterface 6 7, 40, []) := by decide +kernel
theorem f63_40 : fch 63 40 = some (.imul, 41, []) := by decide +kernel
theorem f63_41 : fch 63 41 = some (.iadd, 42, []) := by decide +kernel
theorem f63_42 : fch 63 42 = some (.iload 4, 44, []) := by decide +kernel
theorem f63_44 : fch 63 44 = some (.isub, 45, []) := by decide +kernel
theorem f63_45 : fch 63 45 = some (.ireturn, 46, []) := by decide +kernel
set_option maxRecDepth 10000 in
theorem e63_0 (l0 l1 l2 : Int) (s : SG) : sem 63 0 [aA l0, aA l1, aA l2, aU, aU] [] s = grd (kd l0 = 3) (bnI (sem 60 0 [aA l0, aU, aU] [] s) fun a2 s1 => grd (kd l0 = 3) (grd (kd l2 = 1) (bnI (sem 27 0 [aA l2, aU, aU] [] s1) fun a4 s3 => grd (kd l2 = 1) (grd (kd l1 = 6) (grd (kd l0 = 3) (bnI (sem 59 0 [aA l0, aU, aU] [] s3) fun a6 s5 => grd (kd l1 = 6) (grd (kd l1 = 6) (some (aI (w32 ((w32 ((w32 (a6 * (s5 l1 6))) + (w32 ((w32 (a2 + (s1 l0 7))) * (s5 l1 7))))) - (w32 ((w32 (a4 + (s3 l2 7))) * (s3 l1 5))))), s5))))))))) := by
  refine (x_aload f63_0 rfl rfl).trans ?_
  refine (x_invokevirtual (G := grd (kd l0 = 3) (bnI (sem 60 0 [aA l0, aU, aU] [] s) fun a2 s1 => sem 63 4 [aA l0, aA l1, aA l2, aU, aU] [aI a2] s1)) f63_1 rfl rfl).trans ?_
  refine g_c ?_
  refine bI_c fun a2 s1 => ?_
  refine (x_aload f63_4 rfl rfl).trans ?_
  refine (x_get0 f63_5 rfl rfl).trans ?_
  refine g_c ?_
  refine (x_iadd f63_8 rfl).trans ?_
  refine (x_istore (l2 := [aA l0, aA l1, aA l2, aI (w32 (a2 + (s1 l0 7))), aU]) f63_9 rfl rfl).trans ?_
  refine (x_aload f63_10 rfl rfl).trans ?_
  refine (x_invokevirtual (G := grd (kd l2 = 1) (bnI (sem 27 0 [aA l2, aU, aU] [] s1) fun a4 s3 => sem 63 14 [aA l0, aA l1, aA l2, aI (w32 (a2 + (s1 l0 7))), aU] [aI a4] s3)) f63_11 rfl rfl).trans ?_
  refine g_c ?_
  refine bI_c fun a4 s3 => ?_
  refine (x_aload f63_14 rfl rfl).trans ?_
  refine (x_get0 f63_15 rfl rfl).trans ?_
  refine g_c ?_
  refine (x_iadd f63_18 rfl).trans ?_
  refine (x_aload f63_19 rfl rfl).trans ?_
  refine (x_get0 f63_20 rfl rfl).trans ?_
  refine g_c ?_
  refine (x_imul f63_23 rfl).trans ?_
  refine (x_istore (l2 := [aA l0, aA l1, aA l2, aI (w32 (a2 + (s1 l0 7))), aI (w32 ((w32 (a4 + (s3 l2 7))) * (s3 l1 5)))]) f63_24 rfl rfl).trans ?_
  refine (x_aload f63_26 rfl rfl).trans ?_
  refine (x_invokevirtual (G := grd (kd l0 = 3) (bnI (sem 59 0 [aA l0, aU, aU] [] s3) fun a6 s5 => sem 63 30 [aA l0, aA l1, aA l2, aI (w32 (a2 + (s1 l0 7))), aI (w32 ((w32 (a4 + (s3 l2 7))) * (s3 l1 5)))] [aI a6] s5)) f63_27 rfl rfl).trans ?_
  refine g_c ?_
  refine bI_c fun a6 s5 => ?_
  refine (x_aload f63_30 rfl rfl).trans ?_
  refine (x_get0 f63_31 rfl rfl).trans ?_
  refine g_c ?_
  refine (x_imul f63_34 rfl).trans ?_
  refine (x_iload f63_35 rfl rfl).trans ?_
  refine (x_aload f63_36 rfl rfl).trans ?_
  refine (x_get0 f63_37 rfl rfl).trans ?_
  refine g_c ?_
  refine (x_imul f63_40 rfl).trans ?_
  refine (x_iadd f63_41 rfl).trans ?_
  refine (x_iload f63_42 rfl rfl).trans ?_
  refine (x_isub f63_44 rfl).trans ?_
  exact x_ireturn f63_45 rfl
theorem f64_0 : fch 64 0 = some (.aload 0, 1, []) := by decide +kernel
theorem f64_1 : fch 64 1 = some (.monitorexit, 4, []) := by decide +kernel
theorem f64_4 : fch 64 4 = some (.aload 0, 5, []) := by decide +kernel
theorem f64_5 : fch 64 5 = some (.iconst 8, 7, []) := by decide +kernel
theorem f64_7 : fch 64 7 = some (.newarray .int, 9, []) := by decide +kernel
theorem f64_9 : fch 64 9 = some (.multianewarray 4 0, 12, []) := by decide +kernel
theorem f64_12 : fch 64 12 = some (.aload 0, 13, []) := by decide +kernel
theorem f64_13 : fch 64 13 = some (.iconst 8, 15, []) := by decide +kernel
theorem f64_15 : fch 64 15 = some (.newarray .int, 17, []) := by decide +kernel
theorem f64_17 : fch 64 17 = some (.multianewarray 4 1, 20, []) := by decide +kernel
theorem f64_20 : fch 64 20 = some (.aload 0, 21, []) := by decide +kernel
theorem f64_21 : fch 64 21 = some (.iconst 0, 22, []) := by decide +kernel
theorem f64_22 : fch 64 22 = some (.multianewarray 4 2, 25, []) := by decide +kernel
theorem f64_25 : fch 64 25 = some (.return_, 26, []) := by decide +kernel
set_option maxRecDepth 10000 in
theorem e64_0 (l0 : Int) (s : SG) : sem 64 0 [aA l0] [] s = grd (kd (s (-1) 0) = akind .int ∧ kl (s (-1) 0) = 8) (grd (kd l0 = 4) (grd (0 ≤ s (-1) 0) (grd (kd ((up (alc s 8 (fun _ => 0)) l0 0 (s (-1) 0)) (-1) 0) = akind .int ∧ kl ((up (alc s 8 (fun _ => 0)) l0 0 (s (-1) 0)) (-1) 0) = 8) (grd (kd l0 = 4) (grd (0 ≤ (up (alc s 8 (fun _ => 0)) l0 0 (s (-1) 0)) (-1) 0) (grd (kd l0 = 4) (some (aU, up (up (alc (up (alc s 8 (fun _ => 0)) l0 0 (s (-1) 0)) 8 (fun _ => 0)) l0 1 ((up (alc s 8 (fun _ => 0)) l0 0 (s (-1) 0)) (-1) 0)) l0 2 0)))))))) := by
  refine (x_aload f64_0 rfl rfl).trans ?_
  refine (x_monitorexit f64_1 rfl rfl).trans ?_
  refine (x_aload f64_4 rfl rfl).trans ?_
  refine (x_iconst f64_5 rfl).trans ?_
  refine (x_newarray f64_7 rfl).trans ?_
  refine g_c ?_
  refine (x_put2 f64_9 rfl rfl).trans ?_
  refine g_c ?_
  refine g_c ?_
  refine (x_aload f64_12 rfl rfl).trans ?_
  refine (x_iconst f64_13 rfl).trans ?_
  refine (x_newarray f64_15 rfl).trans ?_
  refine g_c ?_
  refine (x_put2 f64_17 rfl rfl).trans ?_
  refine g_c ?_
  refine g_c ?_
  refine (x_aload f64_20 rfl rfl).trans ?_
  refine (x_iconst f64_21 rfl).trans ?_
  refine (x_put0 f64_22 rfl rfl).trans ?_
  refine g_c ?_
  exact x_return f64_25 rfl
theorem f65_0 : fch 65 0 = some (.aload 0, 1, []) := by decide +kernel
theorem f65_1 : fch 65 1 = some (.invokeinterface 4 2, 4, []) := by decide +kernel
theorem f65_4 : fch 65 4 = some (.ireturn, 5, []) := by decide +kernel
set_option maxRecDepth 10000 in
theorem e65_0 (l0 : Int) (s : SG) : sem 65 0 [aA l0] [] s = grd (kd l0 = 4) (some (aI (s l0 2), s)) := by
  refine (x_aload f65_0 rfl rfl).trans ?_
  refine (x_get0 f65_1 rfl rfl).trans ?_
  refine g_c ?_
  exact x_ireturn f65_4 rfl
theorem f66_0 : fch 66 0 = some (.aload 0, 1, []) := by decide +kernel
theorem f66_1 : fch 66 1 = some (.invokeinterface 4 2, 4, []) := by decide +kernel
theorem f66_4 : fch 66 4 = some (.iconst 8, 6, []) := by decide +kernel
theorem f66_6 : fch 66 6 = some (.if_icmp .lt 11, 9, []) := by decide +kernel
theorem f66_9 : fch 66 9 = some (.iconst 0, 10, []) := by decide +kernel
theorem f66_10 : fch 66 10 = some (.ireturn, 11, []) := by decide +kernel
theorem f66_11 : fch 66 11 = some (.aload 0, 12, []) := by decide +kernel
theorem f66_12 : fch 66 12 = some (.invokeinterface 4 0, 15, []) := by decide +kernel
theorem f66_15 : fch 66 15 = some (.aload 0, 16, []) := by decide +kernel
theorem f66_16 : fch 66 16 = some (.invokeinterface 4 2, 19, []) := by decide +kernel
theorem f66_19 : fch 66 19 = some (.iload 1, 20, []) := by decide +kernel
theorem f66_20 : fch 66 20 = some (.iastore, 21, []) := by decide +kernel
theorem f66_21 : fch 66 21 = some (.aload 0, 22, []) := by decide +kernel
theorem f66_22 : fch 66 22 = some (.invokeinterface 4 1, 25, []) := by decide +kernel
theorem f66_25 : fch 66 25 = some (.aload 0, 26, []) := by decide +kernel
theorem f66_26 : fch 66 26 = some (.invokeinterface 4 2, 29, []) := by decide +kernel
theorem f66_29 : fch 66 29 = some (.iload 2, 30, []) := by decide +kernel
theorem f66_30 : fch 66 30 = some (.iastore, 31, []) := by decide +kernel
theorem f66_31 : fch 66 31 = some (.aload 0, 32, []) := by decide +kernel
theorem f66_32 : fch 66 32 = some (.dup, 33, []) := by decide +kernel
theorem f66_33 : fch 66 33 = some (.invokeinterface 4 2, 36, []) := by decide +kernel
theorem f66_36 : fch 66 36 = some (.iconst 1, 37, []) := by decide +kernel
theorem f66_37 : fch 66 37 = some (.iadd, 38, []) := by decide +kernel
theorem f66_38 : fch 66 38 = some (.multianewarray 4 2, 41, []) := by decide +kernel
theorem f66_41 : fch 66 41 = some (.iconst 1, 42, []) := by decide +kernel
theorem f66_42 : fch 66 42 = some (.ireturn, 43, []) := by decide +kernel
set_option maxRecDepth 10000 in
theorem e66_0 (l0 l1 l2 : Int) (s : SG) : sem 66 0 [aA l0, aI l1, aI l2] [] s = grd (kd l0 = 4) (if (s l0 2) < 8 then grd (kd l0 = 4) (grd (0 ≤ s l0 0) (grd (kd l0 = 4) (grd (kd (s l0 0) = 101) (grd ((0 : Int) ≤ (s l0 2) ∧ (s l0 2) < kl (s l0 0)) (grd (kd l0 = 4) (grd (0 ≤ (up s (s l0 0) (s l0 2) l1) l0 1) (grd (kd l0 = 4) (grd (kd ((up s (s l0 0) (s l0 2) l1) l0 1) = 101) (grd ((0 : Int) ≤ ((up s (s l0 0) (s l0 2) l1) l0 2) ∧ ((up s (s l0 0) (s l0 2) l1) l0 2) < kl ((up s (s l0 0) (s l0 2) l1) l0 1)) (grd (kd l0 = 4) (grd (kd l0 = 4) (some (aI 1, up (up (up s (s l0 0) (s l0 2) l1) ((up s (s l0 0) (s l0 2) l1) l0 1) ((up s (s l0 0) (s l0 2) l1) l0 2) l2) l0 2 (w32 (((up (up s (s l0 0) (s l0 2) l1) ((up s (s l0 0) (s l0 2) l1) l0 1) ((up s (s l0 0) (s l0 2) l1) l0 2) l2) l0 2) + 1))))))))))))))) else some (aI 0, s)) := by
  refine (x_aload f66_0 rfl rfl).trans ?_
  refine (x_get0 f66_1 rfl rfl).trans ?_
  refine g_c ?_
  refine (x_iconst f66_4 rfl).trans ?_
  refine (x_icmp_lt (tg := 11) f66_6 rfl rfl).trans (i_c ?_ ?_)
  · refine (x_aload f66_11 rfl rfl).trans ?_
    refine (x_get2 f66_12 rfl rfl).trans ?_
    refine g_c ?_
    refine g_c ?_
    refine (x_aload f66_15 rfl rfl).trans ?_
    refine (x_get0 f66_16 rfl rfl).trans ?_
    refine g_c ?_
    refine (x_iload f66_19 rfl rfl).trans ?_
    refine (x_iastore f66_20 rfl).trans ?_
    refine g_c ?_
    refine g_c ?_
    refine (x_aload f66_21 rfl rfl).trans ?_
    refine (x_get2 f66_22 rfl rfl).trans ?_
    refine g_c ?_
    refine g_c ?_
    refine (x_aload f66_25 rfl rfl).trans ?_
    refine (x_get0 f66_26 rfl rfl).trans ?_
    refine g_c ?_
    refine (x_iload f66_29 rfl rfl).trans ?_
    refine (x_iastore f66_30 rfl).trans ?_
    refine g_c ?_
    refine g_c ?_
    refine (x_aload f66_31 rfl rfl).trans ?_
    refine (x_dup f66_32 rfl rfl).trans ?_
    refine (x_get0 f66_33 rfl rfl).trans ?_
    refine g_c ?_
    refine (x_iconst f66_36 rfl).trans ?_
    refine (x_iadd f66_37 rfl).trans ?_
    refine (x_put0 f66_38 rfl rfl).trans ?_
    refine g_c ?_
    refine (x_iconst f66_41 rfl).trans ?_
    exact x_zreturn1 f66_42 rfl
  · refine (x_iconst f66_9 rfl).trans ?_
    exact x_zreturn0 f66_10 rfl
theorem f67_0 : fch 67 0 = some (.aload 0, 1, []) := by decide +kernel
theorem f67_1 : fch 67 1 = some (.invokeinterface 4 2, 4, []) := by decide +kernel
theorem f67_4 : fch 67 4 = some (.istore 1, 5, []) := by decide +kernel
theorem f67_5 : fch 67 5 = some (.aload 0, 6, []) := by decide +kernel
theorem f67_6 : fch 67 6 = some (.iconst 0, 7, []) := by decide +kernel
theorem f67_7 : fch 67 7 = some (.multianewarray 4 2, 10, []) := by decide +kernel
theorem f67_10 : fch 67 10 = some (.iload 1, 11, []) := by decide +kernel
theorem f67_11 : fch 67 11 = some (.ireturn, 12, []) := by decide +kernel
set_option maxRecDepth 10000 in
theorem e67_0 (l0 : Int) (s : SG) : sem 67 0 [aA l0, aU] [] s = grd (kd l0 = 4) (grd (kd l0 = 4) (some (aI (s l0 2), up s l0 2 0))) := by
  refine (x_aload f67_0 rfl rfl).trans ?_
  refine (x_get0 f67_1 rfl rfl).trans ?_
  refine g_c ?_
  refine (x_istore (l2 := [aA l0, aI (s l0 2)]) f67_4 rfl rfl).trans ?_
  refine (x_aload f67_5 rfl rfl).trans ?_
  refine (x_iconst f67_6 rfl).trans ?_
  refine (x_put0 f67_7 rfl rfl).trans ?_
  refine g_c ?_
  refine (x_iload f67_10 rfl rfl).trans ?_
  exact x_ireturn f67_11 rfl
theorem f68_0 : fch 68 0 = some (.aload 1, 1, []) := by decide +kernel
theorem f68_1 : fch 68 1 = some (.iload 2, 2, []) := by decide +kernel
theorem f68_2 : fch 68 2 = some (.invokevirtual 83, 5, []) := by decide +kernel
theorem f68_5 : fch 68 5 = some (.i2l, 6, []) := by decide +kernel
theorem f68_6 : fch 68 6 = some (.lstore 3, 7, []) := by decide +kernel
theorem f68_7 : fch 68 7 = some (.iconst 0, 8, []) := by decide +kernel
theorem f68_8 : fch 68 8 = some (.istore 5, 10, []) := by decide +kernel
theorem f68_10 : fch 68 10 = some (.iload 5, 12, [6, 7]) := by decide +kernel
theorem f68_12 : fch 68 12 = some (.aload 0, 13, []) := by decide +kernel
theorem f68_13 : fch 68 13 = some (.invokeinterface 4 2, 16, []) := by decide +kernel
theorem f68_16 : fch 68 16 = some (.if_icmp .ge 98, 19, []) := by decide +kernel
theorem f68_19 : fch 68 19 = some (.iload 5, 21, []) := by decide +kernel
theorem f68_21 : fch 68 21 = some (.iconst 8, 23, []) := by decide +kernel
theorem f68_23 : fch 68 23 = some (.if_icmp .ge 98, 26, []) := by decide +kernel
theorem f68_26 : fch 68 26 = some (.aload 0, 27, []) := by decide +kernel
theorem f68_27 : fch 68 27 = some (.invokeinterface 4 1, 30, []) := by decide +kernel
theorem f68_30 : fch 68 30 = some (.iload 5, 32, []) := by decide +kernel
theorem f68_32 : fch 68 32 = some (.iaload, 33, []) := by decide +kernel
theorem f68_33 : fch 68 33 = some (.aload 1, 34, []) := by decide +kernel
theorem f68_34 : fch 68 34 = some (.aload 0, 35, []) := by decide +kernel
theorem f68_35 : fch 68 35 = some (.invokeinterface 4 0, 38, []) := by decide +kernel
theorem f68_38 : fch 68 38 = some (.iload 5, 40, []) := by decide +kernel
theorem f68_40 : fch 68 40 = some (.iaload, 41, []) := by decide +kernel
theorem f68_41 : fch 68 41 = some (.iload 2, 42, []) := by decide +kernel
theorem f68_42 : fch 68 42 = some (.invokevirtual 84, 45, []) := by decide +kernel
theorem f68_45 : fch 68 45 = some (.isub, 46, []) := by decide +kernel
theorem f68_46 : fch 68 46 = some (.istore 6, 48, []) := by decide +kernel
theorem f68_48 : fch 68 48 = some (.aload 1, 49, []) := by decide +kernel
theorem f68_49 : fch 68 49 = some (.aload 0, 50, []) := by decide +kernel
theorem f68_50 : fch 68 50 = some (.invokeinterface 4 0, 53, []) := by decide +kernel
theorem f68_53 : fch 68 53 = some (.iload 5, 55, []) := by decide +kernel
theorem f68_55 : fch 68 55 = some (.iaload, 56, []) := by decide +kernel
theorem f68_56 : fch 68 56 = some (.iload 2, 57, []) := by decide +kernel
theorem f68_57 : fch 68 57 = some (.invokevirtual 85, 60, []) := by decide +kernel
theorem f68_60 : fch 68 60 = some (.istore 7, 62, []) := by decide +kernel
theorem f68_62 : fch 68 62 = some (.lload 3, 63, []) := by decide +kernel
theorem f68_63 : fch 68 63 = some (.iload 6, 65, []) := by decide +kernel
theorem f68_65 : fch 68 65 = some (.iconst 1, 66, []) := by decide +kernel
theorem f68_66 : fch 68 66 = some (.if_icmp .ne 75, 69, []) := by decide +kernel
theorem f68_69 : fch 68 69 = some (.iload 7, 71, []) := by decide +kernel
theorem f68_71 : fch 68 71 = some (.i2l, 72, []) := by decide +kernel
theorem f68_72 : fch 68 72 = some (.goto 90, 75, []) := by decide +kernel
theorem f68_75 : fch 68 75 = some (.iload 6, 77, []) := by decide +kernel
theorem f68_77 : fch 68 77 = some (.ifCond .ne 89, 80, []) := by decide +kernel
theorem f68_80 : fch 68 80 = some (.iconst 10, 82, []) := by decide +kernel
theorem f68_82 : fch 68 82 = some (.iload 7, 84, []) := by decide +kernel
theorem f68_84 : fch 68 84 = some (.isub, 85, []) := by decide +kernel
theorem f68_85 : fch 68 85 = some (.i2l, 86, []) := by decide +kernel
theorem f68_86 : fch 68 86 = some (.goto 90, 89, []) := by decide +kernel
theorem f68_89 : fch 68 89 = some (.sipush 0, 90, []) := by decide +kernel
theorem f68_90 : fch 68 90 = some (.lmul, 91, [3, 6, 7]) := by decide +kernel
theorem f68_91 : fch 68 91 = some (.lstore 3, 92, []) := by decide +kernel
theorem f68_92 : fch 68 92 = some (.iinc 5 1, 95, []) := by decide +kernel
theorem f68_95 : fch 68 95 = some (.goto 10, 98, []) := by decide +kernel
theorem f68_98 : fch 68 98 = some (.lload 3, 99, [0, 1, 2, 5, 6, 7]) := by decide +kernel
theorem f68_99 : fch 68 99 = some (.lreturn, 100, []) := by decide +kernel
set_option maxRecDepth 10000 in
theorem e68_0 (l0 l1 l2 : Int) (s : SG) : sem 68 0 [aA l0, aA l1, aI l2, aU, aU, aU, aU, aU] [] s = grd (kd l1 = 6) (bnI (sem 83 0 [aA l1, aI l2] [] s) fun a2 s1 => sem 68 10 [aA l0, aA l1, aI l2, aL a2, aU, aI 0, aU, aU] [] s1) := by
  refine (x_aload f68_0 rfl rfl).trans ?_
  refine (x_iload f68_1 rfl rfl).trans ?_
  refine (x_invokevirtual (G := grd (kd l1 = 6) (bnI (sem 83 0 [aA l1, aI l2] [] s) fun a2 s1 => sem 68 5 [aA l0, aA l1, aI l2, aU, aU, aU, aU, aU] [aI a2] s1)) f68_2 rfl rfl).trans ?_
  refine g_c ?_
  refine bI_c fun a2 s1 => ?_
  refine (x_i2l f68_5 rfl).trans ?_
  refine (x_lstore (l2 := [aA l0, aA l1, aI l2, aL a2, aU, aU, aU, aU]) f68_6 rfl rfl).trans ?_
  refine (x_iconst f68_7 rfl).trans ?_
  refine (x_istore (l2 := [aA l0, aA l1, aI l2, aL a2, aU, aI 0, aU, aU]) f68_8 rfl rfl).trans ?_
  rfl
set_option maxRecDepth 10000 in
theorem e68_10 (l0 l1 l2 l3 l5 : Int) (s : SG) : sem 68 10 [aA l0, aA l1, aI l2, aL l3, aU, aI l5, aU, aU] [] s = grd (kd l0 = 4) (if l5 < (s l0 2) then if l5 < 8 then grd (kd l0 = 4) (grd (0 ≤ s l0 1) (grd (kd (s l0 1) = 101) (grd ((0 : Int) ≤ l5 ∧ l5 < kl (s l0 1)) (grd (kd l0 = 4) (grd (0 ≤ s l0 0) (grd (kd (s l0 0) = 101) (grd ((0 : Int) ≤ l5 ∧ l5 < kl (s l0 0)) (grd (kd l1 = 6) (bnI (sem 84 0 [aA l1, aI (s (s l0 0) l5), aI l2, aU] [] s) fun a2 s1 => grd (kd l0 = 4) (grd (0 ≤ s1 l0 0) (grd (kd (s1 l0 0) = 101) (grd ((0 : Int) ≤ l5 ∧ l5 < kl (s1 l0 0)) (grd (kd l1 = 6) (bnI (sem 85 0 [aA l1, aI (s1 (s1 l0 0) l5), aI l2, aU] [] s1) fun a4 s3 => sem 68 10 [aA l0, aA l1, aI l2, aL (w64 (l3 * (if (w32 ((s (s l0 1) l5) - a2)) = 1 then a4 else if (w32 ((s (s l0 1) l5) - a2)) = 0 then w32 (10 - a4) else 0))), aU, aI (w32 (l5 + 1)), aU, aU] [] s3)))))))))))))) else some (aL l3, s) else some (aL l3, s)) := by
  refine (x_iload f68_10 rfl rfl).trans ?_
  refine (x_aload f68_12 rfl rfl).trans ?_
  refine (x_get0 f68_13 rfl rfl).trans ?_
  refine g_c ?_
  refine (x_icmp_ge (tg := 98) f68_16 rfl rfl).trans (i_c ?_ ?_)
  · refine (x_iload f68_19 rfl rfl).trans ?_
    refine (x_iconst f68_21 rfl).trans ?_
    refine (x_icmp_ge (tg := 98) f68_23 rfl rfl).trans (i_c ?_ ?_)
    · refine (x_aload f68_26 rfl rfl).trans ?_
      refine (x_get2 f68_27 rfl rfl).trans ?_
      refine g_c ?_
      refine g_c ?_
      refine (x_iload f68_30 rfl rfl).trans ?_
      refine (x_iaload f68_32 rfl).trans ?_
      refine g_c ?_
      refine g_c ?_
      refine (x_aload f68_33 rfl rfl).trans ?_
      refine (x_aload f68_34 rfl rfl).trans ?_
      refine (x_get2 f68_35 rfl rfl).trans ?_
      refine g_c ?_
      refine g_c ?_
      refine (x_iload f68_38 rfl rfl).trans ?_
      refine (x_iaload f68_40 rfl).trans ?_
      refine g_c ?_
      refine g_c ?_
      refine (x_iload f68_41 rfl rfl).trans ?_
      refine (x_invokevirtual (G := grd (kd l1 = 6) (bnI (sem 84 0 [aA l1, aI (s (s l0 0) l5), aI l2, aU] [] s) fun a2 s1 => sem 68 45 [aA l0, aA l1, aI l2, aL l3, aU, aI l5, aU, aU] [aI a2, aI (s (s l0 1) l5)] s1)) f68_42 rfl rfl).trans ?_
      refine g_c ?_
      refine bI_c fun a2 s1 => ?_
      refine (x_isub f68_45 rfl).trans ?_
      refine (x_istore (l2 := [aA l0, aA l1, aI l2, aL l3, aU, aI l5, aI (w32 ((s (s l0 1) l5) - a2)), aU]) f68_46 rfl rfl).trans ?_
      refine (x_aload f68_48 rfl rfl).trans ?_
      refine (x_aload f68_49 rfl rfl).trans ?_
      refine (x_get2 f68_50 rfl rfl).trans ?_
      refine g_c ?_
      refine g_c ?_
      refine (x_iload f68_53 rfl rfl).trans ?_
      refine (x_iaload f68_55 rfl).trans ?_
      refine g_c ?_
      refine g_c ?_
      refine (x_iload f68_56 rfl rfl).trans ?_
      refine (x_invokevirtual (G := grd (kd l1 = 6) (bnI (sem 85 0 [aA l1, aI (s1 (s1 l0 0) l5), aI l2, aU] [] s1) fun a4 s3 => sem 68 60 [aA l0, aA l1, aI l2, aL l3, aU, aI l5, aI (w32 ((s (s l0 1) l5) - a2)), aU] [aI a4] s3)) f68_57 rfl rfl).trans ?_
      refine g_c ?_
      refine bI_c fun a4 s3 => ?_
      refine (x_istore (l2 := [aA l0, aA l1, aI l2, aL l3, aU, aI l5, aI (w32 ((s (s l0 1) l5) - a2)), aI a4]) f68_60 rfl rfl).trans ?_
      refine (x_lload f68_62 rfl rfl).trans ?_
      refine (x_iload f68_63 rfl rfl).trans ?_
      refine (x_iconst f68_65 rfl).trans ?_
      refine (x_icmp_ne (tg := 75) f68_66 rfl rfl).trans ?_
      refine Eq.trans (b := if (w32 ((s (s l0 1) l5) - a2)) = 1 then sem 68 90 [aA l0, aA l1, aI l2, aU, aU, aI l5, aU, aU] [aL a4, aL l3] s3 else sem 68 90 [aA l0, aA l1, aI l2, aU, aU, aI l5, aU, aU] [aL (if (w32 ((s (s l0 1) l5) - a2)) = 0 then w32 (10 - a4) else 0), aL l3] s3) (i_c ?_ ?_) ?_
      · refine (x_iload f68_69 rfl rfl).trans ?_
        refine (x_i2l f68_71 rfl).trans ?_
        refine (x_goto (tg := 90) f68_72 rfl rfl).trans ?_
        exact x_kil f68_90 rfl
      · refine (x_iload f68_75 rfl rfl).trans ?_
        refine (x_if_ne (tg := 89) f68_77 rfl rfl).trans ?_
        refine Eq.trans (b := if (w32 ((s (s l0 1) l5) - a2)) = 0 then sem 68 90 [aA l0, aA l1, aI l2, aU, aU, aI l5, aU, aU] [aL (w32 (10 - a4)), aL l3] s3 else sem 68 90 [aA l0, aA l1, aI l2, aU, aU, aI l5, aU, aU] [aL 0, aL l3] s3) (i_c ?_ ?_) ?_
        · refine (x_iconst f68_80 rfl).trans ?_
          refine (x_iload f68_82 rfl rfl).trans ?_
          refine (x_isub f68_84 rfl).trans ?_
          refine (x_i2l f68_85 rfl).trans ?_
          refine (x_goto (tg := 90) f68_86 rfl rfl).trans ?_
          exact x_kil f68_90 rfl
        · refine (x_lconst f68_89 rfl).trans ?_
          exact x_kil f68_90 rfl
        refine m_L.trans ?_
        rfl
      refine m_L.trans ?_
      refine (x_lmul f68_90 rfl).trans ?_
      refine (x_lstore (l2 := [aA l0, aA l1, aI l2, aL (w64 (l3 * (if (w32 ((s (s l0 1) l5) - a2)) = 1 then a4 else if (w32 ((s (s l0 1) l5) - a2)) = 0 then w32 (10 - a4) else 0))), aU, aI l5, aU, aU]) f68_91 rfl rfl).trans ?_
      refine (x_iinc (l2 := [aA l0, aA l1, aI l2, aL (w64 (l3 * (if (w32 ((s (s l0 1) l5) - a2)) = 1 then a4 else if (w32 ((s (s l0 1) l5) - a2)) = 0 then w32 (10 - a4) else 0))), aU, aI (w32 (l5 + 1)), aU, aU]) f68_92 rfl rfl rfl).trans ?_
      refine (x_goto (tg := 10) f68_95 rfl rfl).trans ?_
      rfl
    · refine (x_kil (l2 := [aU, aU, aU, aL l3, aU, aU, aU, aU]) f68_98 rfl).trans ?_
      refine (x_lload f68_98 rfl rfl).trans ?_
      exact x_lreturn f68_99 rfl
  · refine (x_kil (l2 := [aU, aU, aU, aL l3, aU, aU, aU, aU]) f68_98 rfl).trans ?_
    refine (x_lload f68_98 rfl rfl).trans ?_
    exact x_lreturn f68_99 rfl
theorem f69_0 : fch 69 0 = some (.sipush 0, 1, []) := by decide +kernel
theorem f69_1 : fch 69 1 = some (.lstore 2, 2, []) := by decide +kernel
theorem f69_2 : fch 69 2 = some (.iconst 0, 3, []) := by decide +kernel
theorem f69_3 : fch 69 3 = some (.istore 4, 5, []) := by decide +kernel
theorem f69_5 : fch 69 5 = some (.iload 4, 7, []) := by decide +kernel
theorem f69_7 : fch 69 7 = some (.iconst 3, 8, []) := by decide +kernel
theorem f69_8 : fch 69 8 = some (.if_icmp .ge 27, 11, []) := by decide +kernel
theorem f69_11 : fch 69 11 = some (.lload 2, 12, []) := by decide +kernel
theorem f69_12 : fch 69 12 = some (.aload 0, 13, []) := by decide +kernel
theorem f69_13 : fch 69 13 = some (.aload 1, 14, []) := by decide +kernel
theorem f69_14 : fch 69 14 = some (.iload 4, 16, []) := by decide +kernel
theorem f69_16 : fch 69 16 = some (.invokevirtual 68, 19, []) := by decide +kernel
theorem f69_19 : fch 69 19 = some (.ladd, 20, []) := by decide +kernel
theorem f69_20 : fch 69 20 = some (.lstore 2, 21, []) := by decide +kernel
theorem f69_21 : fch 69 21 = some (.iinc 4 1, 24, []) := by decide +kernel
theorem f69_24 : fch 69 24 = some (.goto 5, 27, []) := by decide +kernel
theorem f69_27 : fch 69 27 = some (.lload 2, 28, []) := by decide +kernel
theorem f69_28 : fch 69 28 = some (.lreturn, 29, []) := by decide +kernel
set_option maxRecDepth 10000 in
theorem e69_0 (l0 l1 : Int) (s : SG) : sem 69 0 [aA l0, aA l1, aU, aU, aU] [] s = sem 69 5 [aA l0, aA l1, aL 0, aU, aI 0] [] s := by
  refine (x_lconst f69_0 rfl).trans ?_
  refine (x_lstore (l2 := [aA l0, aA l1, aL 0, aU, aU]) f69_1 rfl rfl).trans ?_
  refine (x_iconst f69_2 rfl).trans ?_
  refine (x_istore (l2 := [aA l0, aA l1, aL 0, aU, aI 0]) f69_3 rfl rfl).trans ?_
  rfl
set_option maxRecDepth 10000 in
theorem e69_5 (l0 l1 l2 l4 : Int) (s : SG) : sem 69 5 [aA l0, aA l1, aL l2, aU, aI l4] [] s = if l4 < 3 then grd (kd l0 = 4) (bnL (sem 68 0 [aA l0, aA l1, aI l4, aU, aU, aU, aU, aU] [] s) fun a2 s1 => sem 69 5 [aA l0, aA l1, aL (w64 (l2 + a2)), aU, aI (w32 (l4 + 1))] [] s1) else some (aL l2, s) := by
  refine (x_iload f69_5 rfl rfl).trans ?_
  refine (x_iconst f69_7 rfl).trans ?_
  refine (x_icmp_ge (tg := 27) f69_8 rfl rfl).trans (i_c ?_ ?_)
  · refine (x_lload f69_11 rfl rfl).trans ?_
    refine (x_aload f69_12 rfl rfl).trans ?_
    refine (x_aload f69_13 rfl rfl).trans ?_
    refine (x_iload f69_14 rfl rfl).trans ?_
    refine (x_invokevirtual (G := grd (kd l0 = 4) (bnL (sem 68 0 [aA l0, aA l1, aI l4, aU, aU, aU, aU, aU] [] s) fun a2 s1 => sem 69 19 [aA l0, aA l1, aL l2, aU, aI l4] [aL a2, aL l2] s1)) f69_16 rfl rfl).trans ?_
    refine g_c ?_
    refine bL_c fun a2 s1 => ?_
    refine (x_ladd f69_19 rfl).trans ?_
    refine (x_lstore (l2 := [aA l0, aA l1, aL (w64 (l2 + a2)), aU, aI l4]) f69_20 rfl rfl).trans ?_
    refine (x_iinc (l2 := [aA l0, aA l1, aL (w64 (l2 + a2)), aU, aI (w32 (l4 + 1))]) f69_21 rfl rfl rfl).trans ?_
    refine (x_goto (tg := 5) f69_24 rfl rfl).trans ?_
    rfl
  · refine (x_lload f69_27 rfl rfl).trans ?_
    exact x_lreturn f69_28 rfl
theorem f70_0 : fch 70 0 = some (.iconst 0, 1, []) := by decide +kernel
theorem f70_1 : fch 70 1 = some (.istore 2, 2, []) := by decide +kernel
theorem f70_2 : fch 70 2 = some (.iconst 1, 3, []) := by decide +kernel
theorem f70_3 : fch 70 3 = some (.istore 3, 4, []) := by decide +kernel
theorem f70_4 : fch 70 4 = some (.iload 3, 5, []) := by decide +kernel
theorem f70_5 : fch 70 5 = some (.iconst 3, 6, []) := by decide +kernel
theorem f70_6 : fch 70 6 = some (.if_icmp .ge 33, 9, []) := by decide +kernel
theorem f70_9 : fch 70 9 = some (.aload 0, 10, []) := by decide +kernel
theorem f70_10 : fch 70 10 = some (.aload 1, 11, []) := by decide +kernel
theorem f70_11 : fch 70 11 = some (.iload 3, 12, []) := by decide +kernel
theorem f70_12 : fch 70 12 = some (.invokevirtual 68, 15, []) := by decide +kernel
theorem f70_15 : fch 70 15 = some (.aload 0, 16, []) := by decide +kernel
theorem f70_16 : fch 70 16 = some (.aload 1, 17, []) := by decide +kernel
theorem f70_17 : fch 70 17 = some (.iload 2, 18, []) := by decide +kernel
theorem f70_18 : fch 70 18 = some (.invokevirtual 68, 21, []) := by decide +kernel
theorem f70_21 : fch 70 21 = some (.lcmp, 22, []) := by decide +kernel
theorem f70_22 : fch 70 22 = some (.ifCond .le 27, 25, []) := by decide +kernel
theorem f70_25 : fch 70 25 = some (.iload 3, 26, []) := by decide +kernel
theorem f70_26 : fch 70 26 = some (.istore 2, 27, []) := by decide +kernel
theorem f70_27 : fch 70 27 = some (.iinc 3 1, 30, []) := by decide +kernel
theorem f70_30 : fch 70 30 = some (.goto 4, 33, []) := by decide +kernel
theorem f70_33 : fch 70 33 = some (.iload 2, 34, []) := by decide +kernel
theorem f70_34 : fch 70 34 = some (.ireturn, 35, []) := by decide +kernel
set_option maxRecDepth 10000 in
theorem e70_0 (l0 l1 : Int) (s : SG) : sem 70 0 [aA l0, aA l1, aU, aU] [] s = sem 70 4 [aA l0, aA l1, aI 0, aI 1] [] s := by
  refine (x_iconst f70_0 rfl).trans ?_
  refine (x_istore (l2 := [aA l0, aA l1, aI 0, aU]) f70_1 rfl rfl).trans ?_
  refine (x_iconst f70_2 rfl).trans ?_
  refine (x_istore (l2 := [aA l0, aA l1, aI 0, aI 1]) f70_3 rfl rfl).trans ?_
  rfl
set_option maxRecDepth 10000 in
theorem e70_4 (l0 l1 l2 l3 : Int) (s : SG) : sem 70 4 [aA l0, aA l1, aI l2, aI l3] [] s = if l3 < 3 then grd (kd l0 = 4) (bnL (sem 68 0 [aA l0, aA l1, aI l3, aU, aU, aU, aU, aU] [] s) fun a2 s1 => grd (kd l0 = 4) (bnL (sem 68 0 [aA l0, aA l1, aI l2, aU, aU, aU, aU, aU] [] s1) fun a4 s3 => if (0 : Int) < (cmpL a2 a4) then sem 70 4 [aA l0, aA l1, aI l3, aI (w32 (l3 + 1))] [] s3 else sem 70 4 [aA l0, aA l1, aI l2, aI (w32 (l3 + 1))] [] s3)) else some (aI l2, s) := by
  refine (x_iload f70_4 rfl rfl).trans ?_
  refine (x_iconst f70_5 rfl).trans ?_
  refine (x_icmp_ge (tg := 33) f70_6 rfl rfl).trans (i_c ?_ ?_)
  · refine (x_aload f70_9 rfl rfl).trans ?_
    refine (x_aload f70_10 rfl rfl).trans ?_
    refine (x_iload f70_11 rfl rfl).trans ?_
    refine (x_invokevirtual (G := grd (kd l0 = 4) (bnL (sem 68 0 [aA l0, aA l1, aI l3, aU, aU, aU, aU, aU] [] s) fun a2 s1 => sem 70 15 [aA l0, aA l1, aI l2, aI l3] [aL a2] s1)) f70_12 rfl rfl).trans ?_
    refine g_c ?_
    refine bL_c fun a2 s1 => ?_
    refine (x_aload f70_15 rfl rfl).trans ?_
    refine (x_aload f70_16 rfl rfl).trans ?_
    refine (x_iload f70_17 rfl rfl).trans ?_
    refine (x_invokevirtual (G := grd (kd l0 = 4) (bnL (sem 68 0 [aA l0, aA l1, aI l2, aU, aU, aU, aU, aU] [] s1) fun a4 s3 => sem 70 21 [aA l0, aA l1, aI l2, aI l3] [aL a4, aL a2] s3)) f70_18 rfl rfl).trans ?_
    refine g_c ?_
    refine bL_c fun a4 s3 => ?_
    refine (x_lcmp f70_21 rfl).trans ?_
    refine (x_if_le (tg := 27) f70_22 rfl rfl).trans (i_c ?_ ?_)
    · refine (x_iload f70_25 rfl rfl).trans ?_
      refine (x_istore (l2 := [aA l0, aA l1, aI l3, aI l3]) f70_26 rfl rfl).trans ?_
      refine (x_iinc (l2 := [aA l0, aA l1, aI l3, aI (w32 (l3 + 1))]) f70_27 rfl rfl rfl).trans ?_
      refine (x_goto (tg := 4) f70_30 rfl rfl).trans ?_
      rfl
    · refine (x_iinc (l2 := [aA l0, aA l1, aI l2, aI (w32 (l3 + 1))]) f70_27 rfl rfl rfl).trans ?_
      refine (x_goto (tg := 4) f70_30 rfl rfl).trans ?_
      rfl
  · refine (x_iload f70_33 rfl rfl).trans ?_
    exact x_ireturn f70_34 rfl
theorem f71_0 : fch 71 0 = some (.iconst 0, 1, []) := by decide +kernel
theorem f71_1 : fch 71 1 = some (.istore 2, 2, []) := by decide +kernel
theorem f71_2 : fch 71 2 = some (.iconst 1, 3, []) := by decide +kernel
theorem f71_3 : fch 71 3 = some (.istore 3, 4, []) := by decide +kernel
theorem f71_4 : fch 71 4 = some (.iload 3, 5, []) := by decide +kernel
theorem f71_5 : fch 71 5 = some (.aload 1, 6, []) := by decide +kernel
theorem f71_6 : fch 71 6 = some (.invokeinterface 6 4, 9, []) := by decide +kernel
theorem f71_9 : fch 71 9 = some (.if_icmp .ge 35, 12, []) := by decide +kernel
theorem f71_12 : fch 71 12 = some (.aload 0, 13, []) := by decide +kernel
theorem f71_13 : fch 71 13 = some (.aload 1, 14, []) := by decide +kernel
theorem f71_14 : fch 71 14 = some (.iload 3, 15, []) := by decide +kernel
theorem f71_15 : fch 71 15 = some (.invokevirtual 72, 18, []) := by decide +kernel
theorem f71_18 : fch 71 18 = some (.aload 0, 19, []) := by decide +kernel
theorem f71_19 : fch 71 19 = some (.aload 1, 20, []) := by decide +kernel
theorem f71_20 : fch 71 20 = some (.iload 2, 21, []) := by decide +kernel
theorem f71_21 : fch 71 21 = some (.invokevirtual 72, 24, []) := by decide +kernel
theorem f71_24 : fch 71 24 = some (.if_icmp .le 29, 27, []) := by decide +kernel
theorem f71_27 : fch 71 27 = some (.iload 3, 28, []) := by decide +kernel
theorem f71_28 : fch 71 28 = some (.istore 2, 29, []) := by decide +kernel
theorem f71_29 : fch 71 29 = some (.iinc 3 1, 32, []) := by decide +kernel
theorem f71_32 : fch 71 32 = some (.goto 4, 35, []) := by decide +kernel
theorem f71_35 : fch 71 35 = some (.iload 2, 36, []) := by decide +kernel
theorem f71_36 : fch 71 36 = some (.ireturn, 37, []) := by decide +kernel
set_option maxRecDepth 10000 in
theorem e71_0 (l0 l1 : Int) (s : SG) : sem 71 0 [aA l0, aA l1, aU, aU] [] s = sem 71 4 [aA l0, aA l1, aI 0, aI 1] [] s := by
  refine (x_iconst f71_0 rfl).trans ?_
  refine (x_istore (l2 := [aA l0, aA l1, aI 0, aU]) f71_1 rfl rfl).trans ?_
  refine (x_iconst f71_2 rfl).trans ?_
  refine (x_istore (l2 := [aA l0, aA l1, aI 0, aI 1]) f71_3 rfl rfl).trans ?_
  rfl
set_option maxRecDepth 10000 in
theorem e71_4 (l0 l1 l2 l3 : Int) (s : SG) : sem 71 4 [aA l0, aA l1, aI l2, aI l3] [] s = grd (kd l1 = 6) (if l3 < (s l1 4) then grd (kd l0 = 4) (bnI (sem 72 0 [aA l0, aA l1, aI l3, aU, aU] [] s) fun a2 s1 => grd (kd l0 = 4) (bnI (sem 72 0 [aA l0, aA l1, aI l2, aU, aU] [] s1) fun a4 s3 => if a4 < a2 then sem 71 4 [aA l0, aA l1, aI l3, aI (w32 (l3 + 1))] [] s3 else sem 71 4 [aA l0, aA l1, aI l2, aI (w32 (l3 + 1))] [] s3)) else some (aI l2, s)) := by
  refine (x_iload f71_4 rfl rfl).trans ?_
  refine (x_aload f71_5 rfl rfl).trans ?_
  refine (x_get0 f71_6 rfl rfl).trans ?_
  refine g_c ?_
  refine (x_icmp_ge (tg := 35) f71_9 rfl rfl).trans (i_c ?_ ?_)
  · refine (x_aload f71_12 rfl rfl).trans ?_
    refine (x_aload f71_13 rfl rfl).trans ?_
    refine (x_iload f71_14 rfl rfl).trans ?_
    refine (x_invokevirtual (G := grd (kd l0 = 4) (bnI (sem 72 0 [aA l0, aA l1, aI l3, aU, aU] [] s) fun a2 s1 => sem 71 18 [aA l0, aA l1, aI l2, aI l3] [aI a2] s1)) f71_15 rfl rfl).trans ?_
    refine g_c ?_
    refine bI_c fun a2 s1 => ?_
    refine (x_aload f71_18 rfl rfl).trans ?_
    refine (x_aload f71_19 rfl rfl).trans ?_
    refine (x_iload f71_20 rfl rfl).trans ?_
    refine (x_invokevirtual (G := grd (kd l0 = 4) (bnI (sem 72 0 [aA l0, aA l1, aI l2, aU, aU] [] s1) fun a4 s3 => sem 71 24 [aA l0, aA l1, aI l2, aI l3] [aI a4, aI a2] s3)) f71_21 rfl rfl).trans ?_
    refine g_c ?_
    refine bI_c fun a4 s3 => ?_
    refine (x_icmp_le (tg := 29) f71_24 rfl rfl).trans (i_c ?_ ?_)
    · refine (x_iload f71_27 rfl rfl).trans ?_
      refine (x_istore (l2 := [aA l0, aA l1, aI l3, aI l3]) f71_28 rfl rfl).trans ?_
      refine (x_iinc (l2 := [aA l0, aA l1, aI l3, aI (w32 (l3 + 1))]) f71_29 rfl rfl rfl).trans ?_
      refine (x_goto (tg := 4) f71_32 rfl rfl).trans ?_
      rfl
    · refine (x_iinc (l2 := [aA l0, aA l1, aI l2, aI (w32 (l3 + 1))]) f71_29 rfl rfl rfl).trans ?_
      refine (x_goto (tg := 4) f71_32 rfl rfl).trans ?_
      rfl
  · refine (x_iload f71_35 rfl rfl).trans ?_
    exact x_ireturn f71_36 rfl
theorem f72_0 : fch 72 0 = some (.iconst 0, 1, []) := by decide +kernel
theorem f72_1 : fch 72 1 = some (.istore 3, 2, []) := by decide +kernel
theorem f72_2 : fch 72 2 = some (.iconst 0, 3, []) := by decide +kernel
theorem f72_3 : fch 72 3 = some (.istore 4, 5, []) := by decide +kernel
theorem f72_5 : fch 72 5 = some (.iload 4, 7, []) := by decide +kernel
theorem f72_7 : fch 72 7 = some (.iconst 3, 8, []) := by decide +kernel
theorem f72_8 : fch 72 8 = some (.if_icmp .ge 43, 11, []) := by decide +kernel
theorem f72_11 : fch 72 11 = some (.aload 0, 12, []) := by decide +kernel
theorem f72_12 : fch 72 12 = some (.aload 1, 13, []) := by decide +kernel
theorem f72_13 : fch 72 13 = some (.iload 4, 15, []) := by decide +kernel
theorem f72_15 : fch 72 15 = some (.invokevirtual 68, 18, []) := by decide +kernel
theorem f72_18 : fch 72 18 = some (.sipush 0, 19, []) := by decide +kernel
theorem f72_19 : fch 72 19 = some (.lcmp, 20, []) := by decide +kernel
theorem f72_20 : fch 72 20 = some (.ifCond .le 37, 23, []) := by decide +kernel
theorem f72_23 : fch 72 23 = some (.aload 0, 24, []) := by decide +kernel
theorem f72_24 : fch 72 24 = some (.aload 1, 25, []) := by decide +kernel
theorem f72_25 : fch 72 25 = some (.iload 2, 26, []) := by decide +kernel
theorem f72_26 : fch 72 26 = some (.iload 4, 28, []) := by decide +kernel
theorem f72_28 : fch 72 28 = some (.invokevirtual 73, 31, []) := by decide +kernel
theorem f72_31 : fch 72 31 = some (.ifCond .ne 37, 34, []) := by decide +kernel
theorem f72_34 : fch 72 34 = some (.iinc 3 1, 37, []) := by decide +kernel
theorem f72_37 : fch 72 37 = some (.iinc 4 1, 40, []) := by decide +kernel
theorem f72_40 : fch 72 40 = some (.goto 5, 43, []) := by decide +kernel
theorem f72_43 : fch 72 43 = some (.iload 3, 44, []) := by decide +kernel
theorem f72_44 : fch 72 44 = some (.ireturn, 45, []) := by decide +kernel
set_option maxRecDepth 10000 in
theorem e72_0 (l0 l1 l2 : Int) (s : SG) : sem 72 0 [aA l0, aA l1, aI l2, aU, aU] [] s = sem 72 5 [aA l0, aA l1, aI l2, aI 0, aI 0] [] s := by
  refine (x_iconst f72_0 rfl).trans ?_
  refine (x_istore (l2 := [aA l0, aA l1, aI l2, aI 0, aU]) f72_1 rfl rfl).trans ?_
  refine (x_iconst f72_2 rfl).trans ?_
  refine (x_istore (l2 := [aA l0, aA l1, aI l2, aI 0, aI 0]) f72_3 rfl rfl).trans ?_
  rfl
set_option maxRecDepth 10000 in
theorem e72_5 (l0 l1 l2 l3 l4 : Int) (s : SG) : sem 72 5 [aA l0, aA l1, aI l2, aI l3, aI l4] [] s = if l4 < 3 then grd (kd l0 = 4) (bnL (sem 68 0 [aA l0, aA l1, aI l4, aU, aU, aU, aU, aU] [] s) fun a2 s1 => if (0 : Int) < (cmpL a2 0) then grd (kd l0 = 4) (bnI (sem 73 0 [aA l0, aA l1, aI l2, aI l4, aU] [] s1) fun a4 s3 => if a4 = 0 then sem 72 5 [aA l0, aA l1, aI l2, aI (w32 (l3 + 1)), aI (w32 (l4 + 1))] [] s3 else sem 72 5 [aA l0, aA l1, aI l2, aI l3, aI (w32 (l4 + 1))] [] s3) else sem 72 5 [aA l0, aA l1, aI l2, aI l3, aI (w32 (l4 + 1))] [] s1) else some (aI l3, s) := by
  refine (x_iload f72_5 rfl rfl).trans ?_
  refine (x_iconst f72_7 rfl).trans ?_
  refine (x_icmp_ge (tg := 43) f72_8 rfl rfl).trans (i_c ?_ ?_)
  · refine (x_aload f72_11 rfl rfl).trans ?_
    refine (x_aload f72_12 rfl rfl).trans ?_
    refine (x_iload f72_13 rfl rfl).trans ?_
    refine (x_invokevirtual (G := grd (kd l0 = 4) (bnL (sem 68 0 [aA l0, aA l1, aI l4, aU, aU, aU, aU, aU] [] s) fun a2 s1 => sem 72 18 [aA l0, aA l1, aI l2, aI l3, aI l4] [aL a2] s1)) f72_15 rfl rfl).trans ?_
    refine g_c ?_
    refine bL_c fun a2 s1 => ?_
    refine (x_lconst f72_18 rfl).trans ?_
    refine (x_lcmp f72_19 rfl).trans ?_
    refine (x_if_le (tg := 37) f72_20 rfl rfl).trans (i_c ?_ ?_)
    · refine (x_aload f72_23 rfl rfl).trans ?_
      refine (x_aload f72_24 rfl rfl).trans ?_
      refine (x_iload f72_25 rfl rfl).trans ?_
      refine (x_iload f72_26 rfl rfl).trans ?_
      refine (x_invokevirtual (G := grd (kd l0 = 4) (bnI (sem 73 0 [aA l0, aA l1, aI l2, aI l4, aU] [] s1) fun a4 s3 => sem 72 31 [aA l0, aA l1, aI l2, aI l3, aI l4] [aI a4] s3)) f72_28 rfl rfl).trans ?_
      refine g_c ?_
      refine bI_c fun a4 s3 => ?_
      refine (x_if_ne (tg := 37) f72_31 rfl rfl).trans (i_c ?_ ?_)
      · refine (x_iinc (l2 := [aA l0, aA l1, aI l2, aI (w32 (l3 + 1)), aI l4]) f72_34 rfl rfl rfl).trans ?_
        refine (x_iinc (l2 := [aA l0, aA l1, aI l2, aI (w32 (l3 + 1)), aI (w32 (l4 + 1))]) f72_37 rfl rfl rfl).trans ?_
        refine (x_goto (tg := 5) f72_40 rfl rfl).trans ?_
        rfl
      · refine (x_iinc (l2 := [aA l0, aA l1, aI l2, aI l3, aI (w32 (l4 + 1))]) f72_37 rfl rfl rfl).trans ?_
        refine (x_goto (tg := 5) f72_40 rfl rfl).trans ?_
        rfl
    · refine (x_iinc (l2 := [aA l0, aA l1, aI l2, aI l3, aI (w32 (l4 + 1))]) f72_37 rfl rfl rfl).trans ?_
      refine (x_goto (tg := 5) f72_40 rfl rfl).trans ?_
      rfl
  · refine (x_iload f72_43 rfl rfl).trans ?_
    exact x_ireturn f72_44 rfl
theorem f73_0 : fch 73 0 = some (.iconst 0, 1, []) := by decide +kernel
theorem f73_1 : fch 73 1 = some (.istore 4, 3, []) := by decide +kernel
theorem f73_3 : fch 73 3 = some (.iload 4, 5, []) := by decide +kernel
theorem f73_5 : fch 73 5 = some (.iload 3, 6, []) := by decide +kernel
theorem f73_6 : fch 73 6 = some (.if_icmp .ge 61, 9, []) := by decide +kernel
theorem f73_9 : fch 73 9 = some (.aload 0, 10, []) := by decide +kernel
theorem f73_10 : fch 73 10 = some (.aload 1, 11, []) := by decide +kernel
theorem f73_11 : fch 73 11 = some (.iload 4, 13, []) := by decide +kernel
theorem f73_13 : fch 73 13 = some (.invokevirtual 68, 16, []) := by decide +kernel
theorem f73_16 : fch 73 16 = some (.sipush 0, 17, []) := by decide +kernel
theorem f73_17 : fch 73 17 = some (.lcmp, 18, []) := by decide +kernel
theorem f73_18 : fch 73 18 = some (.ifCond .le 55, 21, []) := by decide +kernel
theorem f73_21 : fch 73 21 = some (.aload 1, 22, []) := by decide +kernel
theorem f73_22 : fch 73 22 = some (.iload 2, 23, []) := by decide +kernel
theorem f73_23 : fch 73 23 = some (.iload 4, 25, []) := by decide +kernel
theorem f73_25 : fch 73 25 = some (.invokevirtual 84, 28, []) := by decide +kernel
theorem f73_28 : fch 73 28 = some (.aload 1, 29, []) := by decide +kernel
theorem f73_29 : fch 73 29 = some (.iload 2, 30, []) := by decide +kernel
theorem f73_30 : fch 73 30 = some (.iload 3, 31, []) := by decide +kernel
theorem f73_31 : fch 73 31 = some (.invokevirtual 84, 34, []) := by decide +kernel
theorem f73_34 : fch 73 34 = some (.if_icmp .ne 55, 37, []) := by decide +kernel
theorem f73_37 : fch 73 37 = some (.aload 1, 38, []) := by decide +kernel
theorem f73_38 : fch 73 38 = some (.iload 2, 39, []) := by decide +kernel
theorem f73_39 : fch 73 39 = some (.iload 4, 41, []) := by decide +kernel
theorem f73_41 : fch 73 41 = some (.invokevirtual 85, 44, []) := by decide +kernel
theorem f73_44 : fch 73 44 = some (.aload 1, 45, []) := by decide +kernel
theorem f73_45 : fch 73 45 = some (.iload 2, 46, []) := by decide +kernel
theorem f73_46 : fch 73 46 = some (.iload 3, 47, []) := by decide +kernel
theorem f73_47 : fch 73 47 = some (.invokevirtual 85, 50, []) := by decide +kernel
theorem f73_50 : fch 73 50 = some (.if_icmp .ne 55, 53, []) := by decide +kernel
theorem f73_53 : fch 73 53 = some (.iconst 1, 54, []) := by decide +kernel
theorem f73_54 : fch 73 54 = some (.ireturn, 55, []) := by decide +kernel
theorem f73_55 : fch 73 55 = some (.iinc 4 1, 58, []) := by decide +kernel
theorem f73_58 : fch 73 58 = some (.goto 3, 61, []) := by decide +kernel
theorem f73_61 : fch 73 61 = some (.iconst 0, 62, []) := by decide +kernel
theorem f73_62 : fch 73 62 = some (.ireturn, 63, []) := by decide +kernel
set_option maxRecDepth 10000 in
theorem e73_0 (l0 l1 l2 l3 : Int) (s : SG) : sem 73 0 [aA l0, aA l1, aI l2, aI l3, aU] [] s = sem 73 3 [aA l0, aA l1, aI l2, aI l3, aI 0] [] s := by
  refine (x_iconst f73_0 rfl).trans ?_
  refine (x_istore (l2 := [aA l0, aA l1, aI l2, aI l3, aI 0]) f73_1 rfl rfl).trans ?_
  rfl
set_option maxRecDepth 10000 in
theorem e73_3 (l0 l1 l2 l3 l4 : Int) (s : SG) : sem 73 3 [aA l0, aA l1, aI l2, aI l3, aI l4] [] s = if l4 < l3 then grd (kd l0 = 4) (bnL (sem 68 0 [aA l0, aA l1, aI l4, aU, aU, aU, aU, aU] [] s) fun a2 s1 => if (0 : Int) < (cmpL a2 0) then grd (kd l1 = 6) (bnI (sem 84 0 [aA l1, aI l2, aI l4, aU] [] s1) fun a4 s3 => grd (kd l1 = 6) (bnI (sem 84 0 [aA l1, aI l2, aI l3, aU] [] s3) fun a6 s5 => if a4 = a6 then grd (kd l1 = 6) (bnI (sem 85 0 [aA l1, aI l2, aI l4, aU] [] s5) fun a8 s7 => grd (kd l1 = 6) (bnI (sem 85 0 [aA l1, aI l2, aI l3, aU] [] s7) fun a10 s9 => if a8 = a10 then some (aI 1, s9) else sem 73 3 [aA l0, aA l1, aI l2, aI l3, aI (w32 (l4 + 1))] [] s9)) else sem 73 3 [aA l0, aA l1, aI l2, aI l3, aI (w32 (l4 + 1))] [] s5)) else sem 73 3 [aA l0, aA l1, aI l2, aI l3, aI (w32 (l4 + 1))] [] s1) else some (aI 0, s) := by
  refine (x_iload f73_3 rfl rfl).trans ?_
  refine (x_iload f73_5 rfl rfl).trans ?_
  refine (x_icmp_ge (tg := 61) f73_6 rfl rfl).trans (i_c ?_ ?_)
  · refine (x_aload f73_9 rfl rfl).trans ?_
    refine (x_aload f73_10 rfl rfl).trans ?_
    refine (x_iload f73_11 rfl rfl).trans ?_
    refine (x_invokevirtual (G := grd (kd l0 = 4) (bnL (sem 68 0 [aA l0, aA l1, aI l4, aU, aU, aU, aU, aU] [] s) fun a2 s1 => sem 73 16 [aA l0, aA l1, aI l2, aI l3, aI l4] [aL a2] s1)) f73_13 rfl rfl).trans ?_
    refine g_c ?_
    refine bL_c fun a2 s1 => ?_
    refine (x_lconst f73_16 rfl).trans ?_
    refine (x_lcmp f73_17 rfl).trans ?_
    refine (x_if_le (tg := 55) f73_18 rfl rfl).trans (i_c ?_ ?_)
    · refine (x_aload f73_21 rfl rfl).trans ?_
      refine (x_iload f73_22 rfl rfl).trans ?_
      refine (x_iload f73_23 rfl rfl).trans ?_
      refine (x_invokevirtual (G := grd (kd l1 = 6) (bnI (sem 84 0 [aA l1, aI l2, aI l4, aU] [] s1) fun a4 s3 => sem 73 28 [aA l0, aA l1, aI l2, aI l3, aI l4] [aI a4] s3)) f73_25 rfl rfl).trans ?_
      refine g_c ?_
      refine bI_c fun a4 s3 => ?_
      refine (x_aload f73_28 rfl rfl).trans ?_
      refine (x_iload f73_29 rfl rfl).trans ?_
      refine (x_iload f73_30 rfl rfl).trans ?_
      refine (x_invokevirtual (G := grd (kd l1 = 6) (bnI (sem 84 0 [aA l1, aI l2, aI l3, aU] [] s3) fun a6 s5 => sem 73 34 [aA l0, aA l1, aI l2, aI l3, aI l4] [aI a6, aI a4] s5)) f73_31 rfl rfl).trans ?_
      refine g_c ?_
      refine bI_c fun a6 s5 => ?_
      refine (x_icmp_ne (tg := 55) f73_34 rfl rfl).trans (i_c ?_ ?_)
      · refine (x_aload f73_37 rfl rfl).trans ?_
        refine (x_iload f73_38 rfl rfl).trans ?_
        refine (x_iload f73_39 rfl rfl).trans ?_
        refine (x_invokevirtual (G := grd (kd l1 = 6) (bnI (sem 85 0 [aA l1, aI l2, aI l4, aU] [] s5) fun a8 s7 => sem 73 44 [aA l0, aA l1, aI l2, aI l3, aI l4] [aI a8] s7)) f73_41 rfl rfl).trans ?_
        refine g_c ?_
        refine bI_c fun a8 s7 => ?_
        refine (x_aload f73_44 rfl rfl).trans ?_
        refine (x_iload f73_45 rfl rfl).trans ?_
        refine (x_iload f73_46 rfl rfl).trans ?_
        refine (x_invokevirtual (G := grd (kd l1 = 6) (bnI (sem 85 0 [aA l1, aI l2, aI l3, aU] [] s7) fun a10 s9 => sem 73 50 [aA l0, aA l1, aI l2, aI l3, aI l4] [aI a10, aI a8] s9)) f73_47 rfl rfl).trans ?_
        refine g_c ?_
        refine bI_c fun a10 s9 => ?_
        refine (x_icmp_ne (tg := 55) f73_50 rfl rfl).trans (i_c ?_ ?_)
        · refine (x_iconst f73_53 rfl).trans ?_
          exact x_zreturn1 f73_54 rfl
        · refine (x_iinc (l2 := [aA l0, aA l1, aI l2, aI l3, aI (w32 (l4 + 1))]) f73_55 rfl rfl rfl).trans ?_
          refine (x_goto (tg := 3) f73_58 rfl rfl).trans ?_
          rfl
      · refine (x_iinc (l2 := [aA l0, aA l1, aI l2, aI l3, aI (w32 (l4 + 1))]) f73_55 rfl rfl rfl).trans ?_
        refine (x_goto (tg := 3) f73_58 rfl rfl).trans ?_
        rfl
    · refine (x_iinc (l2 := [aA l0, aA l1, aI l2, aI l3, aI (w32 (l4 + 1))]) f73_55 rfl rfl rfl).trans ?_
      refine (x_goto (tg := 3) f73_58 rfl rfl).trans ?_
      rfl
  · refine (x_iconst f73_61 rfl).trans ?_
    exact x_zreturn0 f73_62 rfl
theorem f74_0 : fch 74 0 = some (.aload 0, 1, []) := by decide +kernel
theorem f74_1 : fch 74 1 = some (.monitorexit, 4, []) := by decide +kernel
theorem f74_4 : fch 74 4 = some (.aload 0, 5, []) := by decide +kernel
theorem f74_5 : fch 74 5 = some (.iconst 64, 7, []) := by decide +kernel
theorem f74_7 : fch 74 7 = some (.newarray .int, 9, []) := by decide +kernel
theorem f74_9 : fch 74 9 = some (.multianewarray 5 0, 12, []) := by decide +kernel
theorem f74_12 : fch 74 12 = some (.aload 0, 13, []) := by decide +kernel
theorem f74_13 : fch 74 13 = some (.iconst 0, 14, []) := by decide +kernel
theorem f74_14 : fch 74 14 = some (.multianewarray 5 1, 17, []) := by decide +kernel
theorem f74_17 : fch 74 17 = some (.return_, 18, []) := by decide +kernel
set_option maxRecDepth 10000 in
theorem e74_0 (l0 : Int) (s : SG) : sem 74 0 [aA l0] [] s = grd (kd (s (-1) 0) = akind .int ∧ kl (s (-1) 0) = 64) (grd (kd l0 = 5) (grd (0 ≤ s (-1) 0) (grd (kd l0 = 5) (some (aU, up (up (alc s 64 (fun _ => 0)) l0 0 (s (-1) 0)) l0 1 0))))) := by
  refine (x_aload f74_0 rfl rfl).trans ?_
  refine (x_monitorexit f74_1 rfl rfl).trans ?_
  refine (x_aload f74_4 rfl rfl).trans ?_
  refine (x_iconst f74_5 rfl).trans ?_
  refine (x_newarray f74_7 rfl).trans ?_
  refine g_c ?_
  refine (x_put2 f74_9 rfl rfl).trans ?_
  refine g_c ?_
  refine g_c ?_
  refine (x_aload f74_12 rfl rfl).trans ?_
  refine (x_iconst f74_13 rfl).trans ?_
  refine (x_put0 f74_14 rfl rfl).trans ?_
  refine g_c ?_
  exact x_return f74_17 rfl
theorem f75_0 : fch 75 0 = some (.aload 0, 1, []) := by decide +kernel
theorem f75_1 : fch 75 1 = some (.invokeinterface 5 1, 4, []) := by decide +kernel
theorem f75_4 : fch 75 4 = some (.ireturn, 5, []) := by decide +kernel
set_option maxRecDepth 10000 in
theorem e75_0 (l0 : Int) (s : SG) : sem 75 0 [aA l0] [] s = grd (kd l0 = 5) (some (aI (s l0 1), s)) := by
  refine (x_aload f75_0 rfl rfl).trans ?_
  refine (x_get0 f75_1 rfl rfl).trans ?_
  refine g_c ?_
  exact x_ireturn f75_4 rfl
theorem f76_0 : fch 76 0 = some (.aload 0, 1, []) := by decide +kernel
theorem f76_1 : fch 76 1 = some (.invokeinterface 5 1, 4, []) := by decide +kernel
theorem f76_4 : fch 76 4 = some (.iload 1, 5, []) := by decide +kernel
theorem f76_5 : fch 76 5 = some (.iadd, 6, []) := by decide +kernel
theorem f76_6 : fch 76 6 = some (.iconst 64, 8, []) := by decide +kernel
theorem f76_8 : fch 76 8 = some (.if_icmp .gt 15, 11, []) := by decide +kernel
theorem f76_11 : fch 76 11 = some (.iconst 1, 12, []) := by decide +kernel
theorem f76_12 : fch 76 12 = some (.goto 16, 15, []) := by decide +kernel
theorem f76_15 : fch 76 15 = some (.iconst 0, 16, []) := by decide +kernel
theorem f76_16 : fch 76 16 = some (.ireturn, 17, [0, 1]) := by decide +kernel
set_option maxRecDepth 10000 in
theorem e76_0 (l0 l1 : Int) (s : SG) : sem 76 0 [aA l0, aI l1] [] s = grd (kd l0 = 5) (if (64 : Int) < (w32 ((s l0 1) + l1)) then some (aI 0, s) else some (aI 1, s)) := by
  refine (x_aload f76_0 rfl rfl).trans ?_
  refine (x_get0 f76_1 rfl rfl).trans ?_
  refine g_c ?_
  refine (x_iload f76_4 rfl rfl).trans ?_
  refine (x_iadd f76_5 rfl).trans ?_
  refine (x_iconst f76_6 rfl).trans ?_
  refine (x_icmp_gt (tg := 15) f76_8 rfl rfl).trans (i_c ?_ ?_)
  · refine (x_iconst f76_15 rfl).trans ?_
    refine (x_kil (l2 := [aU, aU]) f76_16 rfl).trans ?_
    exact x_zreturn0 f76_16 rfl
  · refine (x_iconst f76_11 rfl).trans ?_
    refine (x_goto (tg := 16) f76_12 rfl rfl).trans ?_
    refine (x_kil (l2 := [aU, aU]) f76_16 rfl).trans ?_
    exact x_zreturn1 f76_16 rfl
theorem f77_0 : fch 77 0 = some (.iload 1, 1, []) := by decide +kernel
theorem f77_1 : fch 77 1 = some (.iconst 1, 2, []) := by decide +kernel
theorem f77_2 : fch 77 2 = some (.isub, 3, []) := by decide +kernel
theorem f77_3 : fch 77 3 = some (.istore 4, 5, []) := by decide +kernel
theorem f77_5 : fch 77 5 = some (.iload 4, 7, [1]) := by decide +kernel
theorem f77_7 : fch 77 7 = some (.ifCond .lt 56, 10, []) := by decide +kernel
theorem f77_10 : fch 77 10 = some (.aload 0, 11, []) := by decide +kernel
theorem f77_11 : fch 77 11 = some (.invokeinterface 5 1, 14, []) := by decide +kernel
theorem f77_14 : fch 77 14 = some (.iconst 64, 16, []) := by decide +kernel
theorem f77_16 : fch 77 16 = some (.if_icmp .ge 56, 19, []) := by decide +kernel
theorem f77_19 : fch 77 19 = some (.aload 0, 20, []) := by decide +kernel
theorem f77_20 : fch 77 20 = some (.invokeinterface 5 0, 23, []) := by decide +kernel
theorem f77_23 : fch 77 23 = some (.aload 0, 24, []) := by decide +kernel
theorem f77_24 : fch 77 24 = some (.invokeinterface 5 1, 27, []) := by decide +kernel
theorem f77_27 : fch 77 27 = some (.lload 2, 28, []) := by decide +kernel
theorem f77_28 : fch 77 28 = some (.iconst 8, 30, []) := by decide +kernel
theorem f77_30 : fch 77 30 = some (.iload 4, 32, []) := by decide +kernel
theorem f77_32 : fch 77 32 = some (.imul, 33, []) := by decide +kernel
theorem f77_33 : fch 77 33 = some (.lushr, 34, []) := by decide +kernel
theorem f77_34 : fch 77 34 = some (.l2i, 35, []) := by decide +kernel
theorem f77_35 : fch 77 35 = some (.iconst 255, 38, []) := by decide +kernel
theorem f77_38 : fch 77 38 = some (.iand, 39, []) := by decide +kernel
theorem f77_39 : fch 77 39 = some (.iastore, 40, []) := by decide +kernel
theorem f77_40 : fch 77 40 = some (.aload 0, 41, []) := by decide +kernel
theorem f77_41 : fch 77 41 = some (.dup, 42, []) := by decide +kernel
theorem f77_42 : fch 77 42 = some (.invokeinterface 5 1, 45, []) := by decide +kernel
theorem f77_45 : fch 77 45 = some (.iconst 1, 46, []) := by decide +kernel
theorem f77_46 : fch 77 46 = some (.iadd, 47, []) := by decide +kernel
theorem f77_47 : fch 77 47 = some (.multianewarray 5 1, 50, []) := by decide +kernel
theorem f77_50 : fch 77 50 = some (.iinc 4 (-1), 53, []) := by decide +kernel
theorem f77_53 : fch 77 53 = some (.goto 5, 56, []) := by decide +kernel
theorem f77_56 : fch 77 56 = some (.return_, 57, [0, 1, 2, 4]) := by decide +kernel
set_option maxRecDepth 10000 in
theorem e77_0 (l0 l1 l2 : Int) (s : SG) : sem 77 0 [aA l0, aI l1, aL l2, aU, aU] [] s = sem 77 5 [aA l0, aU, aL l2, aU, aI (w32 (l1 - 1))] [] s := by
  refine (x_iload f77_0 rfl rfl).trans ?_
  refine (x_iconst f77_1 rfl).trans ?_
  refine (x_isub f77_2 rfl).trans ?_
  refine (x_istore (l2 := [aA l0, aI l1, aL l2, aU, aI (w32 (l1 - 1))]) f77_3 rfl rfl).trans ?_
  exact x_kil f77_5 rfl
set_option maxRecDepth 10000 in
theorem e77_5 (l0 l2 l4 : Int) (s : SG) : sem 77 5 [aA l0, aU, aL l2, aU, aI l4] [] s = if l4 < 0 then some (aU, s) else grd (kd l0 = 5) (if (s l0 1) < 64 then grd (kd l0 = 5) (grd (0 ≤ s l0 0) (grd (kd l0 = 5) (grd (kd (s l0 0) = 101) (grd ((0 : Int) ≤ (s l0 1) ∧ (s l0 1) < kl (s l0 0)) (grd (kd l0 = 5) (grd (kd l0 = 5) (sem 77 5 [aA l0, aU, aL l2, aU, aI (w32 (l4 + (-1)))] [] (up (up s (s l0 0) (s l0 1) (iandA (w32 (lushrA l2 (w32 (8 * l4)))) 255)) l0 1 (w32 (((up s (s l0 0) (s l0 1) (iandA (w32 (lushrA l2 (w32 (8 * l4)))) 255)) l0 1) + 1)))))))))) else some (aU, s)) := by
  refine (x_iload f77_5 rfl rfl).trans ?_
  refine (x_if_lt (tg := 56) f77_7 rfl rfl).trans (i_c ?_ ?_)
  · refine (x_kil (l2 := [aU, aU, aU, aU, aU]) f77_56 rfl).trans ?_
    exact x_return f77_56 rfl
  · refine (x_aload f77_10 rfl rfl).trans ?_
    refine (x_get0 f77_11 rfl rfl).trans ?_
    refine g_c ?_
    refine (x_iconst f77_14 rfl).trans ?_
    refine (x_icmp_ge (tg := 56) f77_16 rfl rfl).trans (i_c ?_ ?_)
    · refine (x_aload f77_19 rfl rfl).trans ?_
      refine (x_get2 f77_20 rfl rfl).trans ?_
      refine g_c ?_
      refine g_c ?_
      refine (x_aload f77_23 rfl rfl).trans ?_
      refine (x_get0 f77_24 rfl rfl).trans ?_
      refine g_c ?_
      refine (x_lload f77_27 rfl rfl).trans ?_
      refine (x_iconst f77_28 rfl).trans ?_
      refine (x_iload f77_30 rfl rfl).trans ?_
      refine (x_imul f77_32 rfl).trans ?_
      refine (x_lushr f77_33 rfl).trans ?_
      refine (x_l2i f77_34 rfl).trans ?_
      refine (x_iconst f77_35 rfl).trans ?_
      refine (x_iand f77_38 rfl).trans ?_
      refine (x_iastore f77_39 rfl).trans ?_
      refine g_c ?_
      refine g_c ?_
      refine (x_aload f77_40 rfl rfl).trans ?_
      refine (x_dup f77_41 rfl rfl).trans ?_
      refine (x_get0 f77_42 rfl rfl).trans ?_
      refine g_c ?_
      refine (x_iconst f77_45 rfl).trans ?_
      refine (x_iadd f77_46 rfl).trans ?_
      refine (x_put0 f77_47 rfl rfl).trans ?_
      refine g_c ?_
      refine (x_iinc (l2 := [aA l0, aU, aL l2, aU, aI (w32 (l4 + (-1)))]) f77_50 rfl rfl rfl).trans ?_
      refine (x_goto (tg := 5) f77_53 rfl rfl).trans ?_
      rfl
    · refine (x_kil (l2 := [aU, aU, aU, aU, aU]) f77_56 rfl).trans ?_
      exact x_return f77_56 rfl
theorem f78_0 : fch 78 0 = some (.aload 0, 1, []) := by decide +kernel
theorem f78_1 : fch 78 1 = some (.invokeinterface 5 1, 4, []) := by decide +kernel
theorem f78_4 : fch 78 4 = some (.istore 1, 5, []) := by decide +kernel
theorem f78_5 : fch 78 5 = some (.aload 0, 6, []) := by decide +kernel
theorem f78_6 : fch 78 6 = some (.iconst 0, 7, []) := by decide +kernel
theorem f78_7 : fch 78 7 = some (.multianewarray 5 1, 10, []) := by decide +kernel
theorem f78_10 : fch 78 10 = some (.iload 1, 11, []) := by decide +kernel
theorem f78_11 : fch 78 11 = some (.ireturn, 12, []) := by decide +kernel
set_option maxRecDepth 10000 in
theorem e78_0 (l0 : Int) (s : SG) : sem 78 0 [aA l0, aU] [] s = grd (kd l0 = 5) (grd (kd l0 = 5) (some (aI (s l0 1), up s l0 1 0))) := by
  refine (x_aload f78_0 rfl rfl).trans ?_
  refine (x_get0 f78_1 rfl rfl).trans ?_
  refine g_c ?_
  refine (x_istore (l2 := [aA l0, aI (s l0 1)]) f78_4 rfl rfl).trans ?_
  refine (x_aload f78_5 rfl rfl).trans ?_
  refine (x_iconst f78_6 rfl).trans ?_
  refine (x_put0 f78_7 rfl rfl).trans ?_
  refine g_c ?_
  refine (x_iload f78_10 rfl rfl).trans ?_
  exact x_ireturn f78_11 rfl
theorem f79_0 : fch 79 0 = some (.iload 1, 1, []) := by decide +kernel
theorem f79_1 : fch 79 1 = some (.ifCond .lt 21, 4, []) := by decide +kernel
theorem f79_4 : fch 79 4 = some (.iload 1, 5, []) := by decide +kernel
theorem f79_5 : fch 79 5 = some (.aload 0, 6, []) := by decide +kernel
theorem f79_6 : fch 79 6 = some (.invokeinterface 5 1, 9, []) := by decide +kernel
theorem f79_9 : fch 79 9 = some (.if_icmp .ge 21, 12, []) := by decide +kernel
theorem f79_12 : fch 79 12 = some (.aload 0, 13, []) := by decide +kernel
theorem f79_13 : fch 79 13 = some (.invokeinterface 5 0, 16, []) := by decide +kernel
theorem f79_16 : fch 79 16 = some (.iload 1, 17, []) := by decide +kernel
theorem f79_17 : fch 79 17 = some (.iaload, 18, []) := by decide +kernel
theorem f79_18 : fch 79 18 = some (.goto 22, 21, []) := by decide +kernel
theorem f79_21 : fch 79 21 = some (.iconst (-1), 22, [0, 1]) := by decide +kernel
theorem f79_22 : fch 79 22 = some (.ireturn, 23, [0, 1]) := by decide +kernel
set_option maxRecDepth 10000 in
theorem e79_0 (l0 l1 : Int) (s : SG) : sem 79 0 [aA l0, aI l1] [] s = if l1 < 0 then some (aI ((-1)), s) else grd (kd l0 = 5) (if l1 < (s l0 1) then grd (kd l0 = 5) (grd (0 ≤ s l0 0) (grd (kd (s l0 0) = 101) (grd ((0 : Int) ≤ l1 ∧ l1 < kl (s l0 0)) (some (aI (s (s l0 0) l1), s))))) else some (aI ((-1)), s)) := by
  refine (x_iload f79_0 rfl rfl).trans ?_
  refine (x_if_lt (tg := 21) f79_1 rfl rfl).trans (i_c ?_ ?_)
  · refine (x_kil (l2 := [aU, aU]) f79_21 rfl).trans ?_
    refine (x_iconst f79_21 rfl).trans ?_
    exact x_ireturn f79_22 rfl
  · refine (x_iload f79_4 rfl rfl).trans ?_
    refine (x_aload f79_5 rfl rfl).trans ?_
    refine (x_get0 f79_6 rfl rfl).trans ?_
    refine g_c ?_
    refine (x_icmp_ge (tg := 21) f79_9 rfl rfl).trans (i_c ?_ ?_)
    · refine (x_aload f79_12 rfl rfl).trans ?_
      refine (x_get2 f79_13 rfl rfl).trans ?_
      refine g_c ?_
      refine g_c ?_
      refine (x_iload f79_16 rfl rfl).trans ?_
      refine (x_iaload f79_17 rfl).trans ?_
      refine g_c ?_
      refine g_c ?_
      refine (x_goto (tg := 22) f79_18 rfl rfl).trans ?_
      refine (x_kil (l2 := [aU, aU]) f79_22 rfl).trans ?_
      exact x_ireturn f79_22 rfl
    · refine (x_kil (l2 := [aU, aU]) f79_21 rfl).trans ?_
      refine (x_iconst f79_21 rfl).trans ?_
      exact x_ireturn f79_22 rfl
theorem f80_0 : fch 80 0 = some (.aload 0, 1, []) := by decide +kernel
theorem f80_1 : fch 80 1 = some (.monitorexit, 4, []) := by decide +kernel
theorem f80_4 : fch 80 4 = some (.aload 0, 5, []) := by decide +kernel
theorem f80_5 : fch 80 5 = some (.iconst 3, 6, []) := by decide +kernel
theorem f80_6 : fch 80 6 = some (.newarray .int, 8, []) := by decide +kernel
theorem f80_8 : fch 80 8 = some (.multianewarray 6 0, 11, []) := by decide +kernel
theorem f80_11 : fch 80 11 = some (.aload 0, 12, []) := by decide +kernel
theorem f80_12 : fch 80 12 = some (.iconst 9, 14, []) := by decide +kernel
theorem f80_14 : fch 80 14 = some (.newarray .int, 16, []) := by decide +kernel
theorem f80_16 : fch 80 16 = some (.multianewarray 6 1, 19, []) := by decide +kernel
theorem f80_19 : fch 80 19 = some (.aload 0, 20, []) := by decide +kernel
theorem f80_20 : fch 80 20 = some (.iconst 9, 22, []) := by decide +kernel
theorem f80_22 : fch 80 22 = some (.newarray .int, 24, []) := by decide +kernel
theorem f80_24 : fch 80 24 = some (.multianewarray 6 2, 27, []) := by decide +kernel
theorem f80_27 : fch 80 27 = some (.aload 0, 28, []) := by decide +kernel
theorem f80_28 : fch 80 28 = some (.iconst 3, 29, []) := by decide +kernel
theorem f80_29 : fch 80 29 = some (.newarray .int, 31, []) := by decide +kernel
theorem f80_31 : fch 80 31 = some (.multianewarray 6 3, 34, []) := by decide +kernel
theorem f80_34 : fch 80 34 = some (.aload 0, 35, []) := by decide +kernel
theorem f80_35 : fch 80 35 = some (.invokevirtual 81, 38, []) := by decide +kernel
theorem f80_38 : fch 80 38 = some (.return_, 39, []) := by decide +kernel
set_option maxRecDepth 10000 in
theorem e80_0 (l0 : Int) (s : SG) : sem 80 0 [aA l0] [] s = grd (kd (s (-1) 0) = akind .int ∧ kl (s (-1) 0) = 3) (grd (kd l0 = 6) (grd (0 ≤ s (-1) 0) (grd (kd ((up (alc s 3 (fun _ => 0)) l0 0 (s (-1) 0)) (-1) 0) = akind .int ∧ kl ((up (alc s 3 (fun _ => 0)) l0 0 (s (-1) 0)) (-1) 0) = 9) (grd (kd l0 = 6) (grd (0 ≤ (up (alc s 3 (fun _ => 0)) l0 0 (s (-1) 0)) (-1) 0) (grd (kd ((up (alc (up (alc s 3 (fun _ => 0)) l0 0 (s (-1) 0)) 9 (fun _ => 0)) l0 1 ((up (alc s 3 (fun _ => 0)) l0 0 (s (-1) 0)) (-1) 0)) (-1) 0) = akind .int ∧ kl ((up (alc (up (alc s 3 (fun _ => 0)) l0 0 (s (-1) 0)) 9 (fun _ => 0)) l0 1 ((up (alc s 3 (fun _ => 0)) l0 0 (s (-1) 0)) (-1) 0)) (-1) 0) = 9) (grd (kd l0 = 6) (grd (0 ≤ (up (alc (up (alc s 3 (fun _ => 0)) l0 0 (s (-1) 0)) 9 (fun _ => 0)) l0 1 ((up (alc s 3 (fun _ => 0)) l0 0 (s (-1) 0)) (-1) 0)) (-1) 0) (sem 80 27 [aA l0] [] (up (alc (up (alc (up (alc s 3 (fun _ => 0)) l0 0 (s (-1) 0)) 9 (fun _ => 0)) l0 1 ((up (alc s 3 (fun _ => 0)) l0 0 (s (-1) 0)) (-1) 0)) 9 (fun _ => 0)) l0 2 ((up (alc (up (alc s 3 (fun _ => 0)) l0 0 (s (-1) 0)) 9 (fun _ => 0)) l0 1 ((up (alc s 3 (fun _ => 0)) l0 0 (s (-1) 0)) (-1) 0)) (-1) 0))))))))))) := by
  refine (x_aload f80_0 rfl rfl).trans ?_
  refine (x_monitorexit f80_1 rfl rfl).trans ?_
  refine (x_aload f80_4 rfl rfl).trans ?_
  refine (x_iconst f80_5 rfl).trans ?_
  refine (x_newarray f80_6 rfl).trans ?_
  refine g_c ?_
  refine (x_put2 f80_8 rfl rfl).trans ?_
  refine g_c ?_
  refine g_c ?_
  refine (x_aload f80_11 rfl rfl).trans ?_
  refine (x_iconst f80_12 rfl).trans ?_
  refine (x_newarray f80_14 rfl).trans ?_
  refine g_c ?_
  refine (x_put2 f80_16 rfl rfl).trans ?_
  refine g_c ?_
  refine g_c ?_
  refine (x_aload f80_19 rfl rfl).trans ?_
  refine (x_iconst f80_20 rfl).trans ?_
  refine (x_newarray f80_22 rfl).trans ?_
  refine g_c ?_
  refine (x_put2 f80_24 rfl rfl).trans ?_
  refine g_c ?_
  refine g_c ?_
  rfl
set_option maxRecDepth 10000 in
theorem e80_27 (l0 : Int) (s : SG) : sem 80 27 [aA l0] [] s = grd (kd (s (-1) 0) = akind .int ∧ kl (s (-1) 0) = 3) (grd (kd l0 = 6) (grd (0 ≤ s (-1) 0) (grd (kd l0 = 6) (bnV (sem 81 0 [aA l0] [] (up (alc s 3 (fun _ => 0)) l0 3 (s (-1) 0))) fun s1 => some (aU, s1))))) := by
  refine (x_aload f80_27 rfl rfl).trans ?_
  refine (x_iconst f80_28 rfl).trans ?_
  refine (x_newarray f80_29 rfl).trans ?_
  refine g_c ?_
  refine (x_put2 f80_31 rfl rfl).trans ?_
  refine g_c ?_
  refine g_c ?_
  refine (x_aload f80_34 rfl rfl).trans ?_
  refine (x_invokevirtual (G := grd (kd l0 = 6) (bnV (sem 81 0 [aA l0] [] (up (alc s 3 (fun _ => 0)) l0 3 (s (-1) 0))) fun s1 => sem 80 38 [aA l0] [] s1)) f80_35 rfl rfl).trans ?_
  refine g_c ?_
  refine bV_c fun s1 => ?_
  exact x_return f80_38 rfl
theorem f81_0 : fch 81 0 = some (.aload 0, 1, []) := by decide +kernel
theorem f81_1 : fch 81 1 = some (.iconst 1, 2, []) := by decide +kernel
theorem f81_2 : fch 81 2 = some (.multianewarray 6 4, 5, []) := by decide +kernel
theorem f81_5 : fch 81 5 = some (.aload 0, 6, []) := by decide +kernel
theorem f81_6 : fch 81 6 = some (.iconst 10, 8, []) := by decide +kernel
theorem f81_8 : fch 81 8 = some (.multianewarray 6 5, 11, []) := by decide +kernel
theorem f81_11 : fch 81 11 = some (.aload 0, 12, []) := by decide +kernel
theorem f81_12 : fch 81 12 = some (.iconst 20, 14, []) := by decide +kernel
theorem f81_14 : fch 81 14 = some (.multianewarray 6 6, 17, []) := by decide +kernel
theorem f81_17 : fch 81 17 = some (.aload 0, 18, []) := by decide +kernel
theorem f81_18 : fch 81 18 = some (.iconst 5, 19, []) := by decide +kernel
theorem f81_19 : fch 81 19 = some (.multianewarray 6 7, 22, []) := by decide +kernel
theorem f81_22 : fch 81 22 = some (.aload 0, 23, []) := by decide +kernel
theorem f81_23 : fch 81 23 = some (.invokeinterface 6 0, 26, []) := by decide +kernel
theorem f81_26 : fch 81 26 = some (.iconst 1, 27, []) := by decide +kernel
theorem f81_27 : fch 81 27 = some (.invokestatic 222, 30, []) := by decide +kernel
theorem f81_30 : fch 81 30 = some (.aload 0, 31, []) := by decide +kernel
theorem f81_31 : fch 81 31 = some (.invokeinterface 6 1, 34, []) := by decide +kernel
theorem f81_34 : fch 81 34 = some (.iconst 1, 35, []) := by decide +kernel
theorem f81_35 : fch 81 35 = some (.invokestatic 222, 38, []) := by decide +kernel
theorem f81_38 : fch 81 38 = some (.aload 0, 39, []) := by decide +kernel
theorem f81_39 : fch 81 39 = some (.invokeinterface 6 2, 42, []) := by decide +kernel
theorem f81_42 : fch 81 42 = some (.iconst 5, 43, []) := by decide +kernel
theorem f81_43 : fch 81 43 = some (.invokestatic 222, 46, []) := by decide +kernel
theorem f81_46 : fch 81 46 = some (.aload 0, 47, []) := by decide +kernel
theorem f81_47 : fch 81 47 = some (.invokeinterface 6 3, 50, []) := by decide +kernel
theorem f81_50 : fch 81 50 = some (.iconst (-9), 52, []) := by decide +kernel
theorem f81_52 : fch 81 52 = some (.invokestatic 222, 55, []) := by decide +kernel
theorem f81_55 : fch 81 55 = some (.return_, 56, []) := by decide +kernel
set_option maxRecDepth 10000 in
theorem e81_0 (l0 : Int) (s : SG) : sem 81 0 [aA l0] [] s = grd (kd l0 = 6) (grd (kd l0 = 6) (grd (kd l0 = 6) (grd (kd l0 = 6) (grd (kd l0 = 6) (grd (0 ≤ (up (up (up (up s l0 4 1) l0 5 10) l0 6 20) l0 7 5) l0 0) (bnV (sem 222 0 [aA ((up (up (up (up s l0 4 1) l0 5 10) l0 6 20) l0 7 5) l0 0), aI 1, aU, aU] [] (up (up (up (up s l0 4 1) l0 5 10) l0 6 20) l0 7 5)) fun s1 => grd (kd l0 = 6) (grd (0 ≤ s1 l0 1) (bnV (sem 222 0 [aA (s1 l0 1), aI 1, aU, aU] [] s1) fun s2 => grd (kd l0 = 6) (grd (0 ≤ s2 l0 2) (bnV (sem 222 0 [aA (s2 l0 2), aI 5, aU, aU] [] s2) fun s3 => grd (kd l0 = 6) (grd (0 ≤ s3 l0 3) (bnV (sem 222 0 [aA (s3 l0 3), aI ((-9)), aU, aU] [] s3) fun s4 => some (aU, s4))))))))))))) := by
  refine (x_aload f81_0 rfl rfl).trans ?_
  refine (x_iconst f81_1 rfl).trans ?_
  refine (x_put0 f81_2 rfl rfl).trans ?_
  refine g_c ?_
  refine (x_aload f81_5 rfl rfl).trans ?_
  refine (x_iconst f81_6 rfl).trans ?_
  refine (x_put0 f81_8 rfl rfl).trans ?_
  refine g_c ?_
  refine (x_aload f81_11 rfl rfl).trans ?_
  refine (x_iconst f81_12 rfl).trans ?_
  refine (x_put0 f81_14 rfl rfl).trans ?_
  refine g_c ?_
  refine (x_aload f81_17 rfl rfl).trans ?_
  refine (x_iconst f81_18 rfl).trans ?_
  refine (x_put0 f81_19 rfl rfl).trans ?_
  refine g_c ?_
  refine (x_aload f81_22 rfl rfl).trans ?_
  refine (x_get2 f81_23 rfl rfl).trans ?_
  refine g_c ?_
  refine g_c ?_
  refine (x_iconst f81_26 rfl).trans ?_
  refine (x_invokestatic (G := bnV (sem 222 0 [aA ((up (up (up (up s l0 4 1) l0 5 10) l0 6 20) l0 7 5) l0 0), aI 1, aU, aU] [] (up (up (up (up s l0 4 1) l0 5 10) l0 6 20) l0 7 5)) fun s1 => sem 81 30 [aA l0] [] s1) f81_27 rfl rfl).trans ?_
  refine bV_c fun s1 => ?_
  refine (x_aload f81_30 rfl rfl).trans ?_
  refine (x_get2 f81_31 rfl rfl).trans ?_
  refine g_c ?_
  refine g_c ?_
  refine (x_iconst f81_34 rfl).trans ?_
  refine (x_invokestatic (G := bnV (sem 222 0 [aA (s1 l0 1), aI 1, aU, aU] [] s1) fun s2 => sem 81 38 [aA l0] [] s2) f81_35 rfl rfl).trans ?_
  refine bV_c fun s2 => ?_
  refine (x_aload f81_38 rfl rfl).trans ?_
  refine (x_get2 f81_39 rfl rfl).trans ?_
  refine g_c ?_
  refine g_c ?_
  refine (x_iconst f81_42 rfl).trans ?_
  refine (x_invokestatic (G := bnV (sem 222 0 [aA (s2 l0 2), aI 5, aU, aU] [] s2) fun s3 => sem 81 46 [aA l0] [] s3) f81_43 rfl rfl).trans ?_
  refine bV_c fun s3 => ?_
  refine (x_aload f81_46 rfl rfl).trans ?_
  refine (x_get2 f81_47 rfl rfl).trans ?_
  refine g_c ?_
  refine g_c ?_
  refine (x_iconst f81_50 rfl).trans ?_
  refine (x_invokestatic (G := bnV (sem 222 0 [aA (s3 l0 3), aI ((-9)), aU, aU] [] s3) fun s4 => sem 81 55 [aA l0] [] s4) f81_52 rfl rfl).trans ?_
  refine bV_c fun s4 => ?_
  exact x_return f81_55 rfl
theorem f82_0 : fch 82 0 = some (.iload 1, 1, []) := by decide +kernel
theorem f82_1 : fch 82 1 = some (.ifCond .lt 21, 4, []) := by decide +kernel
theorem f82_4 : fch 82 4 = some (.iload 1, 5, []) := by decide +kernel
theorem f82_5 : fch 82 5 = some (.aload 0, 6, []) := by decide +kernel
theorem f82_6 : fch 82 6 = some (.invokeinterface 6 4, 9, []) := by decide +kernel
theorem f82_9 : fch 82 9 = some (.if_icmp .ge 21, 12, []) := by decide +kernel
theorem f82_12 : fch 82 12 = some (.iload 1, 13, []) := by decide +kernel
theorem f82_13 : fch 82 13 = some (.iconst 3, 14, []) := by decide +kernel
theorem f82_14 : fch 82 14 = some (.if_icmp .ge 21, 17, []) := by decide +kernel
theorem f82_17 : fch 82 17 = some (.iconst 1, 18, []) := by decide +kernel
theorem f82_18 : fch 82 18 = some (.goto 22, 21, []) := by decide +kernel
theorem f82_21 : fch 82 21 = some (.iconst 0, 22, [0, 1]) := by decide +kernel
theorem f82_22 : fch 82 22 = some (.ireturn, 23, [0, 1]) := by decide +kernel
set_option maxRecDepth 10000 in
theorem e82_0 (l0 l1 : Int) (s : SG) : sem 82 0 [aA l0, aI l1] [] s = if l1 < 0 then some (aI 0, s) else grd (kd l0 = 6) (if l1 < (s l0 4) then if l1 < 3 then some (aI 1, s) else some (aI 0, s) else some (aI 0, s)) := by
  refine (x_iload f82_0 rfl rfl).trans ?_
  refine (x_if_lt (tg := 21) f82_1 rfl rfl).trans (i_c ?_ ?_)
  · refine (x_kil (l2 := [aU, aU]) f82_21 rfl).trans ?_
    refine (x_iconst f82_21 rfl).trans ?_
    exact x_zreturn0 f82_22 rfl
  · refine (x_iload f82_4 rfl rfl).trans ?_
    refine (x_aload f82_5 rfl rfl).trans ?_
    refine (x_get0 f82_6 rfl rfl).trans ?_
    refine g_c ?_
    refine (x_icmp_ge (tg := 21) f82_9 rfl rfl).trans (i_c ?_ ?_)
    · refine (x_iload f82_12 rfl rfl).trans ?_
      refine (x_iconst f82_13 rfl).trans ?_
      refine (x_icmp_ge (tg := 21) f82_14 rfl rfl).trans (i_c ?_ ?_)
      · refine (x_iconst f82_17 rfl).trans ?_
        refine (x_goto (tg := 22) f82_18 rfl rfl).trans ?_
        refine (x_kil (l2 := [aU, aU]) f82_22 rfl).trans ?_
        exact x_zreturn1 f82_22 rfl
      · refine (x_kil (l2 := [aU, aU]) f82_21 rfl).trans ?_
        refine (x_iconst f82_21 rfl).trans ?_
        exact x_zreturn0 f82_22 rfl
    · refine (x_kil (l2 := [aU, aU]) f82_21 rfl).trans ?_
      refine (x_iconst f82_21 rfl).trans ?_
      exact x_zreturn0 f82_22 rfl
theorem f83_0 : fch 83 0 = some (.iload 1, 1, []) := by decide +kernel
theorem f83_1 : fch 83 1 = some (.invokestatic 140, 4, []) := by decide +kernel
theorem f83_4 : fch 83 4 = some (.ifCond .eq 16, 7, []) := by decide +kernel
theorem f83_7 : fch 83 7 = some (.aload 0, 8, []) := by decide +kernel
theorem f83_8 : fch 83 8 = some (.invokeinterface 6 0, 11, []) := by decide +kernel
theorem f83_11 : fch 83 11 = some (.iload 1, 12, []) := by decide +kernel
theorem f83_12 : fch 83 12 = some (.iaload, 13, []) := by decide +kernel
theorem f83_13 : fch 83 13 = some (.goto 17, 16, []) := by decide +kernel
theorem f83_16 : fch 83 16 = some (.iconst 0, 17, []) := by decide +kernel
theorem f83_17 : fch 83 17 = some (.ireturn, 18, [0, 1]) := by decide +kernel
set_option maxRecDepth 10000 in
theorem e83_0 (l0 l1 : Int) (s : SG) : sem 83 0 [aA l0, aI l1] [] s = bnI (sem 140 0 [aI l1] [] s) fun a2 s1 => if a2 = 0 then some (aI 0, s1) else grd (kd l0 = 6) (grd (0 ≤ s1 l0 0) (grd (kd (s1 l0 0) = 101) (grd ((0 : Int) ≤ l1 ∧ l1 < kl (s1 l0 0)) (some (aI (s1 (s1 l0 0) l1), s1))))) := by
  refine (x_iload f83_0 rfl rfl).trans ?_
  refine (x_invokestatic (G := bnI (sem 140 0 [aI l1] [] s) fun a2 s1 => sem 83 4 [aA l0, aI l1] [aI a2] s1) f83_1 rfl rfl).trans ?_
  refine bI_c fun a2 s1 => ?_
  refine (x_if_eq (tg := 16) f83_4 rfl rfl).trans (i_c ?_ ?_)
  · refine (x_iconst f83_16 rfl).trans ?_
    refine (x_kil (l2 := [aU, aU]) f83_17 rfl).trans ?_
    exact x_ireturn f83_17 rfl
  · refine (x_aload f83_7 rfl rfl).trans ?_
    refine (x_get2 f83_8 rfl rfl).trans ?_
    refine g_c ?_
    refine g_c ?_
    refine (x_iload f83_11 rfl rfl).trans ?_
    refine (x_iaload f83_12 rfl).trans ?_
    refine g_c ?_
    refine g_c ?_
    refine (x_goto (tg := 17) f83_13 rfl rfl).trans ?_
    refine (x_kil (l2 := [aU, aU]) f83_17 rfl).trans ?_
    exact x_ireturn f83_17 rfl
theorem f84_0 : fch 84 0 = some (.iload 1, 1, []) := by decide +kernel
theorem f84_1 : fch 84 1 = some (.iconst 3, 2, []) := by decide +kernel
theorem f84_2 : fch 84 2 = some (.imul, 3, []) := by decide +kernel
theorem f84_3 : fch 84 3 = some (.iload 2, 4, []) := by decide +kernel
theorem f84_4 : fch 84 4 = some (.iadd, 5, []) := by decide +kernel
theorem f84_5 : fch 84 5 = some (.istore 3, 6, []) := by decide +kernel
theorem f84_6 : fch 84 6 = some (.iload 3, 7, []) := by decide +kernel
theorem f84_7 : fch 84 7 = some (.ifCond .lt 28, 10, []) := by decide +kernel
theorem f84_10 : fch 84 10 = some (.iload 3, 11, []) := by decide +kernel
theorem f84_11 : fch 84 11 = some (.aload 0, 12, []) := by decide +kernel
theorem f84_12 : fch 84 12 = some (.invokeinterface 6 1, 15, []) := by decide +kernel
theorem f84_15 : fch 84 15 = some (.arraylength, 16, []) := by decide +kernel
theorem f84_16 : fch 84 16 = some (.if_icmp .ge 28, 19, []) := by decide +kernel
theorem f84_19 : fch 84 19 = some (.aload 0, 20, []) := by decide +kernel
theorem f84_20 : fch 84 20 = some (.invokeinterface 6 1, 23, []) := by decide +kernel
theorem f84_23 : fch 84 23 = some (.iload 3, 24, []) := by decide +kernel
theorem f84_24 : fch 84 24 = some (.iaload, 25, []) := by decide +kernel
theorem f84_25 : fch 84 25 = some (.goto 29, 28, []) := by decide +kernel
theorem f84_28 : fch 84 28 = some (.iconst 0, 29, [0, 1, 2, 3]) := by decide +kernel
theorem f84_29 : fch 84 29 = some (.ireturn, 30, [0, 1, 2, 3]) := by decide +kernel
set_option maxRecDepth 10000 in
theorem e84_0 (l0 l1 l2 : Int) (s : SG) : sem 84 0 [aA l0, aI l1, aI l2, aU] [] s = if (w32 ((w32 (l1 * 3)) + l2)) < 0 then some (aI 0, s) else grd (kd l0 = 6) (grd (0 ≤ s l0 1) (grd (100 < kd (s l0 1)) (if (w32 ((w32 (l1 * 3)) + l2)) < (kl (s l0 1)) then grd (kd l0 = 6) (grd (0 ≤ s l0 1) (grd (kd (s l0 1) = 101) (grd ((0 : Int) ≤ (w32 ((w32 (l1 * 3)) + l2)) ∧ (w32 ((w32 (l1 * 3)) + l2)) < kl (s l0 1)) (some (aI (s (s l0 1) (w32 ((w32 (l1 * 3)) + l2))), s))))) else some (aI 0, s)))) := by
  refine (x_iload f84_0 rfl rfl).trans ?_
  refine (x_iconst f84_1 rfl).trans ?_
  refine (x_imul f84_2 rfl).trans ?_
  refine (x_iload f84_3 rfl rfl).trans ?_
  refine (x_iadd f84_4 rfl).trans ?_
  refine (x_istore (l2 := [aA l0, aI l1, aI l2, aI (w32 ((w32 (l1 * 3)) + l2))]) f84_5 rfl rfl).trans ?_
  refine (x_iload f84_6 rfl rfl).trans ?_
  refine (x_if_lt (tg := 28) f84_7 rfl rfl).trans (i_c ?_ ?_)
  · refine (x_kil (l2 := [aU, aU, aU, aU]) f84_28 rfl).trans ?_
    refine (x_iconst f84_28 rfl).trans ?_
    exact x_ireturn f84_29 rfl
  · refine (x_iload f84_10 rfl rfl).trans ?_
    refine (x_aload f84_11 rfl rfl).trans ?_
    refine (x_get2 f84_12 rfl rfl).trans ?_
    refine g_c ?_
    refine g_c ?_
    refine (x_arraylength f84_15 rfl).trans ?_
    refine g_c ?_
    refine (x_icmp_ge (tg := 28) f84_16 rfl rfl).trans (i_c ?_ ?_)
    · refine (x_aload f84_19 rfl rfl).trans ?_
      refine (x_get2 f84_20 rfl rfl).trans ?_
      refine g_c ?_
      refine g_c ?_
      refine (x_iload f84_23 rfl rfl).trans ?_
      refine (x_iaload f84_24 rfl).trans ?_
      refine g_c ?_
      refine g_c ?_
      refine (x_goto (tg := 29) f84_25 rfl rfl).trans ?_
      refine (x_kil (l2 := [aU, aU, aU, aU]) f84_29 rfl).trans ?_
      exact x_ireturn f84_29 rfl
    · refine (x_kil (l2 := [aU, aU, aU, aU]) f84_28 rfl).trans ?_
      refine (x_iconst f84_28 rfl).trans ?_
      exact x_ireturn f84_29 rfl
theorem f85_0 : fch 85 0 = some (.iload 1, 1, []) := by decide +kernel
theorem f85_1 : fch 85 1 = some (.iconst 3, 2, []) := by decide +kernel
theorem f85_2 : fch 85 2 = some (.imul, 3, []) := by decide +kernel
theorem f85_3 : fch 85 3 = some (.iload 2, 4, []) := by decide +kernel
theorem f85_4 : fch 85 4 = some (.iadd, 5, []) := by decide +kernel
theorem f85_5 : fch 85 5 = some (.istore 3, 6, []) := by decide +kernel
theorem f85_6 : fch 85 6 = some (.iload 3, 7, []) := by decide +kernel
theorem f85_7 : fch 85 7 = some (.ifCond .lt 28, 10, []) := by decide +kernel
theorem f85_10 : fch 85 10 = some (.iload 3, 11, []) := by decide +kernel
theorem f85_11 : fch 85 11 = some (.aload 0, 12, []) := by decide +kernel
theorem f85_12 : fch 85 12 = some (.invokeinterface 6 2, 15, []) := by decide +kernel
theorem f85_15 : fch 85 15 = some (.arraylength, 16, []) := by decide +kernel
theorem f85_16 : fch 85 16 = some (.if_icmp .ge 28, 19, []) := by decide +kernel
theorem f85_19 : fch 85 19 = some (.aload 0, 20, []) := by decide +kernel
theorem f85_20 : fch 85 20 = some (.invokeinterface 6 2, 23, []) := by decide +kernel
theorem f85_23 : fch 85 23 = some (.iload 3, 24, []) := by decide +kernel
theorem f85_24 : fch 85 24 = some (.iaload, 25, []) := by decide +kernel
theorem f85_25 : fch 85 25 = some (.goto 29, 28, []) := by decide +kernel
theorem f85_28 : fch 85 28 = some (.iconst 0, 29, [0, 1, 2, 3]) := by decide +kernel
theorem f85_29 : fch 85 29 = some (.ireturn, 30, [0, 1, 2, 3]) := by decide +kernel
set_option maxRecDepth 10000 in
theorem e85_0 (l0 l1 l2 : Int) (s : SG) : sem 85 0 [aA l0, aI l1, aI l2, aU] [] s = if (w32 ((w32 (l1 * 3)) + l2)) < 0 then some (aI 0, s) else grd (kd l0 = 6) (grd (0 ≤ s l0 2) (grd (100 < kd (s l0 2)) (if (w32 ((w32 (l1 * 3)) + l2)) < (kl (s l0 2)) then grd (kd l0 = 6) (grd (0 ≤ s l0 2) (grd (kd (s l0 2) = 101) (grd ((0 : Int) ≤ (w32 ((w32 (l1 * 3)) + l2)) ∧ (w32 ((w32 (l1 * 3)) + l2)) < kl (s l0 2)) (some (aI (s (s l0 2) (w32 ((w32 (l1 * 3)) + l2))), s))))) else some (aI 0, s)))) := by
  refine (x_iload f85_0 rfl rfl).trans ?_
  refine (x_iconst f85_1 rfl).trans ?_
  refine (x_imul f85_2 rfl).trans ?_
  refine (x_iload f85_3 rfl rfl).trans ?_
  refine (x_iadd f85_4 rfl).trans ?_
  refine (x_istore (l2 := [aA l0, aI l1, aI l2, aI (w32 ((w32 (l1 * 3)) + l2))]) f85_5 rfl rfl).trans ?_
  refine (x_iload f85_6 rfl rfl).trans ?_
  refine (x_if_lt (tg := 28) f85_7 rfl rfl).trans (i_c ?_ ?_)
  · refine (x_kil (l2 := [aU, aU, aU, aU]) f85_28 rfl).trans ?_
    refine (x_iconst f85_28 rfl).trans ?_
    exact x_ireturn f85_29 rfl
  · refine (x_iload f85_10 rfl rfl).trans ?_
    refine (x_aload f85_11 rfl rfl).trans ?_
    refine (x_get2 f85_12 rfl rfl).trans ?_
    refine g_c ?_
    refine g_c ?_
    refine (x_arraylength f85_15 rfl).trans ?_
    refine g_c ?_
    refine (x_icmp_ge (tg := 28) f85_16 rfl rfl).trans (i_c ?_ ?_)
    · refine (x_aload f85_19 rfl rfl).trans ?_
      refine (x_get2 f85_20 rfl rfl).trans ?_
      refine g_c ?_
      refine g_c ?_
      refine (x_iload f85_23 rfl rfl).trans ?_
      refine (x_iaload f85_24 rfl).trans ?_
      refine g_c ?_
      refine g_c ?_
      refine (x_goto (tg := 29) f85_25 rfl rfl).trans ?_
      refine (x_kil (l2 := [aU, aU, aU, aU]) f85_29 rfl).trans ?_
      exact x_ireturn f85_29 rfl
    · refine (x_kil (l2 := [aU, aU, aU, aU]) f85_28 rfl).trans ?_
      refine (x_iconst f85_28 rfl).trans ?_
      exact x_ireturn f85_29 rfl
theorem f86_0 : fch 86 0 = some (.aload 0, 1, []) := by decide +kernel
theorem f86_1 : fch 86 1 = some (.iload 1, 2, []) := by decide +kernel
theorem f86_2 : fch 86 2 = some (.invokevirtual 82, 5, []) := by decide +kernel
theorem f86_5 : fch 86 5 = some (.ifCond .eq 17, 8, []) := by decide +kernel
theorem f86_8 : fch 86 8 = some (.aload 0, 9, []) := by decide +kernel
theorem f86_9 : fch 86 9 = some (.invokeinterface 6 3, 12, []) := by decide +kernel
theorem f86_12 : fch 86 12 = some (.iload 1, 13, []) := by decide +kernel
theorem f86_13 : fch 86 13 = some (.iaload, 14, []) := by decide +kernel
theorem f86_14 : fch 86 14 = some (.goto 19, 17, []) := by decide +kernel
theorem f86_17 : fch 86 17 = some (.iconst (-9), 19, []) := by decide +kernel
theorem f86_19 : fch 86 19 = some (.ireturn, 20, [0, 1]) := by decide +kernel
set_option maxRecDepth 10000 in
theorem e86_0 (l0 l1 : Int) (s : SG) : sem 86 0 [aA l0, aI l1] [] s = grd (kd l0 = 6) (bnI (sem 82 0 [aA l0, aI l1] [] s) fun a2 s1 => if a2 = 0 then some (aI ((-9)), s1) else grd (kd l0 = 6) (grd (0 ≤ s1 l0 3) (grd (kd (s1 l0 3) = 101) (grd ((0 : Int) ≤ l1 ∧ l1 < kl (s1 l0 3)) (some (aI (s1 (s1 l0 3) l1), s1)))))) := by
  refine (x_aload f86_0 rfl rfl).trans ?_
  refine (x_iload f86_1 rfl rfl).trans ?_
  refine (x_invokevirtual (G := grd (kd l0 = 6) (bnI (sem 82 0 [aA l0, aI l1] [] s) fun a2 s1 => sem 86 5 [aA l0, aI l1] [aI a2] s1)) f86_2 rfl rfl).trans ?_
  refine g_c ?_
  refine bI_c fun a2 s1 => ?_
  refine (x_if_eq (tg := 17) f86_5 rfl rfl).trans (i_c ?_ ?_)
  · refine (x_iconst f86_17 rfl).trans ?_
    refine (x_kil (l2 := [aU, aU]) f86_19 rfl).trans ?_
    exact x_ireturn f86_19 rfl
  · refine (x_aload f86_8 rfl rfl).trans ?_
    refine (x_get2 f86_9 rfl rfl).trans ?_
    refine g_c ?_
    refine g_c ?_
    refine (x_iload f86_12 rfl rfl).trans ?_
    refine (x_iaload f86_13 rfl).trans ?_
    refine g_c ?_
    refine g_c ?_
    refine (x_goto (tg := 19) f86_14 rfl rfl).trans ?_
    refine (x_kil (l2 := [aU, aU]) f86_19 rfl).trans ?_
    exact x_ireturn f86_19 rfl
theorem f87_0 : fch 87 0 = some (.iload 1, 1, []) := by decide +kernel
theorem f87_1 : fch 87 1 = some (.invokestatic 140, 4, []) := by decide +kernel
theorem f87_4 : fch 87 4 = some (.ifCond .eq 14, 7, []) := by decide +kernel
theorem f87_7 : fch 87 7 = some (.aload 0, 8, []) := by decide +kernel
theorem f87_8 : fch 87 8 = some (.invokeinterface 6 0, 11, []) := by decide +kernel
theorem f87_11 : fch 87 11 = some (.iload 1, 12, []) := by decide +kernel
theorem f87_12 : fch 87 12 = some (.iload 2, 13, []) := by decide +kernel
theorem f87_13 : fch 87 13 = some (.iastore, 14, []) := by decide +kernel
theorem f87_14 : fch 87 14 = some (.return_, 15, [0, 1, 2]) := by decide +kernel
set_option maxRecDepth 10000 in
theorem e87_0 (l0 l1 l2 : Int) (s : SG) : sem 87 0 [aA l0, aI l1, aI l2] [] s = bnI (sem 140 0 [aI l1] [] s) fun a2 s1 => if a2 = 0 then some (aU, s1) else grd (kd l0 = 6) (grd (0 ≤ s1 l0 0) (grd (kd (s1 l0 0) = 101) (grd ((0 : Int) ≤ l1 ∧ l1 < kl (s1 l0 0)) (some (aU, up s1 (s1 l0 0) l1 l2))))) := by
  refine (x_iload f87_0 rfl rfl).trans ?_
  refine (x_invokestatic (G := bnI (sem 140 0 [aI l1] [] s) fun a2 s1 => sem 87 4 [aA l0, aI l1, aI l2] [aI a2] s1) f87_1 rfl rfl).trans ?_
  refine bI_c fun a2 s1 => ?_
  refine (x_if_eq (tg := 14) f87_4 rfl rfl).trans (i_c ?_ ?_)
  · refine (x_kil (l2 := [aU, aU, aU]) f87_14 rfl).trans ?_
    exact x_return f87_14 rfl
  · refine (x_aload f87_7 rfl rfl).trans ?_
    refine (x_get2 f87_8 rfl rfl).trans ?_
    refine g_c ?_
    refine g_c ?_
    refine (x_iload f87_11 rfl rfl).trans ?_
    refine (x_iload f87_12 rfl rfl).trans ?_
    refine (x_iastore f87_13 rfl).trans ?_
    refine g_c ?_
    refine g_c ?_
    refine (x_kil (l2 := [aU, aU, aU]) f87_14 rfl).trans ?_
    exact x_return f87_14 rfl
theorem f88_0 : fch 88 0 = some (.iload 1, 1, []) := by decide +kernel
theorem f88_1 : fch 88 1 = some (.iconst 3, 2, []) := by decide +kernel
theorem f88_2 : fch 88 2 = some (.imul, 3, []) := by decide +kernel
theorem f88_3 : fch 88 3 = some (.iload 2, 4, []) := by decide +kernel
theorem f88_4 : fch 88 4 = some (.iadd, 5, []) := by decide +kernel
theorem f88_5 : fch 88 5 = some (.istore 5, 7, []) := by decide +kernel
theorem f88_7 : fch 88 7 = some (.iload 5, 9, []) := by decide +kernel
theorem f88_9 : fch 88 9 = some (.ifCond .lt 49, 12, []) := by decide +kernel
theorem f88_12 : fch 88 12 = some (.iload 5, 14, []) := by decide +kernel
theorem f88_14 : fch 88 14 = some (.aload 0, 15, []) := by decide +kernel
theorem f88_15 : fch 88 15 = some (.invokeinterface 6 1, 18, []) := by decide +kernel
theorem f88_18 : fch 88 18 = some (.arraylength, 19, []) := by decide +kernel
theorem f88_19 : fch 88 19 = some (.if_icmp .ge 49, 22, []) := by decide +kernel
theorem f88_22 : fch 88 22 = some (.iload 5, 24, []) := by decide +kernel
theorem f88_24 : fch 88 24 = some (.aload 0, 25, []) := by decide +kernel
theorem f88_25 : fch 88 25 = some (.invokeinterface 6 2, 28, []) := by decide +kernel
theorem f88_28 : fch 88 28 = some (.arraylength, 29, []) := by decide +kernel
theorem f88_29 : fch 88 29 = some (.if_icmp .ge 49, 32, []) := by decide +kernel
theorem f88_32 : fch 88 32 = some (.aload 0, 33, []) := by decide +kernel
theorem f88_33 : fch 88 33 = some (.invokeinterface 6 1, 36, []) := by decide +kernel
theorem f88_36 : fch 88 36 = some (.iload 5, 38, []) := by decide +kernel
theorem f88_38 : fch 88 38 = some (.iload 3, 39, []) := by decide +kernel
theorem f88_39 : fch 88 39 = some (.iastore, 40, []) := by decide +kernel
theorem f88_40 : fch 88 40 = some (.aload 0, 41, []) := by decide +kernel
theorem f88_41 : fch 88 41 = some (.invokeinterface 6 2, 44, []) := by decide +kernel
theorem f88_44 : fch 88 44 = some (.iload 5, 46, []) := by decide +kernel
theorem f88_46 : fch 88 46 = some (.iload 4, 48, []) := by decide +kernel
theorem f88_48 : fch 88 48 = some (.iastore, 49, []) := by decide +kernel
theorem f88_49 : fch 88 49 = some (.return_, 50, [0, 1, 2, 3, 4, 5]) := by decide +kernel
set_option maxRecDepth 10000 in
theorem e88_0 (l0 l1 l2 l3 l4 : Int) (s : SG) : sem 88 0 [aA l0, aI l1, aI l2, aI l3, aI l4, aU] [] s = if (w32 ((w32 (l1 * 3)) + l2)) < 0 then some (aU, s) else grd (kd l0 = 6) (grd (0 ≤ s l0 1) (grd (100 < kd (s l0 1)) (if (w32 ((w32 (l1 * 3)) + l2)) < (kl (s l0 1)) then grd (kd l0 = 6) (grd (0 ≤ s l0 2) (grd (100 < kd (s l0 2)) (if (w32 ((w32 (l1 * 3)) + l2)) < (kl (s l0 2)) then grd (kd l0 = 6) (grd (0 ≤ s l0 1) (grd (kd (s l0 1) = 101) (grd ((0 : Int) ≤ (w32 ((w32 (l1 * 3)) + l2)) ∧ (w32 ((w32 (l1 * 3)) + l2)) < kl (s l0 1)) (grd (kd l0 = 6) (grd (0 ≤ (up s (s l0 1) (w32 ((w32 (l1 * 3)) + l2)) l3) l0 2) (grd (kd ((up s (s l0 1) (w32 ((w32 (l1 * 3)) + l2)) l3) l0 2) = 101) (grd ((0 : Int) ≤ (w32 ((w32 (l1 * 3)) + l2)) ∧ (w32 ((w32 (l1 * 3)) + l2)) < kl ((up s (s l0 1) (w32 ((w32 (l1 * 3)) + l2)) l3) l0 2)) (some (aU, up (up s (s l0 1) (w32 ((w32 (l1 * 3)) + l2)) l3) ((up s (s l0 1) (w32 ((w32 (l1 * 3)) + l2)) l3) l0 2) (w32 ((w32 (l1 * 3)) + l2)) l4))))))))) else some (aU, s)))) else some (aU, s)))) := by
  refine (x_iload f88_0 rfl rfl).trans ?_
  refine (x_iconst f88_1 rfl).trans ?_
  refine (x_imul f88_2 rfl).trans ?_
  refine (x_iload f88_3 rfl rfl).trans ?_
  refine (x_iadd f88_4 rfl).trans ?_
  refine (x_istore (l2 := [aA l0, aI l1, aI l2, aI l3, aI l4, aI (w32 ((w32 (l1 * 3)) + l2))]) f88_5 rfl rfl).trans ?_
  refine (x_iload f88_7 rfl rfl).trans ?_
  refine (x_if_lt (tg := 49) f88_9 rfl rfl).trans (i_c ?_ ?_)
  · refine (x_kil (l2 := [aU, aU, aU, aU, aU, aU]) f88_49 rfl).trans ?_
    exact x_return f88_49 rfl
  · refine (x_iload f88_12 rfl rfl).trans ?_
    refine (x_aload f88_14 rfl rfl).trans ?_
    refine (x_get2 f88_15 rfl rfl).trans ?_
    refine g_c ?_
    refine g_c ?_
    refine (x_arraylength f88_18 rfl).trans ?_
    refine g_c ?_
    refine (x_icmp_ge (tg := 49) f88_19 rfl rfl).trans (i_c ?_ ?_)
    · refine (x_iload f88_22 rfl rfl).trans ?_
      refine (x_aload f88_24 rfl rfl).trans ?_
      refine (x_get2 f88_25 rfl rfl).trans ?_
      refine g_c ?_
      refine g_c ?_
      refine (x_arraylength f88_28 rfl).trans ?_
      refine g_c ?_
      refine (x_icmp_ge (tg := 49) f88_29 rfl rfl).trans (i_c ?_ ?_)
      · refine (x_aload f88_32 rfl rfl).trans ?_
        refine (x_get2 f88_33 rfl rfl).trans ?_
        refine g_c ?_
        refine g_c ?_
        refine (x_iload f88_36 rfl rfl).trans ?_
        refine (x_iload f88_38 rfl rfl).trans ?_
        refine (x_iastore f88_39 rfl).trans ?_
        refine g_c ?_
        refine g_c ?_
        refine (x_aload f88_40 rfl rfl).trans ?_
        refine (x_get2 f88_41 rfl rfl).trans ?_
        refine g_c ?_
        refine g_c ?_
        refine (x_iload f88_44 rfl rfl).trans ?_
        refine (x_iload f88_46 rfl rfl).trans ?_
        refine (x_iastore f88_48 rfl).trans ?_
        refine g_c ?_
        refine g_c ?_
        refine (x_kil (l2 := [aU, aU, aU, aU, aU, aU]) f88_49 rfl).trans ?_
        exact x_return f88_49 rfl
      · refine (x_kil (l2 := [aU, aU, aU, aU, aU, aU]) f88_49 rfl).trans ?_
        exact x_return f88_49 rfl
    · refine (x_kil (l2 := [aU, aU, aU, aU, aU, aU]) f88_49 rfl).trans ?_
      exact x_return f88_49 rfl
theorem f89_0 : fch 89 0 = some (.aload 0, 1, []) := by decide +kernel
theorem f89_1 : fch 89 1 = some (.iload 1, 2, []) := by decide +kernel
theorem f89_2 : fch 89 2 = some (.invokevirtual 82, 5, []) := by decide +kernel
theorem f89_5 : fch 89 5 = some (.ifCond .eq 15, 8, []) := by decide +kernel
theorem f89_8 : fch 89 8 = some (.aload 0, 9, []) := by decide +kernel
theorem f89_9 : fch 89 9 = some (.invokeinterface 6 3, 12, []) := by decide +kernel
theorem f89_12 : fch 89 12 = some (.iload 1, 13, []) := by decide +kernel
theorem f89_13 : fch 89 13 = some (.iload 2, 14, []) := by decide +kernel
theorem f89_14 : fch 89 14 = some (.iastore, 15, []) := by decide +kernel
theorem f89_15 : fch 89 15 = some (.return_, 16, [0, 1, 2]) := by decide +kernel
set_option maxRecDepth 10000 in
theorem e89_0 (l0 l1 l2 : Int) (s : SG) : sem 89 0 [aA l0, aI l1, aI l2] [] s = grd (kd l0 = 6) (bnI (sem 82 0 [aA l0, aI l1] [] s) fun a2 s1 => if a2 = 0 then some (aU, s1) else grd (kd l0 = 6) (grd (0 ≤ s1 l0 3) (grd (kd (s1 l0 3) = 101) (grd ((0 : Int) ≤ l1 ∧ l1 < kl (s1 l0 3)) (some (aU, up s1 (s1 l0 3) l1 l2)))))) := by
  refine (x_aload f89_0 rfl rfl).trans ?_
  refine (x_iload f89_1 rfl rfl).trans ?_
  refine (x_invokevirtual (G := grd (kd l0 = 6) (bnI (sem 82 0 [aA l0, aI l1] [] s) fun a2 s1 => sem 89 5 [aA l0, aI l1, aI l2] [aI a2] s1)) f89_2 rfl rfl).trans ?_
  refine g_c ?_
  refine bI_c fun a2 s1 => ?_
  refine (x_if_eq (tg := 15) f89_5 rfl rfl).trans (i_c ?_ ?_)
  · refine (x_kil (l2 := [aU, aU, aU]) f89_15 rfl).trans ?_
    exact x_return f89_15 rfl
  · refine (x_aload f89_8 rfl rfl).trans ?_
    refine (x_get2 f89_9 rfl rfl).trans ?_
    refine g_c ?_
    refine g_c ?_
    refine (x_iload f89_12 rfl rfl).trans ?_
    refine (x_iload f89_13 rfl rfl).trans ?_
    refine (x_iastore f89_14 rfl).trans ?_
    refine g_c ?_
    refine g_c ?_
    refine (x_kil (l2 := [aU, aU, aU]) f89_15 rfl).trans ?_
    exact x_return f89_15 rfl
theorem f90_0 : fch 90 0 = some (.aload 0, 1, []) := by decide +kernel
theorem f90_1 : fch 90 1 = some (.monitorexit, 4, []) := by decide +kernel
theorem f90_4 : fch 90 4 = some (.aload 0, 5, []) := by decide +kernel
theorem f90_5 : fch 90 5 = some (.iconst 2197, 8, []) := by decide +kernel
theorem f90_8 : fch 90 8 = some (.newarray .long, 10, []) := by decide +kernel
theorem f90_10 : fch 90 10 = some (.multianewarray 7 0, 13, []) := by decide +kernel
theorem f90_13 : fch 90 13 = some (.aload 0, 14, []) := by decide +kernel
theorem f90_14 : fch 90 14 = some (.iconst 2197, 17, []) := by decide +kernel
theorem f90_17 : fch 90 17 = some (.newarray .long, 19, []) := by decide +kernel
theorem f90_19 : fch 90 19 = some (.multianewarray 7 1, 22, []) := by decide +kernel
theorem f90_22 : fch 90 22 = some (.aload 0, 23, []) := by decide +kernel
theorem f90_23 : fch 90 23 = some (.sipush 1, 24, []) := by decide +kernel
theorem f90_24 : fch 90 24 = some (.multianewarray 7 2, 27, []) := by decide +kernel
theorem f90_27 : fch 90 27 = some (.return_, 28, []) := by decide +kernel
set_option maxRecDepth 10000 in
theorem e90_0 (l0 : Int) (s : SG) : sem 90 0 [aA l0] [] s = grd (kd (s (-1) 0) = akind .long ∧ kl (s (-1) 0) = 2197) (grd (kd l0 = 7) (grd (0 ≤ s (-1) 0) (grd (kd ((up (alc s 2197 (fun _ => 0)) l0 0 (s (-1) 0)) (-1) 0) = akind .long ∧ kl ((up (alc s 2197 (fun _ => 0)) l0 0 (s (-1) 0)) (-1) 0) = 2197) (grd (kd l0 = 7) (grd (0 ≤ (up (alc s 2197 (fun _ => 0)) l0 0 (s (-1) 0)) (-1) 0) (grd (kd l0 = 7) (some (aU, up (up (alc (up (alc s 2197 (fun _ => 0)) l0 0 (s (-1) 0)) 2197 (fun _ => 0)) l0 1 ((up (alc s 2197 (fun _ => 0)) l0 0 (s (-1) 0)) (-1) 0)) l0 2 1)))))))) := by
  refine (x_aload f90_0 rfl rfl).trans ?_
  refine (x_monitorexit f90_1 rfl rfl).trans ?_
  refine (x_aload f90_4 rfl rfl).trans ?_
  refine (x_iconst f90_5 rfl).trans ?_
  refine (x_newarray f90_8 rfl).trans ?_
  refine g_c ?_
  refine (x_put2 f90_10 rfl rfl).trans ?_
  refine g_c ?_
  refine g_c ?_
  refine (x_aload f90_13 rfl rfl).trans ?_
  refine (x_iconst f90_14 rfl).trans ?_
  refine (x_newarray f90_17 rfl).trans ?_
  refine g_c ?_
  refine (x_put2 f90_19 rfl rfl).trans ?_
  refine g_c ?_
  refine g_c ?_
  refine (x_aload f90_22 rfl rfl).trans ?_
  refine (x_lconst f90_23 rfl).trans ?_
  refine (x_put1 f90_24 rfl rfl).trans ?_
  refine g_c ?_
  exact x_return f90_27 rfl
theorem f91_0 : fch 91 0 = some (.iload 0, 1, []) := by decide +kernel
theorem f91_1 : fch 91 1 = some (.invokestatic 92, 4, []) := by decide +kernel
theorem f91_4 : fch 91 4 = some (.ifCond .eq 35, 7, []) := by decide +kernel
theorem f91_7 : fch 91 7 = some (.iload 1, 8, []) := by decide +kernel
theorem f91_8 : fch 91 8 = some (.invokestatic 92, 11, []) := by decide +kernel
theorem f91_11 : fch 91 11 = some (.ifCond .eq 35, 14, []) := by decide +kernel
theorem f91_14 : fch 91 14 = some (.iload 2, 15, []) := by decide +kernel
theorem f91_15 : fch 91 15 = some (.invokestatic 92, 18, []) := by decide +kernel
theorem f91_18 : fch 91 18 = some (.ifCond .eq 35, 21, []) := by decide +kernel
theorem f91_21 : fch 91 21 = some (.iload 0, 22, []) := by decide +kernel
theorem f91_22 : fch 91 22 = some (.iload 1, 23, []) := by decide +kernel
theorem f91_23 : fch 91 23 = some (.iadd, 24, []) := by decide +kernel
theorem f91_24 : fch 91 24 = some (.iload 2, 25, []) := by decide +kernel
theorem f91_25 : fch 91 25 = some (.iadd, 26, []) := by decide +kernel
theorem f91_26 : fch 91 26 = some (.iconst 12, 28, []) := by decide +kernel
theorem f91_28 : fch 91 28 = some (.if_icmp .gt 35, 31, []) := by decide +kernel
theorem f91_31 : fch 91 31 = some (.iconst 1, 32, []) := by decide +kernel
theorem f91_32 : fch 91 32 = some (.goto 36, 35, []) := by decide +kernel
theorem f91_35 : fch 91 35 = some (.iconst 0, 36, [0, 1, 2]) := by decide +kernel
theorem f91_36 : fch 91 36 = some (.ireturn, 37, [0, 1, 2]) := by decide +kernel
set_option maxRecDepth 10000 in
theorem e91_0 (l0 l1 l2 : Int) (s : SG) : sem 91 0 [aI l0, aI l1, aI l2] [] s = bnI (sem 92 0 [aI l0] [] s) fun a2 s1 => if a2 = 0 then some (aI 0, s1) else bnI (sem 92 0 [aI l1] [] s1) fun a4 s3 => if a4 = 0 then some (aI 0, s3) else bnI (sem 92 0 [aI l2] [] s3) fun a6 s5 => if a6 = 0 then some (aI 0, s5) else if (12 : Int) < (w32 ((w32 (l0 + l1)) + l2)) then some (aI 0, s5) else some (aI 1, s5) := by
  refine (x_iload f91_0 rfl rfl).trans ?_
  refine (x_invokestatic (G := bnI (sem 92 0 [aI l0] [] s) fun a2 s1 => sem 91 4 [aI l0, aI l1, aI l2] [aI a2] s1) f91_1 rfl rfl).trans ?_
  refine bI_c fun a2 s1 => ?_
  refine (x_if_eq (tg := 35) f91_4 rfl rfl).trans (i_c ?_ ?_)
  · refine (x_kil (l2 := [aU, aU, aU]) f91_35 rfl).trans ?_
    refine (x_iconst f91_35 rfl).trans ?_
    exact x_zreturn0 f91_36 rfl
  · refine (x_iload f91_7 rfl rfl).trans ?_
    refine (x_invokestatic (G := bnI (sem 92 0 [aI l1] [] s1) fun a4 s3 => sem 91 11 [aI l0, aI l1, aI l2] [aI a4] s3) f91_8 rfl rfl).trans ?_
    refine bI_c fun a4 s3 => ?_
    refine (x_if_eq (tg := 35) f91_11 rfl rfl).trans (i_c ?_ ?_)
    · refine (x_kil (l2 := [aU, aU, aU]) f91_35 rfl).trans ?_
      refine (x_iconst f91_35 rfl).trans ?_
      exact x_zreturn0 f91_36 rfl
    · refine (x_iload f91_14 rfl rfl).trans ?_
      refine (x_invokestatic (G := bnI (sem 92 0 [aI l2] [] s3) fun a6 s5 => sem 91 18 [aI l0, aI l1, aI l2] [aI a6] s5) f91_15 rfl rfl).trans ?_
      refine bI_c fun a6 s5 => ?_
      refine (x_if_eq (tg := 35) f91_18 rfl rfl).trans (i_c ?_ ?_)
      · refine (x_kil (l2 := [aU, aU, aU]) f91_35 rfl).trans ?_
        refine (x_iconst f91_35 rfl).trans ?_
        exact x_zreturn0 f91_36 rfl
      · refine (x_iload f91_21 rfl rfl).trans ?_
        refine (x_iload f91_22 rfl rfl).trans ?_
        refine (x_iadd f91_23 rfl).trans ?_
        refine (x_iload f91_24 rfl rfl).trans ?_
        refine (x_iadd f91_25 rfl).trans ?_
        refine (x_iconst f91_26 rfl).trans ?_
        refine (x_icmp_gt (tg := 35) f91_28 rfl rfl).trans (i_c ?_ ?_)
        · refine (x_kil (l2 := [aU, aU, aU]) f91_35 rfl).trans ?_
          refine (x_iconst f91_35 rfl).trans ?_
          exact x_zreturn0 f91_36 rfl
        · refine (x_iconst f91_31 rfl).trans ?_
          refine (x_goto (tg := 36) f91_32 rfl rfl).trans ?_
          refine (x_kil (l2 := [aU, aU, aU]) f91_36 rfl).trans ?_
          exact x_zreturn1 f91_36 rfl
theorem f92_0 : fch 92 0 = some (.iload 0, 1, []) := by decide +kernel
theorem f92_1 : fch 92 1 = some (.ifCond .lt 14, 4, []) := by decide +kernel
theorem f92_4 : fch 92 4 = some (.iload 0, 5, []) := by decide +kernel
theorem f92_5 : fch 92 5 = some (.iconst 12, 7, []) := by decide +kernel
theorem f92_7 : fch 92 7 = some (.if_icmp .gt 14, 10, []) := by decide +kernel
theorem f92_10 : fch 92 10 = some (.iconst 1, 11, []) := by decide +kernel
theorem f92_11 : fch 92 11 = some (.goto 15, 14, []) := by decide +kernel
theorem f92_14 : fch 92 14 = some (.iconst 0, 15, [0]) := by decide +kernel
theorem f92_15 : fch 92 15 = some (.ireturn, 16, [0]) := by decide +kernel
set_option maxRecDepth 10000 in
theorem e92_0 (l0 : Int) (s : SG) : sem 92 0 [aI l0] [] s = if l0 < 0 then some (aI 0, s) else if (12 : Int) < l0 then some (aI 0, s) else some (aI 1, s) := by
  refine (x_iload f92_0 rfl rfl).trans ?_
  refine (x_if_lt (tg := 14) f92_1 rfl rfl).trans (i_c ?_ ?_)
  · refine (x_kil (l2 := [aU]) f92_14 rfl).trans ?_
    refine (x_iconst f92_14 rfl).trans ?_
    exact x_zreturn0 f92_15 rfl
  · refine (x_iload f92_4 rfl rfl).trans ?_
    refine (x_iconst f92_5 rfl).trans ?_
    refine (x_icmp_gt (tg := 14) f92_7 rfl rfl).trans (i_c ?_ ?_)
    · refine (x_kil (l2 := [aU]) f92_14 rfl).trans ?_
      refine (x_iconst f92_14 rfl).trans ?_
      exact x_zreturn0 f92_15 rfl
    · refine (x_iconst f92_10 rfl).trans ?_
      refine (x_goto (tg := 15) f92_11 rfl rfl).trans ?_
      refine (x_kil (l2 := [aU]) f92_15 rfl).trans ?_
      exact x_zreturn1 f92_15 rfl
theorem f93_0 : fch 93 0 = some (.iload 0, 1, []) := by decide +kernel
theorem f93_1 : fch 93 1 = some (.iconst 13, 3, []) := by decide +kernel
theorem f93_3 : fch 93 3 = some (.imul, 4, []) := by decide +kernel
theorem f93_4 : fch 93 4 = some (.iload 1, 5, []) := by decide +kernel
theorem f93_5 : fch 93 5 = some (.iadd, 6, []) := by decide +kernel
theorem f93_6 : fch 93 6 = some (.iconst 13, 8, []) := by decide +kernel
theorem f93_8 : fch 93 8 = some (.imul, 9, []) := by decide +kernel
theorem f93_9 : fch 93 9 = some (.iload 2, 10, []) := by decide +kernel
theorem f93_10 : fch 93 10 = some (.iadd, 11, []) := by decide +kernel
theorem f93_11 : fch 93 11 = some (.istore 3, 12, []) := by decide +kernel
theorem f93_12 : fch 93 12 = some (.iload 3, 13, []) := by decide +kernel
theorem f93_13 : fch 93 13 = some (.ifCond .lt 27, 16, []) := by decide +kernel
theorem f93_16 : fch 93 16 = some (.iload 3, 17, []) := by decide +kernel
theorem f93_17 : fch 93 17 = some (.iconst 2197, 20, []) := by decide +kernel
theorem f93_20 : fch 93 20 = some (.if_icmp .ge 27, 23, []) := by decide +kernel
theorem f93_23 : fch 93 23 = some (.iload 3, 24, []) := by decide +kernel
theorem f93_24 : fch 93 24 = some (.goto 28, 27, []) := by decide +kernel
theorem f93_27 : fch 93 27 = some (.iconst 0, 28, [0, 1, 2, 3]) := by decide +kernel
theorem f93_28 : fch 93 28 = some (.ireturn, 29, [0, 1, 2, 3]) := by decide +kernel
set_option maxRecDepth 10000 in
theorem e93_0 (l0 l1 l2 : Int) (s : SG) : sem 93 0 [aI l0, aI l1, aI l2, aU] [] s = if (w32 ((w32 ((w32 ((w32 (l0 * 13)) + l1)) * 13)) + l2)) < 0 then some (aI 0, s) else if (w32 ((w32 ((w32 ((w32 (l0 * 13)) + l1)) * 13)) + l2)) < 2197 then some (aI (w32 ((w32 ((w32 ((w32 (l0 * 13)) + l1)) * 13)) + l2)), s) else some (aI 0, s) := by
  refine (x_iload f93_0 rfl rfl).trans ?_
  refine (x_iconst f93_1 rfl).trans ?_
  refine (x_imul f93_3 rfl).trans ?_
  refine (x_iload f93_4 rfl rfl).trans ?_
  refine (x_iadd f93_5 rfl).trans ?_
  refine (x_iconst f93_6 rfl).trans ?_
  refine (x_imul f93_8 rfl).trans ?_
  refine (x_iload f93_9 rfl rfl).trans ?_
  refine (x_iadd f93_10 rfl).trans ?_
  refine (x_istore (l2 := [aI l0, aI l1, aI l2, aI (w32 ((w32 ((w32 ((w32 (l0 * 13)) + l1)) * 13)) + l2))]) f93_11 rfl rfl).trans ?_
  refine (x_iload f93_12 rfl rfl).trans ?_
  refine (x_if_lt (tg := 27) f93_13 rfl rfl).trans (i_c ?_ ?_)
  · refine (x_kil (l2 := [aU, aU, aU, aU]) f93_27 rfl).trans ?_
    refine (x_iconst f93_27 rfl).trans ?_
    exact x_ireturn f93_28 rfl
  · refine (x_iload f93_16 rfl rfl).trans ?_
    refine (x_iconst f93_17 rfl).trans ?_
    refine (x_icmp_ge (tg := 27) f93_20 rfl rfl).trans (i_c ?_ ?_)
    · refine (x_iload f93_23 rfl rfl).trans ?_
      refine (x_goto (tg := 28) f93_24 rfl rfl).trans ?_
      refine (x_kil (l2 := [aU, aU, aU, aU]) f93_28 rfl).trans ?_
      exact x_ireturn f93_28 rfl
    · refine (x_kil (l2 := [aU, aU, aU, aU]) f93_27 rfl).trans ?_
      refine (x_iconst f93_27 rfl).trans ?_
      exact x_ireturn f93_28 rfl
theorem f94_0 : fch 94 0 = some (.aload 0, 1, []) := by decide +kernel
theorem f94_1 : fch 94 1 = some (.aload 1, 2, []) := by decide +kernel
theorem f94_2 : fch 94 2 = some (.iload 2, 3, []) := by decide +kernel
theorem f94_3 : fch 94 3 = some (.iload 4, 5, []) := by decide +kernel
theorem f94_5 : fch 94 5 = some (.invokevirtual 84, 8, []) := by decide +kernel
theorem f94_8 : fch 94 8 = some (.multianewarray 7 3, 11, []) := by decide +kernel
theorem f94_11 : fch 94 11 = some (.aload 0, 12, []) := by decide +kernel
theorem f94_12 : fch 94 12 = some (.aload 1, 13, []) := by decide +kernel
theorem f94_13 : fch 94 13 = some (.iload 3, 14, []) := by decide +kernel
theorem f94_14 : fch 94 14 = some (.iload 4, 16, []) := by decide +kernel
theorem f94_16 : fch 94 16 = some (.invokevirtual 84, 19, []) := by decide +kernel
theorem f94_19 : fch 94 19 = some (.multianewarray 7 4, 22, []) := by decide +kernel
theorem f94_22 : fch 94 22 = some (.aload 0, 23, []) := by decide +kernel
theorem f94_23 : fch 94 23 = some (.aload 1, 24, []) := by decide +kernel
theorem f94_24 : fch 94 24 = some (.iload 2, 25, []) := by decide +kernel
theorem f94_25 : fch 94 25 = some (.iload 4, 27, []) := by decide +kernel
theorem f94_27 : fch 94 27 = some (.invokevirtual 85, 30, []) := by decide +kernel
theorem f94_30 : fch 94 30 = some (.multianewarray 7 5, 33, []) := by decide +kernel
theorem f94_33 : fch 94 33 = some (.aload 0, 34, []) := by decide +kernel
theorem f94_34 : fch 94 34 = some (.aload 1, 35, []) := by decide +kernel
theorem f94_35 : fch 94 35 = some (.iload 3, 36, []) := by decide +kernel
theorem f94_36 : fch 94 36 = some (.iload 4, 38, []) := by decide +kernel
theorem f94_38 : fch 94 38 = some (.invokevirtual 85, 41, []) := by decide +kernel
theorem f94_41 : fch 94 41 = some (.multianewarray 7 6, 44, []) := by decide +kernel
theorem f94_44 : fch 94 44 = some (.return_, 45, []) := by decide +kernel
set_option maxRecDepth 10000 in
theorem e94_0 (l0 l1 l2 l3 l4 : Int) (s : SG) : sem 94 0 [aA l0, aA l1, aI l2, aI l3, aI l4] [] s = grd (kd l1 = 6) (bnI (sem 84 0 [aA l1, aI l2, aI l4, aU] [] s) fun a2 s1 => grd (kd l0 = 7) (grd (kd l1 = 6) (bnI (sem 84 0 [aA l1, aI l3, aI l4, aU] [] (up s1 l0 3 a2)) fun a4 s3 => grd (kd l0 = 7) (grd (kd l1 = 6) (bnI (sem 85 0 [aA l1, aI l2, aI l4, aU] [] (up s3 l0 4 a4)) fun a6 s5 => grd (kd l0 = 7) (grd (kd l1 = 6) (bnI (sem 85 0 [aA l1, aI l3, aI l4, aU] [] (up s5 l0 5 a6)) fun a8 s7 => grd (kd l0 = 7) (some (aU, up s7 l0 6 a8))))))))) := by
  refine (x_aload f94_0 rfl rfl).trans ?_
  refine (x_aload f94_1 rfl rfl).trans ?_
  refine (x_iload f94_2 rfl rfl).trans ?_
  refine (x_iload f94_3 rfl rfl).trans ?_
  refine (x_invokevirtual (G := grd (kd l1 = 6) (bnI (sem 84 0 [aA l1, aI l2, aI l4, aU] [] s) fun a2 s1 => sem 94 8 [aA l0, aA l1, aI l2, aI l3, aI l4] [aI a2, aA l0] s1)) f94_5 rfl rfl).trans ?_
  refine g_c ?_
  refine bI_c fun a2 s1 => ?_
  refine (x_put0 f94_8 rfl rfl).trans ?_
  refine g_c ?_
  refine (x_aload f94_11 rfl rfl).trans ?_
  refine (x_aload f94_12 rfl rfl).trans ?_
  refine (x_iload f94_13 rfl rfl).trans ?_
  refine (x_iload f94_14 rfl rfl).trans ?_
  refine (x_invokevirtual (G := grd (kd l1 = 6) (bnI (sem 84 0 [aA l1, aI l3, aI l4, aU] [] (up s1 l0 3 a2)) fun a4 s3 => sem 94 19 [aA l0, aA l1, aI l2, aI l3, aI l4] [aI a4, aA l0] s3)) f94_16 rfl rfl).trans ?_
  refine g_c ?_
  refine bI_c fun a4 s3 => ?_
  refine (x_put0 f94_19 rfl rfl).trans ?_
  refine g_c ?_
  refine (x_aload f94_22 rfl rfl).trans ?_
  refine (x_aload f94_23 rfl rfl).trans ?_
  refine (x_iload f94_24 rfl rfl).trans ?_
  refine (x_iload f94_25 rfl rfl).trans ?_
  refine (x_invokevirtual (G := grd (kd l1 = 6) (bnI (sem 85 0 [aA l1, aI l2, aI l4, aU] [] (up s3 l0 4 a4)) fun a6 s5 => sem 94 30 [aA l0, aA l1, aI l2, aI l3, aI l4] [aI a6, aA l0] s5)) f94_27 rfl rfl).trans ?_
  refine g_c ?_
  refine bI_c fun a6 s5 => ?_
  refine (x_put0 f94_30 rfl rfl).trans ?_
  refine g_c ?_
  refine (x_aload f94_33 rfl rfl).trans ?_
  refine (x_aload f94_34 rfl rfl).trans ?_
  refine (x_iload f94_35 rfl rfl).trans ?_
  refine (x_iload f94_36 rfl rfl).trans ?_
  refine (x_invokevirtual (G := grd (kd l1 = 6) (bnI (sem 85 0 [aA l1, aI l3, aI l4, aU] [] (up s5 l0 5 a6)) fun a8 s7 => sem 94 41 [aA l0, aA l1, aI l2, aI l3, aI l4] [aI a8, aA l0] s7)) f94_38 rfl rfl).trans ?_
  refine g_c ?_
  refine bI_c fun a8 s7 => ?_
  refine (x_put0 f94_41 rfl rfl).trans ?_
  refine g_c ?_
  exact x_return f94_44 rfl
theorem f95_0 : fch 95 0 = some (.aload 0, 1, []) := by decide +kernel
theorem f95_1 : fch 95 1 = some (.invokeinterface 7 2, 4, []) := by decide +kernel
theorem f95_4 : fch 95 4 = some (.lreturn, 5, []) := by decide +kernel
set_option maxRecDepth 10000 in
theorem e95_0 (l0 : Int) (s : SG) : sem 95 0 [aA l0] [] s = grd (kd l0 = 7) (some (aL (s l0 2), s)) := by
  refine (x_aload f95_0 rfl rfl).trans ?_
  refine (x_get1 f95_1 rfl rfl).trans ?_
  refine g_c ?_
  exact x_lreturn f95_4 rfl
theorem f96_0 : fch 96 0 = some (.aload 0, 1, []) := by decide +kernel
theorem f96_1 : fch 96 1 = some (.invokeinterface 7 0, 4, []) := by decide +kernel
theorem f96_4 : fch 96 4 = some (.sipush 0, 5, []) := by decide +kernel
theorem f96_5 : fch 96 5 = some (.invokestatic 223, 8, []) := by decide +kernel
theorem f96_8 : fch 96 8 = some (.aload 0, 9, []) := by decide +kernel
theorem f96_9 : fch 96 9 = some (.invokeinterface 7 1, 12, []) := by decide +kernel
theorem f96_12 : fch 96 12 = some (.sipush 0, 13, []) := by decide +kernel
theorem f96_13 : fch 96 13 = some (.invokestatic 223, 16, []) := by decide +kernel
theorem f96_16 : fch 96 16 = some (.aload 0, 17, []) := by decide +kernel
theorem f96_17 : fch 96 17 = some (.sipush 1, 18, []) := by decide +kernel
theorem f96_18 : fch 96 18 = some (.multianewarray 7 2, 21, []) := by decide +kernel
theorem f96_21 : fch 96 21 = some (.iconst 1, 22, []) := by decide +kernel
theorem f96_22 : fch 96 22 = some (.istore 4, 24, []) := by decide +kernel
theorem f96_24 : fch 96 24 = some (.iload 4, 26, []) := by decide +kernel
theorem f96_26 : fch 96 26 = some (.iload 3, 27, []) := by decide +kernel
theorem f96_27 : fch 96 27 = some (.if_icmp .gt 70, 30, []) := by decide +kernel
theorem f96_30 : fch 96 30 = some (.iload 4, 32, []) := by decide +kernel
theorem f96_32 : fch 96 32 = some (.iconst 1, 33, []) := by decide +kernel
theorem f96_33 : fch 96 33 = some (.if_icmp .le 44, 36, []) := by decide +kernel
theorem f96_36 : fch 96 36 = some (.aload 0, 37, []) := by decide +kernel
theorem f96_37 : fch 96 37 = some (.iload 1, 38, []) := by decide +kernel
theorem f96_38 : fch 96 38 = some (.iload 2, 39, []) := by decide +kernel
theorem f96_39 : fch 96 39 = some (.iadd, 40, []) := by decide +kernel
theorem f96_40 : fch 96 40 = some (.iload 2, 41, []) := by decide +kernel
theorem f96_41 : fch 96 41 = some (.invokevirtual 97, 44, []) := by decide +kernel
theorem f96_44 : fch 96 44 = some (.aload 0, 45, []) := by decide +kernel
theorem f96_45 : fch 96 45 = some (.iload 1, 46, []) := by decide +kernel
theorem f96_46 : fch 96 46 = some (.iload 2, 47, []) := by decide +kernel
theorem f96_47 : fch 96 47 = some (.iadd, 48, []) := by decide +kernel
theorem f96_48 : fch 96 48 = some (.iload 2, 49, []) := by decide +kernel
theorem f96_49 : fch 96 49 = some (.invokevirtual 98, 52, []) := by decide +kernel
theorem f96_52 : fch 96 52 = some (.aload 0, 53, []) := by decide +kernel
theorem f96_53 : fch 96 53 = some (.dup, 54, []) := by decide +kernel
theorem f96_54 : fch 96 54 = some (.invokeinterface 7 2, 57, []) := by decide +kernel
theorem f96_57 : fch 96 57 = some (.sipush 100, 60, []) := by decide +kernel
theorem f96_60 : fch 96 60 = some (.lmul, 61, []) := by decide +kernel
theorem f96_61 : fch 96 61 = some (.multianewarray 7 2, 64, []) := by decide +kernel
theorem f96_64 : fch 96 64 = some (.iinc 4 1, 67, []) := by decide +kernel
theorem f96_67 : fch 96 67 = some (.goto 24, 70, []) := by decide +kernel
theorem f96_70 : fch 96 70 = some (.return_, 71, []) := by decide +kernel
set_option maxRecDepth 10000 in
theorem e96_0 (l0 l1 l2 l3 : Int) (s : SG) : sem 96 0 [aA l0, aI l1, aI l2, aI l3, aU] [] s = grd (kd l0 = 7) (grd (0 ≤ s l0 0) (bnV (sem 223 0 [aA (s l0 0), aL 0, aU, aU, aU] [] s) fun s1 => grd (kd l0 = 7) (grd (0 ≤ s1 l0 1) (bnV (sem 223 0 [aA (s1 l0 1), aL 0, aU, aU, aU] [] s1) fun s2 => grd (kd l0 = 7) (sem 96 24 [aA l0, aI l1, aI l2, aI l3, aI 1] [] (up s2 l0 2 1)))))) := by
  refine (x_aload f96_0 rfl rfl).trans ?_
  refine (x_get2 f96_1 rfl rfl).trans ?_
  refine g_c ?_
  refine g_c ?_
  refine (x_lconst f96_4 rfl).trans ?_
  refine (x_invokestatic (G := bnV (sem 223 0 [aA (s l0 0), aL 0, aU, aU, aU] [] s) fun s1 => sem 96 8 [aA l0, aI l1, aI l2, aI l3, aU] [] s1) f96_5 rfl rfl).trans ?_
  refine bV_c fun s1 => ?_
  refine (x_aload f96_8 rfl rfl).trans ?_
  refine (x_get2 f96_9 rfl rfl).trans ?_
  refine g_c ?_
  refine g_c ?_
  refine (x_lconst f96_12 rfl).trans ?_
  refine (x_invokestatic (G := bnV (sem 223 0 [aA (s1 l0 1), aL 0, aU, aU, aU] [] s1) fun s2 => sem 96 16 [aA l0, aI l1, aI l2, aI l3, aU] [] s2) f96_13 rfl rfl).trans ?_
  refine bV_c fun s2 => ?_
  refine (x_aload f96_16 rfl rfl).trans ?_
  refine (x_lconst f96_17 rfl).trans ?_
  refine (x_put1 f96_18 rfl rfl).trans ?_
  refine g_c ?_
  refine (x_iconst f96_21 rfl).trans ?_
  refine (x_istore (l2 := [aA l0, aI l1, aI l2, aI l3, aI 1]) f96_22 rfl rfl).trans ?_
  rfl
set_option maxRecDepth 10000 in
theorem e96_24 (l0 l1 l2 l3 l4 : Int) (s : SG) : sem 96 24 [aA l0, aI l1, aI l2, aI l3, aI l4] [] s = if l3 < l4 then some (aU, s) else if (1 : Int) < l4 then grd (kd l0 = 7) (bnV (sem 97 0 [aA l0, aI (w32 (l1 + l2)), aI l2, aU, aU, aU] [] s) fun s1 => grd (kd l0 = 7) (bnV (sem 98 0 [aA l0, aI (w32 (l1 + l2)), aI l2, aU, aU, aU] [] s1) fun s2 => grd (kd l0 = 7) (grd (kd l0 = 7) (sem 96 24 [aA l0, aI l1, aI l2, aI l3, aI (w32 (l4 + 1))] [] (up s2 l0 2 (w64 ((s2 l0 2) * 100))))))) else grd (kd l0 = 7) (bnV (sem 98 0 [aA l0, aI (w32 (l1 + l2)), aI l2, aU, aU, aU] [] s) fun s3 => grd (kd l0 = 7) (grd (kd l0 = 7) (sem 96 24 [aA l0, aI l1, aI l2, aI l3, aI (w32 (l4 + 1))] [] (up s3 l0 2 (w64 ((s3 l0 2) * 100)))))) := by
  refine (x_iload f96_24 rfl rfl).trans ?_
  refine (x_iload f96_26 rfl rfl).trans ?_
  refine (x_icmp_gt (tg := 70) f96_27 rfl rfl).trans (i_c ?_ ?_)
  · exact x_return f96_70 rfl
  · refine (x_iload f96_30 rfl rfl).trans ?_
    refine (x_iconst f96_32 rfl).trans ?_
    refine (x_icmp_le (tg := 44) f96_33 rfl rfl).trans (i_c ?_ ?_)
    · refine (x_aload f96_36 rfl rfl).trans ?_
      refine (x_iload f96_37 rfl rfl).trans ?_
      refine (x_iload f96_38 rfl rfl).trans ?_
      refine (x_iadd f96_39 rfl).trans ?_
      refine (x_iload f96_40 rfl rfl).trans ?_
      refine (x_invokevirtual (G := grd (kd l0 = 7) (bnV (sem 97 0 [aA l0, aI (w32 (l1 + l2)), aI l2, aU, aU, aU] [] s) fun s1 => sem 96 44 [aA l0, aI l1, aI l2, aI l3, aI l4] [] s1)) f96_41 rfl rfl).trans ?_
      refine g_c ?_
      refine bV_c fun s1 => ?_
      refine (x_aload f96_44 rfl rfl).trans ?_
      refine (x_iload f96_45 rfl rfl).trans ?_
      refine (x_iload f96_46 rfl rfl).trans ?_
      refine (x_iadd f96_47 rfl).trans ?_
      refine (x_iload f96_48 rfl rfl).trans ?_
      refine (x_invokevirtual (G := grd (kd l0 = 7) (bnV (sem 98 0 [aA l0, aI (w32 (l1 + l2)), aI l2, aU, aU, aU] [] s1) fun s2 => sem 96 52 [aA l0, aI l1, aI l2, aI l3, aI l4] [] s2)) f96_49 rfl rfl).trans ?_
      refine g_c ?_
      refine bV_c fun s2 => ?_
      refine (x_aload f96_52 rfl rfl).trans ?_
      refine (x_dup f96_53 rfl rfl).trans ?_
      refine (x_get1 f96_54 rfl rfl).trans ?_
      refine g_c ?_
      refine (x_lconst f96_57 rfl).trans ?_
      refine (x_lmul f96_60 rfl).trans ?_
      refine (x_put1 f96_61 rfl rfl).trans ?_
      refine g_c ?_
      refine (x_iinc (l2 := [aA l0, aI l1, aI l2, aI l3, aI (w32 (l4 + 1))]) f96_64 rfl rfl rfl).trans ?_
      refine (x_goto (tg := 24) f96_67 rfl rfl).trans ?_
      rfl
    · refine (x_aload f96_44 rfl rfl).trans ?_
      refine (x_iload f96_45 rfl rfl).trans ?_
      refine (x_iload f96_46 rfl rfl).trans ?_
      refine (x_iadd f96_47 rfl).trans ?_
      refine (x_iload f96_48 rfl rfl).trans ?_
      refine (x_invokevirtual (G := grd (kd l0 = 7) (bnV (sem 98 0 [aA l0, aI (w32 (l1 + l2)), aI l2, aU, aU, aU] [] s) fun s3 => sem 96 52 [aA l0, aI l1, aI l2, aI l3, aI l4] [] s3)) f96_49 rfl rfl).trans ?_
      refine g_c ?_
      refine bV_c fun s3 => ?_
      refine (x_aload f96_52 rfl rfl).trans ?_
      refine (x_dup f96_53 rfl rfl).trans ?_
      refine (x_get1 f96_54 rfl rfl).trans ?_
      refine g_c ?_
      refine (x_lconst f96_57 rfl).trans ?_
      refine (x_lmul f96_60 rfl).trans ?_
      refine (x_put1 f96_61 rfl rfl).trans ?_
      refine g_c ?_
      refine (x_iinc (l2 := [aA l0, aI l1, aI l2, aI l3, aI (w32 (l4 + 1))]) f96_64 rfl rfl rfl).trans ?_
      refine (x_goto (tg := 24) f96_67 rfl rfl).trans ?_
      rfl
theorem f97_0 : fch 97 0 = some (.iconst 0, 1, []) := by decide +kernel
theorem f97_1 : fch 97 1 = some (.istore 3, 2, []) := by decide +kernel
theorem f97_2 : fch 97 2 = some (.iload 3, 3, [4, 5]) := by decide +kernel
theorem f97_3 : fch 97 3 = some (.iload 1, 4, []) := by decide +kernel
theorem f97_4 : fch 97 4 = some (.if_icmp .gt 78, 7, []) := by decide +kernel
theorem f97_7 : fch 97 7 = some (.iconst 0, 8, []) := by decide +kernel
theorem f97_8 : fch 97 8 = some (.istore 4, 10, []) := by decide +kernel
theorem f97_10 : fch 97 10 = some (.iload 3, 11, [5]) := by decide +kernel
theorem f97_11 : fch 97 11 = some (.iload 4, 13, []) := by decide +kernel
theorem f97_13 : fch 97 13 = some (.iadd, 14, []) := by decide +kernel
theorem f97_14 : fch 97 14 = some (.iload 1, 15, []) := by decide +kernel
theorem f97_15 : fch 97 15 = some (.if_icmp .gt 72, 18, []) := by decide +kernel
theorem f97_18 : fch 97 18 = some (.iconst 0, 19, []) := by decide +kernel
theorem f97_19 : fch 97 19 = some (.istore 5, 21, []) := by decide +kernel
theorem f97_21 : fch 97 21 = some (.iload 5, 23, []) := by decide +kernel
theorem f97_23 : fch 97 23 = some (.iload 2, 24, []) := by decide +kernel
theorem f97_24 : fch 97 24 = some (.if_icmp .gt 66, 27, []) := by decide +kernel
theorem f97_27 : fch 97 27 = some (.iload 3, 28, []) := by decide +kernel
theorem f97_28 : fch 97 28 = some (.iload 4, 30, []) := by decide +kernel
theorem f97_30 : fch 97 30 = some (.iadd, 31, []) := by decide +kernel
theorem f97_31 : fch 97 31 = some (.iload 5, 33, []) := by decide +kernel
theorem f97_33 : fch 97 33 = some (.iadd, 34, []) := by decide +kernel
theorem f97_34 : fch 97 34 = some (.iload 1, 35, []) := by decide +kernel
theorem f97_35 : fch 97 35 = some (.if_icmp .gt 66, 38, []) := by decide +kernel
theorem f97_38 : fch 97 38 = some (.aload 0, 39, []) := by decide +kernel
theorem f97_39 : fch 97 39 = some (.invokeinterface 7 0, 42, []) := by decide +kernel
theorem f97_42 : fch 97 42 = some (.iload 3, 43, []) := by decide +kernel
theorem f97_43 : fch 97 43 = some (.iload 4, 45, []) := by decide +kernel
theorem f97_45 : fch 97 45 = some (.iload 5, 47, []) := by decide +kernel
theorem f97_47 : fch 97 47 = some (.invokestatic 93, 50, []) := by decide +kernel
theorem f97_50 : fch 97 50 = some (.aload 0, 51, []) := by decide +kernel
theorem f97_51 : fch 97 51 = some (.iload 3, 52, []) := by decide +kernel
theorem f97_52 : fch 97 52 = some (.iload 4, 54, []) := by decide +kernel
theorem f97_54 : fch 97 54 = some (.iload 5, 56, []) := by decide +kernel
theorem f97_56 : fch 97 56 = some (.invokevirtual 100, 59, []) := by decide +kernel
theorem f97_59 : fch 97 59 = some (.lastore, 60, []) := by decide +kernel
theorem f97_60 : fch 97 60 = some (.iinc 5 1, 63, []) := by decide +kernel
theorem f97_63 : fch 97 63 = some (.goto 21, 66, []) := by decide +kernel
theorem f97_66 : fch 97 66 = some (.iinc 4 1, 69, [5]) := by decide +kernel
theorem f97_69 : fch 97 69 = some (.goto 10, 72, []) := by decide +kernel
theorem f97_72 : fch 97 72 = some (.iinc 3 1, 75, []) := by decide +kernel
theorem f97_75 : fch 97 75 = some (.goto 2, 78, []) := by decide +kernel
theorem f97_78 : fch 97 78 = some (.return_, 79, []) := by decide +kernel
set_option maxRecDepth 10000 in
theorem e97_0 (l0 l1 l2 : Int) (s : SG) : sem 97 0 [aA l0, aI l1, aI l2, aU, aU, aU] [] s = sem 97 2 [aA l0, aI l1, aI l2, aI 0, aU, aU] [] s := by
  refine (x_iconst f97_0 rfl).trans ?_
  refine (x_istore (l2 := [aA l0, aI l1, aI l2, aI 0, aU, aU]) f97_1 rfl rfl).trans ?_
  rfl
set_option maxRecDepth 10000 in
theorem e97_2 (l0 l1 l2 l3 : Int) (s : SG) : sem 97 2 [aA l0, aI l1, aI l2, aI l3, aU, aU] [] s = if l1 < l3 then some (aU, s) else sem 97 10 [aA l0, aI l1, aI l2, aI l3, aI 0, aU] [] s := by
  refine (x_iload f97_2 rfl rfl).trans ?_
  refine (x_iload f97_3 rfl rfl).trans ?_
  refine (x_icmp_gt (tg := 78) f97_4 rfl rfl).trans (i_c ?_ ?_)
  · exact x_return f97_78 rfl
  · refine (x_iconst f97_7 rfl).trans ?_
    refine (x_istore (l2 := [aA l0, aI l1, aI l2, aI l3, aI 0, aU]) f97_8 rfl rfl).trans ?_
    rfl
set_option maxRecDepth 10000 in
theorem e97_10 (l0 l1 l2 l3 l4 : Int) (s : SG) : sem 97 10 [aA l0, aI l1, aI l2, aI l3, aI l4, aU] [] s = if l1 < (w32 (l3 + l4)) then sem 97 2 [aA l0, aI l1, aI l2, aI (w32 (l3 + 1)), aU, aU] [] s else sem 97 21 [aA l0, aI l1, aI l2, aI l3, aI l4, aI 0] [] s := by
  refine (x_iload f97_10 rfl rfl).trans ?_
  refine (x_iload f97_11 rfl rfl).trans ?_
  refine (x_iadd f97_13 rfl).trans ?_
  refine (x_iload f97_14 rfl rfl).trans ?_
  refine (x_icmp_gt (tg := 72) f97_15 rfl rfl).trans (i_c ?_ ?_)
  · refine (x_iinc (l2 := [aA l0, aI l1, aI l2, aI (w32 (l3 + 1)), aI l4, aU]) f97_72 rfl rfl rfl).trans ?_
    refine (x_goto (tg := 2) f97_75 rfl rfl).trans ?_
    exact x_kil f97_2 rfl
  · refine (x_iconst f97_18 rfl).trans ?_
    refine (x_istore (l2 := [aA l0, aI l1, aI l2, aI l3, aI l4, aI 0]) f97_19 rfl rfl).trans ?_
    rfl
set_option maxRecDepth 10000 in
theorem e97_21 (l0 l1 l2 l3 l4 l5 : Int) (s : SG) : sem 97 21 [aA l0, aI l1, aI l2, aI l3, aI l4, aI l5] [] s = if l2 < l5 then sem 97 10 [aA l0, aI l1, aI l2, aI l3, aI (w32 (l4 + 1)), aU] [] s else if l1 < (w32 ((w32 (l3 + l4)) + l5)) then sem 97 10 [aA l0, aI l1, aI l2, aI l3, aI (w32 (l4 + 1)), aU] [] s else grd (kd l0 = 7) (grd (0 ≤ s l0 0) (bnI (sem 93 0 [aI l3, aI l4, aI l5, aU] [] s) fun a2 s1 => grd (kd l0 = 7) (bnL (sem 100 0 [aA l0, aI l3, aI l4, aI l5, aU, aU, aU] [] s1) fun a4 s3 => grd (kd (s l0 0) = 103) (grd ((0 : Int) ≤ a2 ∧ a2 < kl (s l0 0)) (sem 97 21 [aA l0, aI l1, aI l2, aI l3, aI l4, aI (w32 (l5 + 1))] [] (up s3 (s l0 0) a2 a4)))))) := by
  refine (x_iload f97_21 rfl rfl).trans ?_
  refine (x_iload f97_23 rfl rfl).trans ?_
  refine (x_icmp_gt (tg := 66) f97_24 rfl rfl).trans (i_c ?_ ?_)
  · refine (x_kil (l2 := [aA l0, aI l1, aI l2, aI l3, aI l4, aU]) f97_66 rfl).trans ?_
    refine (x_iinc (l2 := [aA l0, aI l1, aI l2, aI l3, aI (w32 (l4 + 1)), aU]) f97_66 rfl rfl rfl).trans ?_
    refine (x_goto (tg := 10) f97_69 rfl rfl).trans ?_
    rfl
  · refine (x_iload f97_27 rfl rfl).trans ?_
    refine (x_iload f97_28 rfl rfl).trans ?_
    refine (x_iadd f97_30 rfl).trans ?_
    refine (x_iload f97_31 rfl rfl).trans ?_
    refine (x_iadd f97_33 rfl).trans ?_
    refine (x_iload f97_34 rfl rfl).trans ?_
    refine (x_icmp_gt (tg := 66) f97_35 rfl rfl).trans (i_c ?_ ?_)
    · refine (x_kil (l2 := [aA l0, aI l1, aI l2, aI l3, aI l4, aU]) f97_66 rfl).trans ?_
      refine (x_iinc (l2 := [aA l0, aI l1, aI l2, aI l3, aI (w32 (l4 + 1)), aU]) f97_66 rfl rfl rfl).trans ?_
      refine (x_goto (tg := 10) f97_69 rfl rfl).trans ?_
      rfl
    · refine (x_aload f97_38 rfl rfl).trans ?_
      refine (x_get2 f97_39 rfl rfl).trans ?_
      refine g_c ?_
      refine g_c ?_
      refine (x_iload f97_42 rfl rfl).trans ?_
      refine (x_iload f97_43 rfl rfl).trans ?_
      refine (x_iload f97_45 rfl rfl).trans ?_
      refine (x_invokestatic (G := bnI (sem 93 0 [aI l3, aI l4, aI l5, aU] [] s) fun a2 s1 => sem 97 50 [aA l0, aI l1, aI l2, aI l3, aI l4, aI l5] [aI a2, aA (s l0 0)] s1) f97_47 rfl rfl).trans ?_
      refine bI_c fun a2 s1 => ?_
      refine (x_aload f97_50 rfl rfl).trans ?_
      refine (x_iload f97_51 rfl rfl).trans ?_
      refine (x_iload f97_52 rfl rfl).trans ?_
      refine (x_iload f97_54 rfl rfl).trans ?_
      refine (x_invokevirtual (G := grd (kd l0 = 7) (bnL (sem 100 0 [aA l0, aI l3, aI l4, aI l5, aU, aU, aU] [] s1) fun a4 s3 => sem 97 59 [aA l0, aI l1, aI l2, aI l3, aI l4, aI l5] [aL a4, aI a2, aA (s l0 0)] s3)) f97_56 rfl rfl).trans ?_
      refine g_c ?_
      refine bL_c fun a4 s3 => ?_
      refine (x_lastore f97_59 rfl).trans ?_
      refine g_c ?_
      refine g_c ?_
      refine (x_iinc (l2 := [aA l0, aI l1, aI l2, aI l3, aI l4, aI (w32 (l5 + 1))]) f97_60 rfl rfl rfl).trans ?_
      refine (x_goto (tg := 21) f97_63 rfl rfl).trans ?_
      rfl
theorem f98_0 : fch 98 0 = some (.iconst 0, 1, []) := by decide +kernel
theorem f98_1 : fch 98 1 = some (.istore 3, 2, []) := by decide +kernel
theorem f98_2 : fch 98 2 = some (.iload 3, 3, [4, 5]) := by decide +kernel
theorem f98_3 : fch 98 3 = some (.iload 1, 4, []) := by decide +kernel
theorem f98_4 : fch 98 4 = some (.if_icmp .gt 78, 7, []) := by decide +kernel
theorem f98_7 : fch 98 7 = some (.iconst 0, 8, []) := by decide +kernel
theorem f98_8 : fch 98 8 = some (.istore 4, 10, []) := by decide +kernel
theorem f98_10 : fch 98 10 = some (.iload 3, 11, [5]) := by decide +kernel
theorem f98_11 : fch 98 11 = some (.iload 4, 13, []) := by decide +kernel
theorem f98_13 : fch 98 13 = some (.iadd, 14, []) := by decide +kernel
theorem f98_14 : fch 98 14 = some (.iload 1, 15, []) := by decide +kernel
theorem f98_15 : fch 98 15 = some (.if_icmp .gt 72, 18, []) := by decide +kernel
theorem f98_18 : fch 98 18 = some (.iconst 0, 19, []) := by decide +kernel
theorem f98_19 : fch 98 19 = some (.istore 5, 21, []) := by decide +kernel
theorem f98_21 : fch 98 21 = some (.iload 5, 23, []) := by decide +kernel
theorem f98_23 : fch 98 23 = some (.iload 2, 24, []) := by decide +kernel
theorem f98_24 : fch 98 24 = some (.if_icmp .gt 66, 27, []) := by decide +kernel
theorem f98_27 : fch 98 27 = some (.iload 3, 28, []) := by decide +kernel
theorem f98_28 : fch 98 28 = some (.iload 4, 30, []) := by decide +kernel
theorem f98_30 : fch 98 30 = some (.iadd, 31, []) := by decide +kernel
theorem f98_31 : fch 98 31 = some (.iload 5, 33, []) := by decide +kernel
theorem f98_33 : fch 98 33 = some (.iadd, 34, []) := by decide +kernel
theorem f98_34 : fch 98 34 = some (.iload 1, 35, []) := by decide +kernel
theorem f98_35 : fch 98 35 = some (.if_icmp .gt 66, 38, []) := by decide +kernel
theorem f98_38 : fch 98 38 = some (.aload 0, 39, []) := by decide +kernel
theorem f98_39 : fch 98 39 = some (.invokeinterface 7 1, 42, []) := by decide +kernel
theorem f98_42 : fch 98 42 = some (.iload 3, 43, []) := by decide +kernel
theorem f98_43 : fch 98 43 = some (.iload 4, 45, []) := by decide +kernel
theorem f98_45 : fch 98 45 = some (.iload 5, 47, []) := by decide +kernel
theorem f98_47 : fch 98 47 = some (.invokestatic 93, 50, []) := by decide +kernel
theorem f98_50 : fch 98 50 = some (.aload 0, 51, []) := by decide +kernel
theorem f98_51 : fch 98 51 = some (.iload 3, 52, []) := by decide +kernel
theorem f98_52 : fch 98 52 = some (.iload 4, 54, []) := by decide +kernel
theorem f98_54 : fch 98 54 = some (.iload 5, 56, []) := by decide +kernel
theorem f98_56 : fch 98 56 = some (.invokevirtual 99, 59, []) := by decide +kernel
theorem f98_59 : fch 98 59 = some (.lastore, 60, []) := by decide +kernel
theorem f98_60 : fch 98 60 = some (.iinc 5 1, 63, []) := by decide +kernel
theorem f98_63 : fch 98 63 = some (.goto 21, 66, []) := by decide +kernel
theorem f98_66 : fch 98 66 = some (.iinc 4 1, 69, [5]) := by decide +kernel
theorem f98_69 : fch 98 69 = some (.goto 10, 72, []) := by decide +kernel
theorem f98_72 : fch 98 72 = some (.iinc 3 1, 75, []) := by decide +kernel
theorem f98_75 : fch 98 75 = some (.goto 2, 78, []) := by decide +kernel
theorem f98_78 : fch 98 78 = some (.return_, 79, []) := by decide +kernel
set_option maxRecDepth 10000 in
theorem e98_0 (l0 l1 l2 : Int) (s : SG) : sem 98 0 [aA l0, aI l1, aI l2, aU, aU, aU] [] s = sem 98 2 [aA l0, aI l1, aI l2, aI 0, aU, aU] [] s := by
  refine (x_iconst f98_0 rfl).trans ?_
  refine (x_istore (l2 := [aA l0, aI l1, aI l2, aI 0, aU, aU]) f98_1 rfl rfl).trans ?_
  rfl
set_option maxRecDepth 10000 in
theorem e98_2 (l0 l1 l2 l3 : Int) (s : SG) : sem 98 2 [aA l0, aI l1, aI l2, aI l3, aU, aU] [] s = if l1 < l3 then some (aU, s) else sem 98 10 [aA l0, aI l1, aI l2, aI l3, aI 0, aU] [] s := by
  refine (x_iload f98_2 rfl rfl).trans ?_
  refine (x_iload f98_3 rfl rfl).trans ?_
  refine (x_icmp_gt (tg := 78) f98_4 rfl rfl).trans (i_c ?_ ?_)
  · exact x_return f98_78 rfl
  · refine (x_iconst f98_7 rfl).trans ?_
    refine (x_istore (l2 := [aA l0, aI l1, aI l2, aI l3, aI 0, aU]) f98_8 rfl rfl).trans ?_
    rfl
set_option maxRecDepth 10000 in
theorem e98_10 (l0 l1 l2 l3 l4 : Int) (s : SG) : sem 98 10 [aA l0, aI l1, aI l2, aI l3, aI l4, aU] [] s = if l1 < (w32 (l3 + l4)) then sem 98 2 [aA l0, aI l1, aI l2, aI (w32 (l3 + 1)), aU, aU] [] s else sem 98 21 [aA l0, aI l1, aI l2, aI l3, aI l4, aI 0] [] s := by
  refine (x_iload f98_10 rfl rfl).trans ?_
  refine (x_iload f98_11 rfl rfl).trans ?_
  refine (x_iadd f98_13 rfl).trans ?_
  refine (x_iload f98_14 rfl rfl).trans ?_
  refine (x_icmp_gt (tg := 72) f98_15 rfl rfl).trans (i_c ?_ ?_)
  · refine (x_iinc (l2 := [aA l0, aI l1, aI l2, aI (w32 (l3 + 1)), aI l4, aU]) f98_72 rfl rfl rfl).trans ?_
    refine (x_goto (tg := 2) f98_75 rfl rfl).trans ?_
    exact x_kil f98_2 rfl
  · refine (x_iconst f98_18 rfl).trans ?_
    refine (x_istore (l2 := [aA l0, aI l1, aI l2, aI l3, aI l4, aI 0]) f98_19 rfl rfl).trans ?_
    rfl
set_option maxRecDepth 10000 in
theorem e98_21 (l0 l1 l2 l3 l4 l5 : Int) (s : SG) : sem 98 21 [aA l0, aI l1, aI l2, aI l3, aI l4, aI l5] [] s = if l2 < l5 then sem 98 10 [aA l0, aI l1, aI l2, aI l3, aI (w32 (l4 + 1)), aU] [] s else if l1 < (w32 ((w32 (l3 + l4)) + l5)) then sem 98 10 [aA l0, aI l1, aI l2, aI l3, aI (w32 (l4 + 1)), aU] [] s else grd (kd l0 = 7) (grd (0 ≤ s l0 1) (bnI (sem 93 0 [aI l3, aI l4, aI l5, aU] [] s) fun a2 s1 => grd (kd l0 = 7) (bnL (sem 99 0 [aA l0, aI l3, aI l4, aI l5, aU, aU, aU, aU, aU, aU, aU, aU, aU] [] s1) fun a4 s3 => grd (kd (s l0 1) = 103) (grd ((0 : Int) ≤ a2 ∧ a2 < kl (s l0 1)) (sem 98 21 [aA l0, aI l1, aI l2, aI l3, aI l4, aI (w32 (l5 + 1))] [] (up s3 (s l0 1) a2 a4)))))) := by
  refine (x_iload f98_21 rfl rfl).trans ?_
  refine (x_iload f98_23 rfl rfl).trans ?_
  refine (x_icmp_gt (tg := 66) f98_24 rfl rfl).trans (i_c ?_ ?_)
  · refine (x_kil (l2 := [aA l0, aI l1, aI l2, aI l3, aI l4, aU]) f98_66 rfl).trans ?_
    refine (x_iinc (l2 := [aA l0, aI l1, aI l2, aI l3, aI (w32 (l4 + 1)), aU]) f98_66 rfl rfl rfl).trans ?_
    refine (x_goto (tg := 10) f98_69 rfl rfl).trans ?_
    rfl
  · refine (x_iload f98_27 rfl rfl).trans ?_
    refine (x_iload f98_28 rfl rfl).trans ?_
    refine (x_iadd f98_30 rfl).trans ?_
    refine (x_iload f98_31 rfl rfl).trans ?_
    refine (x_iadd f98_33 rfl).trans ?_
    refine (x_iload f98_34 rfl rfl).trans ?_
    refine (x_icmp_gt (tg := 66) f98_35 rfl rfl).trans (i_c ?_ ?_)
    · refine (x_kil (l2 := [aA l0, aI l1, aI l2, aI l3, aI l4, aU]) f98_66 rfl).trans ?_
      refine (x_iinc (l2 := [aA l0, aI l1, aI l2, aI l3, aI (w32 (l4 + 1)), aU]) f98_66 rfl rfl rfl).trans ?_
      refine (x_goto (tg := 10) f98_69 rfl rfl).trans ?_
      rfl
    · refine (x_aload f98_38 rfl rfl).trans ?_
      refine (x_get2 f98_39 rfl rfl).trans ?_
      refine g_c ?_
      refine g_c ?_
      refine (x_iload f98_42 rfl rfl).trans ?_
      refine (x_iload f98_43 rfl rfl).trans ?_
      refine (x_iload f98_45 rfl rfl).trans ?_
      refine (x_invokestatic (G := bnI (sem 93 0 [aI l3, aI l4, aI l5, aU] [] s) fun a2 s1 => sem 98 50 [aA l0, aI l1, aI l2, aI l3, aI l4, aI l5] [aI a2, aA (s l0 1)] s1) f98_47 rfl rfl).trans ?_
      refine bI_c fun a2 s1 => ?_
      refine (x_aload f98_50 rfl rfl).trans ?_
      refine (x_iload f98_51 rfl rfl).trans ?_
      refine (x_iload f98_52 rfl rfl).trans ?_
      refine (x_iload f98_54 rfl rfl).trans ?_
      refine (x_invokevirtual (G := grd (kd l0 = 7) (bnL (sem 99 0 [aA l0, aI l3, aI l4, aI l5, aU, aU, aU, aU, aU, aU, aU, aU, aU] [] s1) fun a4 s3 => sem 98 59 [aA l0, aI l1, aI l2, aI l3, aI l4, aI l5] [aL a4, aI a2, aA (s l0 1)] s3)) f98_56 rfl rfl).trans ?_
      refine g_c ?_
      refine bL_c fun a4 s3 => ?_
      refine (x_lastore f98_59 rfl).trans ?_
      refine g_c ?_
      refine g_c ?_
      refine (x_iinc (l2 := [aA l0, aI l1, aI l2, aI l3, aI l4, aI (w32 (l5 + 1))]) f98_60 rfl rfl rfl).trans ?_
      refine (x_goto (tg := 21) f98_63 rfl rfl).trans ?_
      rfl
theorem f99_0 : fch 99 0 = some (.sipush 0, 1, []) := by decide +kernel
theorem f99_1 : fch 99 1 = some (.lstore 4, 3, []) := by decide +kernel
theorem f99_3 : fch 99 3 = some (.iconst 0, 4, []) := by decide +kernel
theorem f99_4 : fch 99 4 = some (.istore 6, 6, []) := by decide +kernel
theorem f99_6 : fch 99 6 = some (.iload 6, 8, [7, 8, 9, 10, 11]) := by decide +kernel
theorem f99_8 : fch 99 8 = some (.iconst 1, 9, []) := by decide +kernel
theorem f99_9 : fch 99 9 = some (.if_icmp .gt 144, 12, []) := by decide +kernel
theorem f99_12 : fch 99 12 = some (.iconst 0, 13, []) := by decide +kernel
theorem f99_13 : fch 99 13 = some (.istore 7, 15, []) := by decide +kernel
theorem f99_15 : fch 99 15 = some (.iload 7, 17, [8, 9, 10, 11]) := by decide +kernel
theorem f99_17 : fch 99 17 = some (.iconst 1, 18, []) := by decide +kernel
theorem f99_18 : fch 99 18 = some (.if_icmp .gt 138, 21, []) := by decide +kernel
theorem f99_21 : fch 99 21 = some (.iload 6, 23, []) := by decide +kernel
theorem f99_23 : fch 99 23 = some (.iconst 1, 24, []) := by decide +kernel
theorem f99_24 : fch 99 24 = some (.if_icmp .ne 34, 27, []) := by decide +kernel
theorem f99_27 : fch 99 27 = some (.aload 0, 28, []) := by decide +kernel
theorem f99_28 : fch 99 28 = some (.invokeinterface 7 5, 31, []) := by decide +kernel
theorem f99_31 : fch 99 31 = some (.goto 41, 34, []) := by decide +kernel
theorem f99_34 : fch 99 34 = some (.iconst 10, 36, []) := by decide +kernel
theorem f99_36 : fch 99 36 = some (.aload 0, 37, []) := by decide +kernel
theorem f99_37 : fch 99 37 = some (.invokeinterface 7 5, 40, []) := by decide +kernel
theorem f99_40 : fch 99 40 = some (.isub, 41, []) := by decide +kernel
theorem f99_41 : fch 99 41 = some (.iload 7, 43, [8, 9, 10, 11]) := by decide +kernel
theorem f99_43 : fch 99 43 = some (.iconst 1, 44, []) := by decide +kernel
theorem f99_44 : fch 99 44 = some (.if_icmp .ne 54, 47, []) := by decide +kernel
theorem f99_47 : fch 99 47 = some (.aload 0, 48, []) := by decide +kernel
theorem f99_48 : fch 99 48 = some (.invokeinterface 7 6, 51, []) := by decide +kernel
theorem f99_51 : fch 99 51 = some (.goto 61, 54, []) := by decide +kernel
theorem f99_54 : fch 99 54 = some (.iconst 10, 56, []) := by decide +kernel
theorem f99_56 : fch 99 56 = some (.aload 0, 57, []) := by decide +kernel
theorem f99_57 : fch 99 57 = some (.invokeinterface 7 6, 60, []) := by decide +kernel
theorem f99_60 : fch 99 60 = some (.isub, 61, []) := by decide +kernel
theorem f99_61 : fch 99 61 = some (.imul, 62, [8, 9, 10, 11]) := by decide +kernel
theorem f99_62 : fch 99 62 = some (.istore 8, 64, []) := by decide +kernel
theorem f99_64 : fch 99 64 = some (.iload 1, 65, []) := by decide +kernel
theorem f99_65 : fch 99 65 = some (.aload 0, 66, []) := by decide +kernel
theorem f99_66 : fch 99 66 = some (.invokeinterface 7 3, 69, []) := by decide +kernel
theorem f99_69 : fch 99 69 = some (.iload 6, 71, []) := by decide +kernel
theorem f99_71 : fch 99 71 = some (.iadd, 72, []) := by decide +kernel
theorem f99_72 : fch 99 72 = some (.fsub, 75, []) := by decide +kernel
theorem f99_75 : fch 99 75 = some (.istore 9, 77, []) := by decide +kernel
theorem f99_77 : fch 99 77 = some (.iload 2, 78, []) := by decide +kernel
theorem f99_78 : fch 99 78 = some (.aload 0, 79, []) := by decide +kernel
theorem f99_79 : fch 99 79 = some (.invokeinterface 7 4, 82, []) := by decide +kernel
theorem f99_82 : fch 99 82 = some (.iload 7, 84, []) := by decide +kernel
theorem f99_84 : fch 99 84 = some (.iadd, 85, []) := by decide +kernel
theorem f99_85 : fch 99 85 = some (.fsub, 88, []) := by decide +kernel
theorem f99_88 : fch 99 88 = some (.istore 10, 90, []) := by decide +kernel
theorem f99_90 : fch 99 90 = some (.aload 0, 91, []) := by decide +kernel
theorem f99_91 : fch 99 91 = some (.invokeinterface 7 0, 94, []) := by decide +kernel
theorem f99_94 : fch 99 94 = some (.iload 1, 95, []) := by decide +kernel
theorem f99_95 : fch 99 95 = some (.iload 9, 97, []) := by decide +kernel
theorem f99_97 : fch 99 97 = some (.isub, 98, []) := by decide +kernel
theorem f99_98 : fch 99 98 = some (.iload 2, 99, []) := by decide +kernel
theorem f99_99 : fch 99 99 = some (.iload 10, 101, []) := by decide +kernel
theorem f99_101 : fch 99 101 = some (.isub, 102, []) := by decide +kernel
theorem f99_102 : fch 99 102 = some (.iload 3, 103, []) := by decide +kernel
theorem f99_103 : fch 99 103 = some (.invokestatic 93, 106, []) := by decide +kernel
theorem f99_106 : fch 99 106 = some (.laload, 107, []) := by decide +kernel
theorem f99_107 : fch 99 107 = some (.lstore 11, 109, []) := by decide +kernel
theorem f99_109 : fch 99 109 = some (.lload 4, 111, []) := by decide +kernel
theorem f99_111 : fch 99 111 = some (.iload 8, 113, []) := by decide +kernel
theorem f99_113 : fch 99 113 = some (.i2l, 114, []) := by decide +kernel
theorem f99_114 : fch 99 114 = some (.iload 9, 116, []) := by decide +kernel
theorem f99_116 : fch 99 116 = some (.iload 10, 118, []) := by decide +kernel
theorem f99_118 : fch 99 118 = some (.iadd, 119, []) := by decide +kernel
theorem f99_119 : fch 99 119 = some (.i2l, 120, []) := by decide +kernel
theorem f99_120 : fch 99 120 = some (.aload 0, 121, []) := by decide +kernel
theorem f99_121 : fch 99 121 = some (.invokeinterface 7 2, 124, []) := by decide +kernel
theorem f99_124 : fch 99 124 = some (.lmul, 125, []) := by decide +kernel
theorem f99_125 : fch 99 125 = some (.lload 11, 127, []) := by decide +kernel
theorem f99_127 : fch 99 127 = some (.ladd, 128, []) := by decide +kernel
theorem f99_128 : fch 99 128 = some (.lmul, 129, []) := by decide +kernel
theorem f99_129 : fch 99 129 = some (.ladd, 130, []) := by decide +kernel
theorem f99_130 : fch 99 130 = some (.lstore 4, 132, []) := by decide +kernel
theorem f99_132 : fch 99 132 = some (.iinc 7 1, 135, []) := by decide +kernel
theorem f99_135 : fch 99 135 = some (.goto 15, 138, []) := by decide +kernel
theorem f99_138 : fch 99 138 = some (.iinc 6 1, 141, []) := by decide +kernel
theorem f99_141 : fch 99 141 = some (.goto 6, 144, []) := by decide +kernel
theorem f99_144 : fch 99 144 = some (.lload 4, 146, []) := by decide +kernel
theorem f99_146 : fch 99 146 = some (.lreturn, 147, []) := by decide +kernel
set_option maxRecDepth 10000 in
theorem e99_0 (l0 l1 l2 l3 : Int) (s : SG) : sem 99 0 [aA l0, aI l1, aI l2, aI l3, aU, aU, aU, aU, aU, aU, aU, aU, aU] [] s = sem 99 6 [aA l0, aI l1, aI l2, aI l3, aL 0, aU, aI 0, aU, aU, aU, aU, aU, aU] [] s := by
  refine (x_lconst f99_0 rfl).trans ?_
  refine (x_lstore (l2 := [aA l0, aI l1, aI l2, aI l3, aL 0, aU, aU, aU, aU, aU, aU, aU, aU]) f99_1 rfl rfl).trans ?_
  refine (x_iconst f99_3 rfl).trans ?_
  refine (x_istore (l2 := [aA l0, aI l1, aI l2, aI l3, aL 0, aU, aI 0, aU, aU, aU, aU, aU, aU]) f99_4 rfl rfl).trans ?_
  rfl
set_option maxRecDepth 10000 in
theorem e99_6 (l0 l1 l2 l3 l4 l6 : Int) (s : SG) : sem 99 6 [aA l0, aI l1, aI l2, aI l3, aL l4, aU, aI l6, aU, aU, aU, aU, aU, aU] [] s = if (1 : Int) < l6 then some (aL l4, s) else sem 99 15 [aA l0, aI l1, aI l2, aI l3, aL l4, aU, aI l6, aI 0, aU, aU, aU, aU, aU] [] s := by
  refine (x_iload f99_6 rfl rfl).trans ?_
  refine (x_iconst f99_8 rfl).trans ?_
  refine (x_icmp_gt (tg := 144) f99_9 rfl rfl).trans (i_c ?_ ?_)
  · refine (x_lload f99_144 rfl rfl).trans ?_
    exact x_lreturn f99_146 rfl
  · refine (x_iconst f99_12 rfl).trans ?_
    refine (x_istore (l2 := [aA l0, aI l1, aI l2, aI l3, aL l4, aU, aI l6, aI 0, aU, aU, aU, aU, aU]) f99_13 rfl rfl).trans ?_
    rfl
set_option maxRecDepth 10000 in
theorem e99_15 (l0 l1 l2 l3 l4 l6 l7 : Int) (s : SG) : sem 99 15 [aA l0, aI l1, aI l2, aI l3, aL l4, aU, aI l6, aI l7, aU, aU, aU, aU, aU] [] s = if (1 : Int) < l7 then sem 99 6 [aA l0, aI l1, aI l2, aI l3, aL l4, aU, aI (w32 (l6 + 1)), aU, aU, aU, aU, aU, aU] [] s else if l6 = 1 then grd (kd l0 = 7) (if l7 = 1 then grd (kd l0 = 7) (sem 99 61 [aA l0, aI l1, aI l2, aI l3, aL l4, aU, aI l6, aI l7, aU, aU, aU, aU, aU] [aI (s l0 6), aI (s l0 5)] s) else grd (kd l0 = 7) (sem 99 61 [aA l0, aI l1, aI l2, aI l3, aL l4, aU, aI l6, aI l7, aU, aU, aU, aU, aU] [aI (w32 (10 - (s l0 6))), aI (s l0 5)] s)) else grd (kd l0 = 7) (if l7 = 1 then grd (kd l0 = 7) (sem 99 61 [aA l0, aI l1, aI l2, aI l3, aL l4, aU, aI l6, aI l7, aU, aU, aU, aU, aU] [aI (s l0 6), aI (w32 (10 - (s l0 5)))] s) else grd (kd l0 = 7) (sem 99 61 [aA l0, aI l1, aI l2, aI l3, aL l4, aU, aI l6, aI l7, aU, aU, aU, aU, aU] [aI (w32 (10 - (s l0 6))), aI (w32 (10 - (s l0 5)))] s)) := by
  refine (x_iload f99_15 rfl rfl).trans ?_
  refine (x_iconst f99_17 rfl).trans ?_
  refine (x_icmp_gt (tg := 138) f99_18 rfl rfl).trans (i_c ?_ ?_)
  · refine (x_iinc (l2 := [aA l0, aI l1, aI l2, aI l3, aL l4, aU, aI (w32 (l6 + 1)), aI l7, aU, aU, aU, aU, aU]) f99_138 rfl rfl rfl).trans ?_
    refine (x_goto (tg := 6) f99_141 rfl rfl).trans ?_
    exact x_kil f99_6 rfl
  · refine (x_iload f99_21 rfl rfl).trans ?_
    refine (x_iconst f99_23 rfl).trans ?_
    refine (x_icmp_ne (tg := 34) f99_24 rfl rfl).trans (i_c ?_ ?_)
    · refine (x_aload f99_27 rfl rfl).trans ?_
      refine (x_get0 f99_28 rfl rfl).trans ?_
      refine g_c ?_
      refine (x_goto (tg := 41) f99_31 rfl rfl).trans ?_
      refine (x_iload f99_41 rfl rfl).trans ?_
      refine (x_iconst f99_43 rfl).trans ?_
      refine (x_icmp_ne (tg := 54) f99_44 rfl rfl).trans (i_c ?_ ?_)
      · refine (x_aload f99_47 rfl rfl).trans ?_
        refine (x_get0 f99_48 rfl rfl).trans ?_
        refine g_c ?_
        refine (x_goto (tg := 61) f99_51 rfl rfl).trans ?_
        rfl
      · refine (x_iconst f99_54 rfl).trans ?_
        refine (x_aload f99_56 rfl rfl).trans ?_
        refine (x_get0 f99_57 rfl rfl).trans ?_
        refine g_c ?_
        refine (x_isub f99_60 rfl).trans ?_
        rfl
    · refine (x_iconst f99_34 rfl).trans ?_
      refine (x_aload f99_36 rfl rfl).trans ?_
      refine (x_get0 f99_37 rfl rfl).trans ?_
      refine g_c ?_
      refine (x_isub f99_40 rfl).trans ?_
      refine (x_iload f99_41 rfl rfl).trans ?_
      refine (x_iconst f99_43 rfl).trans ?_
      refine (x_icmp_ne (tg := 54) f99_44 rfl rfl).trans (i_c ?_ ?_)
      · refine (x_aload f99_47 rfl rfl).trans ?_
        refine (x_get0 f99_48 rfl rfl).trans ?_
        refine g_c ?_
        refine (x_goto (tg := 61) f99_51 rfl rfl).trans ?_
        rfl
      · refine (x_iconst f99_54 rfl).trans ?_
        refine (x_aload f99_56 rfl rfl).trans ?_
        refine (x_get0 f99_57 rfl rfl).trans ?_
        refine g_c ?_
        refine (x_isub f99_60 rfl).trans ?_
        rfl
set_option maxRecDepth 10000 in
theorem e99_61 (l0 l1 l2 l3 l4 l6 l7 v0 v1 : Int) (s : SG) : sem 99 61 [aA l0, aI l1, aI l2, aI l3, aL l4, aU, aI l6, aI l7, aU, aU, aU, aU, aU] [aI v0, aI v1] s = grd (kd l0 = 7) (grd (kd l0 = 7) (grd (kd l0 = 7) (grd (0 ≤ s l0 0) (bnI (sem 93 0 [aI (w32 (l1 - (min l1 (w32 ((s l0 3) + l6))))), aI (w32 (l2 - (min l2 (w32 ((s l0 4) + l7))))), aI l3, aU] [] s) fun a2 s1 => grd (kd (s l0 0) = 103) (grd ((0 : Int) ≤ a2 ∧ a2 < kl (s l0 0)) (grd (kd l0 = 7) (sem 99 15 [aA l0, aI l1, aI l2, aI l3, aL (w64 (l4 + (w64 ((w32 (v1 * v0)) * (w64 ((w64 ((w32 ((min l1 (w32 ((s l0 3) + l6))) + (min l2 (w32 ((s l0 4) + l7))))) * (s1 l0 2))) + (s1 (s l0 0) a2))))))), aU, aI l6, aI (w32 (l7 + 1)), aU, aU, aU, aU, aU] [] s1))))))) := by
  refine (x_imul f99_61 rfl).trans ?_
  refine (x_istore (l2 := [aA l0, aI l1, aI l2, aI l3, aL l4, aU, aI l6, aI l7, aI (w32 (v1 * v0)), aU, aU, aU, aU]) f99_62 rfl rfl).trans ?_
  refine (x_iload f99_64 rfl rfl).trans ?_
  refine (x_aload f99_65 rfl rfl).trans ?_
  refine (x_get0 f99_66 rfl rfl).trans ?_
  refine g_c ?_
  refine (x_iload f99_69 rfl rfl).trans ?_
  refine (x_iadd f99_71 rfl).trans ?_
  refine (x_fsub f99_72 rfl rfl).trans ?_
  refine (x_istore (l2 := [aA l0, aI l1, aI l2, aI l3, aL l4, aU, aI l6, aI l7, aI (w32 (v1 * v0)), aI (min l1 (w32 ((s l0 3) + l6))), aU, aU, aU]) f99_75 rfl rfl).trans ?_
  refine (x_iload f99_77 rfl rfl).trans ?_
  refine (x_aload f99_78 rfl rfl).trans ?_
  refine (x_get0 f99_79 rfl rfl).trans ?_
  refine g_c ?_
  refine (x_iload f99_82 rfl rfl).trans ?_
  refine (x_iadd f99_84 rfl).trans ?_
  refine (x_fsub f99_85 rfl rfl).trans ?_
  refine (x_istore (l2 := [aA l0, aI l1, aI l2, aI l3, aL l4, aU, aI l6, aI l7, aI (w32 (v1 * v0)), aI (min l1 (w32 ((s l0 3) + l6))), aI (min l2 (w32 ((s l0 4) + l7))), aU, aU]) f99_88 rfl rfl).trans ?_
  refine (x_aload f99_90 rfl rfl).trans ?_
  refine (x_get2 f99_91 rfl rfl).trans ?_
  refine g_c ?_
  refine g_c ?_
  refine (x_iload f99_94 rfl rfl).trans ?_
  refine (x_iload f99_95 rfl rfl).trans ?_
  refine (x_isub f99_97 rfl).trans ?_
  refine (x_iload f99_98 rfl rfl).trans ?_
  refine (x_iload f99_99 rfl rfl).trans ?_
  refine (x_isub f99_101 rfl).trans ?_
  refine (x_iload f99_102 rfl rfl).trans ?_
  refine (x_invokestatic (G := bnI (sem 93 0 [aI (w32 (l1 - (min l1 (w32 ((s l0 3) + l6))))), aI (w32 (l2 - (min l2 (w32 ((s l0 4) + l7))))), aI l3, aU] [] s) fun a2 s1 => sem 99 106 [aA l0, aI l1, aI l2, aI l3, aL l4, aU, aI l6, aI l7, aI (w32 (v1 * v0)), aI (min l1 (w32 ((s l0 3) + l6))), aI (min l2 (w32 ((s l0 4) + l7))), aU, aU] [aI a2, aA (s l0 0)] s1) f99_103 rfl rfl).trans ?_
  refine bI_c fun a2 s1 => ?_
  refine (x_laload f99_106 rfl).trans ?_
  refine g_c ?_
  refine g_c ?_
  refine (x_lstore (l2 := [aA l0, aI l1, aI l2, aI l3, aL l4, aU, aI l6, aI l7, aI (w32 (v1 * v0)), aI (min l1 (w32 ((s l0 3) + l6))), aI (min l2 (w32 ((s l0 4) + l7))), aL (s1 (s l0 0) a2), aU]) f99_107 rfl rfl).trans ?_
  refine (x_lload f99_109 rfl rfl).trans ?_
  refine (x_iload f99_111 rfl rfl).trans ?_
  refine (x_i2l f99_113 rfl).trans ?_
  refine (x_iload f99_114 rfl rfl).trans ?_
  refine (x_iload f99_116 rfl rfl).trans ?_
  refine (x_iadd f99_118 rfl).trans ?_
  refine (x_i2l f99_119 rfl).trans ?_
  refine (x_aload f99_120 rfl rfl).trans ?_
  refine (x_get1 f99_121 rfl rfl).trans ?_
  refine g_c ?_
  refine (x_lmul f99_124 rfl).trans ?_
  refine (x_lload f99_125 rfl rfl).trans ?_
  refine (x_ladd f99_127 rfl).trans ?_
  refine (x_lmul f99_128 rfl).trans ?_
  refine (x_ladd f99_129 rfl).trans ?_
  refine (x_lstore (l2 := [aA l0, aI l1, aI l2, aI l3, aL (w64 (l4 + (w64 ((w32 (v1 * v0)) * (w64 ((w64 ((w32 ((min l1 (w32 ((s l0 3) + l6))) + (min l2 (w32 ((s l0 4) + l7))))) * (s1 l0 2))) + (s1 (s l0 0) a2))))))), aU, aI l6, aI l7, aI (w32 (v1 * v0)), aI (min l1 (w32 ((s l0 3) + l6))), aI (min l2 (w32 ((s l0 4) + l7))), aL (s1 (s l0 0) a2), aU]) f99_130 rfl rfl).trans ?_
  refine (x_iinc (l2 := [aA l0, aI l1, aI l2, aI l3, aL (w64 (l4 + (w64 ((w32 (v1 * v0)) * (w64 ((w64 ((w32 ((min l1 (w32 ((s l0 3) + l6))) + (min l2 (w32 ((s l0 4) + l7))))) * (s1 l0 2))) + (s1 (s l0 0) a2))))))), aU, aI l6, aI (w32 (l7 + 1)), aI (w32 (v1 * v0)), aI (min l1 (w32 ((s l0 3) + l6))), aI (min l2 (w32 ((s l0 4) + l7))), aL (s1 (s l0 0) a2), aU]) f99_132 rfl rfl rfl).trans ?_
  refine (x_goto (tg := 15) f99_135 rfl rfl).trans ?_
  exact x_kil f99_15 rfl
theorem f100_0 : fch 100 0 = some (.aload 0, 1, []) := by decide +kernel
theorem f100_1 : fch 100 1 = some (.invokeinterface 7 1, 4, []) := by decide +kernel
theorem f100_4 : fch 100 4 = some (.iload 1, 5, []) := by decide +kernel
theorem f100_5 : fch 100 5 = some (.iload 2, 6, []) := by decide +kernel
theorem f100_6 : fch 100 6 = some (.iload 3, 7, []) := by decide +kernel
theorem f100_7 : fch 100 7 = some (.invokestatic 93, 10, []) := by decide +kernel
theorem f100_10 : fch 100 10 = some (.laload, 11, []) := by decide +kernel
theorem f100_11 : fch 100 11 = some (.lstore 4, 13, []) := by decide +kernel
theorem f100_13 : fch 100 13 = some (.iconst 1, 14, []) := by decide +kernel
theorem f100_14 : fch 100 14 = some (.istore 6, 16, []) := by decide +kernel
theorem f100_16 : fch 100 16 = some (.iload 6, 18, []) := by decide +kernel
theorem f100_18 : fch 100 18 = some (.iload 3, 19, []) := by decide +kernel
theorem f100_19 : fch 100 19 = some (.if_icmp .gt 76, 22, []) := by decide +kernel
theorem f100_22 : fch 100 22 = some (.lload 4, 24, []) := by decide +kernel
theorem f100_24 : fch 100 24 = some (.aload 0, 25, []) := by decide +kernel
theorem f100_25 : fch 100 25 = some (.invokeinterface 7 1, 28, []) := by decide +kernel
theorem f100_28 : fch 100 28 = some (.iload 1, 29, []) := by decide +kernel
theorem f100_29 : fch 100 29 = some (.iload 6, 31, []) := by decide +kernel
theorem f100_31 : fch 100 31 = some (.iadd, 32, []) := by decide +kernel
theorem f100_32 : fch 100 32 = some (.iload 2, 33, []) := by decide +kernel
theorem f100_33 : fch 100 33 = some (.iload 3, 34, []) := by decide +kernel
theorem f100_34 : fch 100 34 = some (.iload 6, 36, []) := by decide +kernel
theorem f100_36 : fch 100 36 = some (.isub, 37, []) := by decide +kernel
theorem f100_37 : fch 100 37 = some (.invokestatic 93, 40, []) := by decide +kernel
theorem f100_40 : fch 100 40 = some (.laload, 41, []) := by decide +kernel
theorem f100_41 : fch 100 41 = some (.dadd, 44, []) := by decide +kernel
theorem f100_44 : fch 100 44 = some (.lstore 4, 46, []) := by decide +kernel
theorem f100_46 : fch 100 46 = some (.lload 4, 48, []) := by decide +kernel
theorem f100_48 : fch 100 48 = some (.aload 0, 49, []) := by decide +kernel
theorem f100_49 : fch 100 49 = some (.invokeinterface 7 1, 52, []) := by decide +kernel
theorem f100_52 : fch 100 52 = some (.iload 1, 53, []) := by decide +kernel
theorem f100_53 : fch 100 53 = some (.iload 2, 54, []) := by decide +kernel
theorem f100_54 : fch 100 54 = some (.iload 6, 56, []) := by decide +kernel
theorem f100_56 : fch 100 56 = some (.iadd, 57, []) := by decide +kernel
theorem f100_57 : fch 100 57 = some (.iload 3, 58, []) := by decide +kernel
theorem f100_58 : fch 100 58 = some (.iload 6, 60, []) := by decide +kernel
theorem f100_60 : fch 100 60 = some (.isub, 61, []) := by decide +kernel
theorem f100_61 : fch 100 61 = some (.invokestatic 93, 64, []) := by decide +kernel
theorem f100_64 : fch 100 64 = some (.laload, 65, []) := by decide +kernel
theorem f100_65 : fch 100 65 = some (.dadd, 68, []) := by decide +kernel
theorem f100_68 : fch 100 68 = some (.lstore 4, 70, []) := by decide +kernel
theorem f100_70 : fch 100 70 = some (.iinc 6 1, 73, []) := by decide +kernel
theorem f100_73 : fch 100 73 = some (.goto 16, 76, []) := by decide +kernel
theorem f100_76 : fch 100 76 = some (.lload 4, 78, []) := by decide +kernel
theorem f100_78 : fch 100 78 = some (.lreturn, 79, []) := by decide +kernel
set_option maxRecDepth 10000 in
theorem e100_0 (l0 l1 l2 l3 : Int) (s : SG) : sem 100 0 [aA l0, aI l1, aI l2, aI l3, aU, aU, aU] [] s = grd (kd l0 = 7) (grd (0 ≤ s l0 1) (bnI (sem 93 0 [aI l1, aI l2, aI l3, aU] [] s) fun a2 s1 => grd (kd (s l0 1) = 103) (grd ((0 : Int) ≤ a2 ∧ a2 < kl (s l0 1)) (sem 100 16 [aA l0, aI l1, aI l2, aI l3, aL (s1 (s l0 1) a2), aU, aI 1] [] s1)))) := by
  refine (x_aload f100_0 rfl rfl).trans ?_
  refine (x_get2 f100_1 rfl rfl).trans ?_
  refine g_c ?_
  refine g_c ?_
  refine (x_iload f100_4 rfl rfl).trans ?_
  refine (x_iload f100_5 rfl rfl).trans ?_
  refine (x_iload f100_6 rfl rfl).trans ?_
  refine (x_invokestatic (G := bnI (sem 93 0 [aI l1, aI l2, aI l3, aU] [] s) fun a2 s1 => sem 100 10 [aA l0, aI l1, aI l2, aI l3, aU, aU, aU] [aI a2, aA (s l0 1)] s1) f100_7 rfl rfl).trans ?_
  refine bI_c fun a2 s1 => ?_
  refine (x_laload f100_10 rfl).trans ?_
  refine g_c ?_
  refine g_c ?_
  refine (x_lstore (l2 := [aA l0, aI l1, aI l2, aI l3, aL (s1 (s l0 1) a2), aU, aU]) f100_11 rfl rfl).trans ?_
  refine (x_iconst f100_13 rfl).trans ?_
  refine (x_istore (l2 := [aA l0, aI l1, aI l2, aI l3, aL (s1 (s l0 1) a2), aU, aI 1]) f100_14 rfl rfl).trans ?_
  rfl
set_option maxRecDepth 10000 in
theorem e100_16 (l0 l1 l2 l3 l4 l6 : Int) (s : SG) : sem 100 16 [aA l0, aI l1, aI l2, aI l3, aL l4, aU, aI l6] [] s = if l3 < l6 then some (aL l4, s) else grd (kd l0 = 7) (grd (0 ≤ s l0 1) (bnI (sem 93 0 [aI (w32 (l1 + l6)), aI l2, aI (w32 (l3 - l6)), aU] [] s) fun a2 s1 => grd (kd (s l0 1) = 103) (grd ((0 : Int) ≤ a2 ∧ a2 < kl (s l0 1)) (grd (kd l0 = 7) (grd (0 ≤ s1 l0 1) (bnI (sem 93 0 [aI l1, aI (w32 (l2 + l6)), aI (w32 (l3 - l6)), aU] [] s1) fun a4 s3 => grd (kd (s1 l0 1) = 103) (grd ((0 : Int) ≤ a4 ∧ a4 < kl (s1 l0 1)) (sem 100 16 [aA l0, aI l1, aI l2, aI l3, aL (max (max l4 (s1 (s l0 1) a2)) (s3 (s1 l0 1) a4)), aU, aI (w32 (l6 + 1))] [] s3)))))))) := by
  refine (x_iload f100_16 rfl rfl).trans ?_
  refine (x_iload f100_18 rfl rfl).trans ?_
  refine (x_icmp_gt (tg := 76) f100_19 rfl rfl).trans (i_c ?_ ?_)
  · refine (x_lload f100_76 rfl rfl).trans ?_
    exact x_lreturn f100_78 rfl
  · refine (x_lload f100_22 rfl rfl).trans ?_
    refine (x_aload f100_24 rfl rfl).trans ?_
    refine (x_get2 f100_25 rfl rfl).trans ?_
    refine g_c ?_
    refine g_c ?_
    refine (x_iload f100_28 rfl rfl).trans ?_
    refine (x_iload f100_29 rfl rfl).trans ?_
    refine (x_iadd f100_31 rfl).trans ?_
    refine (x_iload f100_32 rfl rfl).trans ?_
    refine (x_iload f100_33 rfl rfl).trans ?_
    refine (x_iload f100_34 rfl rfl).trans ?_
    refine (x_isub f100_36 rfl).trans ?_
    refine (x_invokestatic (G := bnI (sem 93 0 [aI (w32 (l1 + l6)), aI l2, aI (w32 (l3 - l6)), aU] [] s) fun a2 s1 => sem 100 40 [aA l0, aI l1, aI l2, aI l3, aL l4, aU, aI l6] [aI a2, aA (s l0 1), aL l4] s1) f100_37 rfl rfl).trans ?_
    refine bI_c fun a2 s1 => ?_
    refine (x_laload f100_40 rfl).trans ?_
    refine g_c ?_
    refine g_c ?_
    refine (x_dadd f100_41 rfl rfl).trans ?_
    refine (x_lstore (l2 := [aA l0, aI l1, aI l2, aI l3, aL (max l4 (s1 (s l0 1) a2)), aU, aI l6]) f100_44 rfl rfl).trans ?_
    refine (x_lload f100_46 rfl rfl).trans ?_
    refine (x_aload f100_48 rfl rfl).trans ?_
    refine (x_get2 f100_49 rfl rfl).trans ?_
    refine g_c ?_
    refine g_c ?_
    refine (x_iload f100_52 rfl rfl).trans ?_
    refine (x_iload f100_53 rfl rfl).trans ?_
    refine (x_iload f100_54 rfl rfl).trans ?_
    refine (x_iadd f100_56 rfl).trans ?_
    refine (x_iload f100_57 rfl rfl).trans ?_
    refine (x_iload f100_58 rfl rfl).trans ?_
    refine (x_isub f100_60 rfl).trans ?_
    refine (x_invokestatic (G := bnI (sem 93 0 [aI l1, aI (w32 (l2 + l6)), aI (w32 (l3 - l6)), aU] [] s1) fun a4 s3 => sem 100 64 [aA l0, aI l1, aI l2, aI l3, aL (max l4 (s1 (s l0 1) a2)), aU, aI l6] [aI a4, aA (s1 l0 1), aL (max l4 (s1 (s l0 1) a2))] s3) f100_61 rfl rfl).trans ?_
    refine bI_c fun a4 s3 => ?_
    refine (x_laload f100_64 rfl).trans ?_
    refine g_c ?_
    refine g_c ?_
    refine (x_dadd f100_65 rfl rfl).trans ?_
    refine (x_lstore (l2 := [aA l0, aI l1, aI l2, aI l3, aL (max (max l4 (s1 (s l0 1) a2)) (s3 (s1 l0 1) a4)), aU, aI l6]) f100_68 rfl rfl).trans ?_
    refine (x_iinc (l2 := [aA l0, aI l1, aI l2, aI l3, aL (max (max l4 (s1 (s l0 1) a2)) (s3 (s1 l0 1) a4)), aU, aI (w32 (l6 + 1))]) f100_70 rfl rfl rfl).trans ?_
    refine (x_goto (tg := 16) f100_73 rfl rfl).trans ?_
    rfl
theorem f101_0 : fch 101 0 = some (.aload 0, 1, []) := by decide +kernel
theorem f101_1 : fch 101 1 = some (.iload 1, 2, []) := by decide +kernel
theorem f101_2 : fch 101 2 = some (.iload 2, 3, []) := by decide +kernel
theorem f101_3 : fch 101 3 = some (.iload 3, 4, []) := by decide +kernel
theorem f101_4 : fch 101 4 = some (.invokevirtual 100, 7, []) := by decide +kernel
theorem f101_7 : fch 101 7 = some (.lstore 4, 9, []) := by decide +kernel
theorem f101_9 : fch 101 9 = some (.aload 0, 10, []) := by decide +kernel
theorem f101_10 : fch 101 10 = some (.invokeinterface 7 1, 13, []) := by decide +kernel
theorem f101_13 : fch 101 13 = some (.iload 1, 14, []) := by decide +kernel
theorem f101_14 : fch 101 14 = some (.iload 2, 15, []) := by decide +kernel
theorem f101_15 : fch 101 15 = some (.iload 3, 16, []) := by decide +kernel
theorem f101_16 : fch 101 16 = some (.invokestatic 93, 19, []) := by decide +kernel
theorem f101_19 : fch 101 19 = some (.laload, 20, []) := by decide +kernel
theorem f101_20 : fch 101 20 = some (.lload 4, 22, []) := by decide +kernel
theorem f101_22 : fch 101 22 = some (.lcmp, 23, []) := by decide +kernel
theorem f101_23 : fch 101 23 = some (.ifCond .ne 28, 26, []) := by decide +kernel
theorem f101_26 : fch 101 26 = some (.iconst 0, 27, []) := by decide +kernel
theorem f101_27 : fch 101 27 = some (.ireturn, 28, []) := by decide +kernel
theorem f101_28 : fch 101 28 = some (.iconst 1, 29, []) := by decide +kernel
theorem f101_29 : fch 101 29 = some (.istore 6, 31, []) := by decide +kernel
theorem f101_31 : fch 101 31 = some (.iload 6, 33, []) := by decide +kernel
theorem f101_33 : fch 101 33 = some (.iload 3, 34, []) := by decide +kernel
theorem f101_34 : fch 101 34 = some (.if_icmp .gt 98, 37, []) := by decide +kernel
theorem f101_37 : fch 101 37 = some (.aload 0, 38, []) := by decide +kernel
theorem f101_38 : fch 101 38 = some (.invokeinterface 7 1, 41, []) := by decide +kernel
theorem f101_41 : fch 101 41 = some (.iload 1, 42, []) := by decide +kernel
theorem f101_42 : fch 101 42 = some (.iload 6, 44, []) := by decide +kernel
theorem f101_44 : fch 101 44 = some (.iadd, 45, []) := by decide +kernel
theorem f101_45 : fch 101 45 = some (.iload 2, 46, []) := by decide +kernel
theorem f101_46 : fch 101 46 = some (.iload 3, 47, []) := by decide +kernel
theorem f101_47 : fch 101 47 = some (.iload 6, 49, []) := by decide +kernel
theorem f101_49 : fch 101 49 = some (.isub, 50, []) := by decide +kernel
theorem f101_50 : fch 101 50 = some (.invokestatic 93, 53, []) := by decide +kernel
theorem f101_53 : fch 101 53 = some (.laload, 54, []) := by decide +kernel
theorem f101_54 : fch 101 54 = some (.lload 4, 56, []) := by decide +kernel
theorem f101_56 : fch 101 56 = some (.lcmp, 57, []) := by decide +kernel
theorem f101_57 : fch 101 57 = some (.ifCond .ne 63, 60, []) := by decide +kernel
theorem f101_60 : fch 101 60 = some (.iload 6, 62, []) := by decide +kernel
theorem f101_62 : fch 101 62 = some (.ireturn, 63, []) := by decide +kernel
theorem f101_63 : fch 101 63 = some (.aload 0, 64, []) := by decide +kernel
theorem f101_64 : fch 101 64 = some (.invokeinterface 7 1, 67, []) := by decide +kernel
theorem f101_67 : fch 101 67 = some (.iload 1, 68, []) := by decide +kernel
theorem f101_68 : fch 101 68 = some (.iload 2, 69, []) := by decide +kernel
theorem f101_69 : fch 101 69 = some (.iload 6, 71, []) := by decide +kernel
theorem f101_71 : fch 101 71 = some (.iadd, 72, []) := by decide +kernel
theorem f101_72 : fch 101 72 = some (.iload 3, 73, []) := by decide +kernel
theorem f101_73 : fch 101 73 = some (.iload 6, 75, []) := by decide +kernel
theorem f101_75 : fch 101 75 = some (.isub, 76, []) := by decide +kernel
theorem f101_76 : fch 101 76 = some (.invokestatic 93, 79, []) := by decide +kernel
theorem f101_79 : fch 101 79 = some (.laload, 80, []) := by decide +kernel
theorem f101_80 : fch 101 80 = some (.lload 4, 82, []) := by decide +kernel
theorem f101_82 : fch 101 82 = some (.lcmp, 83, []) := by decide +kernel
theorem f101_83 : fch 101 83 = some (.ifCond .ne 92, 86, []) := by decide +kernel
theorem f101_86 : fch 101 86 = some (.iconst 100, 88, []) := by decide +kernel
theorem f101_88 : fch 101 88 = some (.iload 6, 90, []) := by decide +kernel
theorem f101_90 : fch 101 90 = some (.iadd, 91, []) := by decide +kernel
theorem f101_91 : fch 101 91 = some (.ireturn, 92, []) := by decide +kernel
theorem f101_92 : fch 101 92 = some (.iinc 6 1, 95, []) := by decide +kernel
theorem f101_95 : fch 101 95 = some (.goto 31, 98, []) := by decide +kernel
theorem f101_98 : fch 101 98 = some (.iconst 0, 99, []) := by decide +kernel
theorem f101_99 : fch 101 99 = some (.ireturn, 100, []) := by decide +kernel
set_option maxRecDepth 10000 in
theorem e101_0 (l0 l1 l2 l3 : Int) (s : SG) : sem 101 0 [aA l0, aI l1, aI l2, aI l3, aU, aU, aU] [] s = grd (kd l0 = 7) (bnL (sem 100 0 [aA l0, aI l1, aI l2, aI l3, aU, aU, aU] [] s) fun a2 s1 => grd (kd l0 = 7) (grd (0 ≤ s1 l0 1) (bnI (sem 93 0 [aI l1, aI l2, aI l3, aU] [] s1) fun a4 s3 => grd (kd (s1 l0 1) = 103) (grd ((0 : Int) ≤ a4 ∧ a4 < kl (s1 l0 1)) (if (cmpL (s3 (s1 l0 1) a4) a2) = 0 then some (aI 0, s3) else sem 101 31 [aA l0, aI l1, aI l2, aI l3, aL a2, aU, aI 1] [] s3))))) := by
  refine (x_aload f101_0 rfl rfl).trans ?_
  refine (x_iload f101_1 rfl rfl).trans ?_
  refine (x_iload f101_2 rfl rfl).trans ?_
  refine (x_iload f101_3 rfl rfl).trans ?_
  refine (x_invokevirtual (G := grd (kd l0 = 7) (bnL (sem 100 0 [aA l0, aI l1, aI l2, aI l3, aU, aU, aU] [] s) fun a2 s1 => sem 101 7 [aA l0, aI l1, aI l2, aI l3, aU, aU, aU] [aL a2] s1)) f101_4 rfl rfl).trans ?_
  refine g_c ?_
  refine bL_c fun a2 s1 => ?_
  refine (x_lstore (l2 := [aA l0, aI l1, aI l2, aI l3, aL a2, aU, aU]) f101_7 rfl rfl).trans ?_
  refine (x_aload f101_9 rfl rfl).trans ?_
  refine (x_get2 f101_10 rfl rfl).trans ?_
  refine g_c ?_
  refine g_c ?_
  refine (x_iload f101_13 rfl rfl).trans ?_
  refine (x_iload f101_14 rfl rfl).trans ?_
  refine (x_iload f101_15 rfl rfl).trans ?_
  refine (x_invokestatic (G := bnI (sem 93 0 [aI l1, aI l2, aI l3, aU] [] s1) fun a4 s3 => sem 101 19 [aA l0, aI l1, aI l2, aI l3, aL a2, aU, aU] [aI a4, aA (s1 l0 1)] s3) f101_16 rfl rfl).trans ?_
  refine bI_c fun a4 s3 => ?_
  refine (x_laload f101_19 rfl).trans ?_
  refine g_c ?_
  refine g_c ?_
  refine (x_lload f101_20 rfl rfl).trans ?_
  refine (x_lcmp f101_22 rfl).trans ?_
  refine (x_if_ne (tg := 28) f101_23 rfl rfl).trans (i_c ?_ ?_)
  · refine (x_iconst f101_26 rfl).trans ?_
    exact x_ireturn f101_27 rfl
  · refine (x_iconst f101_28 rfl).trans ?_
    refine (x_istore (l2 := [aA l0, aI l1, aI l2, aI l3, aL a2, aU, aI 1]) f101_29 rfl rfl).trans ?_
    rfl
set_option maxRecDepth 10000 in
theorem e101_31 (l0 l1 l2 l3 l4 l6 : Int) (s : SG) : sem 101 31 [aA l0, aI l1, aI l2, aI l3, aL l4, aU, aI l6] [] s = if l3 < l6 then some (aI 0, s) else grd (kd l0 = 7) (grd (0 ≤ s l0 1) (bnI (sem 93 0 [aI (w32 (l1 + l6)), aI l2, aI (w32 (l3 - l6)), aU] [] s) fun a2 s1 => grd (kd (s l0 1) = 103) (grd ((0 : Int) ≤ a2 ∧ a2 < kl (s l0 1)) (if (cmpL (s1 (s l0 1) a2) l4) = 0 then some (aI l6, s1) else grd (kd l0 = 7) (grd (0 ≤ s1 l0 1) (bnI (sem 93 0 [aI l1, aI (w32 (l2 + l6)), aI (w32 (l3 - l6)), aU] [] s1) fun a4 s3 => grd (kd (s1 l0 1) = 103) (grd ((0 : Int) ≤ a4 ∧ a4 < kl (s1 l0 1)) (if (cmpL (s3 (s1 l0 1) a4) l4) = 0 then some (aI (w32 (100 + l6)), s3) else sem 101 31 [aA l0, aI l1, aI l2, aI l3, aL l4, aU, aI (w32 (l6 + 1))] [] s3)))))))) := by
  refine (x_iload f101_31 rfl rfl).trans ?_
  refine (x_iload f101_33 rfl rfl).trans ?_
  refine (x_icmp_gt (tg := 98) f101_34 rfl rfl).trans (i_c ?_ ?_)
  · refine (x_iconst f101_98 rfl).trans ?_
    exact x_ireturn f101_99 rfl
  · refine (x_aload f101_37 rfl rfl).trans ?_
    refine (x_get2 f101_38 rfl rfl).trans ?_
    refine g_c ?_
    refine g_c ?_
    refine (x_iload f101_41 rfl rfl).trans ?_
    refine (x_iload f101_42 rfl rfl).trans ?_
    refine (x_iadd f101_44 rfl).trans ?_
    refine (x_iload f101_45 rfl rfl).trans ?_
    refine (x_iload f101_46 rfl rfl).trans ?_
    refine (x_iload f101_47 rfl rfl).trans ?_
    refine (x_isub f101_49 rfl).trans ?_
    refine (x_invokestatic (G := bnI (sem 93 0 [aI (w32 (l1 + l6)), aI l2, aI (w32 (l3 - l6)), aU] [] s) fun a2 s1 => sem 101 53 [aA l0, aI l1, aI l2, aI l3, aL l4, aU, aI l6] [aI a2, aA (s l0 1)] s1) f101_50 rfl rfl).trans ?_
    refine bI_c fun a2 s1 => ?_
    refine (x_laload f101_53 rfl).trans ?_
    refine g_c ?_
    refine g_c ?_
    refine (x_lload f101_54 rfl rfl).trans ?_
    refine (x_lcmp f101_56 rfl).trans ?_
    refine (x_if_ne (tg := 63) f101_57 rfl rfl).trans (i_c ?_ ?_)
    · refine (x_iload f101_60 rfl rfl).trans ?_
      exact x_ireturn f101_62 rfl
    · refine (x_aload f101_63 rfl rfl).trans ?_
      refine (x_get2 f101_64 rfl rfl).trans ?_
      refine g_c ?_
      refine g_c ?_
      refine (x_iload f101_67 rfl rfl).trans ?_
      refine (x_iload f101_68 rfl rfl).trans ?_
      refine (x_iload f101_69 rfl rfl).trans ?_
      refine (x_iadd f101_71 rfl).trans ?_
      refine (x_iload f101_72 rfl rfl).trans ?_
      refine (x_iload f101_73 rfl rfl).trans ?_
      refine (x_isub f101_75 rfl).trans ?_
      refine (x_invokestatic (G := bnI (sem 93 0 [aI l1, aI (w32 (l2 + l6)), aI (w32 (l3 - l6)), aU] [] s1) fun a4 s3 => sem 101 79 [aA l0, aI l1, aI l2, aI l3, aL l4, aU, aI l6] [aI a4, aA (s1 l0 1)] s3) f101_76 rfl rfl).trans ?_
      refine bI_c fun a4 s3 => ?_
      refine (x_laload f101_79 rfl).trans ?_
      refine g_c ?_
      refine g_c ?_
      refine (x_lload f101_80 rfl rfl).trans ?_
      refine (x_lcmp f101_82 rfl).trans ?_
      refine (x_if_ne (tg := 92) f101_83 rfl rfl).trans (i_c ?_ ?_)
      · refine (x_iconst f101_86 rfl).trans ?_
        refine (x_iload f101_88 rfl rfl).trans ?_
        refine (x_iadd f101_90 rfl).trans ?_
        exact x_ireturn f101_91 rfl
      · refine (x_iinc (l2 := [aA l0, aI l1, aI l2, aI l3, aL l4, aU, aI (w32 (l6 + 1))]) f101_92 rfl rfl rfl).trans ?_
        refine (x_goto (tg := 31) f101_95 rfl rfl).trans ?_
        rfl
theorem f102_0 : fch 102 0 = some (.aload 0, 1, []) := by decide +kernel
theorem f102_1 : fch 102 1 = some (.monitorexit, 4, []) := by decide +kernel
theorem f102_4 : fch 102 4 = some (.aload 0, 5, []) := by decide +kernel
theorem f102_5 : fch 102 5 = some (.new 5, 8, []) := by decide +kernel
theorem f102_8 : fch 102 8 = some (.dup, 9, []) := by decide +kernel
theorem f102_9 : fch 102 9 = some (.invokespecial 74, 12, []) := by decide +kernel
theorem f102_12 : fch 102 12 = some (.multianewarray 8 0, 15, []) := by decide +kernel
theorem f102_15 : fch 102 15 = some (.aload 0, 16, []) := by decide +kernel
theorem f102_16 : fch 102 16 = some (.new 2, 19, []) := by decide +kernel
theorem f102_19 : fch 102 19 = some (.dup, 20, []) := by decide +kernel
theorem f102_20 : fch 102 20 = some (.invokespecial 30, 23, []) := by decide +kernel
theorem f102_23 : fch 102 23 = some (.multianewarray 8 1, 26, []) := by decide +kernel
theorem f102_26 : fch 102 26 = some (.aload 0, 27, []) := by decide +kernel
theorem f102_27 : fch 102 27 = some (.new 0, 30, []) := by decide +kernel
theorem f102_30 : fch 102 30 = some (.dup, 31, []) := by decide +kernel
theorem f102_31 : fch 102 31 = some (.invokespecial 0, 34, []) := by decide +kernel
theorem f102_34 : fch 102 34 = some (.multianewarray 8 2, 37, []) := by decide +kernel
theorem f102_37 : fch 102 37 = some (.aload 0, 38, []) := by decide +kernel
theorem f102_38 : fch 102 38 = some (.new 4, 41, []) := by decide +kernel
theorem f102_41 : fch 102 41 = some (.dup, 42, []) := by decide +kernel
theorem f102_42 : fch 102 42 = some (.invokespecial 64, 45, []) := by decide +kernel
theorem f102_45 : fch 102 45 = some (.multianewarray 8 3, 48, []) := by decide +kernel
theorem f102_48 : fch 102 48 = some (.aload 0, 49, []) := by decide +kernel
theorem f102_49 : fch 102 49 = some (.new 7, 52, []) := by decide +kernel
theorem f102_52 : fch 102 52 = some (.dup, 53, []) := by decide +kernel
theorem f102_53 : fch 102 53 = some (.invokespecial 90, 56, []) := by decide +kernel
theorem f102_56 : fch 102 56 = some (.multianewarray 8 4, 59, []) := by decide +kernel
theorem f102_59 : fch 102 59 = some (.aload 0, 60, []) := by decide +kernel
theorem f102_60 : fch 102 60 = some (.new 1, 63, []) := by decide +kernel
theorem f102_63 : fch 102 63 = some (.dup, 64, []) := by decide +kernel
theorem f102_64 : fch 102 64 = some (.invokespecial 17, 67, []) := by decide +kernel
theorem f102_67 : fch 102 67 = some (.multianewarray 8 5, 70, []) := by decide +kernel
theorem f102_70 : fch 102 70 = some (.aload 0, 71, []) := by decide +kernel
theorem f102_71 : fch 102 71 = some (.new 3, 74, []) := by decide +kernel
theorem f102_74 : fch 102 74 = some (.dup, 75, []) := by decide +kernel
theorem f102_75 : fch 102 75 = some (.invokespecial 44, 78, []) := by decide +kernel
theorem f102_78 : fch 102 78 = some (.multianewarray 8 6, 81, []) := by decide +kernel
theorem f102_81 : fch 102 81 = some (.aload 0, 82, []) := by decide +kernel
theorem f102_82 : fch 102 82 = some (.iconst 2, 83, []) := by decide +kernel
theorem f102_83 : fch 102 83 = some (.anewarray 0, 86, []) := by decide +kernel
theorem f102_86 : fch 102 86 = some (.multianewarray 8 7, 89, []) := by decide +kernel
theorem f102_89 : fch 102 89 = some (.aload 0, 90, []) := by decide +kernel
theorem f102_90 : fch 102 90 = some (.iconst 2, 91, []) := by decide +kernel
theorem f102_91 : fch 102 91 = some (.newarray .boolean, 93, []) := by decide +kernel
theorem f102_93 : fch 102 93 = some (.multianewarray 8 8, 96, []) := by decide +kernel
theorem f102_96 : fch 102 96 = some (.aload 0, 97, []) := by decide +kernel
theorem f102_97 : fch 102 97 = some (.new 6, 100, []) := by decide +kernel
theorem f102_100 : fch 102 100 = some (.dup, 101, []) := by decide +kernel
theorem f102_101 : fch 102 101 = some (.invokespecial 80, 104, []) := by decide +kernel
theorem f102_104 : fch 102 104 = some (.multianewarray 8 9, 107, []) := by decide +kernel
theorem f102_107 : fch 102 107 = some (.aload 0, 108, []) := by decide +kernel
theorem f102_108 : fch 102 108 = some (.new 6, 111, []) := by decide +kernel
theorem f102_111 : fch 102 111 = some (.dup, 112, []) := by decide +kernel
theorem f102_112 : fch 102 112 = some (.invokespecial 80, 115, []) := by decide +kernel
theorem f102_115 : fch 102 115 = some (.multianewarray 8 10, 118, []) := by decide +kernel
theorem f102_118 : fch 102 118 = some (.iconst 0, 119, []) := by decide +kernel
theorem f102_119 : fch 102 119 = some (.istore 1, 120, []) := by decide +kernel
theorem f102_120 : fch 102 120 = some (.iload 1, 121, []) := by decide +kernel
theorem f102_121 : fch 102 121 = some (.iconst 2, 122, []) := by decide +kernel
theorem f102_122 : fch 102 122 = some (.if_icmp .ge 144, 125, []) := by decide +kernel
theorem f102_125 : fch 102 125 = some (.aload 0, 126, []) := by decide +kernel
theorem f102_126 : fch 102 126 = some (.invokeinterface 8 7, 129, []) := by decide +kernel
theorem f102_129 : fch 102 129 = some (.iload 1, 130, []) := by decide +kernel
theorem f102_130 : fch 102 130 = some (.new 1, 133, []) := by decide +kernel
theorem f102_133 : fch 102 133 = some (.dup, 134, []) := by decide +kernel
theorem f102_134 : fch 102 134 = some (.invokespecial 17, 137, []) := by decide +kernel
theorem f102_137 : fch 102 137 = some (.aastore, 138, []) := by decide +kernel
theorem f102_138 : fch 102 138 = some (.iinc 1 1, 141, []) := by decide +kernel
theorem f102_141 : fch 102 141 = some (.goto 120, 144, []) := by decide +kernel
theorem f102_144 : fch 102 144 = some (.aload 0, 145, []) := by decide +kernel
theorem f102_145 : fch 102 145 = some (.invokeinterface 8 2, 148, []) := by decide +kernel
theorem f102_148 : fch 102 148 = some (.aload 0, 149, []) := by decide +kernel
theorem f102_149 : fch 102 149 = some (.invokeinterface 8 9, 152, []) := by decide +kernel
theorem f102_152 : fch 102 152 = some (.invokevirtual 1, 155, []) := by decide +kernel
theorem f102_155 : fch 102 155 = some (.return_, 156, []) := by decide +kernel
set_option maxRecDepth 10000 in
theorem e102_0 (l0 : Int) (s : SG) : sem 102 0 [aA l0, aU] [] s = grd (kd (s (-1) 0) = 5) (grd (kd (s (-1) 0) = 5) (bnV (sem 74 0 [aA (s (-1) 0)] [] (alc s (kl (s (-1) 0)) (fun i => if fty 5 i.toNat = 2 then -1 else 0))) fun s1 => grd (kd l0 = 8) (grd (0 ≤ s (-1) 0) (grd (kd ((up s1 l0 0 (s (-1) 0)) (-1) 0) = 2) (grd (kd ((up s1 l0 0 (s (-1) 0)) (-1) 0) = 2) (bnV (sem 30 0 [aA ((up s1 l0 0 (s (-1) 0)) (-1) 0)] [] (alc (up s1 l0 0 (s (-1) 0)) (kl ((up s1 l0 0 (s (-1) 0)) (-1) 0)) (fun i => if fty 2 i.toNat = 2 then -1 else 0))) fun s2 => grd (kd l0 = 8) (grd (0 ≤ (up s1 l0 0 (s (-1) 0)) (-1) 0) (grd (kd ((up s2 l0 1 ((up s1 l0 0 (s (-1) 0)) (-1) 0)) (-1) 0) = 0) (grd (kd ((up s2 l0 1 ((up s1 l0 0 (s (-1) 0)) (-1) 0)) (-1) 0) = 0) (bnV (sem 0 0 [aA ((up s2 l0 1 ((up s1 l0 0 (s (-1) 0)) (-1) 0)) (-1) 0)] [] (alc (up s2 l0 1 ((up s1 l0 0 (s (-1) 0)) (-1) 0)) (kl ((up s2 l0 1 ((up s1 l0 0 (s (-1) 0)) (-1) 0)) (-1) 0)) (fun i => if fty 0 i.toNat = 2 then -1 else 0))) fun s3 => grd (kd l0 = 8) (grd (0 ≤ (up s2 l0 1 ((up s1 l0 0 (s (-1) 0)) (-1) 0)) (-1) 0) (grd (kd ((up s3 l0 2 ((up s2 l0 1 ((up s1 l0 0 (s (-1) 0)) (-1) 0)) (-1) 0)) (-1) 0) = 4) (grd (kd ((up s3 l0 2 ((up s2 l0 1 ((up s1 l0 0 (s (-1) 0)) (-1) 0)) (-1) 0)) (-1) 0) = 4) (bnV (sem 64 0 [aA ((up s3 l0 2 ((up s2 l0 1 ((up s1 l0 0 (s (-1) 0)) (-1) 0)) (-1) 0)) (-1) 0)] [] (alc (up s3 l0 2 ((up s2 l0 1 ((up s1 l0 0 (s (-1) 0)) (-1) 0)) (-1) 0)) (kl ((up s3 l0 2 ((up s2 l0 1 ((up s1 l0 0 (s (-1) 0)) (-1) 0)) (-1) 0)) (-1) 0)) (fun i => if fty 4 i.toNat = 2 then -1 else 0))) fun s4 => grd (kd l0 = 8) (grd (0 ≤ (up s3 l0 2 ((up s2 l0 1 ((up s1 l0 0 (s (-1) 0)) (-1) 0)) (-1) 0)) (-1) 0) (grd (kd ((up s4 l0 3 ((up s3 l0 2 ((up s2 l0 1 ((up s1 l0 0 (s (-1) 0)) (-1) 0)) (-1) 0)) (-1) 0)) (-1) 0) = 7) (grd (kd ((up s4 l0 3 ((up s3 l0 2 ((up s2 l0 1 ((up s1 l0 0 (s (-1) 0)) (-1) 0)) (-1) 0)) (-1) 0)) (-1) 0) = 7) (bnV (sem 90 0 [aA ((up s4 l0 3 ((up s3 l0 2 ((up s2 l0 1 ((up s1 l0 0 (s (-1) 0)) (-1) 0)) (-1) 0)) (-1) 0)) (-1) 0)] [] (alc (up s4 l0 3 ((up s3 l0 2 ((up s2 l0 1 ((up s1 l0 0 (s (-1) 0)) (-1) 0)) (-1) 0)) (-1) 0)) (kl ((up s4 l0 3 ((up s3 l0 2 ((up s2 l0 1 ((up s1 l0 0 (s (-1) 0)) (-1) 0)) (-1) 0)) (-1) 0)) (-1) 0)) (fun i => if fty 7 i.toNat = 2 then -1 else 0))) fun s5 => grd (kd l0 = 8) (grd (0 ≤ (up s4 l0 3 ((up s3 l0 2 ((up s2 l0 1 ((up s1 l0 0 (s (-1) 0)) (-1) 0)) (-1) 0)) (-1) 0)) (-1) 0) (grd (kd ((up s5 l0 4 ((up s4 l0 3 ((up s3 l0 2 ((up s2 l0 1 ((up s1 l0 0 (s (-1) 0)) (-1) 0)) (-1) 0)) (-1) 0)) (-1) 0)) (-1) 0) = 1) (sem 102 63 [aA l0, aU] [aA ((up s5 l0 4 ((up s4 l0 3 ((up s3 l0 2 ((up s2 l0 1 ((up s1 l0 0 (s (-1) 0)) (-1) 0)) (-1) 0)) (-1) 0)) (-1) 0)) (-1) 0), aA l0] (alc (up s5 l0 4 ((up s4 l0 3 ((up s3 l0 2 ((up s2 l0 1 ((up s1 l0 0 (s (-1) 0)) (-1) 0)) (-1) 0)) (-1) 0)) (-1) 0)) (kl ((up s5 l0 4 ((up s4 l0 3 ((up s3 l0 2 ((up s2 l0 1 ((up s1 l0 0 (s (-1) 0)) (-1) 0)) (-1) 0)) (-1) 0)) (-1) 0)) (-1) 0)) (fun i => if fty 1 i.toNat = 2 then -1 else 0))))))))))))))))))))))) := by
  refine (x_aload f102_0 rfl rfl).trans ?_
  refine (x_monitorexit f102_1 rfl rfl).trans ?_
  refine (x_aload f102_4 rfl rfl).trans ?_
  refine (x_new f102_5 rfl).trans ?_
  refine g_c ?_
  refine (x_dup f102_8 rfl rfl).trans ?_
  refine (x_invokespecial (G := grd (kd (s (-1) 0) = 5) (bnV (sem 74 0 [aA (s (-1) 0)] [] (alc s (kl (s (-1) 0)) (fun i => if fty 5 i.toNat = 2 then -1 else 0))) fun s1 => sem 102 12 [aA l0, aU] [aA (s (-1) 0), aA l0] s1)) f102_9 rfl rfl).trans ?_
  refine g_c ?_
  refine bV_c fun s1 => ?_
  refine (x_put2 f102_12 rfl rfl).trans ?_
  refine g_c ?_
  refine g_c ?_
  refine (x_aload f102_15 rfl rfl).trans ?_
  refine (x_new f102_16 rfl).trans ?_
  refine g_c ?_
  refine (x_dup f102_19 rfl rfl).trans ?_
  refine (x_invokespecial (G := grd (kd ((up s1 l0 0 (s (-1) 0)) (-1) 0) = 2) (bnV (sem 30 0 [aA ((up s1 l0 0 (s (-1) 0)) (-1) 0)] [] (alc (up s1 l0 0 (s (-1) 0)) (kl ((up s1 l0 0 (s (-1) 0)) (-1) 0)) (fun i => if fty 2 i.toNat = 2 then -1 else 0))) fun s2 => sem 102 23 [aA l0, aU] [aA ((up s1 l0 0 (s (-1) 0)) (-1) 0), aA l0] s2)) f102_20 rfl rfl).trans ?_
  refine g_c ?_
  refine bV_c fun s2 => ?_
  refine (x_put2 f102_23 rfl rfl).trans ?_
  refine g_c ?_
  refine g_c ?_
  refine (x_aload f102_26 rfl rfl).trans ?_
  refine (x_new f102_27 rfl).trans ?_
  refine g_c ?_
  refine (x_dup f102_30 rfl rfl).trans ?_
  refine (x_invokespecial (G := grd (kd ((up s2 l0 1 ((up s1 l0 0 (s (-1) 0)) (-1) 0)) (-1) 0) = 0) (bnV (sem 0 0 [aA ((up s2 l0 1 ((up s1 l0 0 (s (-1) 0)) (-1) 0)) (-1) 0)] [] (alc (up s2 l0 1 ((up s1 l0 0 (s (-1) 0)) (-1) 0)) (kl ((up s2 l0 1 ((up s1 l0 0 (s (-1) 0)) (-1) 0)) (-1) 0)) (fun i => if fty 0 i.toNat = 2 then -1 else 0))) fun s3 => sem 102 34 [aA l0, aU] [aA ((up s2 l0 1 ((up s1 l0 0 (s (-1) 0)) (-1) 0)) (-1) 0), aA l0] s3)) f102_31 rfl rfl).trans ?_
  refine g_c ?_
  refine bV_c fun s3 => ?_
  refine (x_put2 f102_34 rfl rfl).trans ?_
  refine g_c ?_
  refine g_c ?_
  refine (x_aload f102_37 rfl rfl).trans ?_
  refine (x_new f102_38 rfl).trans ?_
  refine g_c ?_
  refine (x_dup f102_41 rfl rfl).trans ?_
  refine (x_invokespecial (G := grd (kd ((up s3 l0 2 ((up s2 l0 1 ((up s1 l0 0 (s (-1) 0)) (-1) 0)) (-1) 0)) (-1) 0) = 4) (bnV (sem 64 0 [aA ((up s3 l0 2 ((up s2 l0 1 ((up s1 l0 0 (s (-1) 0)) (-1) 0)) (-1) 0)) (-1) 0)] [] (alc (up s3 l0 2 ((up s2 l0 1 ((up s1 l0 0 (s (-1) 0)) (-1) 0)) (-1) 0)) (kl ((up s3 l0 2 ((up s2 l0 1 ((up s1 l0 0 (s (-1) 0)) (-1) 0)) (-1) 0)) (-1) 0)) (fun i => if fty 4 i.toNat = 2 then -1 else 0))) fun s4 => sem 102 45 [aA l0, aU] [aA ((up s3 l0 2 ((up s2 l0 1 ((up s1 l0 0 (s (-1) 0)) (-1) 0)) (-1) 0)) (-1) 0), aA l0] s4)) f102_42 rfl rfl).trans ?_
  refine g_c ?_
  refine bV_c fun s4 => ?_
  refine (x_put2 f102_45 rfl rfl).trans ?_
  refine g_c ?_
  refine g_c ?_
  refine (x_aload f102_48 rfl rfl).trans ?_
  refine (x_new f102_49 rfl).trans ?_
  refine g_c ?_
  refine (x_dup f102_52 rfl rfl).trans ?_
  refine (x_invokespecial (G := grd (kd ((up s4 l0 3 ((up s3 l0 2 ((up s2 l0 1 ((up s1 l0 0 (s (-1) 0)) (-1) 0)) (-1) 0)) (-1) 0)) (-1) 0) = 7) (bnV (sem 90 0 [aA ((up s4 l0 3 ((up s3 l0 2 ((up s2 l0 1 ((up s1 l0 0 (s (-1) 0)) (-1) 0)) (-1) 0)) (-1) 0)) (-1) 0)] [] (alc (up s4 l0 3 ((up s3 l0 2 ((up s2 l0 1 ((up s1 l0 0 (s (-1) 0)) (-1) 0)) (-1) 0)) (-1) 0)) (kl ((up s4 l0 3 ((up s3 l0 2 ((up s2 l0 1 ((up s1 l0 0 (s (-1) 0)) (-1) 0)) (-1) 0)) (-1) 0)) (-1) 0)) (fun i => if fty 7 i.toNat = 2 then -1 else 0))) fun s5 => sem 102 56 [aA l0, aU] [aA ((up s4 l0 3 ((up s3 l0 2 ((up s2 l0 1 ((up s1 l0 0 (s (-1) 0)) (-1) 0)) (-1) 0)) (-1) 0)) (-1) 0), aA l0] s5)) f102_53 rfl rfl).trans ?_
  refine g_c ?_
  refine bV_c fun s5 => ?_
  refine (x_put2 f102_56 rfl rfl).trans ?_
  refine g_c ?_
  refine g_c ?_
  refine (x_aload f102_59 rfl rfl).trans ?_
  refine (x_new f102_60 rfl).trans ?_
  refine g_c ?_
  rfl
set_option maxRecDepth 10000 in
theorem e102_63 (l0 v0 v1 : Int) (s : SG) : sem 102 63 [aA l0, aU] [aA v0, aA v1] s = grd (kd v0 = 1) (bnV (sem 17 0 [aA v0] [] s) fun s1 => grd (kd v1 = 8) (grd (0 ≤ v0) (grd (kd ((up s1 v1 5 v0) (-1) 0) = 3) (grd (kd ((up s1 v1 5 v0) (-1) 0) = 3) (bnV (sem 44 0 [aA ((up s1 v1 5 v0) (-1) 0)] [] (alc (up s1 v1 5 v0) (kl ((up s1 v1 5 v0) (-1) 0)) (fun i => if fty 3 i.toNat = 2 then -1 else 0))) fun s2 => grd (kd l0 = 8) (grd (0 ≤ (up s1 v1 5 v0) (-1) 0) (grd (kd ((up s2 l0 6 ((up s1 v1 5 v0) (-1) 0)) (-1) 0) = 104 ∧ kl ((up s2 l0 6 ((up s1 v1 5 v0) (-1) 0)) (-1) 0) = 2) (grd (kd l0 = 8) (grd (0 ≤ (up s2 l0 6 ((up s1 v1 5 v0) (-1) 0)) (-1) 0) (grd (kd ((up (alc (up s2 l0 6 ((up s1 v1 5 v0) (-1) 0)) 2 (fun _ => -1)) l0 7 ((up s2 l0 6 ((up s1 v1 5 v0) (-1) 0)) (-1) 0)) (-1) 0) = akind .boolean ∧ kl ((up (alc (up s2 l0 6 ((up s1 v1 5 v0) (-1) 0)) 2 (fun _ => -1)) l0 7 ((up s2 l0 6 ((up s1 v1 5 v0) (-1) 0)) (-1) 0)) (-1) 0) = 2) (grd (kd l0 = 8) (grd (0 ≤ (up (alc (up s2 l0 6 ((up s1 v1 5 v0) (-1) 0)) 2 (fun _ => -1)) l0 7 ((up s2 l0 6 ((up s1 v1 5 v0) (-1) 0)) (-1) 0)) (-1) 0) (sem 102 96 [aA l0, aU] [] (up (alc (up (alc (up s2 l0 6 ((up s1 v1 5 v0) (-1) 0)) 2 (fun _ => -1)) l0 7 ((up s2 l0 6 ((up s1 v1 5 v0) (-1) 0)) (-1) 0)) 2 (fun _ => 0)) l0 8 ((up (alc (up s2 l0 6 ((up s1 v1 5 v0) (-1) 0)) 2 (fun _ => -1)) l0 7 ((up s2 l0 6 ((up s1 v1 5 v0) (-1) 0)) (-1) 0)) (-1) 0))))))))))))))) := by
  refine (x_dup f102_63 rfl rfl).trans ?_
  refine (x_invokespecial (G := grd (kd v0 = 1) (bnV (sem 17 0 [aA v0] [] s) fun s1 => sem 102 67 [aA l0, aU] [aA v0, aA v1] s1)) f102_64 rfl rfl).trans ?_
  refine g_c ?_
  refine bV_c fun s1 => ?_
  refine (x_put2 f102_67 rfl rfl).trans ?_
  refine g_c ?_
  refine g_c ?_
  refine (x_aload f102_70 rfl rfl).trans ?_
  refine (x_new f102_71 rfl).trans ?_
  refine g_c ?_
  refine (x_dup f102_74 rfl rfl).trans ?_
  refine (x_invokespecial (G := grd (kd ((up s1 v1 5 v0) (-1) 0) = 3) (bnV (sem 44 0 [aA ((up s1 v1 5 v0) (-1) 0)] [] (alc (up s1 v1 5 v0) (kl ((up s1 v1 5 v0) (-1) 0)) (fun i => if fty 3 i.toNat = 2 then -1 else 0))) fun s2 => sem 102 78 [aA l0, aU] [aA ((up s1 v1 5 v0) (-1) 0), aA l0] s2)) f102_75 rfl rfl).trans ?_
  refine g_c ?_
  refine bV_c fun s2 => ?_
  refine (x_put2 f102_78 rfl rfl).trans ?_
  refine g_c ?_
  refine g_c ?_
  refine (x_aload f102_81 rfl rfl).trans ?_
  refine (x_iconst f102_82 rfl).trans ?_
  refine (x_anewarray f102_83 rfl).trans ?_
  refine g_c ?_
  refine (x_put2 f102_86 rfl rfl).trans ?_
  refine g_c ?_
  refine g_c ?_
  refine (x_aload f102_89 rfl rfl).trans ?_
  refine (x_iconst f102_90 rfl).trans ?_
  refine (x_newarray f102_91 rfl).trans ?_
  refine g_c ?_
  refine (x_put2 f102_93 rfl rfl).trans ?_
  refine g_c ?_
  refine g_c ?_
  rfl
set_option maxRecDepth 10000 in
theorem e102_96 (l0 : Int) (s : SG) : sem 102 96 [aA l0, aU] [] s = grd (kd (s (-1) 0) = 6) (grd (kd (s (-1) 0) = 6) (bnV (sem 80 0 [aA (s (-1) 0)] [] (alc s (kl (s (-1) 0)) (fun i => if fty 6 i.toNat = 2 then -1 else 0))) fun s1 => grd (kd l0 = 8) (grd (0 ≤ s (-1) 0) (grd (kd ((up s1 l0 9 (s (-1) 0)) (-1) 0) = 6) (grd (kd ((up s1 l0 9 (s (-1) 0)) (-1) 0) = 6) (bnV (sem 80 0 [aA ((up s1 l0 9 (s (-1) 0)) (-1) 0)] [] (alc (up s1 l0 9 (s (-1) 0)) (kl ((up s1 l0 9 (s (-1) 0)) (-1) 0)) (fun i => if fty 6 i.toNat = 2 then -1 else 0))) fun s2 => grd (kd l0 = 8) (grd (0 ≤ (up s1 l0 9 (s (-1) 0)) (-1) 0) (sem 102 120 [aA l0, aI 0] [] (up s2 l0 10 ((up s1 l0 9 (s (-1) 0)) (-1) 0)))))))))) := by
  refine (x_aload f102_96 rfl rfl).trans ?_
  refine (x_new f102_97 rfl).trans ?_
  refine g_c ?_
  refine (x_dup f102_100 rfl rfl).trans ?_
  refine (x_invokespecial (G := grd (kd (s (-1) 0) = 6) (bnV (sem 80 0 [aA (s (-1) 0)] [] (alc s (kl (s (-1) 0)) (fun i => if fty 6 i.toNat = 2 then -1 else 0))) fun s1 => sem 102 104 [aA l0, aU] [aA (s (-1) 0), aA l0] s1)) f102_101 rfl rfl).trans ?_
  refine g_c ?_
  refine bV_c fun s1 => ?_
  refine (x_put2 f102_104 rfl rfl).trans ?_
  refine g_c ?_
  refine g_c ?_
  refine (x_aload f102_107 rfl rfl).trans ?_
  refine (x_new f102_108 rfl).trans ?_
  refine g_c ?_
  refine (x_dup f102_111 rfl rfl).trans ?_
  refine (x_invokespecial (G := grd (kd ((up s1 l0 9 (s (-1) 0)) (-1) 0) = 6) (bnV (sem 80 0 [aA ((up s1 l0 9 (s (-1) 0)) (-1) 0)] [] (alc (up s1 l0 9 (s (-1) 0)) (kl ((up s1 l0 9 (s (-1) 0)) (-1) 0)) (fun i => if fty 6 i.toNat = 2 then -1 else 0))) fun s2 => sem 102 115 [aA l0, aU] [aA ((up s1 l0 9 (s (-1) 0)) (-1) 0), aA l0] s2)) f102_112 rfl rfl).trans ?_
  refine g_c ?_
  refine bV_c fun s2 => ?_
  refine (x_put2 f102_115 rfl rfl).trans ?_
  refine g_c ?_
  refine g_c ?_
  refine (x_iconst f102_118 rfl).trans ?_
  refine (x_istore (l2 := [aA l0, aI 0]) f102_119 rfl rfl).trans ?_
  rfl
set_option maxRecDepth 10000 in
theorem e102_120 (l0 l1 : Int) (s : SG) : sem 102 120 [aA l0, aI l1] [] s = if l1 < 2 then grd (kd l0 = 8) (grd (0 ≤ s l0 7) (grd (kd (s (-1) 0) = 1) (grd (kd (s (-1) 0) = 1) (bnV (sem 17 0 [aA (s (-1) 0)] [] (alc s (kl (s (-1) 0)) (fun i => if fty 1 i.toNat = 2 then -1 else 0))) fun s1 => grd (kd (s l0 7) = 104) (grd ((0 : Int) ≤ l1 ∧ l1 < kl (s l0 7)) (grd (kd (s (-1) 0) = 1) (sem 102 120 [aA l0, aI (w32 (l1 + 1))] [] (up s1 (s l0 7) l1 (s (-1) 0))))))))) else grd (kd l0 = 8) (grd (0 ≤ s l0 2) (grd (kd l0 = 8) (grd (0 ≤ s l0 9) (grd (kd (s l0 2) = 0) (bnV (sem 1 0 [aA (s l0 2), aA (s l0 9), aU, aU] [] s) fun s2 => some (aU, s2)))))) := by
  refine (x_iload f102_120 rfl rfl).trans ?_
  refine (x_iconst f102_121 rfl).trans ?_
  refine (x_icmp_ge (tg := 144) f102_122 rfl rfl).trans (i_c ?_ ?_)
  · refine (x_aload f102_125 rfl rfl).trans ?_
    refine (x_get2 f102_126 rfl rfl).trans ?_
    refine g_c ?_
    refine g_c ?_
    refine (x_iload f102_129 rfl rfl).trans ?_
    refine (x_new f102_130 rfl).trans ?_
    refine g_c ?_
    refine (x_dup f102_133 rfl rfl).trans ?_
    refine (x_invokespecial (G := grd (kd (s (-1) 0) = 1) (bnV (sem 17 0 [aA (s (-1) 0)] [] (alc s (kl (s (-1) 0)) (fun i => if fty 1 i.toNat = 2 then -1 else 0))) fun s1 => sem 102 137 [aA l0, aI l1] [aA (s (-1) 0), aI l1, aA (s l0 7)] s1)) f102_134 rfl rfl).trans ?_
    refine g_c ?_
    refine bV_c fun s1 => ?_
    refine (x_aastore f102_137 rfl).trans ?_
    refine g_c ?_
    refine g_c ?_
    refine g_c ?_
    refine (x_iinc (l2 := [aA l0, aI (w32 (l1 + 1))]) f102_138 rfl rfl rfl).trans ?_
    refine (x_goto (tg := 120) f102_141 rfl rfl).trans ?_
    rfl
  · refine (x_aload f102_144 rfl rfl).trans ?_
    refine (x_get2 f102_145 rfl rfl).trans ?_
    refine g_c ?_
    refine g_c ?_
    refine (x_aload f102_148 rfl rfl).trans ?_
    refine (x_get2 f102_149 rfl rfl).trans ?_
    refine g_c ?_
    refine g_c ?_
    refine (x_invokevirtual (G := grd (kd (s l0 2) = 0) (bnV (sem 1 0 [aA (s l0 2), aA (s l0 9), aU, aU] [] s) fun s2 => sem 102 155 [aA l0, aI l1] [] s2)) f102_152 rfl rfl).trans ?_
    refine g_c ?_
    refine bV_c fun s2 => ?_
    exact x_return f102_155 rfl
theorem f103_0 : fch 103 0 = some (.iload 1, 1, []) := by decide +kernel
theorem f103_1 : fch 103 1 = some (.iconst 1, 2, []) := by decide +kernel
theorem f103_2 : fch 103 2 = some (.if_icmp .lt 11, 5, []) := by decide +kernel
theorem f103_5 : fch 103 5 = some (.iload 1, 6, []) := by decide +kernel
theorem f103_6 : fch 103 6 = some (.iconst 8, 8, []) := by decide +kernel
theorem f103_8 : fch 103 8 = some (.if_icmp .le 14, 11, []) := by decide +kernel
theorem f103_11 : fch 103 11 = some (.iconst (-2), 13, [0, 1, 2]) := by decide +kernel
theorem f103_13 : fch 103 13 = some (.ireturn, 14, []) := by decide +kernel
theorem f103_14 : fch 103 14 = some (.aload 0, 15, []) := by decide +kernel
theorem f103_15 : fch 103 15 = some (.invokeinterface 8 0, 18, []) := by decide +kernel
theorem f103_18 : fch 103 18 = some (.iload 1, 19, []) := by decide +kernel
theorem f103_19 : fch 103 19 = some (.invokevirtual 76, 22, []) := by decide +kernel
theorem f103_22 : fch 103 22 = some (.ifCond .ne 28, 25, []) := by decide +kernel
theorem f103_25 : fch 103 25 = some (.iconst (-4), 27, []) := by decide +kernel
theorem f103_27 : fch 103 27 = some (.ireturn, 28, []) := by decide +kernel
theorem f103_28 : fch 103 28 = some (.aload 0, 29, []) := by decide +kernel
theorem f103_29 : fch 103 29 = some (.invokeinterface 8 0, 32, []) := by decide +kernel
theorem f103_32 : fch 103 32 = some (.iload 1, 33, []) := by decide +kernel
theorem f103_33 : fch 103 33 = some (.lload 2, 34, []) := by decide +kernel
theorem f103_34 : fch 103 34 = some (.invokevirtual 77, 37, []) := by decide +kernel
theorem f103_37 : fch 103 37 = some (.aload 0, 38, []) := by decide +kernel
theorem f103_38 : fch 103 38 = some (.invokeinterface 8 0, 41, []) := by decide +kernel
theorem f103_41 : fch 103 41 = some (.invokevirtual 75, 44, []) := by decide +kernel
theorem f103_44 : fch 103 44 = some (.ireturn, 45, []) := by decide +kernel
set_option maxRecDepth 10000 in
theorem e103_0 (l0 l1 l2 : Int) (s : SG) : sem 103 0 [aA l0, aI l1, aL l2, aU] [] s = if l1 < 1 then some (aI ((-2)), s) else if (8 : Int) < l1 then some (aI ((-2)), s) else grd (kd l0 = 8) (grd (0 ≤ s l0 0) (grd (kd (s l0 0) = 5) (bnI (sem 76 0 [aA (s l0 0), aI l1] [] s) fun a2 s1 => if a2 = 0 then some (aI ((-4)), s1) else grd (kd l0 = 8) (grd (0 ≤ s1 l0 0) (grd (kd (s1 l0 0) = 5) (bnV (sem 77 0 [aA (s1 l0 0), aI l1, aL l2, aU, aU] [] s1) fun s3 => grd (kd l0 = 8) (grd (0 ≤ s3 l0 0) (grd (kd (s3 l0 0) = 5) (bnI (sem 75 0 [aA (s3 l0 0)] [] s3) fun a5 s4 => some (aI a5, s4)))))))))) := by
  refine (x_iload f103_0 rfl rfl).trans ?_
  refine (x_iconst f103_1 rfl).trans ?_
  refine (x_icmp_lt (tg := 11) f103_2 rfl rfl).trans (i_c ?_ ?_)
  · refine (x_kil (l2 := [aU, aU, aU, aU]) f103_11 rfl).trans ?_
    refine (x_iconst f103_11 rfl).trans ?_
    exact x_ireturn f103_13 rfl
  · refine (x_iload f103_5 rfl rfl).trans ?_
    refine (x_iconst f103_6 rfl).trans ?_
    refine (x_icmp_le (tg := 14) f103_8 rfl rfl).trans (i_c ?_ ?_)
    · refine (x_kil (l2 := [aU, aU, aU, aU]) f103_11 rfl).trans ?_
      refine (x_iconst f103_11 rfl).trans ?_
      exact x_ireturn f103_13 rfl
    · refine (x_aload f103_14 rfl rfl).trans ?_
      refine (x_get2 f103_15 rfl rfl).trans ?_
      refine g_c ?_
      refine g_c ?_
      refine (x_iload f103_18 rfl rfl).trans ?_
      refine (x_invokevirtual (G := grd (kd (s l0 0) = 5) (bnI (sem 76 0 [aA (s l0 0), aI l1] [] s) fun a2 s1 => sem 103 22 [aA l0, aI l1, aL l2, aU] [aI a2] s1)) f103_19 rfl rfl).trans ?_
      refine g_c ?_
      refine bI_c fun a2 s1 => ?_
      refine (x_if_ne (tg := 28) f103_22 rfl rfl).trans (i_c ?_ ?_)
      · refine (x_iconst f103_25 rfl).trans ?_
        exact x_ireturn f103_27 rfl
      · refine (x_aload f103_28 rfl rfl).trans ?_
        refine (x_get2 f103_29 rfl rfl).trans ?_
        refine g_c ?_
        refine g_c ?_
        refine (x_iload f103_32 rfl rfl).trans ?_
        refine (x_lload f103_33 rfl rfl).trans ?_
        refine (x_invokevirtual (G := grd (kd (s1 l0 0) = 5) (bnV (sem 77 0 [aA (s1 l0 0), aI l1, aL l2, aU, aU] [] s1) fun s3 => sem 103 37 [aA l0, aI l1, aL l2, aU] [] s3)) f103_34 rfl rfl).trans ?_
        refine g_c ?_
        refine bV_c fun s3 => ?_
        refine (x_aload f103_37 rfl rfl).trans ?_
        refine (x_get2 f103_38 rfl rfl).trans ?_
        refine g_c ?_
        refine g_c ?_
        refine (x_invokevirtual (G := grd (kd (s3 l0 0) = 5) (bnI (sem 75 0 [aA (s3 l0 0)] [] s3) fun a5 s4 => sem 103 44 [aA l0, aI l1, aL l2, aU] [aI a5] s4)) f103_41 rfl rfl).trans ?_
        refine g_c ?_
        refine bI_c fun a5 s4 => ?_
        exact x_ireturn f103_44 rfl
theorem f104_0 : fch 104 0 = some (.aload 0, 1, []) := by decide +kernel
theorem f104_1 : fch 104 1 = some (.invokeinterface 8 0, 4, []) := by decide +kernel
theorem f104_4 : fch 104 4 = some (.invokevirtual 78, 7, []) := by decide +kernel
theorem f104_7 : fch 104 7 = some (.ireturn, 8, []) := by decide +kernel
set_option maxRecDepth 10000 in
theorem e104_0 (l0 : Int) (s : SG) : sem 104 0 [aA l0] [] s = grd (kd l0 = 8) (grd (0 ≤ s l0 0) (grd (kd (s l0 0) = 5) (bnI (sem 78 0 [aA (s l0 0), aU] [] s) fun a2 s1 => some (aI a2, s1)))) := by
  refine (x_aload f104_0 rfl rfl).trans ?_
  refine (x_get2 f104_1 rfl rfl).trans ?_
  refine g_c ?_
  refine g_c ?_
  refine (x_invokevirtual (G := grd (kd (s l0 0) = 5) (bnI (sem 78 0 [aA (s l0 0), aU] [] s) fun a2 s1 => sem 104 7 [aA l0] [aI a2] s1)) f104_4 rfl rfl).trans ?_
  refine g_c ?_
  refine bI_c fun a2 s1 => ?_
  exact x_ireturn f104_7 rfl
theorem f105_0 : fch 105 0 = some (.aload 0, 1, []) := by decide +kernel
theorem f105_1 : fch 105 1 = some (.invokeinterface 8 1, 4, []) := by decide +kernel
theorem f105_4 : fch 105 4 = some (.aload 0, 5, []) := by decide +kernel
theorem f105_5 : fch 105 5 = some (.invokeinterface 8 0, 8, []) := by decide +kernel
theorem f105_8 : fch 105 8 = some (.aload 0, 9, []) := by decide +kernel
theorem f105_9 : fch 105 9 = some (.invokeinterface 8 10, 12, []) := by decide +kernel
theorem f105_12 : fch 105 12 = some (.invokevirtual 32, 15, []) := by decide +kernel
theorem f105_15 : fch 105 15 = some (.ireturn, 16, []) := by decide +kernel
set_option maxRecDepth 10000 in
theorem e105_0 (l0 : Int) (s : SG) : sem 105 0 [aA l0] [] s = grd (kd l0 = 8) (grd (0 ≤ s l0 1) (grd (kd l0 = 8) (grd (0 ≤ s l0 0) (grd (kd l0 = 8) (grd (0 ≤ s l0 10) (grd (kd (s l0 1) = 2) (bnI (sem 32 0 [aA (s l0 1), aA (s l0 0), aA (s l0 10), aU] [] s) fun a2 s1 => some (aI a2, s1)))))))) := by
  refine (x_aload f105_0 rfl rfl).trans ?_
  refine (x_get2 f105_1 rfl rfl).trans ?_
  refine g_c ?_
  refine g_c ?_
  refine (x_aload f105_4 rfl rfl).trans ?_
  refine (x_get2 f105_5 rfl rfl).trans ?_
  refine g_c ?_
  refine g_c ?_
  refine (x_aload f105_8 rfl rfl).trans ?_
  refine (x_get2 f105_9 rfl rfl).trans ?_
  refine g_c ?_
  refine g_c ?_
  refine (x_invokevirtual (G := grd (kd (s l0 1) = 2) (bnI (sem 32 0 [aA (s l0 1), aA (s l0 0), aA (s l0 10), aU] [] s) fun a2 s1 => sem 105 15 [aA l0] [aI a2] s1)) f105_12 rfl rfl).trans ?_
  refine g_c ?_
  refine bI_c fun a2 s1 => ?_
  exact x_ireturn f105_15 rfl
theorem f106_0 : fch 106 0 = some (.aload 0, 1, []) := by decide +kernel
theorem f106_1 : fch 106 1 = some (.invokeinterface 8 1, 4, []) := by decide +kernel
theorem f106_4 : fch 106 4 = some (.aload 0, 5, []) := by decide +kernel
theorem f106_5 : fch 106 5 = some (.invokeinterface 8 0, 8, []) := by decide +kernel
theorem f106_8 : fch 106 8 = some (.aload 0, 9, []) := by decide +kernel
theorem f106_9 : fch 106 9 = some (.invokeinterface 8 10, 12, []) := by decide +kernel
theorem f106_12 : fch 106 12 = some (.invokevirtual 32, 15, []) := by decide +kernel
theorem f106_15 : fch 106 15 = some (.iconst (-9), 17, []) := by decide +kernel
theorem f106_17 : fch 106 17 = some (.if_icmp .eq 23, 20, []) := by decide +kernel
theorem f106_20 : fch 106 20 = some (.iconst (-3), 22, []) := by decide +kernel
theorem f106_22 : fch 106 22 = some (.ireturn, 23, []) := by decide +kernel
theorem f106_23 : fch 106 23 = some (.aload 0, 24, []) := by decide +kernel
theorem f106_24 : fch 106 24 = some (.invokeinterface 8 9, 27, []) := by decide +kernel
theorem f106_27 : fch 106 27 = some (.astore 1, 28, []) := by decide +kernel
theorem f106_28 : fch 106 28 = some (.aload 0, 29, []) := by decide +kernel
theorem f106_29 : fch 106 29 = some (.aload 0, 30, []) := by decide +kernel
theorem f106_30 : fch 106 30 = some (.invokeinterface 8 10, 33, []) := by decide +kernel
theorem f106_33 : fch 106 33 = some (.multianewarray 8 9, 36, []) := by decide +kernel
theorem f106_36 : fch 106 36 = some (.aload 0, 37, []) := by decide +kernel
theorem f106_37 : fch 106 37 = some (.aload 1, 38, []) := by decide +kernel
theorem f106_38 : fch 106 38 = some (.multianewarray 8 10, 41, []) := by decide +kernel
theorem f106_41 : fch 106 41 = some (.aload 0, 42, []) := by decide +kernel
theorem f106_42 : fch 106 42 = some (.invokeinterface 8 2, 45, []) := by decide +kernel
theorem f106_45 : fch 106 45 = some (.aload 0, 46, []) := by decide +kernel
theorem f106_46 : fch 106 46 = some (.invokeinterface 8 9, 49, []) := by decide +kernel
theorem f106_49 : fch 106 49 = some (.invokevirtual 1, 52, []) := by decide +kernel
theorem f106_52 : fch 106 52 = some (.aload 0, 53, []) := by decide +kernel
theorem f106_53 : fch 106 53 = some (.invokeinterface 8 3, 56, []) := by decide +kernel
theorem f106_56 : fch 106 56 = some (.invokevirtual 67, 59, []) := by decide +kernel
theorem f106_59 : fch 106 59 = some (.pop, 60, []) := by decide +kernel
theorem f106_60 : fch 106 60 = some (.aload 0, 61, []) := by decide +kernel
theorem f106_61 : fch 106 61 = some (.invokeinterface 8 5, 64, []) := by decide +kernel
theorem f106_64 : fch 106 64 = some (.invokevirtual 18, 67, []) := by decide +kernel
theorem f106_67 : fch 106 67 = some (.iconst 0, 68, []) := by decide +kernel
theorem f106_68 : fch 106 68 = some (.istore 2, 69, []) := by decide +kernel
theorem f106_69 : fch 106 69 = some (.iload 2, 70, [1]) := by decide +kernel
theorem f106_70 : fch 106 70 = some (.iconst 2, 71, []) := by decide +kernel
theorem f106_71 : fch 106 71 = some (.if_icmp .ge 87, 74, []) := by decide +kernel
theorem f106_74 : fch 106 74 = some (.aload 0, 75, []) := by decide +kernel
theorem f106_75 : fch 106 75 = some (.invokeinterface 8 8, 78, []) := by decide +kernel
theorem f106_78 : fch 106 78 = some (.iload 2, 79, []) := by decide +kernel
theorem f106_79 : fch 106 79 = some (.iconst 0, 80, []) := by decide +kernel
theorem f106_80 : fch 106 80 = some (.bastore, 81, []) := by decide +kernel
theorem f106_81 : fch 106 81 = some (.iinc 2 1, 84, []) := by decide +kernel
theorem f106_84 : fch 106 84 = some (.goto 69, 87, []) := by decide +kernel
theorem f106_87 : fch 106 87 = some (.aload 0, 88, []) := by decide +kernel
theorem f106_88 : fch 106 88 = some (.invokeinterface 8 1, 91, []) := by decide +kernel
theorem f106_91 : fch 106 91 = some (.invokevirtual 31, 94, []) := by decide +kernel
theorem f106_94 : fch 106 94 = some (.ireturn, 95, []) := by decide +kernel
set_option maxRecDepth 10000 in
theorem e106_0 (l0 : Int) (s : SG) : sem 106 0 [aA l0, aU, aU] [] s = grd (kd l0 = 8) (grd (0 ≤ s l0 1) (grd (kd l0 = 8) (grd (0 ≤ s l0 0) (grd (kd l0 = 8) (grd (0 ≤ s l0 10) (grd (kd (s l0 1) = 2) (bnI (sem 32 0 [aA (s l0 1), aA (s l0 0), aA (s l0 10), aU] [] s) fun a2 s1 => if a2 = ((-9)) then grd (kd l0 = 8) (grd (0 ≤ s1 l0 9) (grd (kd l0 = 8) (grd (0 ≤ s1 l0 10) (grd (kd l0 = 8) (grd (0 ≤ s1 l0 10) (grd (kd l0 = 8) (grd (0 ≤ s1 l0 9) (grd (kd l0 = 8) (grd (0 ≤ (up (up s1 l0 9 (s1 l0 10)) l0 10 (s1 l0 9)) l0 2) (grd (kd l0 = 8) (grd (0 ≤ (up (up s1 l0 9 (s1 l0 10)) l0 10 (s1 l0 9)) l0 9) (grd (kd ((up (up s1 l0 9 (s1 l0 10)) l0 10 (s1 l0 9)) l0 2) = 0) (bnV (sem 1 0 [aA ((up (up s1 l0 9 (s1 l0 10)) l0 10 (s1 l0 9)) l0 2), aA ((up (up s1 l0 9 (s1 l0 10)) l0 10 (s1 l0 9)) l0 9), aU, aU] [] (up (up s1 l0 9 (s1 l0 10)) l0 10 (s1 l0 9))) fun s3 => grd (kd l0 = 8) (grd (0 ≤ s3 l0 3) (grd (kd (s3 l0 3) = 4) (bnI (sem 67 0 [aA (s3 l0 3), aU] [] s3) fun a5 s4 => grd (kd l0 = 8) (grd (0 ≤ s4 l0 5) (grd (kd (s4 l0 5) = 1) (bnV (sem 18 0 [aA (s4 l0 5)] [] s4) fun s6 => sem 106 69 [aA l0, aU, aI 0] [] s6))))))))))))))))))) else some (aI ((-3)), s1)))))))) := by
  refine (x_aload f106_0 rfl rfl).trans ?_
  refine (x_get2 f106_1 rfl rfl).trans ?_
  refine g_c ?_
  refine g_c ?_
  refine (x_aload f106_4 rfl rfl).trans ?_
  refine (x_get2 f106_5 rfl rfl).trans ?_
  refine g_c ?_
  refine g_c ?_
  refine (x_aload f106_8 rfl rfl).trans ?_
  refine (x_get2 f106_9 rfl rfl).trans ?_
  refine g_c ?_
  refine g_c ?_
  refine (x_invokevirtual (G := grd (kd (s l0 1) = 2) (bnI (sem 32 0 [aA (s l0 1), aA (s l0 0), aA (s l0 10), aU] [] s) fun a2 s1 => sem 106 15 [aA l0, aU, aU] [aI a2] s1)) f106_12 rfl rfl).trans ?_
  refine g_c ?_
  refine bI_c fun a2 s1 => ?_
  refine (x_iconst f106_15 rfl).trans ?_
  refine (x_icmp_eq (tg := 23) f106_17 rfl rfl).trans (i_c ?_ ?_)
  · refine (x_aload f106_23 rfl rfl).trans ?_
    refine (x_get2 f106_24 rfl rfl).trans ?_
    refine g_c ?_
    refine g_c ?_
    refine (x_astore (l2 := [aA l0, aA (s1 l0 9), aU]) f106_27 rfl rfl).trans ?_
    refine (x_aload f106_28 rfl rfl).trans ?_
    refine (x_aload f106_29 rfl rfl).trans ?_
    refine (x_get2 f106_30 rfl rfl).trans ?_
    refine g_c ?_
    refine g_c ?_
    refine (x_put2 f106_33 rfl rfl).trans ?_
    refine g_c ?_
    refine g_c ?_
    refine (x_aload f106_36 rfl rfl).trans ?_
    refine (x_aload f106_37 rfl rfl).trans ?_
    refine (x_put2 f106_38 rfl rfl).trans ?_
    refine g_c ?_
    refine g_c ?_
    refine (x_aload f106_41 rfl rfl).trans ?_
    refine (x_get2 f106_42 rfl rfl).trans ?_
    refine g_c ?_
    refine g_c ?_
    refine (x_aload f106_45 rfl rfl).trans ?_
    refine (x_get2 f106_46 rfl rfl).trans ?_
    refine g_c ?_
    refine g_c ?_
    refine (x_invokevirtual (G := grd (kd ((up (up s1 l0 9 (s1 l0 10)) l0 10 (s1 l0 9)) l0 2) = 0) (bnV (sem 1 0 [aA ((up (up s1 l0 9 (s1 l0 10)) l0 10 (s1 l0 9)) l0 2), aA ((up (up s1 l0 9 (s1 l0 10)) l0 10 (s1 l0 9)) l0 9), aU, aU] [] (up (up s1 l0 9 (s1 l0 10)) l0 10 (s1 l0 9))) fun s3 => sem 106 52 [aA l0, aA (s1 l0 9), aU] [] s3)) f106_49 rfl rfl).trans ?_
    refine g_c ?_
    refine bV_c fun s3 => ?_
    refine (x_aload f106_52 rfl rfl).trans ?_
    refine (x_get2 f106_53 rfl rfl).trans ?_
    refine g_c ?_
    refine g_c ?_
    refine (x_invokevirtual (G := grd (kd (s3 l0 3) = 4) (bnI (sem 67 0 [aA (s3 l0 3), aU] [] s3) fun a5 s4 => sem 106 59 [aA l0, aA (s1 l0 9), aU] [aI a5] s4)) f106_56 rfl rfl).trans ?_
    refine g_c ?_
    refine bI_c fun a5 s4 => ?_
    refine (x_pop f106_59 rfl rfl).trans ?_
    refine (x_aload f106_60 rfl rfl).trans ?_
    refine (x_get2 f106_61 rfl rfl).trans ?_
    refine g_c ?_
    refine g_c ?_
    refine (x_invokevirtual (G := grd (kd (s4 l0 5) = 1) (bnV (sem 18 0 [aA (s4 l0 5)] [] s4) fun s6 => sem 106 67 [aA l0, aA (s1 l0 9), aU] [] s6)) f106_64 rfl rfl).trans ?_
    refine g_c ?_
    refine bV_c fun s6 => ?_
    refine (x_iconst f106_67 rfl).trans ?_
    refine (x_istore (l2 := [aA l0, aA (s1 l0 9), aI 0]) f106_68 rfl rfl).trans ?_
    exact x_kil f106_69 rfl
  · refine (x_iconst f106_20 rfl).trans ?_
    exact x_ireturn f106_22 rfl
set_option maxRecDepth 10000 in
theorem e106_69 (l0 l2 : Int) (s : SG) : sem 106 69 [aA l0, aU, aI l2] [] s = if l2 < 2 then grd (kd l0 = 8) (grd (0 ≤ s l0 8) (grd (kd (s l0 8) = 102) (grd ((0 : Int) ≤ l2 ∧ l2 < kl (s l0 8)) (grd ((0 : Int) = 0 ∨ (0 : Int) = 1) (sem 106 69 [aA l0, aU, aI (w32 (l2 + 1))] [] (up s (s l0 8) l2 0)))))) else grd (kd l0 = 8) (grd (0 ≤ s l0 1) (grd (kd (s l0 1) = 2) (bnI (sem 31 0 [aA (s l0 1)] [] s) fun a2 s1 => some (aI a2, s1)))) := by
  refine (x_iload f106_69 rfl rfl).trans ?_
  refine (x_iconst f106_70 rfl).trans ?_
  refine (x_icmp_ge (tg := 87) f106_71 rfl rfl).trans (i_c ?_ ?_)
  · refine (x_aload f106_74 rfl rfl).trans ?_
    refine (x_get2 f106_75 rfl rfl).trans ?_
    refine g_c ?_
    refine g_c ?_
    refine (x_iload f106_78 rfl rfl).trans ?_
    refine (x_iconst f106_79 rfl).trans ?_
    refine (x_bastore f106_80 rfl).trans ?_
    refine g_c ?_
    refine g_c ?_
    refine g_c ?_
    refine (x_iinc (l2 := [aA l0, aU, aI (w32 (l2 + 1))]) f106_81 rfl rfl rfl).trans ?_
    refine (x_goto (tg := 69) f106_84 rfl rfl).trans ?_
    rfl
  · refine (x_aload f106_87 rfl rfl).trans ?_
    refine (x_get2 f106_88 rfl rfl).trans ?_
    refine g_c ?_
    refine g_c ?_
    refine (x_invokevirtual (G := grd (kd (s l0 1) = 2) (bnI (sem 31 0 [aA (s l0 1)] [] s) fun a2 s1 => sem 106 94 [aA l0, aU, aI l2] [aI a2] s1)) f106_91 rfl rfl).trans ?_
    refine g_c ?_
    refine bI_c fun a2 s1 => ?_
    exact x_ireturn f106_94 rfl
theorem f107_0 : fch 107 0 = some (.aload 0, 1, []) := by decide +kernel
theorem f107_1 : fch 107 1 = some (.invokeinterface 8 9, 4, []) := by decide +kernel
theorem f107_4 : fch 107 4 = some (.iload 1, 5, []) := by decide +kernel
theorem f107_5 : fch 107 5 = some (.invokevirtual 82, 8, []) := by decide +kernel
theorem f107_8 : fch 107 8 = some (.ifCond .eq 18, 11, []) := by decide +kernel
theorem f107_11 : fch 107 11 = some (.iload 2, 12, []) := by decide +kernel
theorem f107_12 : fch 107 12 = some (.invokestatic 140, 15, []) := by decide +kernel
theorem f107_15 : fch 107 15 = some (.ifCond .ne 20, 18, []) := by decide +kernel
theorem f107_18 : fch 107 18 = some (.iconst (-1), 19, [0, 1, 2, 3]) := by decide +kernel
theorem f107_19 : fch 107 19 = some (.ireturn, 20, []) := by decide +kernel
theorem f107_20 : fch 107 20 = some (.iload 3, 21, []) := by decide +kernel
theorem f107_21 : fch 107 21 = some (.ifCond .lt 29, 24, []) := by decide +kernel
theorem f107_24 : fch 107 24 = some (.iload 3, 25, []) := by decide +kernel
theorem f107_25 : fch 107 25 = some (.iconst 1, 26, []) := by decide +kernel
theorem f107_26 : fch 107 26 = some (.if_icmp .le 32, 29, []) := by decide +kernel
theorem f107_29 : fch 107 29 = some (.iconst (-2), 31, [0, 1, 2, 3]) := by decide +kernel
theorem f107_31 : fch 107 31 = some (.ireturn, 32, []) := by decide +kernel
theorem f107_32 : fch 107 32 = some (.iload 3, 33, []) := by decide +kernel
theorem f107_33 : fch 107 33 = some (.ifCond .ne 48, 36, []) := by decide +kernel
theorem f107_36 : fch 107 36 = some (.aload 0, 37, []) := by decide +kernel
theorem f107_37 : fch 107 37 = some (.invokeinterface 8 9, 40, []) := by decide +kernel
theorem f107_40 : fch 107 40 = some (.iload 1, 41, []) := by decide +kernel
theorem f107_41 : fch 107 41 = some (.iload 2, 42, []) := by decide +kernel
theorem f107_42 : fch 107 42 = some (.invokevirtual 84, 45, []) := by decide +kernel
theorem f107_45 : fch 107 45 = some (.goto 57, 48, []) := by decide +kernel
theorem f107_48 : fch 107 48 = some (.aload 0, 49, []) := by decide +kernel
theorem f107_49 : fch 107 49 = some (.invokeinterface 8 9, 52, []) := by decide +kernel
theorem f107_52 : fch 107 52 = some (.iload 1, 53, []) := by decide +kernel
theorem f107_53 : fch 107 53 = some (.iload 2, 54, []) := by decide +kernel
theorem f107_54 : fch 107 54 = some (.invokevirtual 85, 57, []) := by decide +kernel
theorem f107_57 : fch 107 57 = some (.ireturn, 58, [0, 1, 2, 3]) := by decide +kernel
set_option maxRecDepth 10000 in
theorem e107_0 (l0 l1 l2 l3 : Int) (s : SG) : sem 107 0 [aA l0, aI l1, aI l2, aI l3] [] s = grd (kd l0 = 8) (grd (0 ≤ s l0 9) (grd (kd (s l0 9) = 6) (bnI (sem 82 0 [aA (s l0 9), aI l1] [] s) fun a2 s1 => if a2 = 0 then some (aI ((-1)), s1) else bnI (sem 140 0 [aI l2] [] s1) fun a4 s3 => if a4 = 0 then some (aI ((-1)), s3) else if l3 < 0 then some (aI ((-2)), s3) else if (1 : Int) < l3 then some (aI ((-2)), s3) else if l3 = 0 then grd (kd l0 = 8) (grd (0 ≤ s3 l0 9) (grd (kd (s3 l0 9) = 6) (bnI (sem 84 0 [aA (s3 l0 9), aI l1, aI l2, aU] [] s3) fun a6 s5 => some (aI a6, s5)))) else grd (kd l0 = 8) (grd (0 ≤ s3 l0 9) (grd (kd (s3 l0 9) = 6) (bnI (sem 85 0 [aA (s3 l0 9), aI l1, aI l2, aU] [] s3) fun a8 s7 => some (aI a8, s7))))))) := by
  refine (x_aload f107_0 rfl rfl).trans ?_
  refine (x_get2 f107_1 rfl rfl).trans ?_
  refine g_c ?_
  refine g_c ?_
  refine (x_iload f107_4 rfl rfl).trans ?_
  refine (x_invokevirtual (G := grd (kd (s l0 9) = 6) (bnI (sem 82 0 [aA (s l0 9), aI l1] [] s) fun a2 s1 => sem 107 8 [aA l0, aI l1, aI l2, aI l3] [aI a2] s1)) f107_5 rfl rfl).trans ?_
  refine g_c ?_
  refine bI_c fun a2 s1 => ?_
  refine (x_if_eq (tg := 18) f107_8 rfl rfl).trans (i_c ?_ ?_)
  · refine (x_kil (l2 := [aU, aU, aU, aU]) f107_18 rfl).trans ?_
    refine (x_iconst f107_18 rfl).trans ?_
    exact x_ireturn f107_19 rfl
  · refine (x_iload f107_11 rfl rfl).trans ?_
    refine (x_invokestatic (G := bnI (sem 140 0 [aI l2] [] s1) fun a4 s3 => sem 107 15 [aA l0, aI l1, aI l2, aI l3] [aI a4] s3) f107_12 rfl rfl).trans ?_
    refine bI_c fun a4 s3 => ?_
    refine (x_if_ne (tg := 20) f107_15 rfl rfl).trans (i_c ?_ ?_)
    · refine (x_kil (l2 := [aU, aU, aU, aU]) f107_18 rfl).trans ?_
      refine (x_iconst f107_18 rfl).trans ?_
      exact x_ireturn f107_19 rfl
    · refine (x_iload f107_20 rfl rfl).trans ?_
      refine (x_if_lt (tg := 29) f107_21 rfl rfl).trans (i_c ?_ ?_)
      · refine (x_kil (l2 := [aU, aU, aU, aU]) f107_29 rfl).trans ?_
        refine (x_iconst f107_29 rfl).trans ?_
        exact x_ireturn f107_31 rfl
      · refine (x_iload f107_24 rfl rfl).trans ?_
        refine (x_iconst f107_25 rfl).trans ?_
        refine (x_icmp_le (tg := 32) f107_26 rfl rfl).trans (i_c ?_ ?_)
        · refine (x_kil (l2 := [aU, aU, aU, aU]) f107_29 rfl).trans ?_
          refine (x_iconst f107_29 rfl).trans ?_
          exact x_ireturn f107_31 rfl
        · refine (x_iload f107_32 rfl rfl).trans ?_
          refine (x_if_ne (tg := 48) f107_33 rfl rfl).trans (i_c ?_ ?_)
          · refine (x_aload f107_36 rfl rfl).trans ?_
            refine (x_get2 f107_37 rfl rfl).trans ?_
            refine g_c ?_
            refine g_c ?_
            refine (x_iload f107_40 rfl rfl).trans ?_
            refine (x_iload f107_41 rfl rfl).trans ?_
            refine (x_invokevirtual (G := grd (kd (s3 l0 9) = 6) (bnI (sem 84 0 [aA (s3 l0 9), aI l1, aI l2, aU] [] s3) fun a6 s5 => sem 107 45 [aA l0, aI l1, aI l2, aI l3] [aI a6] s5)) f107_42 rfl rfl).trans ?_
            refine g_c ?_
            refine bI_c fun a6 s5 => ?_
            refine (x_goto (tg := 57) f107_45 rfl rfl).trans ?_
            refine (x_kil (l2 := [aU, aU, aU, aU]) f107_57 rfl).trans ?_
            exact x_ireturn f107_57 rfl
          · refine (x_aload f107_48 rfl rfl).trans ?_
            refine (x_get2 f107_49 rfl rfl).trans ?_
            refine g_c ?_
            refine g_c ?_
            refine (x_iload f107_52 rfl rfl).trans ?_
            refine (x_iload f107_53 rfl rfl).trans ?_
            refine (x_invokevirtual (G := grd (kd (s3 l0 9) = 6) (bnI (sem 85 0 [aA (s3 l0 9), aI l1, aI l2, aU] [] s3) fun a8 s7 => sem 107 57 [aA l0, aI l1, aI l2, aI l3] [aI a8] s7)) f107_54 rfl rfl).trans ?_
            refine g_c ?_
            refine bI_c fun a8 s7 => ?_
            refine (x_kil (l2 := [aU, aU, aU, aU]) f107_57 rfl).trans ?_
            exact x_ireturn f107_57 rfl
theorem f108_0 : fch 108 0 = some (.iload 1, 1, []) := by decide +kernel
theorem f108_1 : fch 108 1 = some (.ifCond .lt 10, 4, []) := by decide +kernel
theorem f108_4 : fch 108 4 = some (.iload 1, 5, []) := by decide +kernel
theorem f108_5 : fch 108 5 = some (.iconst 9, 7, []) := by decide +kernel
theorem f108_7 : fch 108 7 = some (.if_icmp .le 13, 10, []) := by decide +kernel
theorem f108_10 : fch 108 10 = some (.iconst (-2), 12, [0, 1]) := by decide +kernel
theorem f108_12 : fch 108 12 = some (.ireturn, 13, []) := by decide +kernel
theorem f108_13 : fch 108 13 = some (.iload 1, 14, []) := by decide +kernel
theorem f108_14 : fch 108 14 = some (.ifCond .ne 25, 17, []) := by decide +kernel
theorem f108_17 : fch 108 17 = some (.aload 0, 18, []) := by decide +kernel
theorem f108_18 : fch 108 18 = some (.invokeinterface 8 9, 21, []) := by decide +kernel
theorem f108_21 : fch 108 21 = some (.invokeinterface 6 4, 24, []) := by decide +kernel
theorem f108_24 : fch 108 24 = some (.ireturn, 25, []) := by decide +kernel
theorem f108_25 : fch 108 25 = some (.iload 1, 26, []) := by decide +kernel
theorem f108_26 : fch 108 26 = some (.iconst 3, 27, []) := by decide +kernel
theorem f108_27 : fch 108 27 = some (.if_icmp .gt 41, 30, []) := by decide +kernel
theorem f108_30 : fch 108 30 = some (.aload 0, 31, []) := by decide +kernel
theorem f108_31 : fch 108 31 = some (.invokeinterface 8 9, 34, []) := by decide +kernel
theorem f108_34 : fch 108 34 = some (.iload 1, 35, []) := by decide +kernel
theorem f108_35 : fch 108 35 = some (.iconst 1, 36, []) := by decide +kernel
theorem f108_36 : fch 108 36 = some (.isub, 37, []) := by decide +kernel
theorem f108_37 : fch 108 37 = some (.invokevirtual 83, 40, []) := by decide +kernel
theorem f108_40 : fch 108 40 = some (.ireturn, 41, []) := by decide +kernel
theorem f108_41 : fch 108 41 = some (.iload 1, 42, []) := by decide +kernel
theorem f108_42 : fch 108 42 = some (.iconst 6, 44, []) := by decide +kernel
theorem f108_44 : fch 108 44 = some (.if_icmp .gt 85, 47, []) := by decide +kernel
theorem f108_47 : fch 108 47 = some (.iload 1, 48, []) := by decide +kernel
theorem f108_48 : fch 108 48 = some (.iconst 4, 49, []) := by decide +kernel
theorem f108_49 : fch 108 49 = some (.if_icmp .ne 62, 52, []) := by decide +kernel
theorem f108_52 : fch 108 52 = some (.aload 0, 53, []) := by decide +kernel
theorem f108_53 : fch 108 53 = some (.invokeinterface 8 9, 56, []) := by decide +kernel
theorem f108_56 : fch 108 56 = some (.invokeinterface 6 5, 59, []) := by decide +kernel
theorem f108_59 : fch 108 59 = some (.goto 84, 62, []) := by decide +kernel
theorem f108_62 : fch 108 62 = some (.iload 1, 63, []) := by decide +kernel
theorem f108_63 : fch 108 63 = some (.iconst 5, 64, []) := by decide +kernel
theorem f108_64 : fch 108 64 = some (.if_icmp .ne 77, 67, []) := by decide +kernel
theorem f108_67 : fch 108 67 = some (.aload 0, 68, []) := by decide +kernel
theorem f108_68 : fch 108 68 = some (.invokeinterface 8 9, 71, []) := by decide +kernel
theorem f108_71 : fch 108 71 = some (.invokeinterface 6 6, 74, []) := by decide +kernel
theorem f108_74 : fch 108 74 = some (.goto 84, 77, []) := by decide +kernel
theorem f108_77 : fch 108 77 = some (.aload 0, 78, []) := by decide +kernel
theorem f108_78 : fch 108 78 = some (.invokeinterface 8 9, 81, []) := by decide +kernel
theorem f108_81 : fch 108 81 = some (.invokeinterface 6 7, 84, []) := by decide +kernel
theorem f108_84 : fch 108 84 = some (.ireturn, 85, [0, 1]) := by decide +kernel
theorem f108_85 : fch 108 85 = some (.aload 0, 86, []) := by decide +kernel
theorem f108_86 : fch 108 86 = some (.invokeinterface 8 9, 89, []) := by decide +kernel
theorem f108_89 : fch 108 89 = some (.iload 1, 90, []) := by decide +kernel
theorem f108_90 : fch 108 90 = some (.iconst 7, 92, []) := by decide +kernel
theorem f108_92 : fch 108 92 = some (.isub, 93, []) := by decide +kernel
theorem f108_93 : fch 108 93 = some (.invokevirtual 82, 96, []) := by decide +kernel
theorem f108_96 : fch 108 96 = some (.ifCond .eq 113, 99, []) := by decide +kernel
theorem f108_99 : fch 108 99 = some (.aload 0, 100, []) := by decide +kernel
theorem f108_100 : fch 108 100 = some (.invokeinterface 8 9, 103, []) := by decide +kernel
theorem f108_103 : fch 108 103 = some (.iload 1, 104, []) := by decide +kernel
theorem f108_104 : fch 108 104 = some (.iconst 7, 106, []) := by decide +kernel
theorem f108_106 : fch 108 106 = some (.isub, 107, []) := by decide +kernel
theorem f108_107 : fch 108 107 = some (.invokevirtual 86, 110, []) := by decide +kernel
theorem f108_110 : fch 108 110 = some (.goto 114, 113, []) := by decide +kernel
theorem f108_113 : fch 108 113 = some (.iconst (-1), 114, []) := by decide +kernel
theorem f108_114 : fch 108 114 = some (.ireturn, 115, [0, 1]) := by decide +kernel
set_option maxRecDepth 10000 in
theorem e108_0 (l0 l1 : Int) (s : SG) : sem 108 0 [aA l0, aI l1] [] s = if l1 < 0 then some (aI ((-2)), s) else if (9 : Int) < l1 then some (aI ((-2)), s) else if l1 = 0 then grd (kd l0 = 8) (grd (0 ≤ s l0 9) (grd (kd (s l0 9) = 6) (some (aI (s (s l0 9) 4), s)))) else if (3 : Int) < l1 then if (6 : Int) < l1 then grd (kd l0 = 8) (grd (0 ≤ s l0 9) (grd (kd (s l0 9) = 6) (bnI (sem 82 0 [aA (s l0 9), aI (w32 (l1 - 7))] [] s) fun a2 s1 => if a2 = 0 then some (aI ((-1)), s1) else grd (kd l0 = 8) (grd (0 ≤ s1 l0 9) (grd (kd (s1 l0 9) = 6) (bnI (sem 86 0 [aA (s1 l0 9), aI (w32 (l1 - 7))] [] s1) fun a4 s3 => some (aI a4, s3))))))) else if l1 = 4 then grd (kd l0 = 8) (grd (0 ≤ s l0 9) (grd (kd (s l0 9) = 6) (some (aI (s (s l0 9) 5), s)))) else if l1 = 5 then grd (kd l0 = 8) (grd (0 ≤ s l0 9) (grd (kd (s l0 9) = 6) (some (aI (s (s l0 9) 6), s)))) else grd (kd l0 = 8) (grd (0 ≤ s l0 9) (grd (kd (s l0 9) = 6) (some (aI (s (s l0 9) 7), s)))) else grd (kd l0 = 8) (grd (0 ≤ s l0 9) (grd (kd (s l0 9) = 6) (bnI (sem 83 0 [aA (s l0 9), aI (w32 (l1 - 1))] [] s) fun a6 s5 => some (aI a6, s5)))) := by
  refine (x_iload f108_0 rfl rfl).trans ?_
  refine (x_if_lt (tg := 10) f108_1 rfl rfl).trans (i_c ?_ ?_)
  · refine (x_kil (l2 := [aU, aU]) f108_10 rfl).trans ?_
    refine (x_iconst f108_10 rfl).trans ?_
    exact x_ireturn f108_12 rfl
  · refine (x_iload f108_4 rfl rfl).trans ?_
    refine (x_iconst f108_5 rfl).trans ?_
    refine (x_icmp_le (tg := 13) f108_7 rfl rfl).trans (i_c ?_ ?_)
    · refine (x_kil (l2 := [aU, aU]) f108_10 rfl).trans ?_
      refine (x_iconst f108_10 rfl).trans ?_
      exact x_ireturn f108_12 rfl
    · refine (x_iload f108_13 rfl rfl).trans ?_
      refine (x_if_ne (tg := 25) f108_14 rfl rfl).trans (i_c ?_ ?_)
      · refine (x_aload f108_17 rfl rfl).trans ?_
        refine (x_get2 f108_18 rfl rfl).trans ?_
        refine g_c ?_
        refine g_c ?_
        refine (x_get0 f108_21 rfl rfl).trans ?_
        refine g_c ?_
        exact x_ireturn f108_24 rfl
      · refine (x_iload f108_25 rfl rfl).trans ?_
        refine (x_iconst f108_26 rfl).trans ?_
        refine (x_icmp_gt (tg := 41) f108_27 rfl rfl).trans (i_c ?_ ?_)
        · refine (x_iload f108_41 rfl rfl).trans ?_
          refine (x_iconst f108_42 rfl).trans ?_
          refine (x_icmp_gt (tg := 85) f108_44 rfl rfl).trans (i_c ?_ ?_)
          · refine (x_aload f108_85 rfl rfl).trans ?_
            refine (x_get2 f108_86 rfl rfl).trans ?_
            refine g_c ?_
            refine g_c ?_
            refine (x_iload f108_89 rfl rfl).trans ?_
            refine (x_iconst f108_90 rfl).trans ?_
            refine (x_isub f108_92 rfl).trans ?_
            refine (x_invokevirtual (G := grd (kd (s l0 9) = 6) (bnI (sem 82 0 [aA (s l0 9), aI (w32 (l1 - 7))] [] s) fun a2 s1 => sem 108 96 [aA l0, aI l1] [aI a2] s1)) f108_93 rfl rfl).trans ?_
            refine g_c ?_
            refine bI_c fun a2 s1 => ?_
            refine (x_if_eq (tg := 113) f108_96 rfl rfl).trans (i_c ?_ ?_)
            · refine (x_iconst f108_113 rfl).trans ?_
              refine (x_kil (l2 := [aU, aU]) f108_114 rfl).trans ?_
              exact x_ireturn f108_114 rfl
            · refine (x_aload f108_99 rfl rfl).trans ?_
              refine (x_get2 f108_100 rfl rfl).trans ?_
              refine g_c ?_
              refine g_c ?_
              refine (x_iload f108_103 rfl rfl).trans ?_
              refine (x_iconst f108_104 rfl).trans ?_
              refine (x_isub f108_106 rfl).trans ?_
              refine (x_invokevirtual (G := grd (kd (s1 l0 9) = 6) (bnI (sem 86 0 [aA (s1 l0 9), aI (w32 (l1 - 7))] [] s1) fun a4 s3 => sem 108 110 [aA l0, aI l1] [aI a4] s3)) f108_107 rfl rfl).trans ?_
              refine g_c ?_
              refine bI_c fun a4 s3 => ?_
              refine (x_goto (tg := 114) f108_110 rfl rfl).trans ?_
              refine (x_kil (l2 := [aU, aU]) f108_114 rfl).trans ?_
              exact x_ireturn f108_114 rfl
          · refine (x_iload f108_47 rfl rfl).trans ?_
            refine (x_iconst f108_48 rfl).trans ?_
            refine (x_icmp_ne (tg := 62) f108_49 rfl rfl).trans (i_c ?_ ?_)
            · refine (x_aload f108_52 rfl rfl).trans ?_
              refine (x_get2 f108_53 rfl rfl).trans ?_
              refine g_c ?_
              refine g_c ?_
              refine (x_get0 f108_56 rfl rfl).trans ?_
              refine g_c ?_
              refine (x_goto (tg := 84) f108_59 rfl rfl).trans ?_
              refine (x_kil (l2 := [aU, aU]) f108_84 rfl).trans ?_
              exact x_ireturn f108_84 rfl
            · refine (x_iload f108_62 rfl rfl).trans ?_
              refine (x_iconst f108_63 rfl).trans ?_
              refine (x_icmp_ne (tg := 77) f108_64 rfl rfl).trans (i_c ?_ ?_)
              · refine (x_aload f108_67 rfl rfl).trans ?_
                refine (x_get2 f108_68 rfl rfl).trans ?_
                refine g_c ?_
                refine g_c ?_
                refine (x_get0 f108_71 rfl rfl).trans ?_
                refine g_c ?_
                refine (x_goto (tg := 84) f108_74 rfl rfl).trans ?_
                refine (x_kil (l2 := [aU, aU]) f108_84 rfl).trans ?_
                exact x_ireturn f108_84 rfl
              · refine (x_aload f108_77 rfl rfl).trans ?_
                refine (x_get2 f108_78 rfl rfl).trans ?_
                refine g_c ?_
                refine g_c ?_
                refine (x_get0 f108_81 rfl rfl).trans ?_
                refine g_c ?_
                refine (x_kil (l2 := [aU, aU]) f108_84 rfl).trans ?_
                exact x_ireturn f108_84 rfl
        · refine (x_aload f108_30 rfl rfl).trans ?_
          refine (x_get2 f108_31 rfl rfl).trans ?_
          refine g_c ?_
          refine g_c ?_
          refine (x_iload f108_34 rfl rfl).trans ?_
          refine (x_iconst f108_35 rfl).trans ?_
          refine (x_isub f108_36 rfl).trans ?_
          refine (x_invokevirtual (G := grd (kd (s l0 9) = 6) (bnI (sem 83 0 [aA (s l0 9), aI (w32 (l1 - 1))] [] s) fun a6 s5 => sem 108 40 [aA l0, aI l1] [aI a6] s5)) f108_37 rfl rfl).trans ?_
          refine g_c ?_
          refine bI_c fun a6 s5 => ?_
          exact x_ireturn f108_40 rfl
theorem f109_0 : fch 109 0 = some (.aload 0, 1, []) := by decide +kernel
theorem f109_1 : fch 109 1 = some (.iload 1, 2, []) := by decide +kernel
theorem f109_2 : fch 109 2 = some (.iload 2, 3, []) := by decide +kernel
theorem f109_3 : fch 109 3 = some (.invokevirtual 145, 6, []) := by decide +kernel
theorem f109_6 : fch 109 6 = some (.istore 4, 8, []) := by decide +kernel
theorem f109_8 : fch 109 8 = some (.iload 4, 10, []) := by decide +kernel
theorem f109_10 : fch 109 10 = some (.ifCond .eq 19, 13, []) := by decide +kernel
theorem f109_13 : fch 109 13 = some (.iload 4, 15, []) := by decide +kernel
theorem f109_15 : fch 109 15 = some (.i2l, 16, []) := by decide +kernel
theorem f109_16 : fch 109 16 = some (.goto 39, 19, []) := by decide +kernel
theorem f109_19 : fch 109 19 = some (.aload 0, 20, []) := by decide +kernel
theorem f109_20 : fch 109 20 = some (.invokeinterface 8 2, 23, []) := by decide +kernel
theorem f109_23 : fch 109 23 = some (.iload 1, 24, []) := by decide +kernel
theorem f109_24 : fch 109 24 = some (.iload 2, 25, []) := by decide +kernel
theorem f109_25 : fch 109 25 = some (.invokevirtual 7, 28, []) := by decide +kernel
theorem f109_28 : fch 109 28 = some (.aload 0, 29, []) := by decide +kernel
theorem f109_29 : fch 109 29 = some (.invokeinterface 8 2, 32, []) := by decide +kernel
theorem f109_32 : fch 109 32 = some (.invokevirtual 5, 35, []) := by decide +kernel
theorem f109_35 : fch 109 35 = some (.iload 3, 36, []) := by decide +kernel
theorem f109_36 : fch 109 36 = some (.invokestatic 149, 39, []) := by decide +kernel
theorem f109_39 : fch 109 39 = some (.lreturn, 40, [0, 1, 2, 3, 4]) := by decide +kernel
set_option maxRecDepth 10000 in
theorem e109_0 (l0 l1 l2 l3 : Int) (s : SG) : sem 109 0 [aA l0, aI l1, aI l2, aI l3, aU] [] s = grd (kd l0 = 8) (bnI (sem 145 0 [aA l0, aI l1, aI l2] [] s) fun a2 s1 => if a2 = 0 then grd (kd l0 = 8) (grd (0 ≤ s1 l0 2) (grd (kd (s1 l0 2) = 0) (bnL (sem 7 0 [aA (s1 l0 2), aI l1, aI l2] [] s1) fun a4 s3 => grd (kd l0 = 8) (grd (0 ≤ s3 l0 2) (grd (kd (s3 l0 2) = 0) (bnL (sem 5 0 [aA (s3 l0 2)] [] s3) fun a6 s5 => bnL (sem 149 0 [aL a4, aU, aL a6, aU, aI l3, aU, aU] [] s5) fun a8 s7 => some (aL a8, s7))))))) else some (aL a2, s1)) := by
  refine (x_aload f109_0 rfl rfl).trans ?_
  refine (x_iload f109_1 rfl rfl).trans ?_
  refine (x_iload f109_2 rfl rfl).trans ?_
  refine (x_invokevirtual (G := grd (kd l0 = 8) (bnI (sem 145 0 [aA l0, aI l1, aI l2] [] s) fun a2 s1 => sem 109 6 [aA l0, aI l1, aI l2, aI l3, aU] [aI a2] s1)) f109_3 rfl rfl).trans ?_
  refine g_c ?_
  refine bI_c fun a2 s1 => ?_
  refine (x_istore (l2 := [aA l0, aI l1, aI l2, aI l3, aI a2]) f109_6 rfl rfl).trans ?_
  refine (x_iload f109_8 rfl rfl).trans ?_
  refine (x_if_eq (tg := 19) f109_10 rfl rfl).trans (i_c ?_ ?_)
  · refine (x_aload f109_19 rfl rfl).trans ?_
    refine (x_get2 f109_20 rfl rfl).trans ?_
    refine g_c ?_
    refine g_c ?_
    refine (x_iload f109_23 rfl rfl).trans ?_
    refine (x_iload f109_24 rfl rfl).trans ?_
    refine (x_invokevirtual (G := grd (kd (s1 l0 2) = 0) (bnL (sem 7 0 [aA (s1 l0 2), aI l1, aI l2] [] s1) fun a4 s3 => sem 109 28 [aA l0, aI l1, aI l2, aI l3, aI a2] [aL a4] s3)) f109_25 rfl rfl).trans ?_
    refine g_c ?_
    refine bL_c fun a4 s3 => ?_
    refine (x_aload f109_28 rfl rfl).trans ?_
    refine (x_get2 f109_29 rfl rfl).trans ?_
    refine g_c ?_
    refine g_c ?_
    refine (x_invokevirtual (G := grd (kd (s3 l0 2) = 0) (bnL (sem 5 0 [aA (s3 l0 2)] [] s3) fun a6 s5 => sem 109 35 [aA l0, aI l1, aI l2, aI l3, aI a2] [aL a6, aL a4] s5)) f109_32 rfl rfl).trans ?_
    refine g_c ?_
    refine bL_c fun a6 s5 => ?_
    refine (x_iload f109_35 rfl rfl).trans ?_
    refine (x_invokestatic (G := bnL (sem 149 0 [aL a4, aU, aL a6, aU, aI l3, aU, aU] [] s5) fun a8 s7 => sem 109 39 [aA l0, aI l1, aI l2, aI l3, aI a2] [aL a8] s7) f109_36 rfl rfl).trans ?_
    refine bL_c fun a8 s7 => ?_
    refine (x_kil (l2 := [aU, aU, aU, aU, aU]) f109_39 rfl).trans ?_
    exact x_lreturn f109_39 rfl
  · refine (x_iload f109_13 rfl rfl).trans ?_
    refine (x_i2l f109_15 rfl).trans ?_
    refine (x_goto (tg := 39) f109_16 rfl rfl).trans ?_
    refine (x_kil (l2 := [aU, aU, aU, aU, aU]) f109_39 rfl).trans ?_
    exact x_lreturn f109_39 rfl
theorem f110_0 : fch 110 0 = some (.aload 0, 1, []) := by decide +kernel
theorem f110_1 : fch 110 1 = some (.iload 1, 2, []) := by decide +kernel
theorem f110_2 : fch 110 2 = some (.iload 2, 3, []) := by decide +kernel
theorem f110_3 : fch 110 3 = some (.invokevirtual 145, 6, []) := by decide +kernel
theorem f110_6 : fch 110 6 = some (.istore 4, 8, []) := by decide +kernel
theorem f110_8 : fch 110 8 = some (.iload 4, 10, []) := by decide +kernel
theorem f110_10 : fch 110 10 = some (.ifCond .eq 19, 13, []) := by decide +kernel
theorem f110_13 : fch 110 13 = some (.iload 4, 15, []) := by decide +kernel
theorem f110_15 : fch 110 15 = some (.i2l, 16, []) := by decide +kernel
theorem f110_16 : fch 110 16 = some (.goto 39, 19, []) := by decide +kernel
theorem f110_19 : fch 110 19 = some (.aload 0, 20, []) := by decide +kernel
theorem f110_20 : fch 110 20 = some (.invokeinterface 8 2, 23, []) := by decide +kernel
theorem f110_23 : fch 110 23 = some (.iload 1, 24, []) := by decide +kernel
theorem f110_24 : fch 110 24 = some (.iload 2, 25, []) := by decide +kernel
theorem f110_25 : fch 110 25 = some (.invokevirtual 8, 28, []) := by decide +kernel
theorem f110_28 : fch 110 28 = some (.aload 0, 29, []) := by decide +kernel
theorem f110_29 : fch 110 29 = some (.invokeinterface 8 2, 32, []) := by decide +kernel
theorem f110_32 : fch 110 32 = some (.invokevirtual 5, 35, []) := by decide +kernel
theorem f110_35 : fch 110 35 = some (.iload 3, 36, []) := by decide +kernel
theorem f110_36 : fch 110 36 = some (.invokestatic 149, 39, []) := by decide +kernel
theorem f110_39 : fch 110 39 = some (.lreturn, 40, [0, 1, 2, 3, 4]) := by decide +kernel
set_option maxRecDepth 10000 in
theorem e110_0 (l0 l1 l2 l3 : Int) (s : SG) : sem 110 0 [aA l0, aI l1, aI l2, aI l3, aU] [] s = grd (kd l0 = 8) (bnI (sem 145 0 [aA l0, aI l1, aI l2] [] s) fun a2 s1 => if a2 = 0 then grd (kd l0 = 8) (grd (0 ≤ s1 l0 2) (grd (kd (s1 l0 2) = 0) (bnL (sem 8 0 [aA (s1 l0 2), aI l1, aI l2] [] s1) fun a4 s3 => grd (kd l0 = 8) (grd (0 ≤ s3 l0 2) (grd (kd (s3 l0 2) = 0) (bnL (sem 5 0 [aA (s3 l0 2)] [] s3) fun a6 s5 => bnL (sem 149 0 [aL a4, aU, aL a6, aU, aI l3, aU, aU] [] s5) fun a8 s7 => some (aL a8, s7))))))) else some (aL a2, s1)) := by
  refine (x_aload f110_0 rfl rfl).trans ?_
  refine (x_iload f110_1 rfl rfl).trans ?_
  refine (x_iload f110_2 rfl rfl).trans ?_
  refine (x_invokevirtual (G := grd (kd l0 = 8) (bnI (sem 145 0 [aA l0, aI l1, aI l2] [] s) fun a2 s1 => sem 110 6 [aA l0, aI l1, aI l2, aI l3, aU] [aI a2] s1)) f110_3 rfl rfl).trans ?_
  refine g_c ?_
  refine bI_c fun a2 s1 => ?_
  refine (x_istore (l2 := [aA l0, aI l1, aI l2, aI l3, aI a2]) f110_6 rfl rfl).trans ?_
  refine (x_iload f110_8 rfl rfl).trans ?_
  refine (x_if_eq (tg := 19) f110_10 rfl rfl).trans (i_c ?_ ?_)
  · refine (x_aload f110_19 rfl rfl).trans ?_
    refine (x_get2 f110_20 rfl rfl).trans ?_
    refine g_c ?_
    refine g_c ?_
    refine (x_iload f110_23 rfl rfl).trans ?_
    refine (x_iload f110_24 rfl rfl).trans ?_
    refine (x_invokevirtual (G := grd (kd (s1 l0 2) = 0) (bnL (sem 8 0 [aA (s1 l0 2), aI l1, aI l2] [] s1) fun a4 s3 => sem 110 28 [aA l0, aI l1, aI l2, aI l3, aI a2] [aL a4] s3)) f110_25 rfl rfl).trans ?_
    refine g_c ?_
    refine bL_c fun a4 s3 => ?_
    refine (x_aload f110_28 rfl rfl).trans ?_
    refine (x_get2 f110_29 rfl rfl).trans ?_
    refine g_c ?_
    refine g_c ?_
    refine (x_invokevirtual (G := grd (kd (s3 l0 2) = 0) (bnL (sem 5 0 [aA (s3 l0 2)] [] s3) fun a6 s5 => sem 110 35 [aA l0, aI l1, aI l2, aI l3, aI a2] [aL a6, aL a4] s5)) f110_32 rfl rfl).trans ?_
    refine g_c ?_
    refine bL_c fun a6 s5 => ?_
    refine (x_iload f110_35 rfl rfl).trans ?_
    refine (x_invokestatic (G := bnL (sem 149 0 [aL a4, aU, aL a6, aU, aI l3, aU, aU] [] s5) fun a8 s7 => sem 110 39 [aA l0, aI l1, aI l2, aI l3, aI a2] [aL a8] s7) f110_36 rfl rfl).trans ?_
    refine bL_c fun a8 s7 => ?_
    refine (x_kil (l2 := [aU, aU, aU, aU, aU]) f110_39 rfl).trans ?_
    exact x_lreturn f110_39 rfl
  · refine (x_iload f110_13 rfl rfl).trans ?_
    refine (x_i2l f110_15 rfl).trans ?_
    refine (x_goto (tg := 39) f110_16 rfl rfl).trans ?_
    refine (x_kil (l2 := [aU, aU, aU, aU, aU]) f110_39 rfl).trans ?_
    exact x_lreturn f110_39 rfl
theorem f111_0 : fch 111 0 = some (.aload 0, 1, []) := by decide +kernel
theorem f111_1 : fch 111 1 = some (.iload 2, 2, []) := by decide +kernel
theorem f111_2 : fch 111 2 = some (.iload 1, 3, []) := by decide +kernel
theorem f111_3 : fch 111 3 = some (.invokevirtual 145, 6, []) := by decide +kernel
theorem f111_6 : fch 111 6 = some (.istore 3, 7, []) := by decide +kernel
theorem f111_7 : fch 111 7 = some (.iload 3, 8, []) := by decide +kernel
theorem f111_8 : fch 111 8 = some (.ifCond .eq 15, 11, []) := by decide +kernel
theorem f111_11 : fch 111 11 = some (.iload 3, 12, []) := by decide +kernel
theorem f111_12 : fch 111 12 = some (.goto 28, 15, []) := by decide +kernel
theorem f111_15 : fch 111 15 = some (.aload 0, 16, []) := by decide +kernel
theorem f111_16 : fch 111 16 = some (.invokeinterface 8 2, 19, []) := by decide +kernel
theorem f111_19 : fch 111 19 = some (.aload 0, 20, []) := by decide +kernel
theorem f111_20 : fch 111 20 = some (.invokeinterface 8 9, 23, []) := by decide +kernel
theorem f111_23 : fch 111 23 = some (.iload 1, 24, []) := by decide +kernel
theorem f111_24 : fch 111 24 = some (.iload 2, 25, []) := by decide +kernel
theorem f111_25 : fch 111 25 = some (.invokevirtual 9, 28, []) := by decide +kernel
theorem f111_28 : fch 111 28 = some (.ireturn, 29, [0, 1, 2, 3]) := by decide +kernel
set_option maxRecDepth 10000 in
theorem e111_0 (l0 l1 l2 : Int) (s : SG) : sem 111 0 [aA l0, aI l1, aI l2, aU] [] s = grd (kd l0 = 8) (bnI (sem 145 0 [aA l0, aI l2, aI l1] [] s) fun a2 s1 => if a2 = 0 then grd (kd l0 = 8) (grd (0 ≤ s1 l0 2) (grd (kd l0 = 8) (grd (0 ≤ s1 l0 9) (grd (kd (s1 l0 2) = 0) (bnI (sem 9 0 [aA (s1 l0 2), aA (s1 l0 9), aI l1, aI l2] [] s1) fun a4 s3 => some (aI a4, s3)))))) else some (aI a2, s1)) := by
  refine (x_aload f111_0 rfl rfl).trans ?_
  refine (x_iload f111_1 rfl rfl).trans ?_
  refine (x_iload f111_2 rfl rfl).trans ?_
  refine (x_invokevirtual (G := grd (kd l0 = 8) (bnI (sem 145 0 [aA l0, aI l2, aI l1] [] s) fun a2 s1 => sem 111 6 [aA l0, aI l1, aI l2, aU] [aI a2] s1)) f111_3 rfl rfl).trans ?_
  refine g_c ?_
  refine bI_c fun a2 s1 => ?_
  refine (x_istore (l2 := [aA l0, aI l1, aI l2, aI a2]) f111_6 rfl rfl).trans ?_
  refine (x_iload f111_7 rfl rfl).trans ?_
  refine (x_if_eq (tg := 15) f111_8 rfl rfl).trans (i_c ?_ ?_)
  · refine (x_aload f111_15 rfl rfl).trans ?_
    refine (x_get2 f111_16 rfl rfl).trans ?_
    refine g_c ?_
    refine g_c ?_
    refine (x_aload f111_19 rfl rfl).trans ?_
    refine (x_get2 f111_20 rfl rfl).trans ?_
    refine g_c ?_
    refine g_c ?_
    refine (x_iload f111_23 rfl rfl).trans ?_
    refine (x_iload f111_24 rfl rfl).trans ?_
    refine (x_invokevirtual (G := grd (kd (s1 l0 2) = 0) (bnI (sem 9 0 [aA (s1 l0 2), aA (s1 l0 9), aI l1, aI l2] [] s1) fun a4 s3 => sem 111 28 [aA l0, aI l1, aI l2, aI a2] [aI a4] s3)) f111_25 rfl rfl).trans ?_
    refine g_c ?_
    refine bI_c fun a4 s3 => ?_
    refine (x_kil (l2 := [aU, aU, aU, aU]) f111_28 rfl).trans ?_
    exact x_ireturn f111_28 rfl
  · refine (x_iload f111_11 rfl rfl).trans ?_
    refine (x_goto (tg := 28) f111_12 rfl rfl).trans ?_
    refine (x_kil (l2 := [aU, aU, aU, aU]) f111_28 rfl).trans ?_
    exact x_ireturn f111_28 rfl
theorem f112_0 : fch 112 0 = some (.iload 1, 1, []) := by decide +kernel
theorem f112_1 : fch 112 1 = some (.invokestatic 143, 4, []) := by decide +kernel
theorem f112_4 : fch 112 4 = some (.ifCond .ne 11, 7, []) := by decide +kernel
theorem f112_7 : fch 112 7 = some (.sipush (-2), 10, []) := by decide +kernel
theorem f112_10 : fch 112 10 = some (.lreturn, 11, []) := by decide +kernel
theorem f112_11 : fch 112 11 = some (.aload 0, 12, []) := by decide +kernel
theorem f112_12 : fch 112 12 = some (.invokeinterface 8 2, 15, []) := by decide +kernel
theorem f112_15 : fch 112 15 = some (.aload 0, 16, []) := by decide +kernel
theorem f112_16 : fch 112 16 = some (.invokeinterface 8 9, 19, []) := by decide +kernel
theorem f112_19 : fch 112 19 = some (.iload 1, 20, []) := by decide +kernel
theorem f112_20 : fch 112 20 = some (.invokevirtual 10, 23, []) := by decide +kernel
theorem f112_23 : fch 112 23 = some (.aload 0, 24, []) := by decide +kernel
theorem f112_24 : fch 112 24 = some (.invokeinterface 8 2, 27, []) := by decide +kernel
theorem f112_27 : fch 112 27 = some (.invokevirtual 5, 30, []) := by decide +kernel
theorem f112_30 : fch 112 30 = some (.iload 2, 31, []) := by decide +kernel
theorem f112_31 : fch 112 31 = some (.invokestatic 149, 34, []) := by decide +kernel
theorem f112_34 : fch 112 34 = some (.lstore 3, 35, []) := by decide +kernel
theorem f112_35 : fch 112 35 = some (.iload 2, 36, []) := by decide +kernel
theorem f112_36 : fch 112 36 = some (.ifCond .eq 47, 39, []) := by decide +kernel
theorem f112_39 : fch 112 39 = some (.lload 3, 40, []) := by decide +kernel
theorem f112_40 : fch 112 40 = some (.sipush 1000000, 43, []) := by decide +kernel
theorem f112_43 : fch 112 43 = some (.ladd, 44, []) := by decide +kernel
theorem f112_44 : fch 112 44 = some (.goto 48, 47, []) := by decide +kernel
theorem f112_47 : fch 112 47 = some (.lload 3, 48, []) := by decide +kernel
theorem f112_48 : fch 112 48 = some (.lreturn, 49, [0, 1, 2, 3]) := by decide +kernel
set_option maxRecDepth 10000 in
theorem e112_0 (l0 l1 l2 : Int) (s : SG) : sem 112 0 [aA l0, aI l1, aI l2, aU, aU] [] s = bnI (sem 143 0 [aI l1] [] s) fun a2 s1 => if a2 = 0 then some (aL ((-2)), s1) else grd (kd l0 = 8) (grd (0 ≤ s1 l0 2) (grd (kd l0 = 8) (grd (0 ≤ s1 l0 9) (grd (kd (s1 l0 2) = 0) (bnL (sem 10 0 [aA (s1 l0 2), aA (s1 l0 9), aI l1] [] s1) fun a4 s3 => grd (kd l0 = 8) (grd (0 ≤ s3 l0 2) (grd (kd (s3 l0 2) = 0) (bnL (sem 5 0 [aA (s3 l0 2)] [] s3) fun a6 s5 => bnL (sem 149 0 [aL a4, aU, aL a6, aU, aI l2, aU, aU] [] s5) fun a8 s7 => if l2 = 0 then some (aL a8, s7) else some (aL (w64 (a8 + 1000000)), s7))))))))) := by
  refine (x_iload f112_0 rfl rfl).trans ?_
  refine (x_invokestatic (G := bnI (sem 143 0 [aI l1] [] s) fun a2 s1 => sem 112 4 [aA l0, aI l1, aI l2, aU, aU] [aI a2] s1) f112_1 rfl rfl).trans ?_
  refine bI_c fun a2 s1 => ?_
  refine (x_if_ne (tg := 11) f112_4 rfl rfl).trans (i_c ?_ ?_)
  · refine (x_lconst f112_7 rfl).trans ?_
    exact x_lreturn f112_10 rfl
  · refine (x_aload f112_11 rfl rfl).trans ?_
    refine (x_get2 f112_12 rfl rfl).trans ?_
    refine g_c ?_
    refine g_c ?_
    refine (x_aload f112_15 rfl rfl).trans ?_
    refine (x_get2 f112_16 rfl rfl).trans ?_
    refine g_c ?_
    refine g_c ?_
    refine (x_iload f112_19 rfl rfl).trans ?_
    refine (x_invokevirtual (G := grd (kd (s1 l0 2) = 0) (bnL (sem 10 0 [aA (s1 l0 2), aA (s1 l0 9), aI l1] [] s1) fun a4 s3 => sem 112 23 [aA l0, aI l1, aI l2, aU, aU] [aL a4] s3)) f112_20 rfl rfl).trans ?_
    refine g_c ?_
    refine bL_c fun a4 s3 => ?_
    refine (x_aload f112_23 rfl rfl).trans ?_
    refine (x_get2 f112_24 rfl rfl).trans ?_
    refine g_c ?_
    refine g_c ?_
    refine (x_invokevirtual (G := grd (kd (s3 l0 2) = 0) (bnL (sem 5 0 [aA (s3 l0 2)] [] s3) fun a6 s5 => sem 112 30 [aA l0, aI l1, aI l2, aU, aU] [aL a6, aL a4] s5)) f112_27 rfl rfl).trans ?_
    refine g_c ?_
    refine bL_c fun a6 s5 => ?_
    refine (x_iload f112_30 rfl rfl).trans ?_
    refine (x_invokestatic (G := bnL (sem 149 0 [aL a4, aU, aL a6, aU, aI l2, aU, aU] [] s5) fun a8 s7 => sem 112 34 [aA l0, aI l1, aI l2, aU, aU] [aL a8] s7) f112_31 rfl rfl).trans ?_
    refine bL_c fun a8 s7 => ?_
    refine (x_lstore (l2 := [aA l0, aI l1, aI l2, aL a8, aU]) f112_34 rfl rfl).trans ?_
    refine (x_iload f112_35 rfl rfl).trans ?_
    refine (x_if_eq (tg := 47) f112_36 rfl rfl).trans (i_c ?_ ?_)
    · refine (x_lload f112_47 rfl rfl).trans ?_
      refine (x_kil (l2 := [aU, aU, aU, aU, aU]) f112_48 rfl).trans ?_
      exact x_lreturn f112_48 rfl
    · refine (x_lload f112_39 rfl rfl).trans ?_
      refine (x_lconst f112_40 rfl).trans ?_
      refine (x_ladd f112_43 rfl).trans ?_
      refine (x_goto (tg := 48) f112_44 rfl rfl).trans ?_
      refine (x_kil (l2 := [aU, aU, aU, aU, aU]) f112_48 rfl).trans ?_
      exact x_lreturn f112_48 rfl
theorem f113_0 : fch 113 0 = some (.aload 0, 1, []) := by decide +kernel
theorem f113_1 : fch 113 1 = some (.invokeinterface 8 2, 4, []) := by decide +kernel
theorem f113_4 : fch 113 4 = some (.aload 0, 5, []) := by decide +kernel
theorem f113_5 : fch 113 5 = some (.invokeinterface 8 9, 8, []) := by decide +kernel
theorem f113_8 : fch 113 8 = some (.invokevirtual 12, 11, []) := by decide +kernel
theorem f113_11 : fch 113 11 = some (.ireturn, 12, []) := by decide +kernel
set_option maxRecDepth 10000 in
theorem e113_0 (l0 : Int) (s : SG) : sem 113 0 [aA l0] [] s = grd (kd l0 = 8) (grd (0 ≤ s l0 2) (grd (kd l0 = 8) (grd (0 ≤ s l0 9) (grd (kd (s l0 2) = 0) (bnI (sem 12 0 [aA (s l0 2), aA (s l0 9), aU, aU, aU, aU, aU, aU] [] s) fun a2 s1 => some (aI a2, s1)))))) := by
  refine (x_aload f113_0 rfl rfl).trans ?_
  refine (x_get2 f113_1 rfl rfl).trans ?_
  refine g_c ?_
  refine g_c ?_
  refine (x_aload f113_4 rfl rfl).trans ?_
  refine (x_get2 f113_5 rfl rfl).trans ?_
  refine g_c ?_
  refine g_c ?_
  refine (x_invokevirtual (G := grd (kd (s l0 2) = 0) (bnI (sem 12 0 [aA (s l0 2), aA (s l0 9), aU, aU, aU, aU, aU, aU] [] s) fun a2 s1 => sem 113 11 [aA l0] [aI a2] s1)) f113_8 rfl rfl).trans ?_
  refine g_c ?_
  refine bI_c fun a2 s1 => ?_
  exact x_ireturn f113_11 rfl
theorem f114_0 : fch 114 0 = some (.aload 0, 1, []) := by decide +kernel
theorem f114_1 : fch 114 1 = some (.iload 2, 2, []) := by decide +kernel
theorem f114_2 : fch 114 2 = some (.iload 1, 3, []) := by decide +kernel
theorem f114_3 : fch 114 3 = some (.invokevirtual 145, 6, []) := by decide +kernel
theorem f114_6 : fch 114 6 = some (.istore 5, 8, []) := by decide +kernel
theorem f114_8 : fch 114 8 = some (.iload 5, 10, []) := by decide +kernel
theorem f114_10 : fch 114 10 = some (.ifCond .eq 17, 13, []) := by decide +kernel
theorem f114_13 : fch 114 13 = some (.iload 5, 15, []) := by decide +kernel
theorem f114_15 : fch 114 15 = some (.i2l, 16, []) := by decide +kernel
theorem f114_16 : fch 114 16 = some (.lreturn, 17, []) := by decide +kernel
theorem f114_17 : fch 114 17 = some (.iload 3, 18, []) := by decide +kernel
theorem f114_18 : fch 114 18 = some (.ifCond .lt 26, 21, []) := by decide +kernel
theorem f114_21 : fch 114 21 = some (.iload 3, 22, []) := by decide +kernel
theorem f114_22 : fch 114 22 = some (.iload 1, 23, []) := by decide +kernel
theorem f114_23 : fch 114 23 = some (.if_icmp .le 30, 26, []) := by decide +kernel
theorem f114_26 : fch 114 26 = some (.sipush (-2), 29, [0, 1, 2, 3, 4, 5]) := by decide +kernel
theorem f114_29 : fch 114 29 = some (.lreturn, 30, []) := by decide +kernel
theorem f114_30 : fch 114 30 = some (.aload 0, 31, []) := by decide +kernel
theorem f114_31 : fch 114 31 = some (.invokeinterface 8 2, 34, []) := by decide +kernel
theorem f114_34 : fch 114 34 = some (.aload 0, 35, []) := by decide +kernel
theorem f114_35 : fch 114 35 = some (.invokeinterface 8 9, 38, []) := by decide +kernel
theorem f114_38 : fch 114 38 = some (.iload 1, 39, []) := by decide +kernel
theorem f114_39 : fch 114 39 = some (.invokevirtual 10, 42, []) := by decide +kernel
theorem f114_42 : fch 114 42 = some (.aload 0, 43, []) := by decide +kernel
theorem f114_43 : fch 114 43 = some (.invokeinterface 8 2, 46, []) := by decide +kernel
theorem f114_46 : fch 114 46 = some (.aload 0, 47, []) := by decide +kernel
theorem f114_47 : fch 114 47 = some (.invokeinterface 8 9, 50, []) := by decide +kernel
theorem f114_50 : fch 114 50 = some (.iload 1, 51, []) := by decide +kernel
theorem f114_51 : fch 114 51 = some (.iload 2, 52, []) := by decide +kernel
theorem f114_52 : fch 114 52 = some (.iload 3, 53, []) := by decide +kernel
theorem f114_53 : fch 114 53 = some (.invokevirtual 11, 56, []) := by decide +kernel
theorem f114_56 : fch 114 56 = some (.lsub, 57, []) := by decide +kernel
theorem f114_57 : fch 114 57 = some (.lstore 6, 59, []) := by decide +kernel
theorem f114_59 : fch 114 59 = some (.lload 6, 61, []) := by decide +kernel
theorem f114_61 : fch 114 61 = some (.aload 0, 62, []) := by decide +kernel
theorem f114_62 : fch 114 62 = some (.invokeinterface 8 2, 65, []) := by decide +kernel
theorem f114_65 : fch 114 65 = some (.invokevirtual 5, 68, []) := by decide +kernel
theorem f114_68 : fch 114 68 = some (.iload 4, 70, []) := by decide +kernel
theorem f114_70 : fch 114 70 = some (.invokestatic 149, 73, []) := by decide +kernel
theorem f114_73 : fch 114 73 = some (.lreturn, 74, []) := by decide +kernel
set_option maxRecDepth 10000 in
theorem e114_0 (l0 l1 l2 l3 l4 : Int) (s : SG) : sem 114 0 [aA l0, aI l1, aI l2, aI l3, aI l4, aU, aU, aU] [] s = grd (kd l0 = 8) (bnI (sem 145 0 [aA l0, aI l2, aI l1] [] s) fun a2 s1 => if a2 = 0 then if l3 < 0 then some (aL ((-2)), s1) else if l1 < l3 then some (aL ((-2)), s1) else grd (kd l0 = 8) (grd (0 ≤ s1 l0 2) (grd (kd l0 = 8) (grd (0 ≤ s1 l0 9) (grd (kd (s1 l0 2) = 0) (bnL (sem 10 0 [aA (s1 l0 2), aA (s1 l0 9), aI l1] [] s1) fun a4 s3 => grd (kd l0 = 8) (grd (0 ≤ s3 l0 2) (grd (kd l0 = 8) (grd (0 ≤ s3 l0 9) (grd (kd (s3 l0 2) = 0) (bnL (sem 11 0 [aA (s3 l0 2), aA (s3 l0 9), aI l1, aI l2, aI l3] [] s3) fun a6 s5 => grd (kd l0 = 8) (grd (0 ≤ s5 l0 2) (grd (kd (s5 l0 2) = 0) (bnL (sem 5 0 [aA (s5 l0 2)] [] s5) fun a8 s7 => bnL (sem 149 0 [aL (w64 (a4 - a6)), aU, aL a8, aU, aI l4, aU, aU] [] s7) fun a10 s9 => some (aL a10, s9)))))))))))))) else some (aL a2, s1)) := by
  refine (x_aload f114_0 rfl rfl).trans ?_
  refine (x_iload f114_1 rfl rfl).trans ?_
  refine (x_iload f114_2 rfl rfl).trans ?_
  refine (x_invokevirtual (G := grd (kd l0 = 8) (bnI (sem 145 0 [aA l0, aI l2, aI l1] [] s) fun a2 s1 => sem 114 6 [aA l0, aI l1, aI l2, aI l3, aI l4, aU, aU, aU] [aI a2] s1)) f114_3 rfl rfl).trans ?_
  refine g_c ?_
  refine bI_c fun a2 s1 => ?_
  refine (x_istore (l2 := [aA l0, aI l1, aI l2, aI l3, aI l4, aI a2, aU, aU]) f114_6 rfl rfl).trans ?_
  refine (x_iload f114_8 rfl rfl).trans ?_
  refine (x_if_eq (tg := 17) f114_10 rfl rfl).trans (i_c ?_ ?_)
  · refine (x_iload f114_17 rfl rfl).trans ?_
    refine (x_if_lt (tg := 26) f114_18 rfl rfl).trans (i_c ?_ ?_)
    · refine (x_kil (l2 := [aU, aU, aU, aU, aU, aU, aU, aU]) f114_26 rfl).trans ?_
      refine (x_lconst f114_26 rfl).trans ?_
      exact x_lreturn f114_29 rfl
    · refine (x_iload f114_21 rfl rfl).trans ?_
      refine (x_iload f114_22 rfl rfl).trans ?_
      refine (x_icmp_le (tg := 30) f114_23 rfl rfl).trans (i_c ?_ ?_)
      · refine (x_kil (l2 := [aU, aU, aU, aU, aU, aU, aU, aU]) f114_26 rfl).trans ?_
        refine (x_lconst f114_26 rfl).trans ?_
        exact x_lreturn f114_29 rfl
      · refine (x_aload f114_30 rfl rfl).trans ?_
        refine (x_get2 f114_31 rfl rfl).trans ?_
        refine g_c ?_
        refine g_c ?_
        refine (x_aload f114_34 rfl rfl).trans ?_
        refine (x_get2 f114_35 rfl rfl).trans ?_
        refine g_c ?_
        refine g_c ?_
        refine (x_iload f114_38 rfl rfl).trans ?_
        refine (x_invokevirtual (G := grd (kd (s1 l0 2) = 0) (bnL (sem 10 0 [aA (s1 l0 2), aA (s1 l0 9), aI l1] [] s1) fun a4 s3 => sem 114 42 [aA l0, aI l1, aI l2, aI l3, aI l4, aI a2, aU, aU] [aL a4] s3)) f114_39 rfl rfl).trans ?_
        refine g_c ?_
        refine bL_c fun a4 s3 => ?_
        refine (x_aload f114_42 rfl rfl).trans ?_
        refine (x_get2 f114_43 rfl rfl).trans ?_
        refine g_c ?_
        refine g_c ?_
        refine (x_aload f114_46 rfl rfl).trans ?_
        refine (x_get2 f114_47 rfl rfl).trans ?_
        refine g_c ?_
        refine g_c ?_
        refine (x_iload f114_50 rfl rfl).trans ?_
        refine (x_iload f114_51 rfl rfl).trans ?_
        refine (x_iload f114_52 rfl rfl).trans ?_
        refine (x_invokevirtual (G := grd (kd (s3 l0 2) = 0) (bnL (sem 11 0 [aA (s3 l0 2), aA (s3 l0 9), aI l1, aI l2, aI l3] [] s3) fun a6 s5 => sem 114 56 [aA l0, aI l1, aI l2, aI l3, aI l4, aI a2, aU, aU] [aL a6, aL a4] s5)) f114_53 rfl rfl).trans ?_
        refine g_c ?_
        refine bL_c fun a6 s5 => ?_
        refine (x_lsub f114_56 rfl).trans ?_
        refine (x_lstore (l2 := [aA l0, aI l1, aI l2, aI l3, aI l4, aI a2, aL (w64 (a4 - a6)), aU]) f114_57 rfl rfl).trans ?_
        refine (x_lload f114_59 rfl rfl).trans ?_
        refine (x_aload f114_61 rfl rfl).trans ?_
        refine (x_get2 f114_62 rfl rfl).trans ?_
        refine g_c ?_
        refine g_c ?_
        refine (x_invokevirtual (G := grd (kd (s5 l0 2) = 0) (bnL (sem 5 0 [aA (s5 l0 2)] [] s5) fun a8 s7 => sem 114 68 [aA l0, aI l1, aI l2, aI l3, aI l4, aI a2, aL (w64 (a4 - a6)), aU] [aL a8, aL (w64 (a4 - a6))] s7)) f114_65 rfl rfl).trans ?_
        refine g_c ?_
        refine bL_c fun a8 s7 => ?_
        refine (x_iload f114_68 rfl rfl).trans ?_
        refine (x_invokestatic (G := bnL (sem 149 0 [aL (w64 (a4 - a6)), aU, aL a8, aU, aI l4, aU, aU] [] s7) fun a10 s9 => sem 114 73 [aA l0, aI l1, aI l2, aI l3, aI l4, aI a2, aL (w64 (a4 - a6)), aU] [aL a10] s9) f114_70 rfl rfl).trans ?_
        refine bL_c fun a10 s9 => ?_
        exact x_lreturn f114_73 rfl
  · refine (x_iload f114_13 rfl rfl).trans ?_
    refine (x_i2l f114_15 rfl).trans ?_
    exact x_lreturn f114_16 rfl
theorem f115_0 : fch 115 0 = some (.aload 0, 1, []) := by decide +kernel
theorem f115_1 : fch 115 1 = some (.invokeinterface 8 9, 4, []) := by decide +kernel
theorem f115_4 : fch 115 4 = some (.iload 1, 5, []) := by decide +kernel
theorem f115_5 : fch 115 5 = some (.invokevirtual 82, 8, []) := by decide +kernel
theorem f115_8 : fch 115 8 = some (.ifCond .ne 13, 11, []) := by decide +kernel
theorem f115_11 : fch 115 11 = some (.iconst (-1), 12, []) := by decide +kernel
theorem f115_12 : fch 115 12 = some (.ireturn, 13, []) := by decide +kernel
theorem f115_13 : fch 115 13 = some (.iload 2, 14, []) := by decide +kernel
theorem f115_14 : fch 115 14 = some (.ifCond .lt 23, 17, []) := by decide +kernel
theorem f115_17 : fch 115 17 = some (.iload 2, 18, []) := by decide +kernel
theorem f115_18 : fch 115 18 = some (.iconst 9, 20, []) := by decide +kernel
theorem f115_20 : fch 115 20 = some (.if_icmp .le 26, 23, []) := by decide +kernel
theorem f115_23 : fch 115 23 = some (.iconst (-2), 25, [0, 1, 2]) := by decide +kernel
theorem f115_25 : fch 115 25 = some (.ireturn, 26, []) := by decide +kernel
theorem f115_26 : fch 115 26 = some (.aload 0, 27, []) := by decide +kernel
theorem f115_27 : fch 115 27 = some (.invokeinterface 8 3, 30, []) := by decide +kernel
theorem f115_30 : fch 115 30 = some (.iload 1, 31, []) := by decide +kernel
theorem f115_31 : fch 115 31 = some (.iload 2, 32, []) := by decide +kernel
theorem f115_32 : fch 115 32 = some (.invokevirtual 66, 35, []) := by decide +kernel
theorem f115_35 : fch 115 35 = some (.ifCond .eq 48, 38, []) := by decide +kernel
theorem f115_38 : fch 115 38 = some (.aload 0, 39, []) := by decide +kernel
theorem f115_39 : fch 115 39 = some (.invokeinterface 8 3, 42, []) := by decide +kernel
theorem f115_42 : fch 115 42 = some (.invokevirtual 65, 45, []) := by decide +kernel
theorem f115_45 : fch 115 45 = some (.goto 50, 48, []) := by decide +kernel
theorem f115_48 : fch 115 48 = some (.iconst (-4), 50, []) := by decide +kernel
theorem f115_50 : fch 115 50 = some (.ireturn, 51, [0, 1, 2]) := by decide +kernel
set_option maxRecDepth 10000 in
theorem e115_0 (l0 l1 l2 : Int) (s : SG) : sem 115 0 [aA l0, aI l1, aI l2] [] s = grd (kd l0 = 8) (grd (0 ≤ s l0 9) (grd (kd (s l0 9) = 6) (bnI (sem 82 0 [aA (s l0 9), aI l1] [] s) fun a2 s1 => if a2 = 0 then some (aI ((-1)), s1) else if l2 < 0 then some (aI ((-2)), s1) else if (9 : Int) < l2 then some (aI ((-2)), s1) else grd (kd l0 = 8) (grd (0 ≤ s1 l0 3) (grd (kd (s1 l0 3) = 4) (bnI (sem 66 0 [aA (s1 l0 3), aI l1, aI l2] [] s1) fun a4 s3 => if a4 = 0 then some (aI ((-4)), s3) else grd (kd l0 = 8) (grd (0 ≤ s3 l0 3) (grd (kd (s3 l0 3) = 4) (bnI (sem 65 0 [aA (s3 l0 3)] [] s3) fun a6 s5 => some (aI a6, s5)))))))))) := by
  refine (x_aload f115_0 rfl rfl).trans ?_
  refine (x_get2 f115_1 rfl rfl).trans ?_
  refine g_c ?_
  refine g_c ?_
  refine (x_iload f115_4 rfl rfl).trans ?_
  refine (x_invokevirtual (G := grd (kd (s l0 9) = 6) (bnI (sem 82 0 [aA (s l0 9), aI l1] [] s) fun a2 s1 => sem 115 8 [aA l0, aI l1, aI l2] [aI a2] s1)) f115_5 rfl rfl).trans ?_
  refine g_c ?_
  refine bI_c fun a2 s1 => ?_
  refine (x_if_ne (tg := 13) f115_8 rfl rfl).trans (i_c ?_ ?_)
  · refine (x_iconst f115_11 rfl).trans ?_
    exact x_ireturn f115_12 rfl
  · refine (x_iload f115_13 rfl rfl).trans ?_
    refine (x_if_lt (tg := 23) f115_14 rfl rfl).trans (i_c ?_ ?_)
    · refine (x_kil (l2 := [aU, aU, aU]) f115_23 rfl).trans ?_
      refine (x_iconst f115_23 rfl).trans ?_
      exact x_ireturn f115_25 rfl
    · refine (x_iload f115_17 rfl rfl).trans ?_
      refine (x_iconst f115_18 rfl).trans ?_
      refine (x_icmp_le (tg := 26) f115_20 rfl rfl).trans (i_c ?_ ?_)
      · refine (x_kil (l2 := [aU, aU, aU]) f115_23 rfl).trans ?_
        refine (x_iconst f115_23 rfl).trans ?_
        exact x_ireturn f115_25 rfl
      · refine (x_aload f115_26 rfl rfl).trans ?_
        refine (x_get2 f115_27 rfl rfl).trans ?_
        refine g_c ?_
        refine g_c ?_
        refine (x_iload f115_30 rfl rfl).trans ?_
        refine (x_iload f115_31 rfl rfl).trans ?_
        refine (x_invokevirtual (G := grd (kd (s1 l0 3) = 4) (bnI (sem 66 0 [aA (s1 l0 3), aI l1, aI l2] [] s1) fun a4 s3 => sem 115 35 [aA l0, aI l1, aI l2] [aI a4] s3)) f115_32 rfl rfl).trans ?_
        refine g_c ?_
        refine bI_c fun a4 s3 => ?_
        refine (x_if_eq (tg := 48) f115_35 rfl rfl).trans (i_c ?_ ?_)
        · refine (x_iconst f115_48 rfl).trans ?_
          refine (x_kil (l2 := [aU, aU, aU]) f115_50 rfl).trans ?_
          exact x_ireturn f115_50 rfl
        · refine (x_aload f115_38 rfl rfl).trans ?_
          refine (x_get2 f115_39 rfl rfl).trans ?_
          refine g_c ?_
          refine g_c ?_
          refine (x_invokevirtual (G := grd (kd (s3 l0 3) = 4) (bnI (sem 65 0 [aA (s3 l0 3)] [] s3) fun a6 s5 => sem 115 45 [aA l0, aI l1, aI l2] [aI a6] s5)) f115_42 rfl rfl).trans ?_
          refine g_c ?_
          refine bI_c fun a6 s5 => ?_
          refine (x_goto (tg := 50) f115_45 rfl rfl).trans ?_
          refine (x_kil (l2 := [aU, aU, aU]) f115_50 rfl).trans ?_
          exact x_ireturn f115_50 rfl
theorem f116_0 : fch 116 0 = some (.aload 0, 1, []) := by decide +kernel
theorem f116_1 : fch 116 1 = some (.invokeinterface 8 3, 4, []) := by decide +kernel
theorem f116_4 : fch 116 4 = some (.invokevirtual 67, 7, []) := by decide +kernel
theorem f116_7 : fch 116 7 = some (.ireturn, 8, []) := by decide +kernel
set_option maxRecDepth 10000 in
theorem e116_0 (l0 : Int) (s : SG) : sem 116 0 [aA l0] [] s = grd (kd l0 = 8) (grd (0 ≤ s l0 3) (grd (kd (s l0 3) = 4) (bnI (sem 67 0 [aA (s l0 3), aU] [] s) fun a2 s1 => some (aI a2, s1)))) := by
  refine (x_aload f116_0 rfl rfl).trans ?_
  refine (x_get2 f116_1 rfl rfl).trans ?_
  refine g_c ?_
  refine g_c ?_
  refine (x_invokevirtual (G := grd (kd (s l0 3) = 4) (bnI (sem 67 0 [aA (s l0 3), aU] [] s) fun a2 s1 => sem 116 7 [aA l0] [aI a2] s1)) f116_4 rfl rfl).trans ?_
  refine g_c ?_
  refine bI_c fun a2 s1 => ?_
  exact x_ireturn f116_7 rfl
theorem f117_0 : fch 117 0 = some (.iload 1, 1, []) := by decide +kernel
theorem f117_1 : fch 117 1 = some (.invokestatic 140, 4, []) := by decide +kernel
theorem f117_4 : fch 117 4 = some (.ifCond .ne 11, 7, []) := by decide +kernel
theorem f117_7 : fch 117 7 = some (.sipush (-1), 10, []) := by decide +kernel
theorem f117_10 : fch 117 10 = some (.lreturn, 11, []) := by decide +kernel
theorem f117_11 : fch 117 11 = some (.aload 0, 12, []) := by decide +kernel
theorem f117_12 : fch 117 12 = some (.invokeinterface 8 3, 15, []) := by decide +kernel
theorem f117_15 : fch 117 15 = some (.aload 0, 16, []) := by decide +kernel
theorem f117_16 : fch 117 16 = some (.invokeinterface 8 9, 19, []) := by decide +kernel
theorem f117_19 : fch 117 19 = some (.invokevirtual 69, 22, []) := by decide +kernel
theorem f117_22 : fch 117 22 = some (.lstore 3, 23, []) := by decide +kernel
theorem f117_23 : fch 117 23 = some (.lload 3, 24, []) := by decide +kernel
theorem f117_24 : fch 117 24 = some (.sipush 0, 25, []) := by decide +kernel
theorem f117_25 : fch 117 25 = some (.lcmp, 26, []) := by decide +kernel
theorem f117_26 : fch 117 26 = some (.ifCond .ne 35, 29, []) := by decide +kernel
theorem f117_29 : fch 117 29 = some (.sipush (-3), 32, []) := by decide +kernel
theorem f117_32 : fch 117 32 = some (.goto 52, 35, []) := by decide +kernel
theorem f117_35 : fch 117 35 = some (.aload 0, 36, []) := by decide +kernel
theorem f117_36 : fch 117 36 = some (.invokeinterface 8 3, 39, []) := by decide +kernel
theorem f117_39 : fch 117 39 = some (.aload 0, 40, []) := by decide +kernel
theorem f117_40 : fch 117 40 = some (.invokeinterface 8 9, 43, []) := by decide +kernel
theorem f117_43 : fch 117 43 = some (.iload 1, 44, []) := by decide +kernel
theorem f117_44 : fch 117 44 = some (.invokevirtual 68, 47, []) := by decide +kernel
theorem f117_47 : fch 117 47 = some (.lload 3, 48, []) := by decide +kernel
theorem f117_48 : fch 117 48 = some (.iload 2, 49, []) := by decide +kernel
theorem f117_49 : fch 117 49 = some (.invokestatic 149, 52, []) := by decide +kernel
theorem f117_52 : fch 117 52 = some (.lreturn, 53, [0, 1, 2, 3]) := by decide +kernel
set_option maxRecDepth 10000 in
theorem e117_0 (l0 l1 l2 : Int) (s : SG) : sem 117 0 [aA l0, aI l1, aI l2, aU, aU] [] s = bnI (sem 140 0 [aI l1] [] s) fun a2 s1 => if a2 = 0 then some (aL ((-1)), s1) else grd (kd l0 = 8) (grd (0 ≤ s1 l0 3) (grd (kd l0 = 8) (grd (0 ≤ s1 l0 9) (grd (kd (s1 l0 3) = 4) (bnL (sem 69 0 [aA (s1 l0 3), aA (s1 l0 9), aU, aU, aU] [] s1) fun a4 s3 => if (cmpL a4 0) = 0 then some (aL ((-3)), s3) else grd (kd l0 = 8) (grd (0 ≤ s3 l0 3) (grd (kd l0 = 8) (grd (0 ≤ s3 l0 9) (grd (kd (s3 l0 3) = 4) (bnL (sem 68 0 [aA (s3 l0 3), aA (s3 l0 9), aI l1, aU, aU, aU, aU, aU] [] s3) fun a6 s5 => bnL (sem 149 0 [aL a6, aU, aL a4, aU, aI l2, aU, aU] [] s5) fun a8 s7 => some (aL a8, s7))))))))))) := by
  refine (x_iload f117_0 rfl rfl).trans ?_
  refine (x_invokestatic (G := bnI (sem 140 0 [aI l1] [] s) fun a2 s1 => sem 117 4 [aA l0, aI l1, aI l2, aU, aU] [aI a2] s1) f117_1 rfl rfl).trans ?_
  refine bI_c fun a2 s1 => ?_
  refine (x_if_ne (tg := 11) f117_4 rfl rfl).trans (i_c ?_ ?_)
  · refine (x_lconst f117_7 rfl).trans ?_
    exact x_lreturn f117_10 rfl
  · refine (x_aload f117_11 rfl rfl).trans ?_
    refine (x_get2 f117_12 rfl rfl).trans ?_
    refine g_c ?_
    refine g_c ?_
    refine (x_aload f117_15 rfl rfl).trans ?_
    refine (x_get2 f117_16 rfl rfl).trans ?_
    refine g_c ?_
    refine g_c ?_
    refine (x_invokevirtual (G := grd (kd (s1 l0 3) = 4) (bnL (sem 69 0 [aA (s1 l0 3), aA (s1 l0 9), aU, aU, aU] [] s1) fun a4 s3 => sem 117 22 [aA l0, aI l1, aI l2, aU, aU] [aL a4] s3)) f117_19 rfl rfl).trans ?_
    refine g_c ?_
    refine bL_c fun a4 s3 => ?_
    refine (x_lstore (l2 := [aA l0, aI l1, aI l2, aL a4, aU]) f117_22 rfl rfl).trans ?_
    refine (x_lload f117_23 rfl rfl).trans ?_
    refine (x_lconst f117_24 rfl).trans ?_
    refine (x_lcmp f117_25 rfl).trans ?_
    refine (x_if_ne (tg := 35) f117_26 rfl rfl).trans (i_c ?_ ?_)
    · refine (x_lconst f117_29 rfl).trans ?_
      refine (x_goto (tg := 52) f117_32 rfl rfl).trans ?_
      refine (x_kil (l2 := [aU, aU, aU, aU, aU]) f117_52 rfl).trans ?_
      exact x_lreturn f117_52 rfl
    · refine (x_aload f117_35 rfl rfl).trans ?_
      refine (x_get2 f117_36 rfl rfl).trans ?_
      refine g_c ?_
      refine g_c ?_
      refine (x_aload f117_39 rfl rfl).trans ?_
      refine (x_get2 f117_40 rfl rfl).trans ?_
      refine g_c ?_
      refine g_c ?_
      refine (x_iload f117_43 rfl rfl).trans ?_
      refine (x_invokevirtual (G := grd (kd (s3 l0 3) = 4) (bnL (sem 68 0 [aA (s3 l0 3), aA (s3 l0 9), aI l1, aU, aU, aU, aU, aU] [] s3) fun a6 s5 => sem 117 47 [aA l0, aI l1, aI l2, aL a4, aU] [aL a6] s5)) f117_44 rfl rfl).trans ?_
      refine g_c ?_
      refine bL_c fun a6 s5 => ?_
      refine (x_lload f117_47 rfl rfl).trans ?_
      refine (x_iload f117_48 rfl rfl).trans ?_
      refine (x_invokestatic (G := bnL (sem 149 0 [aL a6, aU, aL a4, aU, aI l2, aU, aU] [] s5) fun a8 s7 => sem 117 52 [aA l0, aI l1, aI l2, aL a4, aU] [aL a8] s7) f117_49 rfl rfl).trans ?_
      refine bL_c fun a8 s7 => ?_
      refine (x_kil (l2 := [aU, aU, aU, aU, aU]) f117_52 rfl).trans ?_
      exact x_lreturn f117_52 rfl
theorem f118_0 : fch 118 0 = some (.aload 0, 1, []) := by decide +kernel
theorem f118_1 : fch 118 1 = some (.invokeinterface 8 3, 4, []) := by decide +kernel
theorem f118_4 : fch 118 4 = some (.aload 0, 5, []) := by decide +kernel
theorem f118_5 : fch 118 5 = some (.invokeinterface 8 9, 8, []) := by decide +kernel
theorem f118_8 : fch 118 8 = some (.invokevirtual 69, 11, []) := by decide +kernel
theorem f118_11 : fch 118 11 = some (.sipush 0, 12, []) := by decide +kernel
theorem f118_12 : fch 118 12 = some (.lcmp, 13, []) := by decide +kernel
theorem f118_13 : fch 118 13 = some (.ifCond .ne 21, 16, []) := by decide +kernel
theorem f118_16 : fch 118 16 = some (.iconst (-3), 18, []) := by decide +kernel
theorem f118_18 : fch 118 18 = some (.goto 32, 21, []) := by decide +kernel
theorem f118_21 : fch 118 21 = some (.aload 0, 22, []) := by decide +kernel
theorem f118_22 : fch 118 22 = some (.invokeinterface 8 3, 25, []) := by decide +kernel
theorem f118_25 : fch 118 25 = some (.aload 0, 26, []) := by decide +kernel
theorem f118_26 : fch 118 26 = some (.invokeinterface 8 9, 29, []) := by decide +kernel
theorem f118_29 : fch 118 29 = some (.invokevirtual 70, 32, []) := by decide +kernel
theorem f118_32 : fch 118 32 = some (.ireturn, 33, [0]) := by decide +kernel
set_option maxRecDepth 10000 in
theorem e118_0 (l0 : Int) (s : SG) : sem 118 0 [aA l0] [] s = grd (kd l0 = 8) (grd (0 ≤ s l0 3) (grd (kd l0 = 8) (grd (0 ≤ s l0 9) (grd (kd (s l0 3) = 4) (bnL (sem 69 0 [aA (s l0 3), aA (s l0 9), aU, aU, aU] [] s) fun a2 s1 => if (cmpL a2 0) = 0 then some (aI ((-3)), s1) else grd (kd l0 = 8) (grd (0 ≤ s1 l0 3) (grd (kd l0 = 8) (grd (0 ≤ s1 l0 9) (grd (kd (s1 l0 3) = 4) (bnI (sem 70 0 [aA (s1 l0 3), aA (s1 l0 9), aU, aU] [] s1) fun a4 s3 => some (aI a4, s3))))))))))) := by
  refine (x_aload f118_0 rfl rfl).trans ?_
  refine (x_get2 f118_1 rfl rfl).trans ?_
  refine g_c ?_
  refine g_c ?_
  refine (x_aload f118_4 rfl rfl).trans ?_
  refine (x_get2 f118_5 rfl rfl).trans ?_
  refine g_c ?_
  refine g_c ?_
  refine (x_invokevirtual (G := grd (kd (s l0 3) = 4) (bnL (sem 69 0 [aA (s l0 3), aA (s l0 9), aU, aU, aU] [] s) fun a2 s1 => sem 118 11 [aA l0] [aL a2] s1)) f118_8 rfl rfl).trans ?_
  refine g_c ?_
  refine bL_c fun a2 s1 => ?_
  refine (x_lconst f118_11 rfl).trans ?_
  refine (x_lcmp f118_12 rfl).trans ?_
  refine (x_if_ne (tg := 21) f118_13 rfl rfl).trans (i_c ?_ ?_)
  · refine (x_iconst f118_16 rfl).trans ?_
    refine (x_goto (tg := 32) f118_18 rfl rfl).trans ?_
    refine (x_kil (l2 := [aU]) f118_32 rfl).trans ?_
    exact x_ireturn f118_32 rfl
  · refine (x_aload f118_21 rfl rfl).trans ?_
    refine (x_get2 f118_22 rfl rfl).trans ?_
    refine g_c ?_
    refine g_c ?_
    refine (x_aload f118_25 rfl rfl).trans ?_
    refine (x_get2 f118_26 rfl rfl).trans ?_
    refine g_c ?_
    refine g_c ?_
    refine (x_invokevirtual (G := grd (kd (s1 l0 3) = 4) (bnI (sem 70 0 [aA (s1 l0 3), aA (s1 l0 9), aU, aU] [] s1) fun a4 s3 => sem 118 32 [aA l0] [aI a4] s3)) f118_29 rfl rfl).trans ?_
    refine g_c ?_
    refine bI_c fun a4 s3 => ?_
    refine (x_kil (l2 := [aU]) f118_32 rfl).trans ?_
    exact x_ireturn f118_32 rfl
theorem f119_0 : fch 119 0 = some (.aload 0, 1, []) := by decide +kernel
theorem f119_1 : fch 119 1 = some (.invokeinterface 8 3, 4, []) := by decide +kernel
theorem f119_4 : fch 119 4 = some (.aload 0, 5, []) := by decide +kernel
theorem f119_5 : fch 119 5 = some (.invokeinterface 8 9, 8, []) := by decide +kernel
theorem f119_8 : fch 119 8 = some (.invokevirtual 69, 11, []) := by decide +kernel
theorem f119_11 : fch 119 11 = some (.sipush 0, 12, []) := by decide +kernel
theorem f119_12 : fch 119 12 = some (.lcmp, 13, []) := by decide +kernel
theorem f119_13 : fch 119 13 = some (.ifCond .ne 21, 16, []) := by decide +kernel
theorem f119_16 : fch 119 16 = some (.iconst (-3), 18, []) := by decide +kernel
theorem f119_18 : fch 119 18 = some (.goto 32, 21, []) := by decide +kernel
theorem f119_21 : fch 119 21 = some (.aload 0, 22, []) := by decide +kernel
theorem f119_22 : fch 119 22 = some (.invokeinterface 8 3, 25, []) := by decide +kernel
theorem f119_25 : fch 119 25 = some (.aload 0, 26, []) := by decide +kernel
theorem f119_26 : fch 119 26 = some (.invokeinterface 8 9, 29, []) := by decide +kernel
theorem f119_29 : fch 119 29 = some (.invokevirtual 71, 32, []) := by decide +kernel
theorem f119_32 : fch 119 32 = some (.ireturn, 33, [0]) := by decide +kernel
set_option maxRecDepth 10000 in
theorem e119_0 (l0 : Int) (s : SG) : sem 119 0 [aA l0] [] s = grd (kd l0 = 8) (grd (0 ≤ s l0 3) (grd (kd l0 = 8) (grd (0 ≤ s l0 9) (grd (kd (s l0 3) = 4) (bnL (sem 69 0 [aA (s l0 3), aA (s l0 9), aU, aU, aU] [] s) fun a2 s1 => if (cmpL a2 0) = 0 then some (aI ((-3)), s1) else grd (kd l0 = 8) (grd (0 ≤ s1 l0 3) (grd (kd l0 = 8) (grd (0 ≤ s1 l0 9) (grd (kd (s1 l0 3) = 4) (bnI (sem 71 0 [aA (s1 l0 3), aA (s1 l0 9), aU, aU] [] s1) fun a4 s3 => some (aI a4, s3))))))))))) := by
  refine (x_aload f119_0 rfl rfl).trans ?_
  refine (x_get2 f119_1 rfl rfl).trans ?_
  refine g_c ?_
  refine g_c ?_
  refine (x_aload f119_4 rfl rfl).trans ?_
  refine (x_get2 f119_5 rfl rfl).trans ?_
  refine g_c ?_
  refine g_c ?_
  refine (x_invokevirtual (G := grd (kd (s l0 3) = 4) (bnL (sem 69 0 [aA (s l0 3), aA (s l0 9), aU, aU, aU] [] s) fun a2 s1 => sem 119 11 [aA l0] [aL a2] s1)) f119_8 rfl rfl).trans ?_
  refine g_c ?_
  refine bL_c fun a2 s1 => ?_
  refine (x_lconst f119_11 rfl).trans ?_
  refine (x_lcmp f119_12 rfl).trans ?_
  refine (x_if_ne (tg := 21) f119_13 rfl rfl).trans (i_c ?_ ?_)
  · refine (x_iconst f119_16 rfl).trans ?_
    refine (x_goto (tg := 32) f119_18 rfl rfl).trans ?_
    refine (x_kil (l2 := [aU]) f119_32 rfl).trans ?_
    exact x_ireturn f119_32 rfl
  · refine (x_aload f119_21 rfl rfl).trans ?_
    refine (x_get2 f119_22 rfl rfl).trans ?_
    refine g_c ?_
    refine g_c ?_
    refine (x_aload f119_25 rfl rfl).trans ?_
    refine (x_get2 f119_26 rfl rfl).trans ?_
    refine g_c ?_
    refine g_c ?_
    refine (x_invokevirtual (G := grd (kd (s1 l0 3) = 4) (bnI (sem 71 0 [aA (s1 l0 3), aA (s1 l0 9), aU, aU] [] s1) fun a4 s3 => sem 119 32 [aA l0] [aI a4] s3)) f119_29 rfl rfl).trans ?_
    refine g_c ?_
    refine bI_c fun a4 s3 => ?_
    refine (x_kil (l2 := [aU]) f119_32 rfl).trans ?_
    exact x_ireturn f119_32 rfl
theorem f120_0 : fch 120 0 = some (.aload 0, 1, []) := by decide +kernel
theorem f120_1 : fch 120 1 = some (.iload 1, 2, []) := by decide +kernel
theorem f120_2 : fch 120 2 = some (.iload 2, 3, []) := by decide +kernel
theorem f120_3 : fch 120 3 = some (.iload 3, 4, []) := by decide +kernel
theorem f120_4 : fch 120 4 = some (.iload 4, 6, []) := by decide +kernel
theorem f120_6 : fch 120 6 = some (.iload 5, 8, []) := by decide +kernel
theorem f120_8 : fch 120 8 = some (.iconst 0, 9, []) := by decide +kernel
theorem f120_9 : fch 120 9 = some (.invokevirtual 146, 12, []) := by decide +kernel
theorem f120_12 : fch 120 12 = some (.istore 7, 14, []) := by decide +kernel
theorem f120_14 : fch 120 14 = some (.iload 7, 16, []) := by decide +kernel
theorem f120_16 : fch 120 16 = some (.ifCond .eq 23, 19, []) := by decide +kernel
theorem f120_19 : fch 120 19 = some (.iload 7, 21, []) := by decide +kernel
theorem f120_21 : fch 120 21 = some (.i2l, 22, []) := by decide +kernel
theorem f120_22 : fch 120 22 = some (.lreturn, 23, []) := by decide +kernel
theorem f120_23 : fch 120 23 = some (.aload 0, 24, []) := by decide +kernel
theorem f120_24 : fch 120 24 = some (.invokeinterface 8 4, 27, []) := by decide +kernel
theorem f120_27 : fch 120 27 = some (.aload 0, 28, []) := by decide +kernel
theorem f120_28 : fch 120 28 = some (.invokeinterface 8 9, 31, []) := by decide +kernel
theorem f120_31 : fch 120 31 = some (.iload 1, 32, []) := by decide +kernel
theorem f120_32 : fch 120 32 = some (.iconst 10, 34, []) := by decide +kernel
theorem f120_34 : fch 120 34 = some (.idiv, 35, []) := by decide +kernel
theorem f120_35 : fch 120 35 = some (.iload 1, 36, []) := by decide +kernel
theorem f120_36 : fch 120 36 = some (.iconst 10, 38, []) := by decide +kernel
theorem f120_38 : fch 120 38 = some (.irem, 39, []) := by decide +kernel
theorem f120_39 : fch 120 39 = some (.iload 2, 40, []) := by decide +kernel
theorem f120_40 : fch 120 40 = some (.invokevirtual 94, 43, []) := by decide +kernel
theorem f120_43 : fch 120 43 = some (.aload 0, 44, []) := by decide +kernel
theorem f120_44 : fch 120 44 = some (.invokeinterface 8 4, 47, []) := by decide +kernel
theorem f120_47 : fch 120 47 = some (.iload 3, 48, []) := by decide +kernel
theorem f120_48 : fch 120 48 = some (.iconst 100, 50, []) := by decide +kernel
theorem f120_50 : fch 120 50 = some (.idiv, 51, []) := by decide +kernel
theorem f120_51 : fch 120 51 = some (.iload 3, 52, []) := by decide +kernel
theorem f120_52 : fch 120 52 = some (.iconst 100, 54, []) := by decide +kernel
theorem f120_54 : fch 120 54 = some (.irem, 55, []) := by decide +kernel
theorem f120_55 : fch 120 55 = some (.iadd, 56, []) := by decide +kernel
theorem f120_56 : fch 120 56 = some (.iload 4, 58, []) := by decide +kernel
theorem f120_58 : fch 120 58 = some (.iload 5, 60, []) := by decide +kernel
theorem f120_60 : fch 120 60 = some (.invokevirtual 96, 63, []) := by decide +kernel
theorem f120_63 : fch 120 63 = some (.aload 0, 64, []) := by decide +kernel
theorem f120_64 : fch 120 64 = some (.invokeinterface 8 4, 67, []) := by decide +kernel
theorem f120_67 : fch 120 67 = some (.iload 3, 68, []) := by decide +kernel
theorem f120_68 : fch 120 68 = some (.iconst 100, 70, []) := by decide +kernel
theorem f120_70 : fch 120 70 = some (.idiv, 71, []) := by decide +kernel
theorem f120_71 : fch 120 71 = some (.iload 3, 72, []) := by decide +kernel
theorem f120_72 : fch 120 72 = some (.iconst 100, 74, []) := by decide +kernel
theorem f120_74 : fch 120 74 = some (.irem, 75, []) := by decide +kernel
theorem f120_75 : fch 120 75 = some (.iload 4, 77, []) := by decide +kernel
theorem f120_77 : fch 120 77 = some (.invokevirtual 100, 80, []) := by decide +kernel
theorem f120_80 : fch 120 80 = some (.aload 0, 81, []) := by decide +kernel
theorem f120_81 : fch 120 81 = some (.invokeinterface 8 4, 84, []) := by decide +kernel
theorem f120_84 : fch 120 84 = some (.invokevirtual 95, 87, []) := by decide +kernel
theorem f120_87 : fch 120 87 = some (.iload 6, 89, []) := by decide +kernel
theorem f120_89 : fch 120 89 = some (.invokestatic 149, 92, []) := by decide +kernel
theorem f120_92 : fch 120 92 = some (.lreturn, 93, []) := by decide +kernel
set_option maxRecDepth 10000 in
theorem e120_0 (l0 l1 l2 l3 l4 l5 l6 : Int) (s : SG) : sem 120 0 [aA l0, aI l1, aI l2, aI l3, aI l4, aI l5, aI l6, aU] [] s = grd (kd l0 = 8) (bnI (sem 146 0 [aA l0, aI l1, aI l2, aI l3, aI l4, aI l5, aI 0] [] s) fun a2 s1 => if a2 = 0 then grd (kd l0 = 8) (grd (0 ≤ s1 l0 4) (grd (kd l0 = 8) (grd (0 ≤ s1 l0 9) (grd ((10 : Int) ≠ 0) (grd ((10 : Int) ≠ 0) (grd (kd (s1 l0 4) = 7) (bnV (sem 94 0 [aA (s1 l0 4), aA (s1 l0 9), aI (w32 (Int.tdiv l1 10)), aI (remA l1 10), aI l2] [] s1) fun s3 => grd (kd l0 = 8) (grd (0 ≤ s3 l0 4) (grd ((100 : Int) ≠ 0) (grd ((100 : Int) ≠ 0) (grd (kd (s3 l0 4) = 7) (bnV (sem 96 0 [aA (s3 l0 4), aI (w32 ((w32 (Int.tdiv l3 100)) + (remA l3 100))), aI l4, aI l5, aU] [] s3) fun s4 => grd (kd l0 = 8) (grd (0 ≤ s4 l0 4) (grd ((100 : Int) ≠ 0) (grd ((100 : Int) ≠ 0) (grd (kd (s4 l0 4) = 7) (bnL (sem 100 0 [aA (s4 l0 4), aI (w32 (Int.tdiv l3 100)), aI (remA l3 100), aI l4, aU, aU, aU] [] s4) fun a6 s5 => grd (kd l0 = 8) (grd (0 ≤ s5 l0 4) (grd (kd (s5 l0 4) = 7) (bnL (sem 95 0 [aA (s5 l0 4)] [] s5) fun a8 s7 => bnL (sem 149 0 [aL a6, aU, aL a8, aU, aI l6, aU, aU] [] s7) fun a10 s9 => some (aL a10, s9))))))))))))))))))))) else some (aL a2, s1)) := by
  refine (x_aload f120_0 rfl rfl).trans ?_
  refine (x_iload f120_1 rfl rfl).trans ?_
  refine (x_iload f120_2 rfl rfl).trans ?_
  refine (x_iload f120_3 rfl rfl).trans ?_
  refine (x_iload f120_4 rfl rfl).trans ?_
  refine (x_iload f120_6 rfl rfl).trans ?_
  refine (x_iconst f120_8 rfl).trans ?_
  refine (x_invokevirtual (G := grd (kd l0 = 8) (bnI (sem 146 0 [aA l0, aI l1, aI l2, aI l3, aI l4, aI l5, aI 0] [] s) fun a2 s1 => sem 120 12 [aA l0, aI l1, aI l2, aI l3, aI l4, aI l5, aI l6, aU] [aI a2] s1)) f120_9 rfl rfl).trans ?_
  refine g_c ?_
  refine bI_c fun a2 s1 => ?_
  refine (x_istore (l2 := [aA l0, aI l1, aI l2, aI l3, aI l4, aI l5, aI l6, aI a2]) f120_12 rfl rfl).trans ?_
  refine (x_iload f120_14 rfl rfl).trans ?_
  refine (x_if_eq (tg := 23) f120_16 rfl rfl).trans (i_c ?_ ?_)
  · refine (x_aload f120_23 rfl rfl).trans ?_
    refine (x_get2 f120_24 rfl rfl).trans ?_
    refine g_c ?_
    refine g_c ?_
    refine (x_aload f120_27 rfl rfl).trans ?_
    refine (x_get2 f120_28 rfl rfl).trans ?_
    refine g_c ?_
    refine g_c ?_
    refine (x_iload f120_31 rfl rfl).trans ?_
    refine (x_iconst f120_32 rfl).trans ?_
    refine (x_idiv f120_34 rfl).trans ?_
    refine g_c ?_
    refine (x_iload f120_35 rfl rfl).trans ?_
    refine (x_iconst f120_36 rfl).trans ?_
    refine (x_irem f120_38 rfl).trans ?_
    refine g_c ?_
    refine (x_iload f120_39 rfl rfl).trans ?_
    refine (x_invokevirtual (G := grd (kd (s1 l0 4) = 7) (bnV (sem 94 0 [aA (s1 l0 4), aA (s1 l0 9), aI (w32 (Int.tdiv l1 10)), aI (remA l1 10), aI l2] [] s1) fun s3 => sem 120 43 [aA l0, aI l1, aI l2, aI l3, aI l4, aI l5, aI l6, aI a2] [] s3)) f120_40 rfl rfl).trans ?_
    refine g_c ?_
    refine bV_c fun s3 => ?_
    refine (x_aload f120_43 rfl rfl).trans ?_
    refine (x_get2 f120_44 rfl rfl).trans ?_
    refine g_c ?_
    refine g_c ?_
    refine (x_iload f120_47 rfl rfl).trans ?_
    refine (x_iconst f120_48 rfl).trans ?_
    refine (x_idiv f120_50 rfl).trans ?_
    refine g_c ?_
    refine (x_iload f120_51 rfl rfl).trans ?_
    refine (x_iconst f120_52 rfl).trans ?_
    refine (x_irem f120_54 rfl).trans ?_
    refine g_c ?_
    refine (x_iadd f120_55 rfl).trans ?_
    refine (x_iload f120_56 rfl rfl).trans ?_
    refine (x_iload f120_58 rfl rfl).trans ?_
    refine (x_invokevirtual (G := grd (kd (s3 l0 4) = 7) (bnV (sem 96 0 [aA (s3 l0 4), aI (w32 ((w32 (Int.tdiv l3 100)) + (remA l3 100))), aI l4, aI l5, aU] [] s3) fun s4 => sem 120 63 [aA l0, aI l1, aI l2, aI l3, aI l4, aI l5, aI l6, aI a2] [] s4)) f120_60 rfl rfl).trans ?_
    refine g_c ?_
    refine bV_c fun s4 => ?_
    refine (x_aload f120_63 rfl rfl).trans ?_
    refine (x_get2 f120_64 rfl rfl).trans ?_
    refine g_c ?_
    refine g_c ?_
    refine (x_iload f120_67 rfl rfl).trans ?_
    refine (x_iconst f120_68 rfl).trans ?_
    refine (x_idiv f120_70 rfl).trans ?_
    refine g_c ?_
    refine (x_iload f120_71 rfl rfl).trans ?_
    refine (x_iconst f120_72 rfl).trans ?_
    refine (x_irem f120_74 rfl).trans ?_
    refine g_c ?_
    refine (x_iload f120_75 rfl rfl).trans ?_
    refine (x_invokevirtual (G := grd (kd (s4 l0 4) = 7) (bnL (sem 100 0 [aA (s4 l0 4), aI (w32 (Int.tdiv l3 100)), aI (remA l3 100), aI l4, aU, aU, aU] [] s4) fun a6 s5 => sem 120 80 [aA l0, aI l1, aI l2, aI l3, aI l4, aI l5, aI l6, aI a2] [aL a6] s5)) f120_77 rfl rfl).trans ?_
    refine g_c ?_
    refine bL_c fun a6 s5 => ?_
    refine (x_aload f120_80 rfl rfl).trans ?_
    refine (x_get2 f120_81 rfl rfl).trans ?_
    refine g_c ?_
    refine g_c ?_
    refine (x_invokevirtual (G := grd (kd (s5 l0 4) = 7) (bnL (sem 95 0 [aA (s5 l0 4)] [] s5) fun a8 s7 => sem 120 87 [aA l0, aI l1, aI l2, aI l3, aI l4, aI l5, aI l6, aI a2] [aL a8, aL a6] s7)) f120_84 rfl rfl).trans ?_
    refine g_c ?_
    refine bL_c fun a8 s7 => ?_
    refine (x_iload f120_87 rfl rfl).trans ?_
    refine (x_invokestatic (G := bnL (sem 149 0 [aL a6, aU, aL a8, aU, aI l6, aU, aU] [] s7) fun a10 s9 => sem 120 92 [aA l0, aI l1, aI l2, aI l3, aI l4, aI l5, aI l6, aI a2] [aL a10] s9) f120_89 rfl rfl).trans ?_
    refine bL_c fun a10 s9 => ?_
    exact x_lreturn f120_92 rfl
  · refine (x_iload f120_19 rfl rfl).trans ?_
    refine (x_i2l f120_21 rfl).trans ?_
    exact x_lreturn f120_22 rfl
theorem f121_0 : fch 121 0 = some (.aload 0, 1, []) := by decide +kernel
theorem f121_1 : fch 121 1 = some (.iload 1, 2, []) := by decide +kernel
theorem f121_2 : fch 121 2 = some (.iload 2, 3, []) := by decide +kernel
theorem f121_3 : fch 121 3 = some (.iload 3, 4, []) := by decide +kernel
theorem f121_4 : fch 121 4 = some (.iload 4, 6, []) := by decide +kernel
theorem f121_6 : fch 121 6 = some (.iload 5, 8, []) := by decide +kernel
theorem f121_8 : fch 121 8 = some (.iconst 1, 9, []) := by decide +kernel
theorem f121_9 : fch 121 9 = some (.invokevirtual 146, 12, []) := by decide +kernel
theorem f121_12 : fch 121 12 = some (.istore 6, 14, []) := by decide +kernel
theorem f121_14 : fch 121 14 = some (.iload 6, 16, []) := by decide +kernel
theorem f121_16 : fch 121 16 = some (.ifCond .eq 22, 19, []) := by decide +kernel
theorem f121_19 : fch 121 19 = some (.iload 6, 21, []) := by decide +kernel
theorem f121_21 : fch 121 21 = some (.ireturn, 22, []) := by decide +kernel
theorem f121_22 : fch 121 22 = some (.aload 0, 23, []) := by decide +kernel
theorem f121_23 : fch 121 23 = some (.invokeinterface 8 4, 26, []) := by decide +kernel
theorem f121_26 : fch 121 26 = some (.aload 0, 27, []) := by decide +kernel
theorem f121_27 : fch 121 27 = some (.invokeinterface 8 9, 30, []) := by decide +kernel
theorem f121_30 : fch 121 30 = some (.iload 1, 31, []) := by decide +kernel
theorem f121_31 : fch 121 31 = some (.iconst 10, 33, []) := by decide +kernel
theorem f121_33 : fch 121 33 = some (.idiv, 34, []) := by decide +kernel
theorem f121_34 : fch 121 34 = some (.iload 1, 35, []) := by decide +kernel
theorem f121_35 : fch 121 35 = some (.iconst 10, 37, []) := by decide +kernel
theorem f121_37 : fch 121 37 = some (.irem, 38, []) := by decide +kernel
theorem f121_38 : fch 121 38 = some (.iload 2, 39, []) := by decide +kernel
theorem f121_39 : fch 121 39 = some (.invokevirtual 94, 42, []) := by decide +kernel
theorem f121_42 : fch 121 42 = some (.aload 0, 43, []) := by decide +kernel
theorem f121_43 : fch 121 43 = some (.invokeinterface 8 4, 46, []) := by decide +kernel
theorem f121_46 : fch 121 46 = some (.iload 3, 47, []) := by decide +kernel
theorem f121_47 : fch 121 47 = some (.iconst 100, 49, []) := by decide +kernel
theorem f121_49 : fch 121 49 = some (.idiv, 50, []) := by decide +kernel
theorem f121_50 : fch 121 50 = some (.iload 3, 51, []) := by decide +kernel
theorem f121_51 : fch 121 51 = some (.iconst 100, 53, []) := by decide +kernel
theorem f121_53 : fch 121 53 = some (.irem, 54, []) := by decide +kernel
theorem f121_54 : fch 121 54 = some (.iadd, 55, []) := by decide +kernel
theorem f121_55 : fch 121 55 = some (.iload 4, 57, []) := by decide +kernel
theorem f121_57 : fch 121 57 = some (.iload 5, 59, []) := by decide +kernel
theorem f121_59 : fch 121 59 = some (.invokevirtual 96, 62, []) := by decide +kernel
theorem f121_62 : fch 121 62 = some (.aload 0, 63, []) := by decide +kernel
theorem f121_63 : fch 121 63 = some (.invokeinterface 8 4, 66, []) := by decide +kernel
theorem f121_66 : fch 121 66 = some (.iload 3, 67, []) := by decide +kernel
theorem f121_67 : fch 121 67 = some (.iconst 100, 69, []) := by decide +kernel
theorem f121_69 : fch 121 69 = some (.idiv, 70, []) := by decide +kernel
theorem f121_70 : fch 121 70 = some (.iload 3, 71, []) := by decide +kernel
theorem f121_71 : fch 121 71 = some (.iconst 100, 73, []) := by decide +kernel
theorem f121_73 : fch 121 73 = some (.irem, 74, []) := by decide +kernel
theorem f121_74 : fch 121 74 = some (.iload 4, 76, []) := by decide +kernel
theorem f121_76 : fch 121 76 = some (.invokevirtual 101, 79, []) := by decide +kernel
theorem f121_79 : fch 121 79 = some (.ireturn, 80, []) := by decide +kernel
set_option maxRecDepth 10000 in
theorem e121_0 (l0 l1 l2 l3 l4 l5 : Int) (s : SG) : sem 121 0 [aA l0, aI l1, aI l2, aI l3, aI l4, aI l5, aU] [] s = grd (kd l0 = 8) (bnI (sem 146 0 [aA l0, aI l1, aI l2, aI l3, aI l4, aI l5, aI 1] [] s) fun a2 s1 => if a2 = 0 then grd (kd l0 = 8) (grd (0 ≤ s1 l0 4) (grd (kd l0 = 8) (grd (0 ≤ s1 l0 9) (grd ((10 : Int) ≠ 0) (grd ((10 : Int) ≠ 0) (grd (kd (s1 l0 4) = 7) (bnV (sem 94 0 [aA (s1 l0 4), aA (s1 l0 9), aI (w32 (Int.tdiv l1 10)), aI (remA l1 10), aI l2] [] s1) fun s3 => grd (kd l0 = 8) (grd (0 ≤ s3 l0 4) (grd ((100 : Int) ≠ 0) (grd ((100 : Int) ≠ 0) (grd (kd (s3 l0 4) = 7) (bnV (sem 96 0 [aA (s3 l0 4), aI (w32 ((w32 (Int.tdiv l3 100)) + (remA l3 100))), aI l4, aI l5, aU] [] s3) fun s4 => grd (kd l0 = 8) (grd (0 ≤ s4 l0 4) (grd ((100 : Int) ≠ 0) (grd ((100 : Int) ≠ 0) (grd (kd (s4 l0 4) = 7) (bnI (sem 101 0 [aA (s4 l0 4), aI (w32 (Int.tdiv l3 100)), aI (remA l3 100), aI l4, aU, aU, aU] [] s4) fun a6 s5 => some (aI a6, s5)))))))))))))))))) else some (aI a2, s1)) := by
  refine (x_aload f121_0 rfl rfl).trans ?_
  refine (x_iload f121_1 rfl rfl).trans ?_
  refine (x_iload f121_2 rfl rfl).trans ?_
  refine (x_iload f121_3 rfl rfl).trans ?_
  refine (x_iload f121_4 rfl rfl).trans ?_
  refine (x_iload f121_6 rfl rfl).trans ?_
  refine (x_iconst f121_8 rfl).trans ?_
  refine (x_invokevirtual (G := grd (kd l0 = 8) (bnI (sem 146 0 [aA l0, aI l1, aI l2, aI l3, aI l4, aI l5, aI 1] [] s) fun a2 s1 => sem 121 12 [aA l0, aI l1, aI l2, aI l3, aI l4, aI l5, aU] [aI a2] s1)) f121_9 rfl rfl).trans ?_
  refine g_c ?_
  refine bI_c fun a2 s1 => ?_
  refine (x_istore (l2 := [aA l0, aI l1, aI l2, aI l3, aI l4, aI l5, aI a2]) f121_12 rfl rfl).trans ?_
  refine (x_iload f121_14 rfl rfl).trans ?_
  refine (x_if_eq (tg := 22) f121_16 rfl rfl).trans (i_c ?_ ?_)
  · refine (x_aload f121_22 rfl rfl).trans ?_
    refine (x_get2 f121_23 rfl rfl).trans ?_
    refine g_c ?_
    refine g_c ?_
    refine (x_aload f121_26 rfl rfl).trans ?_
    refine (x_get2 f121_27 rfl rfl).trans ?_
    refine g_c ?_
    refine g_c ?_
    refine (x_iload f121_30 rfl rfl).trans ?_
    refine (x_iconst f121_31 rfl).trans ?_
    refine (x_idiv f121_33 rfl).trans ?_
    refine g_c ?_
    refine (x_iload f121_34 rfl rfl).trans ?_
    refine (x_iconst f121_35 rfl).trans ?_
    refine (x_irem f121_37 rfl).trans ?_
    refine g_c ?_
    refine (x_iload f121_38 rfl rfl).trans ?_
    refine (x_invokevirtual (G := grd (kd (s1 l0 4) = 7) (bnV (sem 94 0 [aA (s1 l0 4), aA (s1 l0 9), aI (w32 (Int.tdiv l1 10)), aI (remA l1 10), aI l2] [] s1) fun s3 => sem 121 42 [aA l0, aI l1, aI l2, aI l3, aI l4, aI l5, aI a2] [] s3)) f121_39 rfl rfl).trans ?_
    refine g_c ?_
    refine bV_c fun s3 => ?_
    refine (x_aload f121_42 rfl rfl).trans ?_
    refine (x_get2 f121_43 rfl rfl).trans ?_
    refine g_c ?_
    refine g_c ?_
    refine (x_iload f121_46 rfl rfl).trans ?_
    refine (x_iconst f121_47 rfl).trans ?_
    refine (x_idiv f121_49 rfl).trans ?_
    refine g_c ?_
    refine (x_iload f121_50 rfl rfl).trans ?_
    refine (x_iconst f121_51 rfl).trans ?_
    refine (x_irem f121_53 rfl).trans ?_
    refine g_c ?_
    refine (x_iadd f121_54 rfl).trans ?_
    refine (x_iload f121_55 rfl rfl).trans ?_
    refine (x_iload f121_57 rfl rfl).trans ?_
    refine (x_invokevirtual (G := grd (kd (s3 l0 4) = 7) (bnV (sem 96 0 [aA (s3 l0 4), aI (w32 ((w32 (Int.tdiv l3 100)) + (remA l3 100))), aI l4, aI l5, aU] [] s3) fun s4 => sem 121 62 [aA l0, aI l1, aI l2, aI l3, aI l4, aI l5, aI a2] [] s4)) f121_59 rfl rfl).trans ?_
    refine g_c ?_
    refine bV_c fun s4 => ?_
    refine (x_aload f121_62 rfl rfl).trans ?_
    refine (x_get2 f121_63 rfl rfl).trans ?_
    refine g_c ?_
    refine g_c ?_
    refine (x_iload f121_66 rfl rfl).trans ?_
    refine (x_iconst f121_67 rfl).trans ?_
    refine (x_idiv f121_69 rfl).trans ?_
    refine g_c ?_
    refine (x_iload f121_70 rfl rfl).trans ?_
    refine (x_iconst f121_71 rfl).trans ?_
    refine (x_irem f121_73 rfl).trans ?_
    refine g_c ?_
    refine (x_iload f121_74 rfl rfl).trans ?_
    refine (x_invokevirtual (G := grd (kd (s4 l0 4) = 7) (bnI (sem 101 0 [aA (s4 l0 4), aI (w32 (Int.tdiv l3 100)), aI (remA l3 100), aI l4, aU, aU, aU] [] s4) fun a6 s5 => sem 121 79 [aA l0, aI l1, aI l2, aI l3, aI l4, aI l5, aI a2] [aI a6] s5)) f121_76 rfl rfl).trans ?_
    refine g_c ?_
    refine bI_c fun a6 s5 => ?_
    exact x_ireturn f121_79 rfl
  · refine (x_iload f121_19 rfl rfl).trans ?_
    exact x_ireturn f121_21 rfl
theorem f122_0 : fch 122 0 = some (.iload 1, 1, []) := by decide +kernel
theorem f122_1 : fch 122 1 = some (.invokestatic 140, 4, []) := by decide +kernel
theorem f122_4 : fch 122 4 = some (.ifCond .ne 9, 7, []) := by decide +kernel
theorem f122_7 : fch 122 7 = some (.iconst (-1), 8, []) := by decide +kernel
theorem f122_8 : fch 122 8 = some (.ireturn, 9, []) := by decide +kernel
theorem f122_9 : fch 122 9 = some (.aload 0, 10, []) := by decide +kernel
theorem f122_10 : fch 122 10 = some (.invokeinterface 8 5, 13, []) := by decide +kernel
theorem f122_13 : fch 122 13 = some (.invokeinterface 1 6, 16, []) := by decide +kernel
theorem f122_16 : fch 122 16 = some (.istore 2, 17, []) := by decide +kernel
theorem f122_17 : fch 122 17 = some (.aload 0, 18, []) := by decide +kernel
theorem f122_18 : fch 122 18 = some (.invokeinterface 8 5, 21, []) := by decide +kernel
theorem f122_21 : fch 122 21 = some (.iload 1, 22, []) := by decide +kernel
theorem f122_22 : fch 122 22 = some (.multianewarray 1 6, 25, []) := by decide +kernel
theorem f122_25 : fch 122 25 = some (.iload 2, 26, []) := by decide +kernel
theorem f122_26 : fch 122 26 = some (.ireturn, 27, []) := by decide +kernel
set_option maxRecDepth 10000 in
theorem e122_0 (l0 l1 : Int) (s : SG) : sem 122 0 [aA l0, aI l1, aU] [] s = bnI (sem 140 0 [aI l1] [] s) fun a2 s1 => if a2 = 0 then some (aI ((-1)), s1) else grd (kd l0 = 8) (grd (0 ≤ s1 l0 5) (grd (kd (s1 l0 5) = 1) (grd (kd l0 = 8) (grd (0 ≤ s1 l0 5) (grd (kd (s1 l0 5) = 1) (some (aI (s1 (s1 l0 5) 6), up s1 (s1 l0 5) 6 l1))))))) := by
  refine (x_iload f122_0 rfl rfl).trans ?_
  refine (x_invokestatic (G := bnI (sem 140 0 [aI l1] [] s) fun a2 s1 => sem 122 4 [aA l0, aI l1, aU] [aI a2] s1) f122_1 rfl rfl).trans ?_
  refine bI_c fun a2 s1 => ?_
  refine (x_if_ne (tg := 9) f122_4 rfl rfl).trans (i_c ?_ ?_)
  · refine (x_iconst f122_7 rfl).trans ?_
    exact x_ireturn f122_8 rfl
  · refine (x_aload f122_9 rfl rfl).trans ?_
    refine (x_get2 f122_10 rfl rfl).trans ?_
    refine g_c ?_
    refine g_c ?_
    refine (x_get0 f122_13 rfl rfl).trans ?_
    refine g_c ?_
    refine (x_istore (l2 := [aA l0, aI l1, aI (s1 (s1 l0 5) 6)]) f122_16 rfl rfl).trans ?_
    refine (x_aload f122_17 rfl rfl).trans ?_
    refine (x_get2 f122_18 rfl rfl).trans ?_
    refine g_c ?_
    refine g_c ?_
    refine (x_iload f122_21 rfl rfl).trans ?_
    refine (x_put0 f122_22 rfl rfl).trans ?_
    refine g_c ?_
    refine (x_iload f122_25 rfl rfl).trans ?_
    exact x_ireturn f122_26 rfl
theorem f123_0 : fch 123 0 = some (.aload 0, 1, []) := by decide +kernel
theorem f123_1 : fch 123 1 = some (.iload 1, 2, []) := by decide +kernel
theorem f123_2 : fch 123 2 = some (.iload 2, 3, []) := by decide +kernel
theorem f123_3 : fch 123 3 = some (.invokevirtual 145, 6, []) := by decide +kernel
theorem f123_6 : fch 123 6 = some (.istore 3, 7, []) := by decide +kernel
theorem f123_7 : fch 123 7 = some (.iload 3, 8, []) := by decide +kernel
theorem f123_8 : fch 123 8 = some (.ifCond .eq 15, 11, []) := by decide +kernel
theorem f123_11 : fch 123 11 = some (.iload 3, 12, []) := by decide +kernel
theorem f123_12 : fch 123 12 = some (.goto 24, 15, []) := by decide +kernel
theorem f123_15 : fch 123 15 = some (.aload 0, 16, []) := by decide +kernel
theorem f123_16 : fch 123 16 = some (.invokeinterface 8 5, 19, []) := by decide +kernel
theorem f123_19 : fch 123 19 = some (.iload 1, 20, []) := by decide +kernel
theorem f123_20 : fch 123 20 = some (.iload 2, 21, []) := by decide +kernel
theorem f123_21 : fch 123 21 = some (.invokevirtual 24, 24, []) := by decide +kernel
theorem f123_24 : fch 123 24 = some (.ireturn, 25, [0, 1, 2, 3]) := by decide +kernel
set_option maxRecDepth 10000 in
theorem e123_0 (l0 l1 l2 : Int) (s : SG) : sem 123 0 [aA l0, aI l1, aI l2, aU] [] s = grd (kd l0 = 8) (bnI (sem 145 0 [aA l0, aI l1, aI l2] [] s) fun a2 s1 => if a2 = 0 then grd (kd l0 = 8) (grd (0 ≤ s1 l0 5) (grd (kd (s1 l0 5) = 1) (bnI (sem 24 0 [aA (s1 l0 5), aI l1, aI l2, aU] [] s1) fun a4 s3 => some (aI a4, s3)))) else some (aI a2, s1)) := by
  refine (x_aload f123_0 rfl rfl).trans ?_
  refine (x_iload f123_1 rfl rfl).trans ?_
  refine (x_iload f123_2 rfl rfl).trans ?_
  refine (x_invokevirtual (G := grd (kd l0 = 8) (bnI (sem 145 0 [aA l0, aI l1, aI l2] [] s) fun a2 s1 => sem 123 6 [aA l0, aI l1, aI l2, aU] [aI a2] s1)) f123_3 rfl rfl).trans ?_
  refine g_c ?_
  refine bI_c fun a2 s1 => ?_
  refine (x_istore (l2 := [aA l0, aI l1, aI l2, aI a2]) f123_6 rfl rfl).trans ?_
  refine (x_iload f123_7 rfl rfl).trans ?_
  refine (x_if_eq (tg := 15) f123_8 rfl rfl).trans (i_c ?_ ?_)
  · refine (x_aload f123_15 rfl rfl).trans ?_
    refine (x_get2 f123_16 rfl rfl).trans ?_
    refine g_c ?_
    refine g_c ?_
    refine (x_iload f123_19 rfl rfl).trans ?_
    refine (x_iload f123_20 rfl rfl).trans ?_
    refine (x_invokevirtual (G := grd (kd (s1 l0 5) = 1) (bnI (sem 24 0 [aA (s1 l0 5), aI l1, aI l2, aU] [] s1) fun a4 s3 => sem 123 24 [aA l0, aI l1, aI l2, aI a2] [aI a4] s3)) f123_21 rfl rfl).trans ?_
    refine g_c ?_
    refine bI_c fun a4 s3 => ?_
    refine (x_kil (l2 := [aU, aU, aU, aU]) f123_24 rfl).trans ?_
    exact x_ireturn f123_24 rfl
  · refine (x_iload f123_11 rfl rfl).trans ?_
    refine (x_goto (tg := 24) f123_12 rfl rfl).trans ?_
    refine (x_kil (l2 := [aU, aU, aU, aU]) f123_24 rfl).trans ?_
    exact x_ireturn f123_24 rfl
theorem f124_0 : fch 124 0 = some (.aload 0, 1, []) := by decide +kernel
theorem f124_1 : fch 124 1 = some (.invokeinterface 8 9, 4, []) := by decide +kernel
theorem f124_4 : fch 124 4 = some (.iload 1, 5, []) := by decide +kernel
theorem f124_5 : fch 124 5 = some (.invokevirtual 82, 8, []) := by decide +kernel
theorem f124_8 : fch 124 8 = some (.ifCond .ne 13, 11, []) := by decide +kernel
theorem f124_11 : fch 124 11 = some (.iconst (-1), 12, []) := by decide +kernel
theorem f124_12 : fch 124 12 = some (.ireturn, 13, []) := by decide +kernel
theorem f124_13 : fch 124 13 = some (.iload 2, 14, []) := by decide +kernel
theorem f124_14 : fch 124 14 = some (.ifCond .lt 23, 17, []) := by decide +kernel
theorem f124_17 : fch 124 17 = some (.iload 2, 18, []) := by decide +kernel
theorem f124_18 : fch 124 18 = some (.iconst 63, 20, []) := by decide +kernel
theorem f124_20 : fch 124 20 = some (.if_icmp .le 28, 23, []) := by decide +kernel
theorem f124_23 : fch 124 23 = some (.iconst (-2), 25, [0, 1, 2]) := by decide +kernel
theorem f124_25 : fch 124 25 = some (.goto 37, 28, []) := by decide +kernel
theorem f124_28 : fch 124 28 = some (.aload 0, 29, []) := by decide +kernel
theorem f124_29 : fch 124 29 = some (.invokeinterface 8 5, 32, []) := by decide +kernel
theorem f124_32 : fch 124 32 = some (.iload 1, 33, []) := by decide +kernel
theorem f124_33 : fch 124 33 = some (.iload 2, 34, []) := by decide +kernel
theorem f124_34 : fch 124 34 = some (.invokevirtual 25, 37, []) := by decide +kernel
theorem f124_37 : fch 124 37 = some (.ireturn, 38, [0, 1, 2]) := by decide +kernel
set_option maxRecDepth 10000 in
theorem e124_0 (l0 l1 l2 : Int) (s : SG) : sem 124 0 [aA l0, aI l1, aI l2] [] s = grd (kd l0 = 8) (grd (0 ≤ s l0 9) (grd (kd (s l0 9) = 6) (bnI (sem 82 0 [aA (s l0 9), aI l1] [] s) fun a2 s1 => if a2 = 0 then some (aI ((-1)), s1) else if l2 < 0 then some (aI ((-2)), s1) else if (63 : Int) < l2 then some (aI ((-2)), s1) else grd (kd l0 = 8) (grd (0 ≤ s1 l0 5) (grd (kd (s1 l0 5) = 1) (bnI (sem 25 0 [aA (s1 l0 5), aI l1, aI l2, aU] [] s1) fun a4 s3 => some (aI a4, s3))))))) := by
  refine (x_aload f124_0 rfl rfl).trans ?_
  refine (x_get2 f124_1 rfl rfl).trans ?_
  refine g_c ?_
  refine g_c ?_
  refine (x_iload f124_4 rfl rfl).trans ?_
  refine (x_invokevirtual (G := grd (kd (s l0 9) = 6) (bnI (sem 82 0 [aA (s l0 9), aI l1] [] s) fun a2 s1 => sem 124 8 [aA l0, aI l1, aI l2] [aI a2] s1)) f124_5 rfl rfl).trans ?_
  refine g_c ?_
  refine bI_c fun a2 s1 => ?_
  refine (x_if_ne (tg := 13) f124_8 rfl rfl).trans (i_c ?_ ?_)
  · refine (x_iconst f124_11 rfl).trans ?_
    exact x_ireturn f124_12 rfl
  · refine (x_iload f124_13 rfl rfl).trans ?_
    refine (x_if_lt (tg := 23) f124_14 rfl rfl).trans (i_c ?_ ?_)
    · refine (x_kil (l2 := [aU, aU, aU]) f124_23 rfl).trans ?_
      refine (x_iconst f124_23 rfl).trans ?_
      refine (x_goto (tg := 37) f124_25 rfl rfl).trans ?_
      exact x_ireturn f124_37 rfl
    · refine (x_iload f124_17 rfl rfl).trans ?_
      refine (x_iconst f124_18 rfl).trans ?_
      refine (x_icmp_le (tg := 28) f124_20 rfl rfl).trans (i_c ?_ ?_)
      · refine (x_kil (l2 := [aU, aU, aU]) f124_23 rfl).trans ?_
        refine (x_iconst f124_23 rfl).trans ?_
        refine (x_goto (tg := 37) f124_25 rfl rfl).trans ?_
        exact x_ireturn f124_37 rfl
      · refine (x_aload f124_28 rfl rfl).trans ?_
        refine (x_get2 f124_29 rfl rfl).trans ?_
        refine g_c ?_
        refine g_c ?_
        refine (x_iload f124_32 rfl rfl).trans ?_
        refine (x_iload f124_33 rfl rfl).trans ?_
        refine (x_invokevirtual (G := grd (kd (s1 l0 5) = 1) (bnI (sem 25 0 [aA (s1 l0 5), aI l1, aI l2, aU] [] s1) fun a4 s3 => sem 124 37 [aA l0, aI l1, aI l2] [aI a4] s3)) f124_34 rfl rfl).trans ?_
        refine g_c ?_
        refine bI_c fun a4 s3 => ?_
        refine (x_kil (l2 := [aU, aU, aU]) f124_37 rfl).trans ?_
        exact x_ireturn f124_37 rfl
theorem f125_0 : fch 125 0 = some (.iload 1, 1, []) := by decide +kernel
theorem f125_1 : fch 125 1 = some (.invokestatic 143, 4, []) := by decide +kernel
theorem f125_4 : fch 125 4 = some (.ifCond .eq 15, 7, []) := by decide +kernel
theorem f125_7 : fch 125 7 = some (.iload 2, 8, []) := by decide +kernel
theorem f125_8 : fch 125 8 = some (.iload 3, 9, []) := by decide +kernel
theorem f125_9 : fch 125 9 = some (.invokestatic 20, 12, []) := by decide +kernel
theorem f125_12 : fch 125 12 = some (.ifCond .ne 18, 15, []) := by decide +kernel
theorem f125_15 : fch 125 15 = some (.iconst (-2), 17, [0, 1, 2, 3]) := by decide +kernel
theorem f125_17 : fch 125 17 = some (.ireturn, 18, []) := by decide +kernel
theorem f125_18 : fch 125 18 = some (.aload 0, 19, []) := by decide +kernel
theorem f125_19 : fch 125 19 = some (.invokeinterface 8 5, 22, []) := by decide +kernel
theorem f125_22 : fch 125 22 = some (.invokeinterface 1 7, 25, []) := by decide +kernel
theorem f125_25 : fch 125 25 = some (.istore 4, 27, []) := by decide +kernel
theorem f125_27 : fch 125 27 = some (.aload 0, 28, []) := by decide +kernel
theorem f125_28 : fch 125 28 = some (.invokeinterface 8 5, 31, []) := by decide +kernel
theorem f125_31 : fch 125 31 = some (.iload 1, 32, []) := by decide +kernel
theorem f125_32 : fch 125 32 = some (.multianewarray 1 7, 35, []) := by decide +kernel
theorem f125_35 : fch 125 35 = some (.aload 0, 36, []) := by decide +kernel
theorem f125_36 : fch 125 36 = some (.invokeinterface 8 5, 39, []) := by decide +kernel
theorem f125_39 : fch 125 39 = some (.iload 2, 40, []) := by decide +kernel
theorem f125_40 : fch 125 40 = some (.multianewarray 1 8, 43, []) := by decide +kernel
theorem f125_43 : fch 125 43 = some (.aload 0, 44, []) := by decide +kernel
theorem f125_44 : fch 125 44 = some (.invokeinterface 8 5, 47, []) := by decide +kernel
theorem f125_47 : fch 125 47 = some (.iload 3, 48, []) := by decide +kernel
theorem f125_48 : fch 125 48 = some (.multianewarray 1 9, 51, []) := by decide +kernel
theorem f125_51 : fch 125 51 = some (.iload 4, 53, []) := by decide +kernel
theorem f125_53 : fch 125 53 = some (.ireturn, 54, []) := by decide +kernel
set_option maxRecDepth 10000 in
theorem e125_0 (l0 l1 l2 l3 : Int) (s : SG) : sem 125 0 [aA l0, aI l1, aI l2, aI l3, aU] [] s = bnI (sem 143 0 [aI l1] [] s) fun a2 s1 => if a2 = 0 then some (aI ((-2)), s1) else bnI (sem 20 0 [aI l2, aI l3] [] s1) fun a4 s3 => if a4 = 0 then some (aI ((-2)), s3) else grd (kd l0 = 8) (grd (0 ≤ s3 l0 5) (grd (kd (s3 l0 5) = 1) (grd (kd l0 = 8) (grd (0 ≤ s3 l0 5) (grd (kd (s3 l0 5) = 1) (grd (kd l0 = 8) (grd (0 ≤ (up s3 (s3 l0 5) 7 l1) l0 5) (grd (kd ((up s3 (s3 l0 5) 7 l1) l0 5) = 1) (grd (kd l0 = 8) (grd (0 ≤ (up (up s3 (s3 l0 5) 7 l1) ((up s3 (s3 l0 5) 7 l1) l0 5) 8 l2) l0 5) (grd (kd ((up (up s3 (s3 l0 5) 7 l1) ((up s3 (s3 l0 5) 7 l1) l0 5) 8 l2) l0 5) = 1) (some (aI (s3 (s3 l0 5) 7), up (up (up s3 (s3 l0 5) 7 l1) ((up s3 (s3 l0 5) 7 l1) l0 5) 8 l2) ((up (up s3 (s3 l0 5) 7 l1) ((up s3 (s3 l0 5) 7 l1) l0 5) 8 l2) l0 5) 9 l3))))))))))))) := by
  refine (x_iload f125_0 rfl rfl).trans ?_
  refine (x_invokestatic (G := bnI (sem 143 0 [aI l1] [] s) fun a2 s1 => sem 125 4 [aA l0, aI l1, aI l2, aI l3, aU] [aI a2] s1) f125_1 rfl rfl).trans ?_
  refine bI_c fun a2 s1 => ?_
  refine (x_if_eq (tg := 15) f125_4 rfl rfl).trans (i_c ?_ ?_)
  · refine (x_kil (l2 := [aU, aU, aU, aU, aU]) f125_15 rfl).trans ?_
    refine (x_iconst f125_15 rfl).trans ?_
    exact x_ireturn f125_17 rfl
  · refine (x_iload f125_7 rfl rfl).trans ?_
    refine (x_iload f125_8 rfl rfl).trans ?_
    refine (x_invokestatic (G := bnI (sem 20 0 [aI l2, aI l3] [] s1) fun a4 s3 => sem 125 12 [aA l0, aI l1, aI l2, aI l3, aU] [aI a4] s3) f125_9 rfl rfl).trans ?_
    refine bI_c fun a4 s3 => ?_
    refine (x_if_ne (tg := 18) f125_12 rfl rfl).trans (i_c ?_ ?_)
    · refine (x_kil (l2 := [aU, aU, aU, aU, aU]) f125_15 rfl).trans ?_
      refine (x_iconst f125_15 rfl).trans ?_
      exact x_ireturn f125_17 rfl
    · refine (x_aload f125_18 rfl rfl).trans ?_
      refine (x_get2 f125_19 rfl rfl).trans ?_
      refine g_c ?_
      refine g_c ?_
      refine (x_get0 f125_22 rfl rfl).trans ?_
      refine g_c ?_
      refine (x_istore (l2 := [aA l0, aI l1, aI l2, aI l3, aI (s3 (s3 l0 5) 7)]) f125_25 rfl rfl).trans ?_
      refine (x_aload f125_27 rfl rfl).trans ?_
      refine (x_get2 f125_28 rfl rfl).trans ?_
      refine g_c ?_
      refine g_c ?_
      refine (x_iload f125_31 rfl rfl).trans ?_
      refine (x_put0 f125_32 rfl rfl).trans ?_
      refine g_c ?_
      refine (x_aload f125_35 rfl rfl).trans ?_
      refine (x_get2 f125_36 rfl rfl).trans ?_
      refine g_c ?_
      refine g_c ?_
      refine (x_iload f125_39 rfl rfl).trans ?_
      refine (x_put0 f125_40 rfl rfl).trans ?_
      refine g_c ?_
      refine (x_aload f125_43 rfl rfl).trans ?_
      refine (x_get2 f125_44 rfl rfl).trans ?_
      refine g_c ?_
      refine g_c ?_
      refine (x_iload f125_47 rfl rfl).trans ?_
      refine (x_put0 f125_48 rfl rfl).trans ?_
      refine g_c ?_
      refine (x_iload f125_51 rfl rfl).trans ?_
      exact x_ireturn f125_53 rfl
theorem f126_0 : fch 126 0 = some (.iload 1, 1, []) := by decide +kernel
theorem f126_1 : fch 126 1 = some (.invokestatic 141, 4, []) := by decide +kernel
theorem f126_4 : fch 126 4 = some (.ifCond .eq 18, 7, []) := by decide +kernel
theorem f126_7 : fch 126 7 = some (.aload 0, 8, []) := by decide +kernel
theorem f126_8 : fch 126 8 = some (.invokeinterface 8 9, 11, []) := by decide +kernel
theorem f126_11 : fch 126 11 = some (.iload 2, 12, []) := by decide +kernel
theorem f126_12 : fch 126 12 = some (.invokevirtual 82, 15, []) := by decide +kernel
theorem f126_15 : fch 126 15 = some (.ifCond .ne 20, 18, []) := by decide +kernel
theorem f126_18 : fch 126 18 = some (.iconst (-1), 19, [0, 1, 2, 3]) := by decide +kernel
theorem f126_19 : fch 126 19 = some (.ireturn, 20, []) := by decide +kernel
theorem f126_20 : fch 126 20 = some (.iload 3, 21, []) := by decide +kernel
theorem f126_21 : fch 126 21 = some (.iconst 1, 22, []) := by decide +kernel
theorem f126_22 : fch 126 22 = some (.if_icmp .lt 31, 25, []) := by decide +kernel
theorem f126_25 : fch 126 25 = some (.iload 3, 26, []) := by decide +kernel
theorem f126_26 : fch 126 26 = some (.iconst 20, 28, []) := by decide +kernel
theorem f126_28 : fch 126 28 = some (.if_icmp .le 34, 31, []) := by decide +kernel
theorem f126_31 : fch 126 31 = some (.iconst (-2), 33, [0, 1, 2, 3]) := by decide +kernel
theorem f126_33 : fch 126 33 = some (.ireturn, 34, []) := by decide +kernel
theorem f126_34 : fch 126 34 = some (.aload 0, 35, []) := by decide +kernel
theorem f126_35 : fch 126 35 = some (.invokeinterface 8 5, 38, []) := by decide +kernel
theorem f126_38 : fch 126 38 = some (.iload 1, 39, []) := by decide +kernel
theorem f126_39 : fch 126 39 = some (.iload 2, 40, []) := by decide +kernel
theorem f126_40 : fch 126 40 = some (.iload 3, 41, []) := by decide +kernel
theorem f126_41 : fch 126 41 = some (.invokevirtual 26, 44, []) := by decide +kernel
theorem f126_44 : fch 126 44 = some (.ifCond .eq 59, 47, []) := by decide +kernel
theorem f126_47 : fch 126 47 = some (.aload 0, 48, []) := by decide +kernel
theorem f126_48 : fch 126 48 = some (.invokeinterface 8 5, 51, []) := by decide +kernel
theorem f126_51 : fch 126 51 = some (.invokeinterface 1 10, 54, []) := by decide +kernel
theorem f126_54 : fch 126 54 = some (.iconst 1, 55, []) := by decide +kernel
theorem f126_55 : fch 126 55 = some (.isub, 56, []) := by decide +kernel
theorem f126_56 : fch 126 56 = some (.goto 61, 59, []) := by decide +kernel
theorem f126_59 : fch 126 59 = some (.iconst (-4), 61, []) := by decide +kernel
theorem f126_61 : fch 126 61 = some (.ireturn, 62, [0, 1, 2, 3]) := by decide +kernel
set_option maxRecDepth 10000 in
theorem e126_0 (l0 l1 l2 l3 : Int) (s : SG) : sem 126 0 [aA l0, aI l1, aI l2, aI l3] [] s = bnI (sem 141 0 [aI l1] [] s) fun a2 s1 => if a2 = 0 then some (aI ((-1)), s1) else grd (kd l0 = 8) (grd (0 ≤ s1 l0 9) (grd (kd (s1 l0 9) = 6) (bnI (sem 82 0 [aA (s1 l0 9), aI l2] [] s1) fun a4 s3 => if a4 = 0 then some (aI ((-1)), s3) else if l3 < 1 then some (aI ((-2)), s3) else if (20 : Int) < l3 then some (aI ((-2)), s3) else grd (kd l0 = 8) (grd (0 ≤ s3 l0 5) (grd (kd (s3 l0 5) = 1) (bnI (sem 26 0 [aA (s3 l0 5), aI l1, aI l2, aI l3] [] s3) fun a6 s5 => if a6 = 0 then some (aI ((-4)), s5) else grd (kd l0 = 8) (grd (0 ≤ s5 l0 5) (grd (kd (s5 l0 5) = 1) (some (aI (w32 ((s5 (s5 l0 5) 10) - 1)), s5)))))))))) := by
  refine (x_iload f126_0 rfl rfl).trans ?_
  refine (x_invokestatic (G := bnI (sem 141 0 [aI l1] [] s) fun a2 s1 => sem 126 4 [aA l0, aI l1, aI l2, aI l3] [aI a2] s1) f126_1 rfl rfl).trans ?_
  refine bI_c fun a2 s1 => ?_
  refine (x_if_eq (tg := 18) f126_4 rfl rfl).trans (i_c ?_ ?_)
  · refine (x_kil (l2 := [aU, aU, aU, aU]) f126_18 rfl).trans ?_
    refine (x_iconst f126_18 rfl).trans ?_
    exact x_ireturn f126_19 rfl
  · refine (x_aload f126_7 rfl rfl).trans ?_
    refine (x_get2 f126_8 rfl rfl).trans ?_
    refine g_c ?_
    refine g_c ?_
    refine (x_iload f126_11 rfl rfl).trans ?_
    refine (x_invokevirtual (G := grd (kd (s1 l0 9) = 6) (bnI (sem 82 0 [aA (s1 l0 9), aI l2] [] s1) fun a4 s3 => sem 126 15 [aA l0, aI l1, aI l2, aI l3] [aI a4] s3)) f126_12 rfl rfl).trans ?_
    refine g_c ?_
    refine bI_c fun a4 s3 => ?_
    refine (x_if_ne (tg := 20) f126_15 rfl rfl).trans (i_c ?_ ?_)
    · refine (x_kil (l2 := [aU, aU, aU, aU]) f126_18 rfl).trans ?_
      refine (x_iconst f126_18 rfl).trans ?_
      exact x_ireturn f126_19 rfl
    · refine (x_iload f126_20 rfl rfl).trans ?_
      refine (x_iconst f126_21 rfl).trans ?_
      refine (x_icmp_lt (tg := 31) f126_22 rfl rfl).trans (i_c ?_ ?_)
      · refine (x_kil (l2 := [aU, aU, aU, aU]) f126_31 rfl).trans ?_
        refine (x_iconst f126_31 rfl).trans ?_
        exact x_ireturn f126_33 rfl
      · refine (x_iload f126_25 rfl rfl).trans ?_
        refine (x_iconst f126_26 rfl).trans ?_
        refine (x_icmp_le (tg := 34) f126_28 rfl rfl).trans (i_c ?_ ?_)
        · refine (x_kil (l2 := [aU, aU, aU, aU]) f126_31 rfl).trans ?_
          refine (x_iconst f126_31 rfl).trans ?_
          exact x_ireturn f126_33 rfl
        · refine (x_aload f126_34 rfl rfl).trans ?_
          refine (x_get2 f126_35 rfl rfl).trans ?_
          refine g_c ?_
          refine g_c ?_
          refine (x_iload f126_38 rfl rfl).trans ?_
          refine (x_iload f126_39 rfl rfl).trans ?_
          refine (x_iload f126_40 rfl rfl).trans ?_
          refine (x_invokevirtual (G := grd (kd (s3 l0 5) = 1) (bnI (sem 26 0 [aA (s3 l0 5), aI l1, aI l2, aI l3] [] s3) fun a6 s5 => sem 126 44 [aA l0, aI l1, aI l2, aI l3] [aI a6] s5)) f126_41 rfl rfl).trans ?_
          refine g_c ?_
          refine bI_c fun a6 s5 => ?_
          refine (x_if_eq (tg := 59) f126_44 rfl rfl).trans (i_c ?_ ?_)
          · refine (x_iconst f126_59 rfl).trans ?_
            refine (x_kil (l2 := [aU, aU, aU, aU]) f126_61 rfl).trans ?_
            exact x_ireturn f126_61 rfl
          · refine (x_aload f126_47 rfl rfl).trans ?_
            refine (x_get2 f126_48 rfl rfl).trans ?_
            refine g_c ?_
            refine g_c ?_
            refine (x_get0 f126_51 rfl rfl).trans ?_
            refine g_c ?_
            refine (x_iconst f126_54 rfl).trans ?_
            refine (x_isub f126_55 rfl).trans ?_
            refine (x_goto (tg := 61) f126_56 rfl rfl).trans ?_
            refine (x_kil (l2 := [aU, aU, aU, aU]) f126_61 rfl).trans ?_
            exact x_ireturn f126_61 rfl
theorem f127_0 : fch 127 0 = some (.aload 0, 1, []) := by decide +kernel
theorem f127_1 : fch 127 1 = some (.invokeinterface 8 5, 4, []) := by decide +kernel
theorem f127_4 : fch 127 4 = some (.invokeinterface 1 10, 7, []) := by decide +kernel
theorem f127_7 : fch 127 7 = some (.istore 1, 8, []) := by decide +kernel
theorem f127_8 : fch 127 8 = some (.aload 0, 9, []) := by decide +kernel
theorem f127_9 : fch 127 9 = some (.invokeinterface 8 5, 12, []) := by decide +kernel
theorem f127_12 : fch 127 12 = some (.iconst 0, 13, []) := by decide +kernel
theorem f127_13 : fch 127 13 = some (.multianewarray 1 10, 16, []) := by decide +kernel
theorem f127_16 : fch 127 16 = some (.iload 1, 17, []) := by decide +kernel
theorem f127_17 : fch 127 17 = some (.ireturn, 18, []) := by decide +kernel
set_option maxRecDepth 10000 in
theorem e127_0 (l0 : Int) (s : SG) : sem 127 0 [aA l0, aU] [] s = grd (kd l0 = 8) (grd (0 ≤ s l0 5) (grd (kd (s l0 5) = 1) (grd (kd l0 = 8) (grd (0 ≤ s l0 5) (grd (kd (s l0 5) = 1) (some (aI (s (s l0 5) 10), up s (s l0 5) 10 0))))))) := by
  refine (x_aload f127_0 rfl rfl).trans ?_
  refine (x_get2 f127_1 rfl rfl).trans ?_
  refine g_c ?_
  refine g_c ?_
  refine (x_get0 f127_4 rfl rfl).trans ?_
  refine g_c ?_
  refine (x_istore (l2 := [aA l0, aI (s (s l0 5) 10)]) f127_7 rfl rfl).trans ?_
  refine (x_aload f127_8 rfl rfl).trans ?_
  refine (x_get2 f127_9 rfl rfl).trans ?_
  refine g_c ?_
  refine g_c ?_
  refine (x_iconst f127_12 rfl).trans ?_
  refine (x_put0 f127_13 rfl rfl).trans ?_
  refine g_c ?_
  refine (x_iload f127_16 rfl rfl).trans ?_
  exact x_ireturn f127_17 rfl
theorem f128_0 : fch 128 0 = some (.aload 0, 1, []) := by decide +kernel
theorem f128_1 : fch 128 1 = some (.invokeinterface 8 9, 4, []) := by decide +kernel
theorem f128_4 : fch 128 4 = some (.iload 1, 5, []) := by decide +kernel
theorem f128_5 : fch 128 5 = some (.invokevirtual 82, 8, []) := by decide +kernel
theorem f128_8 : fch 128 8 = some (.ifCond .eq 18, 11, []) := by decide +kernel
theorem f128_11 : fch 128 11 = some (.iload 2, 12, []) := by decide +kernel
theorem f128_12 : fch 128 12 = some (.invokestatic 141, 15, []) := by decide +kernel
theorem f128_15 : fch 128 15 = some (.ifCond .ne 20, 18, []) := by decide +kernel
theorem f128_18 : fch 128 18 = some (.iconst (-1), 19, [0, 1, 2, 3]) := by decide +kernel
theorem f128_19 : fch 128 19 = some (.ireturn, 20, []) := by decide +kernel
theorem f128_20 : fch 128 20 = some (.iload 3, 21, []) := by decide +kernel
theorem f128_21 : fch 128 21 = some (.ifCond .lt 29, 24, []) := by decide +kernel
theorem f128_24 : fch 128 24 = some (.iload 3, 25, []) := by decide +kernel
theorem f128_25 : fch 128 25 = some (.iconst 3, 26, []) := by decide +kernel
theorem f128_26 : fch 128 26 = some (.if_icmp .le 32, 29, []) := by decide +kernel
theorem f128_29 : fch 128 29 = some (.iconst (-2), 31, [0, 1, 2, 3]) := by decide +kernel
theorem f128_31 : fch 128 31 = some (.ireturn, 32, []) := by decide +kernel
theorem f128_32 : fch 128 32 = some (.aload 0, 33, []) := by decide +kernel
theorem f128_33 : fch 128 33 = some (.invokeinterface 8 6, 36, []) := by decide +kernel
theorem f128_36 : fch 128 36 = some (.aload 0, 37, []) := by decide +kernel
theorem f128_37 : fch 128 37 = some (.invokeinterface 8 9, 40, []) := by decide +kernel
theorem f128_40 : fch 128 40 = some (.aload 0, 41, []) := by decide +kernel
theorem f128_41 : fch 128 41 = some (.invokeinterface 8 5, 44, []) := by decide +kernel
theorem f128_44 : fch 128 44 = some (.invokevirtual 45, 47, []) := by decide +kernel
theorem f128_47 : fch 128 47 = some (.aload 0, 48, []) := by decide +kernel
theorem f128_48 : fch 128 48 = some (.invokeinterface 8 6, 51, []) := by decide +kernel
theorem f128_51 : fch 128 51 = some (.iload 1, 52, []) := by decide +kernel
theorem f128_52 : fch 128 52 = some (.iload 2, 53, []) := by decide +kernel
theorem f128_53 : fch 128 53 = some (.iload 3, 54, []) := by decide +kernel
theorem f128_54 : fch 128 54 = some (.invokevirtual 56, 57, []) := by decide +kernel
theorem f128_57 : fch 128 57 = some (.ireturn, 58, []) := by decide +kernel
set_option maxRecDepth 10000 in
theorem e128_0 (l0 l1 l2 l3 : Int) (s : SG) : sem 128 0 [aA l0, aI l1, aI l2, aI l3] [] s = grd (kd l0 = 8) (grd (0 ≤ s l0 9) (grd (kd (s l0 9) = 6) (bnI (sem 82 0 [aA (s l0 9), aI l1] [] s) fun a2 s1 => if a2 = 0 then some (aI ((-1)), s1) else bnI (sem 141 0 [aI l2] [] s1) fun a4 s3 => if a4 = 0 then some (aI ((-1)), s3) else if l3 < 0 then some (aI ((-2)), s3) else if (3 : Int) < l3 then some (aI ((-2)), s3) else grd (kd l0 = 8) (grd (0 ≤ s3 l0 6) (grd (kd l0 = 8) (grd (0 ≤ s3 l0 9) (grd (kd l0 = 8) (grd (0 ≤ s3 l0 5) (grd (kd (s3 l0 6) = 3) (bnV (sem 45 0 [aA (s3 l0 6), aA (s3 l0 9), aA (s3 l0 5)] [] s3) fun s5 => grd (kd l0 = 8) (grd (0 ≤ s5 l0 6) (grd (kd (s5 l0 6) = 3) (bnI (sem 56 0 [aA (s5 l0 6), aI l1, aI l2, aI l3, aU] [] s5) fun a7 s6 => some (aI a7, s6)))))))))))))) := by
  refine (x_aload f128_0 rfl rfl).trans ?_
  refine (x_get2 f128_1 rfl rfl).trans ?_
  refine g_c ?_
  refine g_c ?_
  refine (x_iload f128_4 rfl rfl).trans ?_
  refine (x_invokevirtual (G := grd (kd (s l0 9) = 6) (bnI (sem 82 0 [aA (s l0 9), aI l1] [] s) fun a2 s1 => sem 128 8 [aA l0, aI l1, aI l2, aI l3] [aI a2] s1)) f128_5 rfl rfl).trans ?_
  refine g_c ?_
  refine bI_c fun a2 s1 => ?_
  refine (x_if_eq (tg := 18) f128_8 rfl rfl).trans (i_c ?_ ?_)
  · refine (x_kil (l2 := [aU, aU, aU, aU]) f128_18 rfl).trans ?_
    refine (x_iconst f128_18 rfl).trans ?_
    exact x_ireturn f128_19 rfl
  · refine (x_iload f128_11 rfl rfl).trans ?_
    refine (x_invokestatic (G := bnI (sem 141 0 [aI l2] [] s1) fun a4 s3 => sem 128 15 [aA l0, aI l1, aI l2, aI l3] [aI a4] s3) f128_12 rfl rfl).trans ?_
    refine bI_c fun a4 s3 => ?_
    refine (x_if_ne (tg := 20) f128_15 rfl rfl).trans (i_c ?_ ?_)
    · refine (x_kil (l2 := [aU, aU, aU, aU]) f128_18 rfl).trans ?_
      refine (x_iconst f128_18 rfl).trans ?_
      exact x_ireturn f128_19 rfl
    · refine (x_iload f128_20 rfl rfl).trans ?_
      refine (x_if_lt (tg := 29) f128_21 rfl rfl).trans (i_c ?_ ?_)
      · refine (x_kil (l2 := [aU, aU, aU, aU]) f128_29 rfl).trans ?_
        refine (x_iconst f128_29 rfl).trans ?_
        exact x_ireturn f128_31 rfl
      · refine (x_iload f128_24 rfl rfl).trans ?_
        refine (x_iconst f128_25 rfl).trans ?_
        refine (x_icmp_le (tg := 32) f128_26 rfl rfl).trans (i_c ?_ ?_)
        · refine (x_kil (l2 := [aU, aU, aU, aU]) f128_29 rfl).trans ?_
          refine (x_iconst f128_29 rfl).trans ?_
          exact x_ireturn f128_31 rfl
        · refine (x_aload f128_32 rfl rfl).trans ?_
          refine (x_get2 f128_33 rfl rfl).trans ?_
          refine g_c ?_
          refine g_c ?_
          refine (x_aload f128_36 rfl rfl).trans ?_
          refine (x_get2 f128_37 rfl rfl).trans ?_
          refine g_c ?_
          refine g_c ?_
          refine (x_aload f128_40 rfl rfl).trans ?_
          refine (x_get2 f128_41 rfl rfl).trans ?_
          refine g_c ?_
          refine g_c ?_
          refine (x_invokevirtual (G := grd (kd (s3 l0 6) = 3) (bnV (sem 45 0 [aA (s3 l0 6), aA (s3 l0 9), aA (s3 l0 5)] [] s3) fun s5 => sem 128 47 [aA l0, aI l1, aI l2, aI l3] [] s5)) f128_44 rfl rfl).trans ?_
          refine g_c ?_
          refine bV_c fun s5 => ?_
          refine (x_aload f128_47 rfl rfl).trans ?_
          refine (x_get2 f128_48 rfl rfl).trans ?_
          refine g_c ?_
          refine g_c ?_
          refine (x_iload f128_51 rfl rfl).trans ?_
          refine (x_iload f128_52 rfl rfl).trans ?_
          refine (x_iload f128_53 rfl rfl).trans ?_
          refine (x_invokevirtual (G := grd (kd (s5 l0 6) = 3) (bnI (sem 56 0 [aA (s5 l0 6), aI l1, aI l2, aI l3, aU] [] s5) fun a7 s6 => sem 128 57 [aA l0, aI l1, aI l2, aI l3] [aI a7] s6)) f128_54 rfl rfl).trans ?_
          refine g_c ?_
          refine bI_c fun a7 s6 => ?_
          exact x_ireturn f128_57 rfl
theorem f129_0 : fch 129 0 = some (.iload 1, 1, []) := by decide +kernel
theorem f129_1 : fch 129 1 = some (.ifCond .lt 9, 4, []) := by decide +kernel
theorem f129_4 : fch 129 4 = some (.iload 1, 5, []) := by decide +kernel
theorem f129_5 : fch 129 5 = some (.iconst 4, 6, []) := by decide +kernel
theorem f129_6 : fch 129 6 = some (.if_icmp .le 12, 9, []) := by decide +kernel
theorem f129_9 : fch 129 9 = some (.iconst (-2), 11, [0, 1]) := by decide +kernel
theorem f129_11 : fch 129 11 = some (.ireturn, 12, []) := by decide +kernel
theorem f129_12 : fch 129 12 = some (.aload 0, 13, []) := by decide +kernel
theorem f129_13 : fch 129 13 = some (.invokeinterface 8 6, 16, []) := by decide +kernel
theorem f129_16 : fch 129 16 = some (.aload 0, 17, []) := by decide +kernel
theorem f129_17 : fch 129 17 = some (.invokeinterface 8 9, 20, []) := by decide +kernel
theorem f129_20 : fch 129 20 = some (.aload 0, 21, []) := by decide +kernel
theorem f129_21 : fch 129 21 = some (.invokeinterface 8 5, 24, []) := by decide +kernel
theorem f129_24 : fch 129 24 = some (.invokevirtual 45, 27, []) := by decide +kernel
theorem f129_27 : fch 129 27 = some (.iload 1, 28, []) := by decide +kernel
theorem f129_28 : fch 129 28 = some (.tableswitch 92 0 3 #[60, 68, 76, 84], 60, []) := by decide +kernel
theorem f129_60 : fch 129 60 = some (.aload 0, 61, []) := by decide +kernel
theorem f129_61 : fch 129 61 = some (.invokeinterface 8 6, 64, []) := by decide +kernel
theorem f129_64 : fch 129 64 = some (.invokevirtual 59, 67, []) := by decide +kernel
theorem f129_67 : fch 129 67 = some (.ireturn, 68, []) := by decide +kernel
theorem f129_68 : fch 129 68 = some (.aload 0, 69, []) := by decide +kernel
theorem f129_69 : fch 129 69 = some (.invokeinterface 8 6, 72, []) := by decide +kernel
theorem f129_72 : fch 129 72 = some (.invokevirtual 60, 75, []) := by decide +kernel
theorem f129_75 : fch 129 75 = some (.ireturn, 76, []) := by decide +kernel
theorem f129_76 : fch 129 76 = some (.aload 0, 77, []) := by decide +kernel
theorem f129_77 : fch 129 77 = some (.invokeinterface 8 6, 80, []) := by decide +kernel
theorem f129_80 : fch 129 80 = some (.invokevirtual 61, 83, []) := by decide +kernel
theorem f129_83 : fch 129 83 = some (.ireturn, 84, []) := by decide +kernel
theorem f129_84 : fch 129 84 = some (.aload 0, 85, []) := by decide +kernel
theorem f129_85 : fch 129 85 = some (.invokeinterface 8 6, 88, []) := by decide +kernel
theorem f129_88 : fch 129 88 = some (.invokevirtual 62, 91, []) := by decide +kernel
theorem f129_91 : fch 129 91 = some (.ireturn, 92, []) := by decide +kernel
theorem f129_92 : fch 129 92 = some (.aload 0, 93, []) := by decide +kernel
theorem f129_93 : fch 129 93 = some (.invokeinterface 8 6, 96, []) := by decide +kernel
theorem f129_96 : fch 129 96 = some (.aload 0, 97, []) := by decide +kernel
theorem f129_97 : fch 129 97 = some (.invokeinterface 8 9, 100, []) := by decide +kernel
theorem f129_100 : fch 129 100 = some (.aload 0, 101, []) := by decide +kernel
theorem f129_101 : fch 129 101 = some (.invokeinterface 8 5, 104, []) := by decide +kernel
theorem f129_104 : fch 129 104 = some (.invokevirtual 63, 107, []) := by decide +kernel
theorem f129_107 : fch 129 107 = some (.iconst 100000, 110, []) := by decide +kernel
theorem f129_110 : fch 129 110 = some (.iadd, 111, []) := by decide +kernel
theorem f129_111 : fch 129 111 = some (.ireturn, 112, []) := by decide +kernel
set_option maxRecDepth 10000 in
theorem e129_0 (l0 l1 : Int) (s : SG) : sem 129 0 [aA l0, aI l1] [] s = if l1 < 0 then some (aI ((-2)), s) else if (4 : Int) < l1 then some (aI ((-2)), s) else grd (kd l0 = 8) (grd (0 ≤ s l0 6) (grd (kd l0 = 8) (grd (0 ≤ s l0 9) (grd (kd l0 = 8) (grd (0 ≤ s l0 5) (grd (kd (s l0 6) = 3) (bnV (sem 45 0 [aA (s l0 6), aA (s l0 9), aA (s l0 5)] [] s) fun s1 => if l1 = 0 then grd (kd l0 = 8) (grd (0 ≤ s1 l0 6) (grd (kd (s1 l0 6) = 3) (bnI (sem 59 0 [aA (s1 l0 6), aU, aU] [] s1) fun a3 s2 => some (aI a3, s2)))) else if l1 = 1 then grd (kd l0 = 8) (grd (0 ≤ s1 l0 6) (grd (kd (s1 l0 6) = 3) (bnI (sem 60 0 [aA (s1 l0 6), aU, aU] [] s1) fun a5 s4 => some (aI a5, s4)))) else if l1 = 2 then grd (kd l0 = 8) (grd (0 ≤ s1 l0 6) (grd (kd (s1 l0 6) = 3) (bnI (sem 61 0 [aA (s1 l0 6)] [] s1) fun a7 s6 => some (aI a7, s6)))) else if l1 = 3 then grd (kd l0 = 8) (grd (0 ≤ s1 l0 6) (grd (kd (s1 l0 6) = 3) (bnI (sem 62 0 [aA (s1 l0 6)] [] s1) fun a9 s8 => some (aI a9, s8)))) else grd (kd l0 = 8) (grd (0 ≤ s1 l0 6) (grd (kd l0 = 8) (grd (0 ≤ s1 l0 9) (grd (kd l0 = 8) (grd (0 ≤ s1 l0 5) (grd (kd (s1 l0 6) = 3) (bnI (sem 63 0 [aA (s1 l0 6), aA (s1 l0 9), aA (s1 l0 5), aU, aU] [] s1) fun a11 s10 => some (aI (w32 (a11 + 100000)), s10))))))))))))))) := by
  refine (x_iload f129_0 rfl rfl).trans ?_
  refine (x_if_lt (tg := 9) f129_1 rfl rfl).trans (i_c ?_ ?_)
  · refine (x_kil (l2 := [aU, aU]) f129_9 rfl).trans ?_
    refine (x_iconst f129_9 rfl).trans ?_
    exact x_ireturn f129_11 rfl
  · refine (x_iload f129_4 rfl rfl).trans ?_
    refine (x_iconst f129_5 rfl).trans ?_
    refine (x_icmp_le (tg := 12) f129_6 rfl rfl).trans (i_c ?_ ?_)
    · refine (x_kil (l2 := [aU, aU]) f129_9 rfl).trans ?_
      refine (x_iconst f129_9 rfl).trans ?_
      exact x_ireturn f129_11 rfl
    · refine (x_aload f129_12 rfl rfl).trans ?_
      refine (x_get2 f129_13 rfl rfl).trans ?_
      refine g_c ?_
      refine g_c ?_
      refine (x_aload f129_16 rfl rfl).trans ?_
      refine (x_get2 f129_17 rfl rfl).trans ?_
      refine g_c ?_
      refine g_c ?_
      refine (x_aload f129_20 rfl rfl).trans ?_
      refine (x_get2 f129_21 rfl rfl).trans ?_
      refine g_c ?_
      refine g_c ?_
      refine (x_invokevirtual (G := grd (kd (s l0 6) = 3) (bnV (sem 45 0 [aA (s l0 6), aA (s l0 9), aA (s l0 5)] [] s) fun s1 => sem 129 27 [aA l0, aI l1] [] s1)) f129_24 rfl rfl).trans ?_
      refine g_c ?_
      refine bV_c fun s1 => ?_
      refine (x_iload f129_27 rfl rfl).trans ?_
      refine (x_tsw f129_28 rfl).trans ?_
      refine Eq.trans (b := sem 129 (if l1 = 0 then 60 else if l1 = 1 then 68 else if l1 = 2 then 76 else if l1 = 3 then 84 else 92) [aA l0, aI l1] [] s1) rfl ?_
      refine x_ite.trans (i_c ?_ ?_)
      · refine (x_aload f129_60 rfl rfl).trans ?_
        refine (x_get2 f129_61 rfl rfl).trans ?_
        refine g_c ?_
        refine g_c ?_
        refine (x_invokevirtual (G := grd (kd (s1 l0 6) = 3) (bnI (sem 59 0 [aA (s1 l0 6), aU, aU] [] s1) fun a3 s2 => sem 129 67 [aA l0, aI l1] [aI a3] s2)) f129_64 rfl rfl).trans ?_
        refine g_c ?_
        refine bI_c fun a3 s2 => ?_
        exact x_ireturn f129_67 rfl
      refine x_ite.trans (i_c ?_ ?_)
      · refine (x_aload f129_68 rfl rfl).trans ?_
        refine (x_get2 f129_69 rfl rfl).trans ?_
        refine g_c ?_
        refine g_c ?_
        refine (x_invokevirtual (G := grd (kd (s1 l0 6) = 3) (bnI (sem 60 0 [aA (s1 l0 6), aU, aU] [] s1) fun a5 s4 => sem 129 75 [aA l0, aI l1] [aI a5] s4)) f129_72 rfl rfl).trans ?_
        refine g_c ?_
        refine bI_c fun a5 s4 => ?_
        exact x_ireturn f129_75 rfl
      refine x_ite.trans (i_c ?_ ?_)
      · refine (x_aload f129_76 rfl rfl).trans ?_
        refine (x_get2 f129_77 rfl rfl).trans ?_
        refine g_c ?_
        refine g_c ?_
        refine (x_invokevirtual (G := grd (kd (s1 l0 6) = 3) (bnI (sem 61 0 [aA (s1 l0 6)] [] s1) fun a7 s6 => sem 129 83 [aA l0, aI l1] [aI a7] s6)) f129_80 rfl rfl).trans ?_
        refine g_c ?_
        refine bI_c fun a7 s6 => ?_
        exact x_ireturn f129_83 rfl
      refine x_ite.trans (i_c ?_ ?_)
      · refine (x_aload f129_84 rfl rfl).trans ?_
        refine (x_get2 f129_85 rfl rfl).trans ?_
        refine g_c ?_
        refine g_c ?_
        refine (x_invokevirtual (G := grd (kd (s1 l0 6) = 3) (bnI (sem 62 0 [aA (s1 l0 6)] [] s1) fun a9 s8 => sem 129 91 [aA l0, aI l1] [aI a9] s8)) f129_88 rfl rfl).trans ?_
        refine g_c ?_
        refine bI_c fun a9 s8 => ?_
        exact x_ireturn f129_91 rfl
      refine (x_aload f129_92 rfl rfl).trans ?_
      refine (x_get2 f129_93 rfl rfl).trans ?_
      refine g_c ?_
      refine g_c ?_
      refine (x_aload f129_96 rfl rfl).trans ?_
      refine (x_get2 f129_97 rfl rfl).trans ?_
      refine g_c ?_
      refine g_c ?_
      refine (x_aload f129_100 rfl rfl).trans ?_
      refine (x_get2 f129_101 rfl rfl).trans ?_
      refine g_c ?_
      refine g_c ?_
      refine (x_invokevirtual (G := grd (kd (s1 l0 6) = 3) (bnI (sem 63 0 [aA (s1 l0 6), aA (s1 l0 9), aA (s1 l0 5), aU, aU] [] s1) fun a11 s10 => sem 129 107 [aA l0, aI l1] [aI a11] s10)) f129_104 rfl rfl).trans ?_
      refine g_c ?_
      refine bI_c fun a11 s10 => ?_
      refine (x_iconst f129_107 rfl).trans ?_
      refine (x_iadd f129_110 rfl).trans ?_
      exact x_ireturn f129_111 rfl
