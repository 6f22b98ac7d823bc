theorem f57_0 : fch 57 0 = some (.iload 1, 1, []) := by decide +kernel
theorem f57_1 : fch 57 1 = some (.iload 2, 2, []) := by decide +kernel
theorem f57_2 : fch 57 2 = some (.invokestatic 56, 5, []) := by decide +kernel
theorem f57_5 : fch 57 5 = some (.istore 4, 7, []) := by decide +kernel
theorem f57_7 : fch 57 7 = some (.iload 3, 8, []) := by decide +kernel
theorem f57_8 : fch 57 8 = some (.tableswitch 60 0 2 #[36, 44, 52], 36, []) := by decide +kernel
theorem f57_36 : fch 57 36 = some (.aload 0, 37, []) := by decide +kernel
theorem f57_37 : fch 57 37 = some (.invokeinterface 3 0, 40, []) := by decide +kernel
theorem f57_40 : fch 57 40 = some (.iload 4, 42, []) := by decide +kernel
theorem f57_42 : fch 57 42 = some (.iaload, 43, []) := by decide +kernel
theorem f57_43 : fch 57 43 = some (.ireturn, 44, []) := by decide +kernel
theorem f57_44 : fch 57 44 = some (.aload 0, 45, []) := by decide +kernel
theorem f57_45 : fch 57 45 = some (.invokeinterface 3 1, 48, []) := by decide +kernel
theorem f57_48 : fch 57 48 = some (.iload 4, 50, []) := by decide +kernel
theorem f57_50 : fch 57 50 = some (.iaload, 51, []) := by decide +kernel
theorem f57_51 : fch 57 51 = some (.ireturn, 52, []) := by decide +kernel
theorem f57_52 : fch 57 52 = some (.aload 0, 53, []) := by decide +kernel
theorem f57_53 : fch 57 53 = some (.invokeinterface 3 2, 56, []) := by decide +kernel
theorem f57_56 : fch 57 56 = some (.iload 4, 58, []) := by decide +kernel
theorem f57_58 : fch 57 58 = some (.iaload, 59, []) := by decide +kernel
theorem f57_59 : fch 57 59 = some (.ireturn, 60, []) := by decide +kernel
theorem f57_60 : fch 57 60 = some (.aload 0, 61, []) := by decide +kernel
theorem f57_61 : fch 57 61 = some (.invokeinterface 3 3, 64, []) := by decide +kernel
theorem f57_64 : fch 57 64 = some (.iload 4, 66, []) := by decide +kernel
theorem f57_66 : fch 57 66 = some (.iaload, 67, []) := by decide +kernel
theorem f57_67 : fch 57 67 = some (.ireturn, 68, []) := by decide +kernel
set_option maxRecDepth 10000 in
theorem e57_0 (l0 l1 l2 l3 : Int) (s : SG) : sem 57 0 [aA l0, aI l1, aI l2, aI l3, aU] [] s = bnI (sem 56 0 [aI l1, aI l2, aU] [] s) fun a2 s1 => if l3 = 0 then grd (kd l0 = 3) (grd (0 ≤ s1 l0 0) (grd (kd (s1 l0 0) = 101) (grd ((0 : Int) ≤ a2 ∧ a2 < kl (s1 l0 0)) (some (aI (s1 (s1 l0 0) a2), s1))))) else if l3 = 1 then grd (kd l0 = 3) (grd (0 ≤ s1 l0 1) (grd (kd (s1 l0 1) = 101) (grd ((0 : Int) ≤ a2 ∧ a2 < kl (s1 l0 1)) (some (aI (s1 (s1 l0 1) a2), s1))))) else if l3 = 2 then grd (kd l0 = 3) (grd (0 ≤ s1 l0 2) (grd (kd (s1 l0 2) = 101) (grd ((0 : Int) ≤ a2 ∧ a2 < kl (s1 l0 2)) (some (aI (s1 (s1 l0 2) a2), s1))))) else grd (kd l0 = 3) (grd (0 ≤ s1 l0 3) (grd (kd (s1 l0 3) = 101) (grd ((0 : Int) ≤ a2 ∧ a2 < kl (s1 l0 3)) (some (aI (s1 (s1 l0 3) a2), s1))))) := by
  refine (x_iload f57_0 rfl rfl).trans ?_
  refine (x_iload f57_1 rfl rfl).trans ?_
  refine (x_invokestatic (G := bnI (sem 56 0 [aI l1, aI l2, aU] [] s) fun a2 s1 => sem 57 5 [aA l0, aI l1, aI l2, aI l3, aU] [aI a2] s1) f57_2 rfl rfl).trans ?_
  refine bI_c fun a2 s1 => ?_
  refine (x_istore (l2 := [aA l0, aI l1, aI l2, aI l3, aI a2]) f57_5 rfl rfl).trans ?_
  refine (x_iload f57_7 rfl rfl).trans ?_
  refine (x_tsw f57_8 rfl).trans ?_
  refine Eq.trans (b := sem 57 (if l3 = 0 then 36 else if l3 = 1 then 44 else if l3 = 2 then 52 else 60) [aA l0, aI l1, aI l2, aI l3, aI a2] [] s1) rfl ?_
  refine x_ite.trans (i_c ?_ ?_)
  · refine (x_aload f57_36 rfl rfl).trans ?_
    refine (x_get2 f57_37 rfl rfl).trans ?_
    refine g_c ?_
    refine g_c ?_
    refine (x_iload f57_40 rfl rfl).trans ?_
    refine (x_iaload f57_42 rfl).trans ?_
    refine g_c ?_
    refine g_c ?_
    exact x_ireturn f57_43 rfl
  refine x_ite.trans (i_c ?_ ?_)
  · refine (x_aload f57_44 rfl rfl).trans ?_
    refine (x_get2 f57_45 rfl rfl).trans ?_
    refine g_c ?_
    refine g_c ?_
    refine (x_iload f57_48 rfl rfl).trans ?_
    refine (x_iaload f57_50 rfl).trans ?_
    refine g_c ?_
    refine g_c ?_
    exact x_ireturn f57_51 rfl
  refine x_ite.trans (i_c ?_ ?_)
  · refine (x_aload f57_52 rfl rfl).trans ?_
    refine (x_get2 f57_53 rfl rfl).trans ?_
    refine g_c ?_
    refine g_c ?_
    refine (x_iload f57_56 rfl rfl).trans ?_
    refine (x_iaload f57_58 rfl).trans ?_
    refine g_c ?_
    refine g_c ?_
    exact x_ireturn f57_59 rfl
  refine (x_aload f57_60 rfl rfl).trans ?_
  refine (x_get2 f57_61 rfl rfl).trans ?_
  refine g_c ?_
  refine g_c ?_
  refine (x_iload f57_64 rfl rfl).trans ?_
  refine (x_iaload f57_66 rfl).trans ?_
  refine g_c ?_
  refine g_c ?_
  exact x_ireturn f57_67 rfl
theorem f58_0 : fch 58 0 = some (.aload 0, 1, []) := by decide +kernel
theorem f58_1 : fch 58 1 = some (.invokeinterface 3 1, 4, []) := by decide +kernel
theorem f58_4 : fch 58 4 = some (.iload 1, 5, []) := by decide +kernel
theorem f58_5 : fch 58 5 = some (.iload 2, 6, []) := by decide +kernel
theorem f58_6 : fch 58 6 = some (.invokestatic 56, 9, []) := by decide +kernel
theorem f58_9 : fch 58 9 = some (.iaload, 10, []) := by decide +kernel
theorem f58_10 : fch 58 10 = some (.ireturn, 11, []) := by decide +kernel
set_option maxRecDepth 10000 in
theorem e58_0 (l0 l1 l2 : Int) (s : SG) : sem 58 0 [aA l0, aI l1, aI l2] [] s = grd (kd l0 = 3) (grd (0 ≤ s l0 1) (bnI (sem 56 0 [aI l1, aI l2, aU] [] s) fun a2 s1 => grd (kd (s l0 1) = 101) (grd ((0 : Int) ≤ a2 ∧ a2 < kl (s l0 1)) (some (aI (s1 (s l0 1) a2), s1))))) := by
  refine (x_aload f58_0 rfl rfl).trans ?_
  refine (x_get2 f58_1 rfl rfl).trans ?_
  refine g_c ?_
  refine g_c ?_
  refine (x_iload f58_4 rfl rfl).trans ?_
  refine (x_iload f58_5 rfl rfl).trans ?_
  refine (x_invokestatic (G := bnI (sem 56 0 [aI l1, aI l2, aU] [] s) fun a2 s1 => sem 58 9 [aA l0, aI l1, aI l2] [aI a2, aA (s l0 1)] s1) f58_6 rfl rfl).trans ?_
  refine bI_c fun a2 s1 => ?_
  refine (x_iaload f58_9 rfl).trans ?_
  refine g_c ?_
  refine g_c ?_
  exact x_ireturn f58_10 rfl
theorem f59_0 : fch 59 0 = some (.iconst 0, 1, []) := by decide +kernel
theorem f59_1 : fch 59 1 = some (.istore 2, 2, []) := by decide +kernel
theorem f59_2 : fch 59 2 = some (.iload 2, 3, []) := by decide +kernel
theorem f59_3 : fch 59 3 = some (.iconst 6, 5, []) := by decide +kernel
theorem f59_5 : fch 59 5 = some (.if_icmp .ge 29, 8, []) := by decide +kernel
theorem f59_8 : fch 59 8 = some (.aload 0, 9, []) := by decide +kernel
theorem f59_9 : fch 59 9 = some (.invokeinterface 3 3, 12, []) := by decide +kernel
theorem f59_12 : fch 59 12 = some (.iload 1, 13, []) := by decide +kernel
theorem f59_13 : fch 59 13 = some (.iload 2, 14, []) := by decide +kernel
theorem f59_14 : fch 59 14 = some (.invokestatic 56, 17, []) := by decide +kernel
theorem f59_17 : fch 59 17 = some (.iaload, 18, []) := by decide +kernel
theorem f59_18 : fch 59 18 = some (.ifCond .le 23, 21, []) := by decide +kernel
theorem f59_21 : fch 59 21 = some (.iload 2, 22, []) := by decide +kernel
theorem f59_22 : fch 59 22 = some (.ireturn, 23, []) := by decide +kernel
theorem f59_23 : fch 59 23 = some (.iinc 2 1, 26, []) := by decide +kernel
theorem f59_26 : fch 59 26 = some (.goto 2, 29, []) := by decide +kernel
theorem f59_29 : fch 59 29 = some (.iconst (-9), 31, []) := by decide +kernel
theorem f59_31 : fch 59 31 = some (.ireturn, 32, []) := by decide +kernel
set_option maxRecDepth 10000 in
theorem e59_0 (l0 l1 : Int) (s : SG) : sem 59 0 [aA l0, aI l1, aU] [] s = sem 59 2 [aA l0, aI l1, aI 0] [] s := by
  refine (x_iconst f59_0 rfl).trans ?_
  refine (x_istore (l2 := [aA l0, aI l1, aI 0]) f59_1 rfl rfl).trans ?_
  rfl
set_option maxRecDepth 10000 in
theorem e59_2 (l0 l1 l2 : Int) (s : SG) : sem 59 2 [aA l0, aI l1, aI l2] [] s = if l2 < 6 then grd (kd l0 = 3) (grd (0 ≤ s l0 3) (bnI (sem 56 0 [aI l1, aI l2, aU] [] s) fun a2 s1 => grd (kd (s l0 3) = 101) (grd ((0 : Int) ≤ a2 ∧ a2 < kl (s l0 3)) (if (0 : Int) < (s1 (s l0 3) a2) then some (aI l2, s1) else sem 59 2 [aA l0, aI l1, aI (w32 (l2 + 1))] [] s1)))) else some (aI ((-9)), s) := by
  refine (x_iload f59_2 rfl rfl).trans ?_
  refine (x_iconst f59_3 rfl).trans ?_
  refine (x_icmp_ge (tg := 29) f59_5 rfl rfl).trans (i_c ?_ ?_)
  · refine (x_aload f59_8 rfl rfl).trans ?_
    refine (x_get2 f59_9 rfl rfl).trans ?_
    refine g_c ?_
    refine g_c ?_
    refine (x_iload f59_12 rfl rfl).trans ?_
    refine (x_iload f59_13 rfl rfl).trans ?_
    refine (x_invokestatic (G := bnI (sem 56 0 [aI l1, aI l2, aU] [] s) fun a2 s1 => sem 59 17 [aA l0, aI l1, aI l2] [aI a2, aA (s l0 3)] s1) f59_14 rfl rfl).trans ?_
    refine bI_c fun a2 s1 => ?_
    refine (x_iaload f59_17 rfl).trans ?_
    refine g_c ?_
    refine g_c ?_
    refine (x_if_le (tg := 23) f59_18 rfl rfl).trans (i_c ?_ ?_)
    · refine (x_iload f59_21 rfl rfl).trans ?_
      exact x_ireturn f59_22 rfl
    · refine (x_iinc (l2 := [aA l0, aI l1, aI (w32 (l2 + 1))]) f59_23 rfl rfl rfl).trans ?_
      refine (x_goto (tg := 2) f59_26 rfl rfl).trans ?_
      rfl
  · refine (x_iconst f59_29 rfl).trans ?_
    exact x_ireturn f59_31 rfl
theorem f60_0 : fch 60 0 = some (.iconst 0, 1, []) := by decide +kernel
theorem f60_1 : fch 60 1 = some (.istore 1, 2, []) := by decide +kernel
theorem f60_2 : fch 60 2 = some (.iconst 0, 3, []) := by decide +kernel
theorem f60_3 : fch 60 3 = some (.istore 2, 4, []) := by decide +kernel
theorem f60_4 : fch 60 4 = some (.iload 2, 5, []) := by decide +kernel
theorem f60_5 : fch 60 5 = some (.aload 0, 6, []) := by decide +kernel
theorem f60_6 : fch 60 6 = some (.invokeinterface 3 6, 9, []) := by decide +kernel
theorem f60_9 : fch 60 9 = some (.if_icmp .ge 27, 12, []) := by decide +kernel
theorem f60_12 : fch 60 12 = some (.iload 1, 13, []) := by decide +kernel
theorem f60_13 : fch 60 13 = some (.aload 0, 14, []) := by decide +kernel
theorem f60_14 : fch 60 14 = some (.invokeinterface 3 5, 17, []) := by decide +kernel
theorem f60_17 : fch 60 17 = some (.iload 2, 18, []) := by decide +kernel
theorem f60_18 : fch 60 18 = some (.iaload, 19, []) := by decide +kernel
theorem f60_19 : fch 60 19 = some (.iadd, 20, []) := by decide +kernel
theorem f60_20 : fch 60 20 = some (.istore 1, 21, []) := by decide +kernel
theorem f60_21 : fch 60 21 = some (.iinc 2 1, 24, []) := by decide +kernel
theorem f60_24 : fch 60 24 = some (.goto 4, 27, []) := by decide +kernel
theorem f60_27 : fch 60 27 = some (.iload 1, 28, []) := by decide +kernel
theorem f60_28 : fch 60 28 = some (.ireturn, 29, []) := by decide +kernel
set_option maxRecDepth 10000 in
theorem e60_0 (l0 : Int) (s : SG) : sem 60 0 [aA l0, aU, aU] [] s = sem 60 4 [aA l0, aI 0, aI 0] [] s := by
  refine (x_iconst f60_0 rfl).trans ?_
  refine (x_istore (l2 := [aA l0, aI 0, aU]) f60_1 rfl rfl).trans ?_
  refine (x_iconst f60_2 rfl).trans ?_
  refine (x_istore (l2 := [aA l0, aI 0, aI 0]) f60_3 rfl rfl).trans ?_
  rfl
set_option maxRecDepth 10000 in
theorem e60_4 (l0 l1 l2 : Int) (s : SG) : sem 60 4 [aA l0, aI l1, aI l2] [] s = grd (kd l0 = 3) (if l2 < (s l0 6) then grd (kd l0 = 3) (grd (0 ≤ s l0 5) (grd (kd (s l0 5) = 101) (grd ((0 : Int) ≤ l2 ∧ l2 < kl (s l0 5)) (sem 60 4 [aA l0, aI (w32 (l1 + (s (s l0 5) l2))), aI (w32 (l2 + 1))] [] s)))) else some (aI l1, s)) := by
  refine (x_iload f60_4 rfl rfl).trans ?_
  refine (x_aload f60_5 rfl rfl).trans ?_
  refine (x_get0 f60_6 rfl rfl).trans ?_
  refine g_c ?_
  refine (x_icmp_ge (tg := 27) f60_9 rfl rfl).trans (i_c ?_ ?_)
  · refine (x_iload f60_12 rfl rfl).trans ?_
    refine (x_aload f60_13 rfl rfl).trans ?_
    refine (x_get2 f60_14 rfl rfl).trans ?_
    refine g_c ?_
    refine g_c ?_
    refine (x_iload f60_17 rfl rfl).trans ?_
    refine (x_iaload f60_18 rfl).trans ?_
    refine g_c ?_
    refine g_c ?_
    refine (x_iadd f60_19 rfl).trans ?_
    refine (x_istore (l2 := [aA l0, aI (w32 (l1 + (s (s l0 5) l2))), aI l2]) f60_20 rfl rfl).trans ?_
    refine (x_iinc (l2 := [aA l0, aI (w32 (l1 + (s (s l0 5) l2))), aI (w32 (l2 + 1))]) f60_21 rfl rfl rfl).trans ?_
    refine (x_goto (tg := 4) f60_24 rfl rfl).trans ?_
    rfl
  · refine (x_iload f60_27 rfl rfl).trans ?_
    exact x_ireturn f60_28 rfl
theorem f61_0 : fch 61 0 = some (.iconst 0, 1, []) := by decide +kernel
theorem f61_1 : fch 61 1 = some (.istore 1, 2, []) := by decide +kernel
theorem f61_2 : fch 61 2 = some (.iconst 0, 3, []) := by decide +kernel
theorem f61_3 : fch 61 3 = some (.istore 2, 4, []) := by decide +kernel
theorem f61_4 : fch 61 4 = some (.iload 2, 5, []) := by decide +kernel
theorem f61_5 : fch 61 5 = some (.aload 0, 6, []) := by decide +kernel
theorem f61_6 : fch 61 6 = some (.invokeinterface 3 6, 9, []) := by decide +kernel
theorem f61_9 : fch 61 9 = some (.if_icmp .ge 27, 12, []) := by decide +kernel
theorem f61_12 : fch 61 12 = some (.iload 1, 13, []) := by decide +kernel
theorem f61_13 : fch 61 13 = some (.aload 0, 14, []) := by decide +kernel
theorem f61_14 : fch 61 14 = some (.invokeinterface 3 4, 17, []) := by decide +kernel
theorem f61_17 : fch 61 17 = some (.iload 2, 18, []) := by decide +kernel
theorem f61_18 : fch 61 18 = some (.iaload, 19, []) := by decide +kernel
theorem f61_19 : fch 61 19 = some (.iadd, 20, []) := by decide +kernel
theorem f61_20 : fch 61 20 = some (.istore 1, 21, []) := by decide +kernel
theorem f61_21 : fch 61 21 = some (.iinc 2 1, 24, []) := by decide +kernel
theorem f61_24 : fch 61 24 = some (.goto 4, 27, []) := by decide +kernel
theorem f61_27 : fch 61 27 = some (.iload 1, 28, []) := by decide +kernel
theorem f61_28 : fch 61 28 = some (.ireturn, 29, []) := by decide +kernel
set_option maxRecDepth 10000 in
theorem e61_0 (l0 : Int) (s : SG) : sem 61 0 [aA l0, aU, aU] [] s = sem 61 4 [aA l0, aI 0, aI 0] [] s := by
  refine (x_iconst f61_0 rfl).trans ?_
  refine (x_istore (l2 := [aA l0, aI 0, aU]) f61_1 rfl rfl).trans ?_
  refine (x_iconst f61_2 rfl).trans ?_
  refine (x_istore (l2 := [aA l0, aI 0, aI 0]) f61_3 rfl rfl).trans ?_
  rfl
set_option maxRecDepth 10000 in
theorem e61_4 (l0 l1 l2 : Int) (s : SG) : sem 61 4 [aA l0, aI l1, aI l2] [] s = grd (kd l0 = 3) (if l2 < (s l0 6) then grd (kd l0 = 3) (grd (0 ≤ s l0 4) (grd (kd (s l0 4) = 101) (grd ((0 : Int) ≤ l2 ∧ l2 < kl (s l0 4)) (sem 61 4 [aA l0, aI (w32 (l1 + (s (s l0 4) l2))), aI (w32 (l2 + 1))] [] s)))) else some (aI l1, s)) := by
  refine (x_iload f61_4 rfl rfl).trans ?_
  refine (x_aload f61_5 rfl rfl).trans ?_
  refine (x_get0 f61_6 rfl rfl).trans ?_
  refine g_c ?_
  refine (x_icmp_ge (tg := 27) f61_9 rfl rfl).trans (i_c ?_ ?_)
  · refine (x_iload f61_12 rfl rfl).trans ?_
    refine (x_aload f61_13 rfl rfl).trans ?_
    refine (x_get2 f61_14 rfl rfl).trans ?_
    refine g_c ?_
    refine g_c ?_
    refine (x_iload f61_17 rfl rfl).trans ?_
    refine (x_iaload f61_18 rfl).trans ?_
    refine g_c ?_
    refine g_c ?_
    refine (x_iadd f61_19 rfl).trans ?_
    refine (x_istore (l2 := [aA l0, aI (w32 (l1 + (s (s l0 4) l2))), aI l2]) f61_20 rfl rfl).trans ?_
    refine (x_iinc (l2 := [aA l0, aI (w32 (l1 + (s (s l0 4) l2))), aI (w32 (l2 + 1))]) f61_21 rfl rfl rfl).trans ?_
    refine (x_goto (tg := 4) f61_24 rfl rfl).trans ?_
    rfl
  · refine (x_iload f61_27 rfl rfl).trans ?_
    exact x_ireturn f61_28 rfl
theorem f62_0 : fch 62 0 = some (.aload 0, 1, []) := by decide +kernel
theorem f62_1 : fch 62 1 = some (.invokeinterface 3 7, 4, []) := by decide +kernel
theorem f62_4 : fch 62 4 = some (.ireturn, 5, []) := by decide +kernel
set_option maxRecDepth 10000 in
theorem e62_0 (l0 : Int) (s : SG) : sem 62 0 [aA l0] [] s = grd (kd l0 = 3) (some (aI (s l0 7), s)) := by
  refine (x_aload f62_0 rfl rfl).trans ?_
  refine (x_get0 f62_1 rfl rfl).trans ?_
  refine g_c ?_
  exact x_ireturn f62_4 rfl
theorem f63_0 : fch 63 0 = some (.aload 0, 1, []) := by decide +kernel
theorem f63_1 : fch 63 1 = some (.invokeinterface 3 8, 4, []) := by decide +kernel
theorem f63_4 : fch 63 4 = some (.ireturn, 5, []) := by decide +kernel
set_option maxRecDepth 10000 in
theorem e63_0 (l0 : Int) (s : SG) : sem 63 0 [aA l0] [] s = grd (kd l0 = 3) (some (aI (s l0 8), s)) := by
  refine (x_aload f63_0 rfl rfl).trans ?_
  refine (x_get0 f63_1 rfl rfl).trans ?_
  refine g_c ?_
  exact x_ireturn f63_4 rfl
theorem f64_0 : fch 64 0 = some (.aload 0, 1, []) := by decide +kernel
theorem f64_1 : fch 64 1 = some (.invokevirtual 61, 4, []) := by decide +kernel
theorem f64_4 : fch 64 4 = some (.aload 0, 5, []) := by decide +kernel
theorem f64_5 : fch 64 5 = some (.invokeinterface 3 7, 8, []) := by decide +kernel
theorem f64_8 : fch 64 8 = some (.iadd, 9, []) := by decide +kernel
theorem f64_9 : fch 64 9 = some (.istore 3, 10, []) := by decide +kernel
theorem f64_10 : fch 64 10 = some (.aload 2, 11, []) := by decide +kernel
theorem f64_11 : fch 64 11 = some (.invokevirtual 28, 14, []) := by decide +kernel
theorem f64_14 : fch 64 14 = some (.aload 2, 15, []) := by decide +kernel
theorem f64_15 : fch 64 15 = some (.invokeinterface 1 7, 18, []) := by decide +kernel
theorem f64_18 : fch 64 18 = some (.iadd, 19, []) := by decide +kernel
theorem f64_19 : fch 64 19 = some (.aload 1, 20, []) := by decide +kernel
theorem f64_20 : fch 64 20 = some (.invokeinterface 6 5, 23, []) := by decide +kernel
theorem f64_23 : fch 64 23 = some (.imul, 24, []) := by decide +kernel
theorem f64_24 : fch 64 24 = some (.istore 4, 26, []) := by decide +kernel
theorem f64_26 : fch 64 26 = some (.aload 0, 27, []) := by decide +kernel
theorem f64_27 : fch 64 27 = some (.invokevirtual 60, 30, []) := by decide +kernel
theorem f64_30 : fch 64 30 = some (.aload 1, 31, []) := by decide +kernel
theorem f64_31 : fch 64 31 = some (.invokeinterface 6 6, 34, []) := by decide +kernel
theorem f64_34 : fch 64 34 = some (.imul, 35, []) := by decide +kernel
theorem f64_35 : fch 64 35 = some (.iload 3, 36, []) := by decide +kernel
theorem f64_36 : fch 64 36 = some (.aload 1, 37, []) := by decide +kernel
theorem f64_37 : fch 64 37 = some (.invokeinterface 6 7, 40, []) := by decide +kernel
theorem f64_40 : fch 64 40 = some (.imul, 41, []) := by decide +kernel
theorem f64_41 : fch 64 41 = some (.iadd, 42, []) := by decide +kernel
theorem f64_42 : fch 64 42 = some (.iload 4, 44, []) := by decide +kernel
theorem f64_44 : fch 64 44 = some (.isub, 45, []) := by decide +kernel
theorem f64_45 : fch 64 45 = some (.ireturn, 46, []) := by decide +kernel
set_option maxRecDepth 10000 in
theorem e64_0 (l0 l1 l2 : Int) (s : SG) : sem 64 0 [aA l0, aA l1, aA l2, aU, aU] [] s = grd (kd l0 = 3) (bnI (sem 61 0 [aA l0, aU, aU] [] s) fun a2 s1 => grd (kd l0 = 3) (grd (kd l2 = 1) (bnI (sem 28 0 [aA l2, aU, aU] [] s1) fun a4 s3 => grd (kd l2 = 1) (grd (kd l1 = 6) (grd (kd l0 = 3) (bnI (sem 60 0 [aA l0, aU, aU] [] s3) fun a6 s5 => grd (kd l1 = 6) (grd (kd l1 = 6) (some (aI (w32 ((w32 ((w32 (a6 * (s5 l1 6))) + (w32 ((w32 (a2 + (s1 l0 7))) * (s5 l1 7))))) - (w32 ((w32 (a4 + (s3 l2 7))) * (s3 l1 5))))), s5))))))))) := by
  refine (x_aload f64_0 rfl rfl).trans ?_
  refine (x_invokevirtual (G := grd (kd l0 = 3) (bnI (sem 61 0 [aA l0, aU, aU] [] s) fun a2 s1 => sem 64 4 [aA l0, aA l1, aA l2, aU, aU] [aI a2] s1)) f64_1 rfl rfl).trans ?_
  refine g_c ?_
  refine bI_c fun a2 s1 => ?_
  refine (x_aload f64_4 rfl rfl).trans ?_
  refine (x_get0 f64_5 rfl rfl).trans ?_
  refine g_c ?_
  refine (x_iadd f64_8 rfl).trans ?_
  refine (x_istore (l2 := [aA l0, aA l1, aA l2, aI (w32 (a2 + (s1 l0 7))), aU]) f64_9 rfl rfl).trans ?_
  refine (x_aload f64_10 rfl rfl).trans ?_
  refine (x_invokevirtual (G := grd (kd l2 = 1) (bnI (sem 28 0 [aA l2, aU, aU] [] s1) fun a4 s3 => sem 64 14 [aA l0, aA l1, aA l2, aI (w32 (a2 + (s1 l0 7))), aU] [aI a4] s3)) f64_11 rfl rfl).trans ?_
  refine g_c ?_
  refine bI_c fun a4 s3 => ?_
  refine (x_aload f64_14 rfl rfl).trans ?_
  refine (x_get0 f64_15 rfl rfl).trans ?_
  refine g_c ?_
  refine (x_iadd f64_18 rfl).trans ?_
  refine (x_aload f64_19 rfl rfl).trans ?_
  refine (x_get0 f64_20 rfl rfl).trans ?_
  refine g_c ?_
  refine (x_imul f64_23 rfl).trans ?_
  refine (x_istore (l2 := [aA l0, aA l1, aA l2, aI (w32 (a2 + (s1 l0 7))), aI (w32 ((w32 (a4 + (s3 l2 7))) * (s3 l1 5)))]) f64_24 rfl rfl).trans ?_
  refine (x_aload f64_26 rfl rfl).trans ?_
  refine (x_invokevirtual (G := grd (kd l0 = 3) (bnI (sem 60 0 [aA l0, aU, aU] [] s3) fun a6 s5 => sem 64 30 [aA l0, aA l1, aA l2, aI (w32 (a2 + (s1 l0 7))), aI (w32 ((w32 (a4 + (s3 l2 7))) * (s3 l1 5)))] [aI a6] s5)) f64_27 rfl rfl).trans ?_
  refine g_c ?_
  refine bI_c fun a6 s5 => ?_
  refine (x_aload f64_30 rfl rfl).trans ?_
  refine (x_get0 f64_31 rfl rfl).trans ?_
  refine g_c ?_
  refine (x_imul f64_34 rfl).trans ?_
  refine (x_iload f64_35 rfl rfl).trans ?_
  refine (x_aload f64_36 rfl rfl).trans ?_
  refine (x_get0 f64_37 rfl rfl).trans ?_
  refine g_c ?_
  refine (x_imul f64_40 rfl).trans ?_
  refine (x_iadd f64_41 rfl).trans ?_
  refine (x_iload f64_42 rfl rfl).trans ?_
  refine (x_isub f64_44 rfl).trans ?_
  exact x_ireturn f64_45 rfl
theorem f65_0 : fch 65 0 = some (.aload 0, 1, []) := by decide +kernel
theorem f65_1 : fch 65 1 = some (.monitorexit, 4, []) := by decide +kernel
theorem f65_4 : fch 65 4 = some (.aload 0, 5, []) := by decide +kernel
theorem f65_5 : fch 65 5 = some (.iconst 8, 7, []) := by decide +kernel
theorem f65_7 : fch 65 7 = some (.newarray .int, 9, []) := by decide +kernel
theorem f65_9 : fch 65 9 = some (.multianewarray 4 0, 12, []) := by decide +kernel
theorem f65_12 : fch 65 12 = some (.aload 0, 13, []) := by decide +kernel
theorem f65_13 : fch 65 13 = some (.iconst 8, 15, []) := by decide +kernel
theorem f65_15 : fch 65 15 = some (.newarray .int, 17, []) := by decide +kernel
theorem f65_17 : fch 65 17 = some (.multianewarray 4 1, 20, []) := by decide +kernel
theorem f65_20 : fch 65 20 = some (.aload 0, 21, []) := by decide +kernel
theorem f65_21 : fch 65 21 = some (.iconst 0, 22, []) := by decide +kernel
theorem f65_22 : fch 65 22 = some (.multianewarray 4 2, 25, []) := by decide +kernel
theorem f65_25 : fch 65 25 = some (.return_, 26, []) := by decide +kernel
set_option maxRecDepth 10000 in
theorem e65_0 (l0 : Int) (s : SG) : sem 65 0 [aA l0] [] s = grd (kd (s (-1) 0) = akind .int ∧ kl (s (-1) 0) = 8) (grd (kd l0 = 4) (grd (0 ≤ s (-1) 0) (grd (kd ((up (alc s 8 (fun _ => 0)) l0 0 (s (-1) 0)) (-1) 0) = akind .int ∧ kl ((up (alc s 8 (fun _ => 0)) l0 0 (s (-1) 0)) (-1) 0) = 8) (grd (kd l0 = 4) (grd (0 ≤ (up (alc s 8 (fun _ => 0)) l0 0 (s (-1) 0)) (-1) 0) (grd (kd l0 = 4) (some (aU, up (up (alc (up (alc s 8 (fun _ => 0)) l0 0 (s (-1) 0)) 8 (fun _ => 0)) l0 1 ((up (alc s 8 (fun _ => 0)) l0 0 (s (-1) 0)) (-1) 0)) l0 2 0)))))))) := by
  refine (x_aload f65_0 rfl rfl).trans ?_
  refine (x_monitorexit f65_1 rfl rfl).trans ?_
  refine (x_aload f65_4 rfl rfl).trans ?_
  refine (x_iconst f65_5 rfl).trans ?_
  refine (x_newarray f65_7 rfl).trans ?_
  refine g_c ?_
  refine (x_put2 f65_9 rfl rfl).trans ?_
  refine g_c ?_
  refine g_c ?_
  refine (x_aload f65_12 rfl rfl).trans ?_
  refine (x_iconst f65_13 rfl).trans ?_
  refine (x_newarray f65_15 rfl).trans ?_
  refine g_c ?_
  refine (x_put2 f65_17 rfl rfl).trans ?_
  refine g_c ?_
  refine g_c ?_
  refine (x_aload f65_20 rfl rfl).trans ?_
  refine (x_iconst f65_21 rfl).trans ?_
  refine (x_put0 f65_22 rfl rfl).trans ?_
  refine g_c ?_
  exact x_return f65_25 rfl
theorem f66_0 : fch 66 0 = some (.aload 0, 1, []) := by decide +kernel
theorem f66_1 : fch 66 1 = some (.invokeinterface 4 2, 4, []) := by decide +kernel
theorem f66_4 : fch 66 4 = some (.ireturn, 5, []) := by decide +kernel
set_option maxRecDepth 10000 in
theorem e66_0 (l0 : Int) (s : SG) : sem 66 0 [aA l0] [] s = grd (kd l0 = 4) (some (aI (s l0 2), s)) := by
  refine (x_aload f66_0 rfl rfl).trans ?_
  refine (x_get0 f66_1 rfl rfl).trans ?_
  refine g_c ?_
  exact x_ireturn f66_4 rfl
theorem f67_0 : fch 67 0 = some (.aload 0, 1, []) := by decide +kernel
theorem f67_1 : fch 67 1 = some (.invokeinterface 4 2, 4, []) := by decide +kernel
theorem f67_4 : fch 67 4 = some (.iconst 8, 6, []) := by decide +kernel
theorem f67_6 : fch 67 6 = some (.if_icmp .lt 11, 9, []) := by decide +kernel
theorem f67_9 : fch 67 9 = some (.iconst 0, 10, []) := by decide +kernel
theorem f67_10 : fch 67 10 = some (.ireturn, 11, []) := by decide +kernel
theorem f67_11 : fch 67 11 = some (.aload 0, 12, []) := by decide +kernel
theorem f67_12 : fch 67 12 = some (.invokeinterface 4 0, 15, []) := by decide +kernel
theorem f67_15 : fch 67 15 = some (.aload 0, 16, []) := by decide +kernel
theorem f67_16 : fch 67 16 = some (.invokeinterface 4 2, 19, []) := by decide +kernel
theorem f67_19 : fch 67 19 = some (.iload 1, 20, []) := by decide +kernel
theorem f67_20 : fch 67 20 = some (.iastore, 21, []) := by decide +kernel
theorem f67_21 : fch 67 21 = some (.aload 0, 22, []) := by decide +kernel
theorem f67_22 : fch 67 22 = some (.invokeinterface 4 1, 25, []) := by decide +kernel
theorem f67_25 : fch 67 25 = some (.aload 0, 26, []) := by decide +kernel
theorem f67_26 : fch 67 26 = some (.invokeinterface 4 2, 29, []) := by decide +kernel
theorem f67_29 : fch 67 29 = some (.iload 2, 30, []) := by decide +kernel
theorem f67_30 : fch 67 30 = some (.iastore, 31, []) := by decide +kernel
theorem f67_31 : fch 67 31 = some (.aload 0, 32, []) := by decide +kernel
theorem f67_32 : fch 67 32 = some (.dup, 33, []) := by decide +kernel
theorem f67_33 : fch 67 33 = some (.invokeinterface 4 2, 36, []) := by decide +kernel
theorem f67_36 : fch 67 36 = some (.iconst 1, 37, []) := by decide +kernel
theorem f67_37 : fch 67 37 = some (.iadd, 38, []) := by decide +kernel
theorem f67_38 : fch 67 38 = some (.multianewarray 4 2, 41, []) := by decide +kernel
theorem f67_41 : fch 67 41 = some (.iconst 1, 42, []) := by decide +kernel
theorem f67_42 : fch 67 42 = some (.ireturn, 43, []) := by decide +kernel
set_option maxRecDepth 10000 in
theorem e67_0 (l0 l1 l2 : Int) (s : SG) : sem 67 0 [aA l0, aI l1, aI l2] [] s = grd (kd l0 = 4) (if (s l0 2) < 8 then grd (kd l0 = 4) (grd (0 ≤ s l0 0) (grd (kd l0 = 4) (grd (kd (s l0 0) = 101) (grd ((0 : Int) ≤ (s l0 2) ∧ (s l0 2) < kl (s l0 0)) (grd (kd l0 = 4) (grd (0 ≤ (up s (s l0 0) (s l0 2) l1) l0 1) (grd (kd l0 = 4) (grd (kd ((up s (s l0 0) (s l0 2) l1) l0 1) = 101) (grd ((0 : Int) ≤ ((up s (s l0 0) (s l0 2) l1) l0 2) ∧ ((up s (s l0 0) (s l0 2) l1) l0 2) < kl ((up s (s l0 0) (s l0 2) l1) l0 1)) (grd (kd l0 = 4) (grd (kd l0 = 4) (some (aI 1, up (up (up s (s l0 0) (s l0 2) l1) ((up s (s l0 0) (s l0 2) l1) l0 1) ((up s (s l0 0) (s l0 2) l1) l0 2) l2) l0 2 (w32 (((up (up s (s l0 0) (s l0 2) l1) ((up s (s l0 0) (s l0 2) l1) l0 1) ((up s (s l0 0) (s l0 2) l1) l0 2) l2) l0 2) + 1))))))))))))))) else some (aI 0, s)) := by
  refine (x_aload f67_0 rfl rfl).trans ?_
  refine (x_get0 f67_1 rfl rfl).trans ?_
  refine g_c ?_
  refine (x_iconst f67_4 rfl).trans ?_
  refine (x_icmp_lt (tg := 11) f67_6 rfl rfl).trans (i_c ?_ ?_)
  · refine (x_aload f67_11 rfl rfl).trans ?_
    refine (x_get2 f67_12 rfl rfl).trans ?_
    refine g_c ?_
    refine g_c ?_
    refine (x_aload f67_15 rfl rfl).trans ?_
    refine (x_get0 f67_16 rfl rfl).trans ?_
    refine g_c ?_
    refine (x_iload f67_19 rfl rfl).trans ?_
    refine (x_iastore f67_20 rfl).trans ?_
    refine g_c ?_
    refine g_c ?_
    refine (x_aload f67_21 rfl rfl).trans ?_
    refine (x_get2 f67_22 rfl rfl).trans ?_
    refine g_c ?_
    refine g_c ?_
    refine (x_aload f67_25 rfl rfl).trans ?_
    refine (x_get0 f67_26 rfl rfl).trans ?_
    refine g_c ?_
    refine (x_iload f67_29 rfl rfl).trans ?_
    refine (x_iastore f67_30 rfl).trans ?_
    refine g_c ?_
    refine g_c ?_
    refine (x_aload f67_31 rfl rfl).trans ?_
    refine (x_dup f67_32 rfl rfl).trans ?_
    refine (x_get0 f67_33 rfl rfl).trans ?_
    refine g_c ?_
    refine (x_iconst f67_36 rfl).trans ?_
    refine (x_iadd f67_37 rfl).trans ?_
    refine (x_put0 f67_38 rfl rfl).trans ?_
    refine g_c ?_
    refine (x_iconst f67_41 rfl).trans ?_
    exact x_zreturn1 f67_42 rfl
  · refine (x_iconst f67_9 rfl).trans ?_
    exact x_zreturn0 f67_10 rfl
theorem f68_0 : fch 68 0 = some (.aload 0, 1, []) := by decide +kernel
theorem f68_1 : fch 68 1 = some (.invokeinterface 4 2, 4, []) := by decide +kernel
theorem f68_4 : fch 68 4 = some (.istore 1, 5, []) := by decide +kernel
theorem f68_5 : fch 68 5 = some (.aload 0, 6, []) := by decide +kernel
theorem f68_6 : fch 68 6 = some (.iconst 0, 7, []) := by decide +kernel
theorem f68_7 : fch 68 7 = some (.multianewarray 4 2, 10, []) := by decide +kernel
theorem f68_10 : fch 68 10 = some (.iload 1, 11, []) := by decide +kernel
theorem f68_11 : fch 68 11 = some (.ireturn, 12, []) := by decide +kernel
set_option maxRecDepth 10000 in
theorem e68_0 (l0 : Int) (s : SG) : sem 68 0 [aA l0, aU] [] s = grd (kd l0 = 4) (grd (kd l0 = 4) (some (aI (s l0 2), up s l0 2 0))) := by
  refine (x_aload f68_0 rfl rfl).trans ?_
  refine (x_get0 f68_1 rfl rfl).trans ?_
  refine g_c ?_
  refine (x_istore (l2 := [aA l0, aI (s l0 2)]) f68_4 rfl rfl).trans ?_
  refine (x_aload f68_5 rfl rfl).trans ?_
  refine (x_iconst f68_6 rfl).trans ?_
  refine (x_put0 f68_7 rfl rfl).trans ?_
  refine g_c ?_
  refine (x_iload f68_10 rfl rfl).trans ?_
  exact x_ireturn f68_11 rfl
theorem f69_0 : fch 69 0 = some (.aload 1, 1, []) := by decide +kernel
theorem f69_1 : fch 69 1 = some (.iload 2, 2, []) := by decide +kernel
theorem f69_2 : fch 69 2 = some (.invokevirtual 84, 5, []) := by decide +kernel
theorem f69_5 : fch 69 5 = some (.i2l, 6, []) := by decide +kernel
theorem f69_6 : fch 69 6 = some (.lstore 3, 7, []) := by decide +kernel
theorem f69_7 : fch 69 7 = some (.iconst 0, 8, []) := by decide +kernel
theorem f69_8 : fch 69 8 = some (.istore 5, 10, []) := by decide +kernel
theorem f69_10 : fch 69 10 = some (.iload 5, 12, [6, 7]) := by decide +kernel
theorem f69_12 : fch 69 12 = some (.aload 0, 13, []) := by decide +kernel
theorem f69_13 : fch 69 13 = some (.invokeinterface 4 2, 16, []) := by decide +kernel
theorem f69_16 : fch 69 16 = some (.if_icmp .ge 98, 19, []) := by decide +kernel
theorem f69_19 : fch 69 19 = some (.iload 5, 21, []) := by decide +kernel
theorem f69_21 : fch 69 21 = some (.iconst 8, 23, []) := by decide +kernel
theorem f69_23 : fch 69 23 = some (.if_icmp .ge 98, 26, []) := by decide +kernel
theorem f69_26 : fch 69 26 = some (.aload 0, 27, []) := by decide +kernel
theorem f69_27 : fch 69 27 = some (.invokeinterface 4 1, 30, []) := by decide +kernel
theorem f69_30 : fch 69 30 = some (.iload 5, 32, []) := by decide +kernel
theorem f69_32 : fch 69 32 = some (.iaload, 33, []) := by decide +kernel
theorem f69_33 : fch 69 33 = some (.aload 1, 34, []) := by decide +kernel
theorem f69_34 : fch 69 34 = some (.aload 0, 35, []) := by decide +kernel
theorem f69_35 : fch 69 35 = some (.invokeinterface 4 0, 38, []) := by decide +kernel
theorem f69_38 : fch 69 38 = some (.iload 5, 40, []) := by decide +kernel
theorem f69_40 : fch 69 40 = some (.iaload, 41, []) := by decide +kernel
theorem f69_41 : fch 69 41 = some (.iload 2, 42, []) := by decide +kernel
theorem f69_42 : fch 69 42 = some (.invokevirtual 85, 45, []) := by decide +kernel
theorem f69_45 : fch 69 45 = some (.isub, 46, []) := by decide +kernel
theorem f69_46 : fch 69 46 = some (.istore 6, 48, []) := by decide +kernel
theorem f69_48 : fch 69 48 = some (.aload 1, 49, []) := by decide +kernel
theorem f69_49 : fch 69 49 = some (.aload 0, 50, []) := by decide +kernel
theorem f69_50 : fch 69 50 = some (.invokeinterface 4 0, 53, []) := by decide +kernel
theorem f69_53 : fch 69 53 = some (.iload 5, 55, []) := by decide +kernel
theorem f69_55 : fch 69 55 = some (.iaload, 56, []) := by decide +kernel
theorem f69_56 : fch 69 56 = some (.iload 2, 57, []) := by decide +kernel
theorem f69_57 : fch 69 57 = some (.invokevirtual 86, 60, []) := by decide +kernel
theorem f69_60 : fch 69 60 = some (.istore 7, 62, []) := by decide +kernel
theorem f69_62 : fch 69 62 = some (.lload 3, 63, []) := by decide +kernel
theorem f69_63 : fch 69 63 = some (.iload 6, 65, []) := by decide +kernel
theorem f69_65 : fch 69 65 = some (.iconst 1, 66, []) := by decide +kernel
theorem f69_66 : fch 69 66 = some (.if_icmp .ne 75, 69, []) := by decide +kernel
theorem f69_69 : fch 69 69 = some (.iload 7, 71, []) := by decide +kernel
theorem f69_71 : fch 69 71 = some (.i2l, 72, []) := by decide +kernel
theorem f69_72 : fch 69 72 = some (.goto 90, 75, []) := by decide +kernel
theorem f69_75 : fch 69 75 = some (.iload 6, 77, []) := by decide +kernel
theorem f69_77 : fch 69 77 = some (.ifCond .ne 89, 80, []) := by decide +kernel
theorem f69_80 : fch 69 80 = some (.iconst 10, 82, []) := by decide +kernel
theorem f69_82 : fch 69 82 = some (.iload 7, 84, []) := by decide +kernel
theorem f69_84 : fch 69 84 = some (.isub, 85, []) := by decide +kernel
theorem f69_85 : fch 69 85 = some (.i2l, 86, []) := by decide +kernel
theorem f69_86 : fch 69 86 = some (.goto 90, 89, []) := by decide +kernel
theorem f69_89 : fch 69 89 = some (.sipush 0, 90, []) := by decide +kernel
theorem f69_90 : fch 69 90 = some (.lmul, 91, [3, 6, 7]) := by decide +kernel
theorem f69_91 : fch 69 91 = some (.lstore 3, 92, []) := by decide +kernel
theorem f69_92 : fch 69 92 = some (.iinc 5 1, 95, []) := by decide +kernel
theorem f69_95 : fch 69 95 = some (.goto 10, 98, []) := by decide +kernel
theorem f69_98 : fch 69 98 = some (.lload 3, 99, [0, 1, 2, 5, 6, 7]) := by decide +kernel
theorem f69_99 : fch 69 99 = some (.lreturn, 100, []) := by decide +kernel
set_option maxRecDepth 10000 in
theorem e69_0 (l0 l1 l2 : Int) (s : SG) : sem 69 0 [aA l0, aA l1, aI l2, aU, aU, aU, aU, aU] [] s = grd (kd l1 = 6) (bnI (sem 84 0 [aA l1, aI l2] [] s) fun a2 s1 => sem 69 10 [aA l0, aA l1, aI l2, aL a2, aU, aI 0, aU, aU] [] s1) := by
  refine (x_aload f69_0 rfl rfl).trans ?_
  refine (x_iload f69_1 rfl rfl).trans ?_
  refine (x_invokevirtual (G := grd (kd l1 = 6) (bnI (sem 84 0 [aA l1, aI l2] [] s) fun a2 s1 => sem 69 5 [aA l0, aA l1, aI l2, aU, aU, aU, aU, aU] [aI a2] s1)) f69_2 rfl rfl).trans ?_
  refine g_c ?_
  refine bI_c fun a2 s1 => ?_
  refine (x_i2l f69_5 rfl).trans ?_
  refine (x_lstore (l2 := [aA l0, aA l1, aI l2, aL a2, aU, aU, aU, aU]) f69_6 rfl rfl).trans ?_
  refine (x_iconst f69_7 rfl).trans ?_
  refine (x_istore (l2 := [aA l0, aA l1, aI l2, aL a2, aU, aI 0, aU, aU]) f69_8 rfl rfl).trans ?_
  rfl
set_option maxRecDepth 10000 in
theorem e69_10 (l0 l1 l2 l3 l5 : Int) (s : SG) : sem 69 10 [aA l0, aA l1, aI l2, aL l3, aU, aI l5, aU, aU] [] s = grd (kd l0 = 4) (if l5 < (s l0 2) then if l5 < 8 then grd (kd l0 = 4) (grd (0 ≤ s l0 1) (grd (kd (s l0 1) = 101) (grd ((0 : Int) ≤ l5 ∧ l5 < kl (s l0 1)) (grd (kd l0 = 4) (grd (0 ≤ s l0 0) (grd (kd (s l0 0) = 101) (grd ((0 : Int) ≤ l5 ∧ l5 < kl (s l0 0)) (grd (kd l1 = 6) (bnI (sem 85 0 [aA l1, aI (s (s l0 0) l5), aI l2, aU] [] s) fun a2 s1 => grd (kd l0 = 4) (grd (0 ≤ s1 l0 0) (grd (kd (s1 l0 0) = 101) (grd ((0 : Int) ≤ l5 ∧ l5 < kl (s1 l0 0)) (grd (kd l1 = 6) (bnI (sem 86 0 [aA l1, aI (s1 (s1 l0 0) l5), aI l2, aU] [] s1) fun a4 s3 => sem 69 10 [aA l0, aA l1, aI l2, aL (w64 (l3 * (if (w32 ((s (s l0 1) l5) - a2)) = 1 then a4 else if (w32 ((s (s l0 1) l5) - a2)) = 0 then w32 (10 - a4) else 0))), aU, aI (w32 (l5 + 1)), aU, aU] [] s3)))))))))))))) else some (aL l3, s) else some (aL l3, s)) := by
  refine (x_iload f69_10 rfl rfl).trans ?_
  refine (x_aload f69_12 rfl rfl).trans ?_
  refine (x_get0 f69_13 rfl rfl).trans ?_
  refine g_c ?_
  refine (x_icmp_ge (tg := 98) f69_16 rfl rfl).trans (i_c ?_ ?_)
  · refine (x_iload f69_19 rfl rfl).trans ?_
    refine (x_iconst f69_21 rfl).trans ?_
    refine (x_icmp_ge (tg := 98) f69_23 rfl rfl).trans (i_c ?_ ?_)
    · refine (x_aload f69_26 rfl rfl).trans ?_
      refine (x_get2 f69_27 rfl rfl).trans ?_
      refine g_c ?_
      refine g_c ?_
      refine (x_iload f69_30 rfl rfl).trans ?_
      refine (x_iaload f69_32 rfl).trans ?_
      refine g_c ?_
      refine g_c ?_
      refine (x_aload f69_33 rfl rfl).trans ?_
      refine (x_aload f69_34 rfl rfl).trans ?_
      refine (x_get2 f69_35 rfl rfl).trans ?_
      refine g_c ?_
      refine g_c ?_
      refine (x_iload f69_38 rfl rfl).trans ?_
      refine (x_iaload f69_40 rfl).trans ?_
      refine g_c ?_
      refine g_c ?_
      refine (x_iload f69_41 rfl rfl).trans ?_
      refine (x_invokevirtual (G := grd (kd l1 = 6) (bnI (sem 85 0 [aA l1, aI (s (s l0 0) l5), aI l2, aU] [] s) fun a2 s1 => sem 69 45 [aA l0, aA l1, aI l2, aL l3, aU, aI l5, aU, aU] [aI a2, aI (s (s l0 1) l5)] s1)) f69_42 rfl rfl).trans ?_
      refine g_c ?_
      refine bI_c fun a2 s1 => ?_
      refine (x_isub f69_45 rfl).trans ?_
      refine (x_istore (l2 := [aA l0, aA l1, aI l2, aL l3, aU, aI l5, aI (w32 ((s (s l0 1) l5) - a2)), aU]) f69_46 rfl rfl).trans ?_
      refine (x_aload f69_48 rfl rfl).trans ?_
      refine (x_aload f69_49 rfl rfl).trans ?_
      refine (x_get2 f69_50 rfl rfl).trans ?_
      refine g_c ?_
      refine g_c ?_
      refine (x_iload f69_53 rfl rfl).trans ?_
      refine (x_iaload f69_55 rfl).trans ?_
      refine g_c ?_
      refine g_c ?_
      refine (x_iload f69_56 rfl rfl).trans ?_
      refine (x_invokevirtual (G := grd (kd l1 = 6) (bnI (sem 86 0 [aA l1, aI (s1 (s1 l0 0) l5), aI l2, aU] [] s1) fun a4 s3 => sem 69 60 [aA l0, aA l1, aI l2, aL l3, aU, aI l5, aI (w32 ((s (s l0 1) l5) - a2)), aU] [aI a4] s3)) f69_57 rfl rfl).trans ?_
      refine g_c ?_
      refine bI_c fun a4 s3 => ?_
      refine (x_istore (l2 := [aA l0, aA l1, aI l2, aL l3, aU, aI l5, aI (w32 ((s (s l0 1) l5) - a2)), aI a4]) f69_60 rfl rfl).trans ?_
      refine (x_lload f69_62 rfl rfl).trans ?_
      refine (x_iload f69_63 rfl rfl).trans ?_
      refine (x_iconst f69_65 rfl).trans ?_
      refine (x_icmp_ne (tg := 75) f69_66 rfl rfl).trans ?_
      refine Eq.trans (b := if (w32 ((s (s l0 1) l5) - a2)) = 1 then sem 69 90 [aA l0, aA l1, aI l2, aU, aU, aI l5, aU, aU] [aL a4, aL l3] s3 else sem 69 90 [aA l0, aA l1, aI l2, aU, aU, aI l5, aU, aU] [aL (if (w32 ((s (s l0 1) l5) - a2)) = 0 then w32 (10 - a4) else 0), aL l3] s3) (i_c ?_ ?_) ?_
      · refine (x_iload f69_69 rfl rfl).trans ?_
        refine (x_i2l f69_71 rfl).trans ?_
        refine (x_goto (tg := 90) f69_72 rfl rfl).trans ?_
        exact x_kil f69_90 rfl
      · refine (x_iload f69_75 rfl rfl).trans ?_
        refine (x_if_ne (tg := 89) f69_77 rfl rfl).trans ?_
        refine Eq.trans (b := if (w32 ((s (s l0 1) l5) - a2)) = 0 then sem 69 90 [aA l0, aA l1, aI l2, aU, aU, aI l5, aU, aU] [aL (w32 (10 - a4)), aL l3] s3 else sem 69 90 [aA l0, aA l1, aI l2, aU, aU, aI l5, aU, aU] [aL 0, aL l3] s3) (i_c ?_ ?_) ?_
        · refine (x_iconst f69_80 rfl).trans ?_
          refine (x_iload f69_82 rfl rfl).trans ?_
          refine (x_isub f69_84 rfl).trans ?_
          refine (x_i2l f69_85 rfl).trans ?_
          refine (x_goto (tg := 90) f69_86 rfl rfl).trans ?_
          exact x_kil f69_90 rfl
        · refine (x_lconst f69_89 rfl).trans ?_
          exact x_kil f69_90 rfl
        refine m_L.trans ?_
        rfl
      refine m_L.trans ?_
      refine (x_lmul f69_90 rfl).trans ?_
      refine (x_lstore (l2 := [aA l0, aA l1, aI l2, aL (w64 (l3 * (if (w32 ((s (s l0 1) l5) - a2)) = 1 then a4 else if (w32 ((s (s l0 1) l5) - a2)) = 0 then w32 (10 - a4) else 0))), aU, aI l5, aU, aU]) f69_91 rfl rfl).trans ?_
      refine (x_iinc (l2 := [aA l0, aA l1, aI l2, aL (w64 (l3 * (if (w32 ((s (s l0 1) l5) - a2)) = 1 then a4 else if (w32 ((s (s l0 1) l5) - a2)) = 0 then w32 (10 - a4) else 0))), aU, aI (w32 (l5 + 1)), aU, aU]) f69_92 rfl rfl rfl).trans ?_
      refine (x_goto (tg := 10) f69_95 rfl rfl).trans ?_
      rfl
    · refine (x_kil (l2 := [aU, aU, aU, aL l3, aU, aU, aU, aU]) f69_98 rfl).trans ?_
      refine (x_lload f69_98 rfl rfl).trans ?_
      exact x_lreturn f69_99 rfl
  · refine (x_kil (l2 := [aU, aU, aU, aL l3, aU, aU, aU, aU]) f69_98 rfl).trans ?_
    refine (x_lload f69_98 rfl rfl).trans ?_
    exact x_lreturn f69_99 rfl
theorem f70_0 : fch 70 0 = some (.sipush 0, 1, []) := by decide +kernel
theorem f70_1 : fch 70 1 = some (.lstore 2, 2, []) := by decide +kernel
theorem f70_2 : fch 70 2 = some (.iconst 0, 3, []) := by decide +kernel
theorem f70_3 : fch 70 3 = some (.istore 4, 5, []) := by decide +kernel
theorem f70_5 : fch 70 5 = some (.iload 4, 7, []) := by decide +kernel
theorem f70_7 : fch 70 7 = some (.iconst 3, 8, []) := by decide +kernel
theorem f70_8 : fch 70 8 = some (.if_icmp .ge 27, 11, []) := by decide +kernel
theorem f70_11 : fch 70 11 = some (.lload 2, 12, []) := by decide +kernel
theorem f70_12 : fch 70 12 = some (.aload 0, 13, []) := by decide +kernel
theorem f70_13 : fch 70 13 = some (.aload 1, 14, []) := by decide +kernel
theorem f70_14 : fch 70 14 = some (.iload 4, 16, []) := by decide +kernel
theorem f70_16 : fch 70 16 = some (.invokevirtual 69, 19, []) := by decide +kernel
theorem f70_19 : fch 70 19 = some (.ladd, 20, []) := by decide +kernel
theorem f70_20 : fch 70 20 = some (.lstore 2, 21, []) := by decide +kernel
theorem f70_21 : fch 70 21 = some (.iinc 4 1, 24, []) := by decide +kernel
theorem f70_24 : fch 70 24 = some (.goto 5, 27, []) := by decide +kernel
theorem f70_27 : fch 70 27 = some (.lload 2, 28, []) := by decide +kernel
theorem f70_28 : fch 70 28 = some (.lreturn, 29, []) := by decide +kernel
set_option maxRecDepth 10000 in
theorem e70_0 (l0 l1 : Int) (s : SG) : sem 70 0 [aA l0, aA l1, aU, aU, aU] [] s = sem 70 5 [aA l0, aA l1, aL 0, aU, aI 0] [] s := by
  refine (x_lconst f70_0 rfl).trans ?_
  refine (x_lstore (l2 := [aA l0, aA l1, aL 0, aU, aU]) f70_1 rfl rfl).trans ?_
  refine (x_iconst f70_2 rfl).trans ?_
  refine (x_istore (l2 := [aA l0, aA l1, aL 0, aU, aI 0]) f70_3 rfl rfl).trans ?_
  rfl
set_option maxRecDepth 10000 in
theorem e70_5 (l0 l1 l2 l4 : Int) (s : SG) : sem 70 5 [aA l0, aA l1, aL l2, aU, aI l4] [] s = if l4 < 3 then grd (kd l0 = 4) (bnL (sem 69 0 [aA l0, aA l1, aI l4, aU, aU, aU, aU, aU] [] s) fun a2 s1 => sem 70 5 [aA l0, aA l1, aL (w64 (l2 + a2)), aU, aI (w32 (l4 + 1))] [] s1) else some (aL l2, s) := by
  refine (x_iload f70_5 rfl rfl).trans ?_
  refine (x_iconst f70_7 rfl).trans ?_
  refine (x_icmp_ge (tg := 27) f70_8 rfl rfl).trans (i_c ?_ ?_)
  · refine (x_lload f70_11 rfl rfl).trans ?_
    refine (x_aload f70_12 rfl rfl).trans ?_
    refine (x_aload f70_13 rfl rfl).trans ?_
    refine (x_iload f70_14 rfl rfl).trans ?_
    refine (x_invokevirtual (G := grd (kd l0 = 4) (bnL (sem 69 0 [aA l0, aA l1, aI l4, aU, aU, aU, aU, aU] [] s) fun a2 s1 => sem 70 19 [aA l0, aA l1, aL l2, aU, aI l4] [aL a2, aL l2] s1)) f70_16 rfl rfl).trans ?_
    refine g_c ?_
    refine bL_c fun a2 s1 => ?_
    refine (x_ladd f70_19 rfl).trans ?_
    refine (x_lstore (l2 := [aA l0, aA l1, aL (w64 (l2 + a2)), aU, aI l4]) f70_20 rfl rfl).trans ?_
    refine (x_iinc (l2 := [aA l0, aA l1, aL (w64 (l2 + a2)), aU, aI (w32 (l4 + 1))]) f70_21 rfl rfl rfl).trans ?_
    refine (x_goto (tg := 5) f70_24 rfl rfl).trans ?_
    rfl
  · refine (x_lload f70_27 rfl rfl).trans ?_
    exact x_lreturn f70_28 rfl
theorem f71_0 : fch 71 0 = some (.iconst 0, 1, []) := by decide +kernel
theorem f71_1 : fch 71 1 = some (.istore 2, 2, []) := by decide +kernel
theorem f71_2 : fch 71 2 = some (.iconst 1, 3, []) := by decide +kernel
theorem f71_3 : fch 71 3 = some (.istore 3, 4, []) := by decide +kernel
theorem f71_4 : fch 71 4 = some (.iload 3, 5, []) := by decide +kernel
theorem f71_5 : fch 71 5 = some (.iconst 3, 6, []) := by decide +kernel
theorem f71_6 : fch 71 6 = some (.if_icmp .ge 33, 9, []) := by decide +kernel
theorem f71_9 : fch 71 9 = some (.aload 0, 10, []) := by decide +kernel
theorem f71_10 : fch 71 10 = some (.aload 1, 11, []) := by decide +kernel
theorem f71_11 : fch 71 11 = some (.iload 3, 12, []) := by decide +kernel
theorem f71_12 : fch 71 12 = some (.invokevirtual 69, 15, []) := by decide +kernel
theorem f71_15 : fch 71 15 = some (.aload 0, 16, []) := by decide +kernel
theorem f71_16 : fch 71 16 = some (.aload 1, 17, []) := by decide +kernel
theorem f71_17 : fch 71 17 = some (.iload 2, 18, []) := by decide +kernel
theorem f71_18 : fch 71 18 = some (.invokevirtual 69, 21, []) := by decide +kernel
theorem f71_21 : fch 71 21 = some (.lcmp, 22, []) := by decide +kernel
theorem f71_22 : fch 71 22 = some (.ifCond .le 27, 25, []) := by decide +kernel
theorem f71_25 : fch 71 25 = some (.iload 3, 26, []) := by decide +kernel
theorem f71_26 : fch 71 26 = some (.istore 2, 27, []) := by decide +kernel
theorem f71_27 : fch 71 27 = some (.iinc 3 1, 30, []) := by decide +kernel
theorem f71_30 : fch 71 30 = some (.goto 4, 33, []) := by decide +kernel
theorem f71_33 : fch 71 33 = some (.iload 2, 34, []) := by decide +kernel
theorem f71_34 : fch 71 34 = some (.ireturn, 35, []) := by decide +kernel
set_option maxRecDepth 10000 in
theorem e71_0 (l0 l1 : Int) (s : SG) : sem 71 0 [aA l0, aA l1, aU, aU] [] s = sem 71 4 [aA l0, aA l1, aI 0, aI 1] [] s := by
  refine (x_iconst f71_0 rfl).trans ?_
  refine (x_istore (l2 := [aA l0, aA l1, aI 0, aU]) f71_1 rfl rfl).trans ?_
  refine (x_iconst f71_2 rfl).trans ?_
  refine (x_istore (l2 := [aA l0, aA l1, aI 0, aI 1]) f71_3 rfl rfl).trans ?_
  rfl
set_option maxRecDepth 10000 in
theorem e71_4 (l0 l1 l2 l3 : Int) (s : SG) : sem 71 4 [aA l0, aA l1, aI l2, aI l3] [] s = if l3 < 3 then grd (kd l0 = 4) (bnL (sem 69 0 [aA l0, aA l1, aI l3, aU, aU, aU, aU, aU] [] s) fun a2 s1 => grd (kd l0 = 4) (bnL (sem 69 0 [aA l0, aA l1, aI l2, aU, aU, aU, aU, aU] [] s1) fun a4 s3 => if (0 : Int) < (cmpL a2 a4) then sem 71 4 [aA l0, aA l1, aI l3, aI (w32 (l3 + 1))] [] s3 else sem 71 4 [aA l0, aA l1, aI l2, aI (w32 (l3 + 1))] [] s3)) else some (aI l2, s) := by
  refine (x_iload f71_4 rfl rfl).trans ?_
  refine (x_iconst f71_5 rfl).trans ?_
  refine (x_icmp_ge (tg := 33) f71_6 rfl rfl).trans (i_c ?_ ?_)
  · refine (x_aload f71_9 rfl rfl).trans ?_
    refine (x_aload f71_10 rfl rfl).trans ?_
    refine (x_iload f71_11 rfl rfl).trans ?_
    refine (x_invokevirtual (G := grd (kd l0 = 4) (bnL (sem 69 0 [aA l0, aA l1, aI l3, aU, aU, aU, aU, aU] [] s) fun a2 s1 => sem 71 15 [aA l0, aA l1, aI l2, aI l3] [aL a2] s1)) f71_12 rfl rfl).trans ?_
    refine g_c ?_
    refine bL_c fun a2 s1 => ?_
    refine (x_aload f71_15 rfl rfl).trans ?_
    refine (x_aload f71_16 rfl rfl).trans ?_
    refine (x_iload f71_17 rfl rfl).trans ?_
    refine (x_invokevirtual (G := grd (kd l0 = 4) (bnL (sem 69 0 [aA l0, aA l1, aI l2, aU, aU, aU, aU, aU] [] s1) fun a4 s3 => sem 71 21 [aA l0, aA l1, aI l2, aI l3] [aL a4, aL a2] s3)) f71_18 rfl rfl).trans ?_
    refine g_c ?_
    refine bL_c fun a4 s3 => ?_
    refine (x_lcmp f71_21 rfl).trans ?_
    refine (x_if_le (tg := 27) f71_22 rfl rfl).trans (i_c ?_ ?_)
    · refine (x_iload f71_25 rfl rfl).trans ?_
      refine (x_istore (l2 := [aA l0, aA l1, aI l3, aI l3]) f71_26 rfl rfl).trans ?_
      refine (x_iinc (l2 := [aA l0, aA l1, aI l3, aI (w32 (l3 + 1))]) f71_27 rfl rfl rfl).trans ?_
      refine (x_goto (tg := 4) f71_30 rfl rfl).trans ?_
      rfl
    · refine (x_iinc (l2 := [aA l0, aA l1, aI l2, aI (w32 (l3 + 1))]) f71_27 rfl rfl rfl).trans ?_
      refine (x_goto (tg := 4) f71_30 rfl rfl).trans ?_
      rfl
  · refine (x_iload f71_33 rfl rfl).trans ?_
    exact x_ireturn f71_34 rfl
theorem f72_0 : fch 72 0 = some (.iconst 0, 1, []) := by decide +kernel
theorem f72_1 : fch 72 1 = some (.istore 2, 2, []) := by decide +kernel
theorem f72_2 : fch 72 2 = some (.iconst 1, 3, []) := by decide +kernel
theorem f72_3 : fch 72 3 = some (.istore 3, 4, []) := by decide +kernel
theorem f72_4 : fch 72 4 = some (.iload 3, 5, []) := by decide +kernel
theorem f72_5 : fch 72 5 = some (.aload 1, 6, []) := by decide +kernel
theorem f72_6 : fch 72 6 = some (.invokeinterface 6 4, 9, []) := by decide +kernel
theorem f72_9 : fch 72 9 = some (.if_icmp .ge 35, 12, []) := by decide +kernel
theorem f72_12 : fch 72 12 = some (.aload 0, 13, []) := by decide +kernel
theorem f72_13 : fch 72 13 = some (.aload 1, 14, []) := by decide +kernel
theorem f72_14 : fch 72 14 = some (.iload 3, 15, []) := by decide +kernel
theorem f72_15 : fch 72 15 = some (.invokevirtual 73, 18, []) := by decide +kernel
theorem f72_18 : fch 72 18 = some (.aload 0, 19, []) := by decide +kernel
theorem f72_19 : fch 72 19 = some (.aload 1, 20, []) := by decide +kernel
theorem f72_20 : fch 72 20 = some (.iload 2, 21, []) := by decide +kernel
theorem f72_21 : fch 72 21 = some (.invokevirtual 73, 24, []) := by decide +kernel
theorem f72_24 : fch 72 24 = some (.if_icmp .le 29, 27, []) := by decide +kernel
theorem f72_27 : fch 72 27 = some (.iload 3, 28, []) := by decide +kernel
theorem f72_28 : fch 72 28 = some (.istore 2, 29, []) := by decide +kernel
theorem f72_29 : fch 72 29 = some (.iinc 3 1, 32, []) := by decide +kernel
theorem f72_32 : fch 72 32 = some (.goto 4, 35, []) := by decide +kernel
theorem f72_35 : fch 72 35 = some (.iload 2, 36, []) := by decide +kernel
theorem f72_36 : fch 72 36 = some (.ireturn, 37, []) := by decide +kernel
set_option maxRecDepth 10000 in
theorem e72_0 (l0 l1 : Int) (s : SG) : sem 72 0 [aA l0, aA l1, aU, aU] [] s = sem 72 4 [aA l0, aA l1, aI 0, aI 1] [] s := by
  refine (x_iconst f72_0 rfl).trans ?_
  refine (x_istore (l2 := [aA l0, aA l1, aI 0, aU]) f72_1 rfl rfl).trans ?_
  refine (x_iconst f72_2 rfl).trans ?_
  refine (x_istore (l2 := [aA l0, aA l1, aI 0, aI 1]) f72_3 rfl rfl).trans ?_
  rfl
set_option maxRecDepth 10000 in
theorem e72_4 (l0 l1 l2 l3 : Int) (s : SG) : sem 72 4 [aA l0, aA l1, aI l2, aI l3] [] s = grd (kd l1 = 6) (if l3 < (s l1 4) then grd (kd l0 = 4) (bnI (sem 73 0 [aA l0, aA l1, aI l3, aU, aU] [] s) fun a2 s1 => grd (kd l0 = 4) (bnI (sem 73 0 [aA l0, aA l1, aI l2, aU, aU] [] s1) fun a4 s3 => if a4 < a2 then sem 72 4 [aA l0, aA l1, aI l3, aI (w32 (l3 + 1))] [] s3 else sem 72 4 [aA l0, aA l1, aI l2, aI (w32 (l3 + 1))] [] s3)) else some (aI l2, s)) := by
  refine (x_iload f72_4 rfl rfl).trans ?_
  refine (x_aload f72_5 rfl rfl).trans ?_
  refine (x_get0 f72_6 rfl rfl).trans ?_
  refine g_c ?_
  refine (x_icmp_ge (tg := 35) f72_9 rfl rfl).trans (i_c ?_ ?_)
  · refine (x_aload f72_12 rfl rfl).trans ?_
    refine (x_aload f72_13 rfl rfl).trans ?_
    refine (x_iload f72_14 rfl rfl).trans ?_
    refine (x_invokevirtual (G := grd (kd l0 = 4) (bnI (sem 73 0 [aA l0, aA l1, aI l3, aU, aU] [] s) fun a2 s1 => sem 72 18 [aA l0, aA l1, aI l2, aI l3] [aI a2] s1)) f72_15 rfl rfl).trans ?_
    refine g_c ?_
    refine bI_c fun a2 s1 => ?_
    refine (x_aload f72_18 rfl rfl).trans ?_
    refine (x_aload f72_19 rfl rfl).trans ?_
    refine (x_iload f72_20 rfl rfl).trans ?_
    refine (x_invokevirtual (G := grd (kd l0 = 4) (bnI (sem 73 0 [aA l0, aA l1, aI l2, aU, aU] [] s1) fun a4 s3 => sem 72 24 [aA l0, aA l1, aI l2, aI l3] [aI a4, aI a2] s3)) f72_21 rfl rfl).trans ?_
    refine g_c ?_
    refine bI_c fun a4 s3 => ?_
    refine (x_icmp_le (tg := 29) f72_24 rfl rfl).trans (i_c ?_ ?_)
    · refine (x_iload f72_27 rfl rfl).trans ?_
      refine (x_istore (l2 := [aA l0, aA l1, aI l3, aI l3]) f72_28 rfl rfl).trans ?_
      refine (x_iinc (l2 := [aA l0, aA l1, aI l3, aI (w32 (l3 + 1))]) f72_29 rfl rfl rfl).trans ?_
      refine (x_goto (tg := 4) f72_32 rfl rfl).trans ?_
      rfl
    · refine (x_iinc (l2 := [aA l0, aA l1, aI l2, aI (w32 (l3 + 1))]) f72_29 rfl rfl rfl).trans ?_
      refine (x_goto (tg := 4) f72_32 rfl rfl).trans ?_
      rfl
  · refine (x_iload f72_35 rfl rfl).trans ?_
    exact x_ireturn f72_36 rfl
theorem f73_0 : fch 73 0 = some (.iconst 0, 1, []) := by decide +kernel
theorem f73_1 : fch 73 1 = some (.istore 3, 2, []) := by decide +kernel
theorem f73_2 : fch 73 2 = some (.iconst 0, 3, []) := by decide +kernel
theorem f73_3 : fch 73 3 = some (.istore 4, 5, []) := by decide +kernel
theorem f73_5 : fch 73 5 = some (.iload 4, 7, []) := by decide +kernel
theorem f73_7 : fch 73 7 = some (.iconst 3, 8, []) := by decide +kernel
theorem f73_8 : fch 73 8 = some (.if_icmp .ge 43, 11, []) := by decide +kernel
theorem f73_11 : fch 73 11 = some (.aload 0, 12, []) := by decide +kernel
theorem f73_12 : fch 73 12 = some (.aload 1, 13, []) := by decide +kernel
theorem f73_13 : fch 73 13 = some (.iload 4, 15, []) := by decide +kernel
theorem f73_15 : fch 73 15 = some (.invokevirtual 69, 18, []) := by decide +kernel
theorem f73_18 : fch 73 18 = some (.sipush 0, 19, []) := by decide +kernel
theorem f73_19 : fch 73 19 = some (.lcmp, 20, []) := by decide +kernel
theorem f73_20 : fch 73 20 = some (.ifCond .le 37, 23, []) := by decide +kernel
theorem f73_23 : fch 73 23 = some (.aload 0, 24, []) := by decide +kernel
theorem f73_24 : fch 73 24 = some (.aload 1, 25, []) := by decide +kernel
theorem f73_25 : fch 73 25 = some (.iload 2, 26, []) := by decide +kernel
theorem f73_26 : fch 73 26 = some (.iload 4, 28, []) := by decide +kernel
theorem f73_28 : fch 73 28 = some (.invokevirtual 74, 31, []) := by decide +kernel
theorem f73_31 : fch 73 31 = some (.ifCond .ne 37, 34, []) := by decide +kernel
theorem f73_34 : fch 73 34 = some (.iinc 3 1, 37, []) := by decide +kernel
theorem f73_37 : fch 73 37 = some (.iinc 4 1, 40, []) := by decide +kernel
theorem f73_40 : fch 73 40 = some (.goto 5, 43, []) := by decide +kernel
theorem f73_43 : fch 73 43 = some (.iload 3, 44, []) := by decide +kernel
theorem f73_44 : fch 73 44 = some (.ireturn, 45, []) := by decide +kernel
set_option maxRecDepth 10000 in
theorem e73_0 (l0 l1 l2 : Int) (s : SG) : sem 73 0 [aA l0, aA l1, aI l2, aU, aU] [] s = sem 73 5 [aA l0, aA l1, aI l2, aI 0, aI 0] [] s := by
  refine (x_iconst f73_0 rfl).trans ?_
  refine (x_istore (l2 := [aA l0, aA l1, aI l2, aI 0, aU]) f73_1 rfl rfl).trans ?_
  refine (x_iconst f73_2 rfl).trans ?_
  refine (x_istore (l2 := [aA l0, aA l1, aI l2, aI 0, aI 0]) f73_3 rfl rfl).trans ?_
  rfl
set_option maxRecDepth 10000 in
theorem e73_5 (l0 l1 l2 l3 l4 : Int) (s : SG) : sem 73 5 [aA l0, aA l1, aI l2, aI l3, aI l4] [] s = if l4 < 3 then grd (kd l0 = 4) (bnL (sem 69 0 [aA l0, aA l1, aI l4, aU, aU, aU, aU, aU] [] s) fun a2 s1 => if (0 : Int) < (cmpL a2 0) then grd (kd l0 = 4) (bnI (sem 74 0 [aA l0, aA l1, aI l2, aI l4, aU] [] s1) fun a4 s3 => if a4 = 0 then sem 73 5 [aA l0, aA l1, aI l2, aI (w32 (l3 + 1)), aI (w32 (l4 + 1))] [] s3 else sem 73 5 [aA l0, aA l1, aI l2, aI l3, aI (w32 (l4 + 1))] [] s3) else sem 73 5 [aA l0, aA l1, aI l2, aI l3, aI (w32 (l4 + 1))] [] s1) else some (aI l3, s) := by
  refine (x_iload f73_5 rfl rfl).trans ?_
  refine (x_iconst f73_7 rfl).trans ?_
  refine (x_icmp_ge (tg := 43) f73_8 rfl rfl).trans (i_c ?_ ?_)
  · refine (x_aload f73_11 rfl rfl).trans ?_
    refine (x_aload f73_12 rfl rfl).trans ?_
    refine (x_iload f73_13 rfl rfl).trans ?_
    refine (x_invokevirtual (G := grd (kd l0 = 4) (bnL (sem 69 0 [aA l0, aA l1, aI l4, aU, aU, aU, aU, aU] [] s) fun a2 s1 => sem 73 18 [aA l0, aA l1, aI l2, aI l3, aI l4] [aL a2] s1)) f73_15 rfl rfl).trans ?_
    refine g_c ?_
    refine bL_c fun a2 s1 => ?_
    refine (x_lconst f73_18 rfl).trans ?_
    refine (x_lcmp f73_19 rfl).trans ?_
    refine (x_if_le (tg := 37) f73_20 rfl rfl).trans (i_c ?_ ?_)
    · refine (x_aload f73_23 rfl rfl).trans ?_
      refine (x_aload f73_24 rfl rfl).trans ?_
      refine (x_iload f73_25 rfl rfl).trans ?_
      refine (x_iload f73_26 rfl rfl).trans ?_
      refine (x_invokevirtual (G := grd (kd l0 = 4) (bnI (sem 74 0 [aA l0, aA l1, aI l2, aI l4, aU] [] s1) fun a4 s3 => sem 73 31 [aA l0, aA l1, aI l2, aI l3, aI l4] [aI a4] s3)) f73_28 rfl rfl).trans ?_
      refine g_c ?_
      refine bI_c fun a4 s3 => ?_
      refine (x_if_ne (tg := 37) f73_31 rfl rfl).trans (i_c ?_ ?_)
      · refine (x_iinc (l2 := [aA l0, aA l1, aI l2, aI (w32 (l3 + 1)), aI l4]) f73_34 rfl rfl rfl).trans ?_
        refine (x_iinc (l2 := [aA l0, aA l1, aI l2, aI (w32 (l3 + 1)), aI (w32 (l4 + 1))]) f73_37 rfl rfl rfl).trans ?_
        refine (x_goto (tg := 5) f73_40 rfl rfl).trans ?_
        rfl
      · refine (x_iinc (l2 := [aA l0, aA l1, aI l2, aI l3, aI (w32 (l4 + 1))]) f73_37 rfl rfl rfl).trans ?_
        refine (x_goto (tg := 5) f73_40 rfl rfl).trans ?_
        rfl
    · refine (x_iinc (l2 := [aA l0, aA l1, aI l2, aI l3, aI (w32 (l4 + 1))]) f73_37 rfl rfl rfl).trans ?_
      refine (x_goto (tg := 5) f73_40 rfl rfl).trans ?_
      rfl
  · refine (x_iload f73_43 rfl rfl).trans ?_
    exact x_ireturn f73_44 rfl
theorem f74_0 : fch 74 0 = some (.iconst 0, 1, []) := by decide +kernel
theorem f74_1 : fch 74 1 = some (.istore 4, 3, []) := by decide +kernel
theorem f74_3 : fch 74 3 = some (.iload 4, 5, []) := by decide +kernel
theorem f74_5 : fch 74 5 = some (.iload 3, 6, []) := by decide +kernel
theorem f74_6 : fch 74 6 = some (.if_icmp .ge 61, 9, []) := by decide +kernel
theorem f74_9 : fch 74 9 = some (.aload 0, 10, []) := by decide +kernel
theorem f74_10 : fch 74 10 = some (.aload 1, 11, []) := by decide +kernel
theorem f74_11 : fch 74 11 = some (.iload 4, 13, []) := by decide +kernel
theorem f74_13 : fch 74 13 = some (.invokevirtual 69, 16, []) := by decide +kernel
theorem f74_16 : fch 74 16 = some (.sipush 0, 17, []) := by decide +kernel
theorem f74_17 : fch 74 17 = some (.lcmp, 18, []) := by decide +kernel
theorem f74_18 : fch 74 18 = some (.ifCond .le 55, 21, []) := by decide +kernel
theorem f74_21 : fch 74 21 = some (.aload 1, 22, []) := by decide +kernel
theorem f74_22 : fch 74 22 = some (.iload 2, 23, []) := by decide +kernel
theorem f74_23 : fch 74 23 = some (.iload 4, 25, []) := by decide +kernel
theorem f74_25 : fch 74 25 = some (.invokevirtual 85, 28, []) := by decide +kernel
theorem f74_28 : fch 74 28 = some (.aload 1, 29, []) := by decide +kernel
theorem f74_29 : fch 74 29 = some (.iload 2, 30, []) := by decide +kernel
theorem f74_30 : fch 74 30 = some (.iload 3, 31, []) := by decide +kernel
theorem f74_31 : fch 74 31 = some (.invokevirtual 85, 34, []) := by decide +kernel
theorem f74_34 : fch 74 34 = some (.if_icmp .ne 55, 37, []) := by decide +kernel
theorem f74_37 : fch 74 37 = some (.aload 1, 38, []) := by decide +kernel
theorem f74_38 : fch 74 38 = some (.iload 2, 39, []) := by decide +kernel
theorem f74_39 : fch 74 39 = some (.iload 4, 41, []) := by decide +kernel
theorem f74_41 : fch 74 41 = some (.invokevirtual 86, 44, []) := by decide +kernel
theorem f74_44 : fch 74 44 = some (.aload 1, 45, []) := by decide +kernel
theorem f74_45 : fch 74 45 = some (.iload 2, 46, []) := by decide +kernel
theorem f74_46 : fch 74 46 = some (.iload 3, 47, []) := by decide +kernel
theorem f74_47 : fch 74 47 = some (.invokevirtual 86, 50, []) := by decide +kernel
theorem f74_50 : fch 74 50 = some (.if_icmp .ne 55, 53, []) := by decide +kernel
theorem f74_53 : fch 74 53 = some (.iconst 1, 54, []) := by decide +kernel
theorem f74_54 : fch 74 54 = some (.ireturn, 55, []) := by decide +kernel
theorem f74_55 : fch 74 55 = some (.iinc 4 1, 58, []) := by decide +kernel
theorem f74_58 : fch 74 58 = some (.goto 3, 61, []) := by decide +kernel
theorem f74_61 : fch 74 61 = some (.iconst 0, 62, []) := by decide +kernel
theorem f74_62 : fch 74 62 = some (.ireturn, 63, []) := by decide +kernel
set_option maxRecDepth 10000 in
theorem e74_0 (l0 l1 l2 l3 : Int) (s : SG) : sem 74 0 [aA l0, aA l1, aI l2, aI l3, aU] [] s = sem 74 3 [aA l0, aA l1, aI l2, aI l3, aI 0] [] s := by
  refine (x_iconst f74_0 rfl).trans ?_
  refine (x_istore (l2 := [aA l0, aA l1, aI l2, aI l3, aI 0]) f74_1 rfl rfl).trans ?_
  rfl
set_option maxRecDepth 10000 in
theorem e74_3 (l0 l1 l2 l3 l4 : Int) (s : SG) : sem 74 3 [aA l0, aA l1, aI l2, aI l3, aI l4] [] s = if l4 < l3 then grd (kd l0 = 4) (bnL (sem 69 0 [aA l0, aA l1, aI l4, aU, aU, aU, aU, aU] [] s) fun a2 s1 => if (0 : Int) < (cmpL a2 0) then grd (kd l1 = 6) (bnI (sem 85 0 [aA l1, aI l2, aI l4, aU] [] s1) fun a4 s3 => grd (kd l1 = 6) (bnI (sem 85 0 [aA l1, aI l2, aI l3, aU] [] s3) fun a6 s5 => if a4 = a6 then grd (kd l1 = 6) (bnI (sem 86 0 [aA l1, aI l2, aI l4, aU] [] s5) fun a8 s7 => grd (kd l1 = 6) (bnI (sem 86 0 [aA l1, aI l2, aI l3, aU] [] s7) fun a10 s9 => if a8 = a10 then some (aI 1, s9) else sem 74 3 [aA l0, aA l1, aI l2, aI l3, aI (w32 (l4 + 1))] [] s9)) else sem 74 3 [aA l0, aA l1, aI l2, aI l3, aI (w32 (l4 + 1))] [] s5)) else sem 74 3 [aA l0, aA l1, aI l2, aI l3, aI (w32 (l4 + 1))] [] s1) else some (aI 0, s) := by
  refine (x_iload f74_3 rfl rfl).trans ?_
  refine (x_iload f74_5 rfl rfl).trans ?_
  refine (x_icmp_ge (tg := 61) f74_6 rfl rfl).trans (i_c ?_ ?_)
  · refine (x_aload f74_9 rfl rfl).trans ?_
    refine (x_aload f74_10 rfl rfl).trans ?_
    refine (x_iload f74_11 rfl rfl).trans ?_
    refine (x_invokevirtual (G := grd (kd l0 = 4) (bnL (sem 69 0 [aA l0, aA l1, aI l4, aU, aU, aU, aU, aU] [] s) fun a2 s1 => sem 74 16 [aA l0, aA l1, aI l2, aI l3, aI l4] [aL a2] s1)) f74_13 rfl rfl).trans ?_
    refine g_c ?_
    refine bL_c fun a2 s1 => ?_
    refine (x_lconst f74_16 rfl).trans ?_
    refine (x_lcmp f74_17 rfl).trans ?_
    refine (x_if_le (tg := 55) f74_18 rfl rfl).trans (i_c ?_ ?_)
    · refine (x_aload f74_21 rfl rfl).trans ?_
      refine (x_iload f74_22 rfl rfl).trans ?_
      refine (x_iload f74_23 rfl rfl).trans ?_
      refine (x_invokevirtual (G := grd (kd l1 = 6) (bnI (sem 85 0 [aA l1, aI l2, aI l4, aU] [] s1) fun a4 s3 => sem 74 28 [aA l0, aA l1, aI l2, aI l3, aI l4] [aI a4] s3)) f74_25 rfl rfl).trans ?_
      refine g_c ?_
      refine bI_c fun a4 s3 => ?_
      refine (x_aload f74_28 rfl rfl).trans ?_
      refine (x_iload f74_29 rfl rfl).trans ?_
      refine (x_iload f74_30 rfl rfl).trans ?_
      refine (x_invokevirtual (G := grd (kd l1 = 6) (bnI (sem 85 0 [aA l1, aI l2, aI l3, aU] [] s3) fun a6 s5 => sem 74 34 [aA l0, aA l1, aI l2, aI l3, aI l4] [aI a6, aI a4] s5)) f74_31 rfl rfl).trans ?_
      refine g_c ?_
      refine bI_c fun a6 s5 => ?_
      refine (x_icmp_ne (tg := 55) f74_34 rfl rfl).trans (i_c ?_ ?_)
      · refine (x_aload f74_37 rfl rfl).trans ?_
        refine (x_iload f74_38 rfl rfl).trans ?_
        refine (x_iload f74_39 rfl rfl).trans ?_
        refine (x_invokevirtual (G := grd (kd l1 = 6) (bnI (sem 86 0 [aA l1, aI l2, aI l4, aU] [] s5) fun a8 s7 => sem 74 44 [aA l0, aA l1, aI l2, aI l3, aI l4] [aI a8] s7)) f74_41 rfl rfl).trans ?_
        refine g_c ?_
        refine bI_c fun a8 s7 => ?_
        refine (x_aload f74_44 rfl rfl).trans ?_
        refine (x_iload f74_45 rfl rfl).trans ?_
        refine (x_iload f74_46 rfl rfl).trans ?_
        refine (x_invokevirtual (G := grd (kd l1 = 6) (bnI (sem 86 0 [aA l1, aI l2, aI l3, aU] [] s7) fun a10 s9 => sem 74 50 [aA l0, aA l1, aI l2, aI l3, aI l4] [aI a10, aI a8] s9)) f74_47 rfl rfl).trans ?_
        refine g_c ?_
        refine bI_c fun a10 s9 => ?_
        refine (x_icmp_ne (tg := 55) f74_50 rfl rfl).trans (i_c ?_ ?_)
        · refine (x_iconst f74_53 rfl).trans ?_
          exact x_zreturn1 f74_54 rfl
        · refine (x_iinc (l2 := [aA l0, aA l1, aI l2, aI l3, aI (w32 (l4 + 1))]) f74_55 rfl rfl rfl).trans ?_
          refine (x_goto (tg := 3) f74_58 rfl rfl).trans ?_
          rfl
      · refine (x_iinc (l2 := [aA l0, aA l1, aI l2, aI l3, aI (w32 (l4 + 1))]) f74_55 rfl rfl rfl).trans ?_
        refine (x_goto (tg := 3) f74_58 rfl rfl).trans ?_
        rfl
    · refine (x_iinc (l2 := [aA l0, aA l1, aI l2, aI l3, aI (w32 (l4 + 1))]) f74_55 rfl rfl rfl).trans ?_
      refine (x_goto (tg := 3) f74_58 rfl rfl).trans ?_
      rfl
  · refine (x_iconst f74_61 rfl).trans ?_
    exact x_zreturn0 f74_62 rfl
theorem f75_0 : fch 75 0 = some (.aload 0, 1, []) := by decide +kernel
theorem f75_1 : fch 75 1 = some (.monitorexit, 4, []) := by decide +kernel
theorem f75_4 : fch 75 4 = some (.aload 0, 5, []) := by decide +kernel
theorem f75_5 : fch 75 5 = some (.iconst 64, 7, []) := by decide +kernel
theorem f75_7 : fch 75 7 = some (.newarray .int, 9, []) := by decide +kernel
theorem f75_9 : fch 75 9 = some (.multianewarray 5 0, 12, []) := by decide +kernel
theorem f75_12 : fch 75 12 = some (.aload 0, 13, []) := by decide +kernel
theorem f75_13 : fch 75 13 = some (.iconst 0, 14, []) := by decide +kernel
theorem f75_14 : fch 75 14 = some (.multianewarray 5 1, 17, []) := by decide +kernel
theorem f75_17 : fch 75 17 = some (.return_, 18, []) := by decide +kernel
set_option maxRecDepth 10000 in
theorem e75_0 (l0 : Int) (s : SG) : sem 75 0 [aA l0] [] s = grd (kd (s (-1) 0) = akind .int ∧ kl (s (-1) 0) = 64) (grd (kd l0 = 5) (grd (0 ≤ s (-1) 0) (grd (kd l0 = 5) (some (aU, up (up (alc s 64 (fun _ => 0)) l0 0 (s (-1) 0)) l0 1 0))))) := by
  refine (x_aload f75_0 rfl rfl).trans ?_
  refine (x_monitorexit f75_1 rfl rfl).trans ?_
  refine (x_aload f75_4 rfl rfl).trans ?_
  refine (x_iconst f75_5 rfl).trans ?_
  refine (x_newarray f75_7 rfl).trans ?_
  refine g_c ?_
  refine (x_put2 f75_9 rfl rfl).trans ?_
  refine g_c ?_
  refine g_c ?_
  refine (x_aload f75_12 rfl rfl).trans ?_
  refine (x_iconst f75_13 rfl).trans ?_
  refine (x_put0 f75_14 rfl rfl).trans ?_
  refine g_c ?_
  exact x_return f75_17 rfl
theorem f76_0 : fch 76 0 = some (.aload 0, 1, []) := by decide +kernel
theorem f76_1 : fch 76 1 = some (.invokeinterface 5 1, 4, []) := by decide +kernel
theorem f76_4 : fch 76 4 = some (.ireturn, 5, []) := by decide +kernel
set_option maxRecDepth 10000 in
theorem e76_0 (l0 : Int) (s : SG) : sem 76 0 [aA l0] [] s = grd (kd l0 = 5) (some (aI (s l0 1), s)) := by
  refine (x_aload f76_0 rfl rfl).trans ?_
  refine (x_get0 f76_1 rfl rfl).trans ?_
  refine g_c ?_
  exact x_ireturn f76_4 rfl
theorem f77_0 : fch 77 0 = some (.aload 0, 1, []) := by decide +kernel
theorem f77_1 : fch 77 1 = some (.invokeinterface 5 1, 4, []) := by decide +kernel
theorem f77_4 : fch 77 4 = some (.iload 1, 5, []) := by decide +kernel
theorem f77_5 : fch 77 5 = some (.iadd, 6, []) := by decide +kernel
theorem f77_6 : fch 77 6 = some (.iconst 64, 8, []) := by decide +kernel
theorem f77_8 : fch 77 8 = some (.if_icmp .gt 15, 11, []) := by decide +kernel
theorem f77_11 : fch 77 11 = some (.iconst 1, 12, []) := by decide +kernel
theorem f77_12 : fch 77 12 = some (.goto 16, 15, []) := by decide +kernel
theorem f77_15 : fch 77 15 = some (.iconst 0, 16, []) := by decide +kernel
theorem f77_16 : fch 77 16 = some (.ireturn, 17, [0, 1]) := by decide +kernel
set_option maxRecDepth 10000 in
theorem e77_0 (l0 l1 : Int) (s : SG) : sem 77 0 [aA l0, aI l1] [] s = grd (kd l0 = 5) (if (64 : Int) < (w32 ((s l0 1) + l1)) then some (aI 0, s) else some (aI 1, s)) := by
  refine (x_aload f77_0 rfl rfl).trans ?_
  refine (x_get0 f77_1 rfl rfl).trans ?_
  refine g_c ?_
  refine (x_iload f77_4 rfl rfl).trans ?_
  refine (x_iadd f77_5 rfl).trans ?_
  refine (x_iconst f77_6 rfl).trans ?_
  refine (x_icmp_gt (tg := 15) f77_8 rfl rfl).trans (i_c ?_ ?_)
  · refine (x_iconst f77_15 rfl).trans ?_
    refine (x_kil (l2 := [aU, aU]) f77_16 rfl).trans ?_
    exact x_zreturn0 f77_16 rfl
  · refine (x_iconst f77_11 rfl).trans ?_
    refine (x_goto (tg := 16) f77_12 rfl rfl).trans ?_
    refine (x_kil (l2 := [aU, aU]) f77_16 rfl).trans ?_
    exact x_zreturn1 f77_16 rfl
theorem f78_0 : fch 78 0 = some (.iload 1, 1, []) := by decide +kernel
theorem f78_1 : fch 78 1 = some (.iconst 1, 2, []) := by decide +kernel
theorem f78_2 : fch 78 2 = some (.isub, 3, []) := by decide +kernel
theorem f78_3 : fch 78 3 = some (.istore 4, 5, []) := by decide +kernel
theorem f78_5 : fch 78 5 = some (.iload 4, 7, [1]) := by decide +kernel
theorem f78_7 : fch 78 7 = some (.ifCond .lt 56, 10, []) := by decide +kernel
theorem f78_10 : fch 78 10 = some (.aload 0, 11, []) := by decide +kernel
theorem f78_11 : fch 78 11 = some (.invokeinterface 5 1, 14, []) := by decide +kernel
theorem f78_14 : fch 78 14 = some (.iconst 64, 16, []) := by decide +kernel
theorem f78_16 : fch 78 16 = some (.if_icmp .ge 56, 19, []) := by decide +kernel
theorem f78_19 : fch 78 19 = some (.aload 0, 20, []) := by decide +kernel
theorem f78_20 : fch 78 20 = some (.invokeinterface 5 0, 23, []) := by decide +kernel
theorem f78_23 : fch 78 23 = some (.aload 0, 24, []) := by decide +kernel
theorem f78_24 : fch 78 24 = some (.invokeinterface 5 1, 27, []) := by decide +kernel
theorem f78_27 : fch 78 27 = some (.lload 2, 28, []) := by decide +kernel
theorem f78_28 : fch 78 28 = some (.iconst 8, 30, []) := by decide +kernel
theorem f78_30 : fch 78 30 = some (.iload 4, 32, []) := by decide +kernel
theorem f78_32 : fch 78 32 = some (.imul, 33, []) := by decide +kernel
theorem f78_33 : fch 78 33 = some (.lushr, 34, []) := by decide +kernel
theorem f78_34 : fch 78 34 = some (.l2i, 35, []) := by decide +kernel
theorem f78_35 : fch 78 35 = some (.iconst 255, 38, []) := by decide +kernel
theorem f78_38 : fch 78 38 = some (.iand, 39, []) := by decide +kernel
theorem f78_39 : fch 78 39 = some (.iastore, 40, []) := by decide +kernel
theorem f78_40 : fch 78 40 = some (.aload 0, 41, []) := by decide +kernel
theorem f78_41 : fch 78 41 = some (.dup, 42, []) := by decide +kernel
theorem f78_42 : fch 78 42 = some (.invokeinterface 5 1, 45, []) := by decide +kernel
theorem f78_45 : fch 78 45 = some (.iconst 1, 46, []) := by decide +kernel
theorem f78_46 : fch 78 46 = some (.iadd, 47, []) := by decide +kernel
theorem f78_47 : fch 78 47 = some (.multianewarray 5 1, 50, []) := by decide +kernel
theorem f78_50 : fch 78 50 = some (.iinc 4 (-1), 53, []) := by decide +kernel
theorem f78_53 : fch 78 53 = some (.goto 5, 56, []) := by decide +kernel
theorem f78_56 : fch 78 56 = some (.return_, 57, [0, 1, 2, 4]) := by decide +kernel
set_option maxRecDepth 10000 in
theorem e78_0 (l0 l1 l2 : Int) (s : SG) : sem 78 0 [aA l0, aI l1, aL l2, aU, aU] [] s = sem 78 5 [aA l0, aU, aL l2, aU, aI (w32 (l1 - 1))] [] s := by
  refine (x_iload f78_0 rfl rfl).trans ?_
  refine (x_iconst f78_1 rfl).trans ?_
  refine (x_isub f78_2 rfl).trans ?_
  refine (x_istore (l2 := [aA l0, aI l1, aL l2, aU, aI (w32 (l1 - 1))]) f78_3 rfl rfl).trans ?_
  exact x_kil f78_5 rfl
set_option maxRecDepth 10000 in
theorem e78_5 (l0 l2 l4 : Int) (s : SG) : sem 78 5 [aA l0, aU, aL l2, aU, aI l4] [] s = if l4 < 0 then some (aU, s) else grd (kd l0 = 5) (if (s l0 1) < 64 then grd (kd l0 = 5) (grd (0 ≤ s l0 0) (grd (kd l0 = 5) (grd (kd (s l0 0) = 101) (grd ((0 : Int) ≤ (s l0 1) ∧ (s l0 1) < kl (s l0 0)) (grd (kd l0 = 5) (grd (kd l0 = 5) (sem 78 5 [aA l0, aU, aL l2, aU, aI (w32 (l4 + (-1)))] [] (up (up s (s l0 0) (s l0 1) (iandA (w32 (lushrA l2 (w32 (8 * l4)))) 255)) l0 1 (w32 (((up s (s l0 0) (s l0 1) (iandA (w32 (lushrA l2 (w32 (8 * l4)))) 255)) l0 1) + 1)))))))))) else some (aU, s)) := by
  refine (x_iload f78_5 rfl rfl).trans ?_
  refine (x_if_lt (tg := 56) f78_7 rfl rfl).trans (i_c ?_ ?_)
  · refine (x_kil (l2 := [aU, aU, aU, aU, aU]) f78_56 rfl).trans ?_
    exact x_return f78_56 rfl
  · refine (x_aload f78_10 rfl rfl).trans ?_
    refine (x_get0 f78_11 rfl rfl).trans ?_
    refine g_c ?_
    refine (x_iconst f78_14 rfl).trans ?_
    refine (x_icmp_ge (tg := 56) f78_16 rfl rfl).trans (i_c ?_ ?_)
    · refine (x_aload f78_19 rfl rfl).trans ?_
      refine (x_get2 f78_20 rfl rfl).trans ?_
      refine g_c ?_
      refine g_c ?_
      refine (x_aload f78_23 rfl rfl).trans ?_
      refine (x_get0 f78_24 rfl rfl).trans ?_
      refine g_c ?_
      refine (x_lload f78_27 rfl rfl).trans ?_
      refine (x_iconst f78_28 rfl).trans ?_
      refine (x_iload f78_30 rfl rfl).trans ?_
      refine (x_imul f78_32 rfl).trans ?_
      refine (x_lushr f78_33 rfl).trans ?_
      refine (x_l2i f78_34 rfl).trans ?_
      refine (x_iconst f78_35 rfl).trans ?_
      refine (x_iand f78_38 rfl).trans ?_
      refine (x_iastore f78_39 rfl).trans ?_
      refine g_c ?_
      refine g_c ?_
      refine (x_aload f78_40 rfl rfl).trans ?_
      refine (x_dup f78_41 rfl rfl).trans ?_
      refine (x_get0 f78_42 rfl rfl).trans ?_
      refine g_c ?_
      refine (x_iconst f78_45 rfl).trans ?_
      refine (x_iadd f78_46 rfl).trans ?_
      refine (x_put0 f78_47 rfl rfl).trans ?_
      refine g_c ?_
      refine (x_iinc (l2 := [aA l0, aU, aL l2, aU, aI (w32 (l4 + (-1)))]) f78_50 rfl rfl rfl).trans ?_
      refine (x_goto (tg := 5) f78_53 rfl rfl).trans ?_
      rfl
    · refine (x_kil (l2 := [aU, aU, aU, aU, aU]) f78_56 rfl).trans ?_
      exact x_return f78_56 rfl
theorem f79_0 : fch 79 0 = some (.aload 0, 1, []) := by decide +kernel
theorem f79_1 : fch 79 1 = some (.invokeinterface 5 1, 4, []) := by decide +kernel
theorem f79_4 : fch 79 4 = some (.istore 1, 5, []) := by decide +kernel
theorem f79_5 : fch 79 5 = some (.aload 0, 6, []) := by decide +kernel
theorem f79_6 : fch 79 6 = some (.iconst 0, 7, []) := by decide +kernel
theorem f79_7 : fch 79 7 = some (.multianewarray 5 1, 10, []) := by decide +kernel
theorem f79_10 : fch 79 10 = some (.iload 1, 11, []) := by decide +kernel
theorem f79_11 : fch 79 11 = some (.ireturn, 12, []) := by decide +kernel
set_option maxRecDepth 10000 in
theorem e79_0 (l0 : Int) (s : SG) : sem 79 0 [aA l0, aU] [] s = grd (kd l0 = 5) (grd (kd l0 = 5) (some (aI (s l0 1), up s l0 1 0))) := by
  refine (x_aload f79_0 rfl rfl).trans ?_
  refine (x_get0 f79_1 rfl rfl).trans ?_
  refine g_c ?_
  refine (x_istore (l2 := [aA l0, aI (s l0 1)]) f79_4 rfl rfl).trans ?_
  refine (x_aload f79_5 rfl rfl).trans ?_
  refine (x_iconst f79_6 rfl).trans ?_
  refine (x_put0 f79_7 rfl rfl).trans ?_
  refine g_c ?_
  refine (x_iload f79_10 rfl rfl).trans ?_
  exact x_ireturn f79_11 rfl
theorem f80_0 : fch 80 0 = some (.iload 1, 1, []) := by decide +kernel
theorem f80_1 : fch 80 1 = some (.ifCond .lt 21, 4, []) := by decide +kernel
theorem f80_4 : fch 80 4 = some (.iload 1, 5, []) := by decide +kernel
theorem f80_5 : fch 80 5 = some (.aload 0, 6, []) := by decide +kernel
theorem f80_6 : fch 80 6 = some (.invokeinterface 5 1, 9, []) := by decide +kernel
theorem f80_9 : fch 80 9 = some (.if_icmp .ge 21, 12, []) := by decide +kernel
theorem f80_12 : fch 80 12 = some (.aload 0, 13, []) := by decide +kernel
theorem f80_13 : fch 80 13 = some (.invokeinterface 5 0, 16, []) := by decide +kernel
theorem f80_16 : fch 80 16 = some (.iload 1, 17, []) := by decide +kernel
theorem f80_17 : fch 80 17 = some (.iaload, 18, []) := by decide +kernel
theorem f80_18 : fch 80 18 = some (.goto 22, 21, []) := by decide +kernel
theorem f80_21 : fch 80 21 = some (.iconst (-1), 22, [0, 1]) := by decide +kernel
theorem f80_22 : fch 80 22 = some (.ireturn, 23, [0, 1]) := by decide +kernel
set_option maxRecDepth 10000 in
theorem e80_0 (l0 l1 : Int) (s : SG) : sem 80 0 [aA l0, aI l1] [] s = if l1 < 0 then some (aI ((-1)), s) else grd (kd l0 = 5) (if l1 < (s l0 1) then grd (kd l0 = 5) (grd (0 ≤ s l0 0) (grd (kd (s l0 0) = 101) (grd ((0 : Int) ≤ l1 ∧ l1 < kl (s l0 0)) (some (aI (s (s l0 0) l1), s))))) else some (aI ((-1)), s)) := by
  refine (x_iload f80_0 rfl rfl).trans ?_
  refine (x_if_lt (tg := 21) f80_1 rfl rfl).trans (i_c ?_ ?_)
  · refine (x_kil (l2 := [aU, aU]) f80_21 rfl).trans ?_
    refine (x_iconst f80_21 rfl).trans ?_
    exact x_ireturn f80_22 rfl
  · refine (x_iload f80_4 rfl rfl).trans ?_
    refine (x_aload f80_5 rfl rfl).trans ?_
    refine (x_get0 f80_6 rfl rfl).trans ?_
    refine g_c ?_
    refine (x_icmp_ge (tg := 21) f80_9 rfl rfl).trans (i_c ?_ ?_)
    · refine (x_aload f80_12 rfl rfl).trans ?_
      refine (x_get2 f80_13 rfl rfl).trans ?_
      refine g_c ?_
      refine g_c ?_
      refine (x_iload f80_16 rfl rfl).trans ?_
      refine (x_iaload f80_17 rfl).trans ?_
      refine g_c ?_
      refine g_c ?_
      refine (x_goto (tg := 22) f80_18 rfl rfl).trans ?_
      refine (x_kil (l2 := [aU, aU]) f80_22 rfl).trans ?_
      exact x_ireturn f80_22 rfl
    · refine (x_kil (l2 := [aU, aU]) f80_21 rfl).trans ?_
      refine (x_iconst f80_21 rfl).trans ?_
      exact x_ireturn f80_22 rfl
theorem f81_0 : fch 81 0 = some (.aload 0, 1, []) := by decide +kernel
theorem f81_1 : fch 81 1 = some (.monitorexit, 4, []) := by decide +kernel
theorem f81_4 : fch 81 4 = some (.aload 0, 5, []) := by decide +kernel
theorem f81_5 : fch 81 5 = some (.iconst 3, 6, []) := by decide +kernel
theorem f81_6 : fch 81 6 = some (.newarray .int, 8, []) := by decide +kernel
theorem f81_8 : fch 81 8 = some (.multianewarray 6 0, 11, []) := by decide +kernel
theorem f81_11 : fch 81 11 = some (.aload 0, 12, []) := by decide +kernel
theorem f81_12 : fch 81 12 = some (.iconst 9, 14, []) := by decide +kernel
theorem f81_14 : fch 81 14 = some (.newarray .int, 16, []) := by decide +kernel
theorem f81_16 : fch 81 16 = some (.multianewarray 6 1, 19, []) := by decide +kernel
theorem f81_19 : fch 81 19 = some (.aload 0, 20, []) := by decide +kernel
theorem f81_20 : fch 81 20 = some (.iconst 9, 22, []) := by decide +kernel
theorem f81_22 : fch 81 22 = some (.newarray .int, 24, []) := by decide +kernel
theorem f81_24 : fch 81 24 = some (.multianewarray 6 2, 27, []) := by decide +kernel
theorem f81_27 : fch 81 27 = some (.aload 0, 28, []) := by decide +kernel
theorem f81_28 : fch 81 28 = some (.iconst 3, 29, []) := by decide +kernel
theorem f81_29 : fch 81 29 = some (.newarray .int, 31, []) := by decide +kernel
theorem f81_31 : fch 81 31 = some (.multianewarray 6 3, 34, []) := by decide +kernel
theorem f81_34 : fch 81 34 = some (.aload 0, 35, []) := by decide +kernel
theorem f81_35 : fch 81 35 = some (.invokevirtual 82, 38, []) := by decide +kernel
theorem f81_38 : fch 81 38 = some (.return_, 39, []) := by decide +kernel
set_option maxRecDepth 10000 in
theorem e81_0 (l0 : Int) (s : SG) : sem 81 0 [aA l0] [] s = grd (kd (s (-1) 0) = akind .int ∧ kl (s (-1) 0) = 3) (grd (kd l0 = 6) (grd (0 ≤ s (-1) 0) (grd (kd ((up (alc s 3 (fun _ => 0)) l0 0 (s (-1) 0)) (-1) 0) = akind .int ∧ kl ((up (alc s 3 (fun _ => 0)) l0 0 (s (-1) 0)) (-1) 0) = 9) (grd (kd l0 = 6) (grd (0 ≤ (up (alc s 3 (fun _ => 0)) l0 0 (s (-1) 0)) (-1) 0) (grd (kd ((up (alc (up (alc s 3 (fun _ => 0)) l0 0 (s (-1) 0)) 9 (fun _ => 0)) l0 1 ((up (alc s 3 (fun _ => 0)) l0 0 (s (-1) 0)) (-1) 0)) (-1) 0) = akind .int ∧ kl ((up (alc (up (alc s 3 (fun _ => 0)) l0 0 (s (-1) 0)) 9 (fun _ => 0)) l0 1 ((up (alc s 3 (fun _ => 0)) l0 0 (s (-1) 0)) (-1) 0)) (-1) 0) = 9) (grd (kd l0 = 6) (grd (0 ≤ (up (alc (up (alc s 3 (fun _ => 0)) l0 0 (s (-1) 0)) 9 (fun _ => 0)) l0 1 ((up (alc s 3 (fun _ => 0)) l0 0 (s (-1) 0)) (-1) 0)) (-1) 0) (sem 81 27 [aA l0] [] (up (alc (up (alc (up (alc s 3 (fun _ => 0)) l0 0 (s (-1) 0)) 9 (fun _ => 0)) l0 1 ((up (alc s 3 (fun _ => 0)) l0 0 (s (-1) 0)) (-1) 0)) 9 (fun _ => 0)) l0 2 ((up (alc (up (alc s 3 (fun _ => 0)) l0 0 (s (-1) 0)) 9 (fun _ => 0)) l0 1 ((up (alc s 3 (fun _ => 0)) l0 0 (s (-1) 0)) (-1) 0)) (-1) 0))))))))))) := by
  refine (x_aload f81_0 rfl rfl).trans ?_
  refine (x_monitorexit f81_1 rfl rfl).trans ?_
  refine (x_aload f81_4 rfl rfl).trans ?_
  refine (x_iconst f81_5 rfl).trans ?_
  refine (x_newarray f81_6 rfl).trans ?_
  refine g_c ?_
  refine (x_put2 f81_8 rfl rfl).trans ?_
  refine g_c ?_
  refine g_c ?_
  refine (x_aload f81_11 rfl rfl).trans ?_
  refine (x_iconst f81_12 rfl).trans ?_
  refine (x_newarray f81_14 rfl).trans ?_
  refine g_c ?_
  refine (x_put2 f81_16 rfl rfl).trans ?_
  refine g_c ?_
  refine g_c ?_
  refine (x_aload f81_19 rfl rfl).trans ?_
  refine (x_iconst f81_20 rfl).trans ?_
  refine (x_newarray f81_22 rfl).trans ?_
  refine g_c ?_
  refine (x_put2 f81_24 rfl rfl).trans ?_
  refine g_c ?_
  refine g_c ?_
  rfl
set_option maxRecDepth 10000 in
theorem e81_27 (l0 : Int) (s : SG) : sem 81 27 [aA l0] [] s = grd (kd (s (-1) 0) = akind .int ∧ kl (s (-1) 0) = 3) (grd (kd l0 = 6) (grd (0 ≤ s (-1) 0) (grd (kd l0 = 6) (bnV (sem 82 0 [aA l0] [] (up (alc s 3 (fun _ => 0)) l0 3 (s (-1) 0))) fun s1 => some (aU, s1))))) := by
  refine (x_aload f81_27 rfl rfl).trans ?_
  refine (x_iconst f81_28 rfl).trans ?_
  refine (x_newarray f81_29 rfl).trans ?_
  refine g_c ?_
  refine (x_put2 f81_31 rfl rfl).trans ?_
  refine g_c ?_
  refine g_c ?_
  refine (x_aload f81_34 rfl rfl).trans ?_
  refine (x_invokevirtual (G := grd (kd l0 = 6) (bnV (sem 82 0 [aA l0] [] (up (alc s 3 (fun _ => 0)) l0 3 (s (-1) 0))) fun s1 => sem 81 38 [aA l0] [] s1)) f81_35 rfl rfl).trans ?_
  refine g_c ?_
  refine bV_c fun s1 => ?_
  exact x_return f81_38 rfl
theorem f82_0 : fch 82 0 = some (.aload 0, 1, []) := by decide +kernel
theorem f82_1 : fch 82 1 = some (.iconst 1, 2, []) := by decide +kernel
theorem f82_2 : fch 82 2 = some (.multianewarray 6 4, 5, []) := by decide +kernel
theorem f82_5 : fch 82 5 = some (.aload 0, 6, []) := by decide +kernel
theorem f82_6 : fch 82 6 = some (.iconst 10, 8, []) := by decide +kernel
theorem f82_8 : fch 82 8 = some (.multianewarray 6 5, 11, []) := by decide +kernel
theorem f82_11 : fch 82 11 = some (.aload 0, 12, []) := by decide +kernel
theorem f82_12 : fch 82 12 = some (.iconst 20, 14, []) := by decide +kernel
theorem f82_14 : fch 82 14 = some (.multianewarray 6 6, 17, []) := by decide +kernel
theorem f82_17 : fch 82 17 = some (.aload 0, 18, []) := by decide +kernel
theorem f82_18 : fch 82 18 = some (.iconst 5, 19, []) := by decide +kernel
theorem f82_19 : fch 82 19 = some (.multianewarray 6 7, 22, []) := by decide +kernel
theorem f82_22 : fch 82 22 = some (.aload 0, 23, []) := by decide +kernel
theorem f82_23 : fch 82 23 = some (.invokeinterface 6 0, 26, []) := by decide +kernel
theorem f82_26 : fch 82 26 = some (.iconst 1, 27, []) := by decide +kernel
theorem f82_27 : fch 82 27 = some (.invokestatic 222, 30, []) := by decide +kernel
theorem f82_30 : fch 82 30 = some (.aload 0, 31, []) := by decide +kernel
theorem f82_31 : fch 82 31 = some (.invokeinterface 6 1, 34, []) := by decide +kernel
theorem f82_34 : fch 82 34 = some (.iconst 1, 35, []) := by decide +kernel
theorem f82_35 : fch 82 35 = some (.invokestatic 222, 38, []) := by decide +kernel
theorem f82_38 : fch 82 38 = some (.aload 0, 39, []) := by decide +kernel
theorem f82_39 : fch 82 39 = some (.invokeinterface 6 2, 42, []) := by decide +kernel
theorem f82_42 : fch 82 42 = some (.iconst 5, 43, []) := by decide +kernel
theorem f82_43 : fch 82 43 = some (.invokestatic 222, 46, []) := by decide +kernel
theorem f82_46 : fch 82 46 = some (.aload 0, 47, []) := by decide +kernel
theorem f82_47 : fch 82 47 = some (.invokeinterface 6 3, 50, []) := by decide +kernel
theorem f82_50 : fch 82 50 = some (.iconst (-9), 52, []) := by decide +kernel
theorem f82_52 : fch 82 52 = some (.invokestatic 222, 55, []) := by decide +kernel
theorem f82_55 : fch 82 55 = some (.return_, 56, []) := by decide +kernel
set_option maxRecDepth 10000 in
theorem e82_0 (l0 : Int) (s : SG) : sem 82 0 [aA l0] [] s = grd (kd l0 = 6) (grd (kd l0 = 6) (grd (kd l0 = 6) (grd (kd l0 = 6) (grd (kd l0 = 6) (grd (0 ≤ (up (up (up (up s l0 4 1) l0 5 10) l0 6 20) l0 7 5) l0 0) (bnV (sem 222 0 [aA ((up (up (up (up s l0 4 1) l0 5 10) l0 6 20) l0 7 5) l0 0), aI 1, aU, aU] [] (up (up (up (up s l0 4 1) l0 5 10) l0 6 20) l0 7 5)) fun s1 => grd (kd l0 = 6) (grd (0 ≤ s1 l0 1) (bnV (sem 222 0 [aA (s1 l0 1), aI 1, aU, aU] [] s1) fun s2 => grd (kd l0 = 6) (grd (0 ≤ s2 l0 2) (bnV (sem 222 0 [aA (s2 l0 2), aI 5, aU, aU] [] s2) fun s3 => grd (kd l0 = 6) (grd (0 ≤ s3 l0 3) (bnV (sem 222 0 [aA (s3 l0 3), aI ((-9)), aU, aU] [] s3) fun s4 => some (aU, s4))))))))))))) := by
  refine (x_aload f82_0 rfl rfl).trans ?_
  refine (x_iconst f82_1 rfl).trans ?_
  refine (x_put0 f82_2 rfl rfl).trans ?_
  refine g_c ?_
  refine (x_aload f82_5 rfl rfl).trans ?_
  refine (x_iconst f82_6 rfl).trans ?_
  refine (x_put0 f82_8 rfl rfl).trans ?_
  refine g_c ?_
  refine (x_aload f82_11 rfl rfl).trans ?_
  refine (x_iconst f82_12 rfl).trans ?_
  refine (x_put0 f82_14 rfl rfl).trans ?_
  refine g_c ?_
  refine (x_aload f82_17 rfl rfl).trans ?_
  refine (x_iconst f82_18 rfl).trans ?_
  refine (x_put0 f82_19 rfl rfl).trans ?_
  refine g_c ?_
  refine (x_aload f82_22 rfl rfl).trans ?_
  refine (x_get2 f82_23 rfl rfl).trans ?_
  refine g_c ?_
  refine g_c ?_
  refine (x_iconst f82_26 rfl).trans ?_
  refine (x_invokestatic (G := bnV (sem 222 0 [aA ((up (up (up (up s l0 4 1) l0 5 10) l0 6 20) l0 7 5) l0 0), aI 1, aU, aU] [] (up (up (up (up s l0 4 1) l0 5 10) l0 6 20) l0 7 5)) fun s1 => sem 82 30 [aA l0] [] s1) f82_27 rfl rfl).trans ?_
  refine bV_c fun s1 => ?_
  refine (x_aload f82_30 rfl rfl).trans ?_
  refine (x_get2 f82_31 rfl rfl).trans ?_
  refine g_c ?_
  refine g_c ?_
  refine (x_iconst f82_34 rfl).trans ?_
  refine (x_invokestatic (G := bnV (sem 222 0 [aA (s1 l0 1), aI 1, aU, aU] [] s1) fun s2 => sem 82 38 [aA l0] [] s2) f82_35 rfl rfl).trans ?_
  refine bV_c fun s2 => ?_
  refine (x_aload f82_38 rfl rfl).trans ?_
  refine (x_get2 f82_39 rfl rfl).trans ?_
  refine g_c ?_
  refine g_c ?_
  refine (x_iconst f82_42 rfl).trans ?_
  refine (x_invokestatic (G := bnV (sem 222 0 [aA (s2 l0 2), aI 5, aU, aU] [] s2) fun s3 => sem 82 46 [aA l0] [] s3) f82_43 rfl rfl).trans ?_
  refine bV_c fun s3 => ?_
  refine (x_aload f82_46 rfl rfl).trans ?_
  refine (x_get2 f82_47 rfl rfl).trans ?_
  refine g_c ?_
  refine g_c ?_
  refine (x_iconst f82_50 rfl).trans ?_
  refine (x_invokestatic (G := bnV (sem 222 0 [aA (s3 l0 3), aI ((-9)), aU, aU] [] s3) fun s4 => sem 82 55 [aA l0] [] s4) f82_52 rfl rfl).trans ?_
  refine bV_c fun s4 => ?_
  exact x_return f82_55 rfl
theorem f83_0 : fch 83 0 = some (.iload 1, 1, []) := by decide +kernel
theorem f83_1 : fch 83 1 = some (.ifCond .lt 21, 4, []) := by decide +kernel
theorem f83_4 : fch 83 4 = some (.iload 1, 5, []) := by decide +kernel
theorem f83_5 : fch 83 5 = some (.aload 0, 6, []) := by decide +kernel
theorem f83_6 : fch 83 6 = some (.invokeinterface 6 4, 9, []) := by decide +kernel
theorem f83_9 : fch 83 9 = some (.if_icmp .ge 21, 12, []) := by decide +kernel
theorem f83_12 : fch 83 12 = some (.iload 1, 13, []) := by decide +kernel
theorem f83_13 : fch 83 13 = some (.iconst 3, 14, []) := by decide +kernel
theorem f83_14 : fch 83 14 = some (.if_icmp .ge 21, 17, []) := by decide +kernel
theorem f83_17 : fch 83 17 = some (.iconst 1, 18, []) := by decide +kernel
theorem f83_18 : fch 83 18 = some (.goto 22, 21, []) := by decide +kernel
theorem f83_21 : fch 83 21 = some (.iconst 0, 22, [0, 1]) := by decide +kernel
theorem f83_22 : fch 83 22 = some (.ireturn, 23, [0, 1]) := by decide +kernel
set_option maxRecDepth 10000 in
theorem e83_0 (l0 l1 : Int) (s : SG) : sem 83 0 [aA l0, aI l1] [] s = if l1 < 0 then some (aI 0, s) else grd (kd l0 = 6) (if l1 < (s l0 4) then if l1 < 3 then some (aI 1, s) else some (aI 0, s) else some (aI 0, s)) := by
  refine (x_iload f83_0 rfl rfl).trans ?_
  refine (x_if_lt (tg := 21) f83_1 rfl rfl).trans (i_c ?_ ?_)
  · refine (x_kil (l2 := [aU, aU]) f83_21 rfl).trans ?_
    refine (x_iconst f83_21 rfl).trans ?_
    exact x_zreturn0 f83_22 rfl
  · refine (x_iload f83_4 rfl rfl).trans ?_
    refine (x_aload f83_5 rfl rfl).trans ?_
    refine (x_get0 f83_6 rfl rfl).trans ?_
    refine g_c ?_
    refine (x_icmp_ge (tg := 21) f83_9 rfl rfl).trans (i_c ?_ ?_)
    · refine (x_iload f83_12 rfl rfl).trans ?_
      refine (x_iconst f83_13 rfl).trans ?_
      refine (x_icmp_ge (tg := 21) f83_14 rfl rfl).trans (i_c ?_ ?_)
      · refine (x_iconst f83_17 rfl).trans ?_
        refine (x_goto (tg := 22) f83_18 rfl rfl).trans ?_
        refine (x_kil (l2 := [aU, aU]) f83_22 rfl).trans ?_
        exact x_zreturn1 f83_22 rfl
      · refine (x_kil (l2 := [aU, aU]) f83_21 rfl).trans ?_
        refine (x_iconst f83_21 rfl).trans ?_
        exact x_zreturn0 f83_22 rfl
    · refine (x_kil (l2 := [aU, aU]) f83_21 rfl).trans ?_
      refine (x_iconst f83_21 rfl).trans ?_
      exact x_zreturn0 f83_22 rfl
theorem f84_0 : fch 84 0 = some (.iload 1, 1, []) := by decide +kernel
theorem f84_1 : fch 84 1 = some (.invokestatic 140, 4, []) := by decide +kernel
theorem f84_4 : fch 84 4 = some (.ifCond .eq 16, 7, []) := by decide +kernel
theorem f84_7 : fch 84 7 = some (.aload 0, 8, []) := by decide +kernel
theorem f84_8 : fch 84 8 = some (.invokeinterface 6 0, 11, []) := by decide +kernel
theorem f84_11 : fch 84 11 = some (.iload 1, 12, []) := by decide +kernel
theorem f84_12 : fch 84 12 = some (.iaload, 13, []) := by decide +kernel
theorem f84_13 : fch 84 13 = some (.goto 17, 16, []) := by decide +kernel
theorem f84_16 : fch 84 16 = some (.iconst 0, 17, []) := by decide +kernel
theorem f84_17 : fch 84 17 = some (.ireturn, 18, [0, 1]) := by decide +kernel
set_option maxRecDepth 10000 in
theorem e84_0 (l0 l1 : Int) (s : SG) : sem 84 0 [aA l0, aI l1] [] s = bnI (sem 140 0 [aI l1] [] s) fun a2 s1 => if a2 = 0 then some (aI 0, s1) else grd (kd l0 = 6) (grd (0 ≤ s1 l0 0) (grd (kd (s1 l0 0) = 101) (grd ((0 : Int) ≤ l1 ∧ l1 < kl (s1 l0 0)) (some (aI (s1 (s1 l0 0) l1), s1))))) := by
  refine (x_iload f84_0 rfl rfl).trans ?_
  refine (x_invokestatic (G := bnI (sem 140 0 [aI l1] [] s) fun a2 s1 => sem 84 4 [aA l0, aI l1] [aI a2] s1) f84_1 rfl rfl).trans ?_
  refine bI_c fun a2 s1 => ?_
  refine (x_if_eq (tg := 16) f84_4 rfl rfl).trans (i_c ?_ ?_)
  · refine (x_iconst f84_16 rfl).trans ?_
    refine (x_kil (l2 := [aU, aU]) f84_17 rfl).trans ?_
    exact x_ireturn f84_17 rfl
  · refine (x_aload f84_7 rfl rfl).trans ?_
    refine (x_get2 f84_8 rfl rfl).trans ?_
    refine g_c ?_
    refine g_c ?_
    refine (x_iload f84_11 rfl rfl).trans ?_
    refine (x_iaload f84_12 rfl).trans ?_
    refine g_c ?_
    refine g_c ?_
    refine (x_goto (tg := 17) f84_13 rfl rfl).trans ?_
    refine (x_kil (l2 := [aU, aU]) f84_17 rfl).trans ?_
    exact x_ireturn f84_17 rfl
theorem f85_0 : fch 85 0 = some (.iload 1, 1, []) := by decide +kernel
theorem f85_1 : fch 85 1 = some (.iconst 3, 2, []) := by decide +kernel
theorem f85_2 : fch 85 2 = some (.imul, 3, []) := by decide +kernel
theorem f85_3 : fch 85 3 = some (.iload 2, 4, []) := by decide +kernel
theorem f85_4 : fch 85 4 = some (.iadd, 5, []) := by decide +kernel
theorem f85_5 : fch 85 5 = some (.istore 3, 6, []) := by decide +kernel
theorem f85_6 : fch 85 6 = some (.iload 3, 7, []) := by decide +kernel
theorem f85_7 : fch 85 7 = some (.ifCond .lt 28, 10, []) := by decide +kernel
theorem f85_10 : fch 85 10 = some (.iload 3, 11, []) := by decide +kernel
theorem f85_11 : fch 85 11 = some (.aload 0, 12, []) := by decide +kernel
theorem f85_12 : fch 85 12 = some (.invokeinterface 6 1, 15, []) := by decide +kernel
theorem f85_15 : fch 85 15 = some (.arraylength, 16, []) := by decide +kernel
theorem f85_16 : fch 85 16 = some (.if_icmp .ge 28, 19, []) := by decide +kernel
theorem f85_19 : fch 85 19 = some (.aload 0, 20, []) := by decide +kernel
theorem f85_20 : fch 85 20 = some (.invokeinterface 6 1, 23, []) := by decide +kernel
theorem f85_23 : fch 85 23 = some (.iload 3, 24, []) := by decide +kernel
theorem f85_24 : fch 85 24 = some (.iaload, 25, []) := by decide +kernel
theorem f85_25 : fch 85 25 = some (.goto 29, 28, []) := by decide +kernel
theorem f85_28 : fch 85 28 = some (.iconst 0, 29, [0, 1, 2, 3]) := by decide +kernel
theorem f85_29 : fch 85 29 = some (.ireturn, 30, [0, 1, 2, 3]) := by decide +kernel
set_option maxRecDepth 10000 in
theorem e85_0 (l0 l1 l2 : Int) (s : SG) : sem 85 0 [aA l0, aI l1, aI l2, aU] [] s = if (w32 ((w32 (l1 * 3)) + l2)) < 0 then some (aI 0, s) else grd (kd l0 = 6) (grd (0 ≤ s l0 1) (grd (100 < kd (s l0 1)) (if (w32 ((w32 (l1 * 3)) + l2)) < (kl (s l0 1)) then grd (kd l0 = 6) (grd (0 ≤ s l0 1) (grd (kd (s l0 1) = 101) (grd ((0 : Int) ≤ (w32 ((w32 (l1 * 3)) + l2)) ∧ (w32 ((w32 (l1 * 3)) + l2)) < kl (s l0 1)) (some (aI (s (s l0 1) (w32 ((w32 (l1 * 3)) + l2))), s))))) else some (aI 0, s)))) := by
  refine (x_iload f85_0 rfl rfl).trans ?_
  refine (x_iconst f85_1 rfl).trans ?_
  refine (x_imul f85_2 rfl).trans ?_
  refine (x_iload f85_3 rfl rfl).trans ?_
  refine (x_iadd f85_4 rfl).trans ?_
  refine (x_istore (l2 := [aA l0, aI l1, aI l2, aI (w32 ((w32 (l1 * 3)) + l2))]) f85_5 rfl rfl).trans ?_
  refine (x_iload f85_6 rfl rfl).trans ?_
  refine (x_if_lt (tg := 28) f85_7 rfl rfl).trans (i_c ?_ ?_)
  · refine (x_kil (l2 := [aU, aU, aU, aU]) f85_28 rfl).trans ?_
    refine (x_iconst f85_28 rfl).trans ?_
    exact x_ireturn f85_29 rfl
  · refine (x_iload f85_10 rfl rfl).trans ?_
    refine (x_aload f85_11 rfl rfl).trans ?_
    refine (x_get2 f85_12 rfl rfl).trans ?_
    refine g_c ?_
    refine g_c ?_
    refine (x_arraylength f85_15 rfl).trans ?_
    refine g_c ?_
    refine (x_icmp_ge (tg := 28) f85_16 rfl rfl).trans (i_c ?_ ?_)
    · refine (x_aload f85_19 rfl rfl).trans ?_
      refine (x_get2 f85_20 rfl rfl).trans ?_
      refine g_c ?_
      refine g_c ?_
      refine (x_iload f85_23 rfl rfl).trans ?_
      refine (x_iaload f85_24 rfl).trans ?_
      refine g_c ?_
      refine g_c ?_
      refine (x_goto (tg := 29) f85_25 rfl rfl).trans ?_
      refine (x_kil (l2 := [aU, aU, aU, aU]) f85_29 rfl).trans ?_
      exact x_ireturn f85_29 rfl
    · refine (x_kil (l2 := [aU, aU, aU, aU]) f85_28 rfl).trans ?_
      refine (x_iconst f85_28 rfl).trans ?_
      exact x_ireturn f85_29 rfl
theorem f86_0 : fch 86 0 = some (.iload 1, 1, []) := by decide +kernel
theorem f86_1 : fch 86 1 = some (.iconst 3, 2, []) := by decide +kernel
theorem f86_2 : fch 86 2 = some (.imul, 3, []) := by decide +kernel
theorem f86_3 : fch 86 3 = some (.iload 2, 4, []) := by decide +kernel
theorem f86_4 : fch 86 4 = some (.iadd, 5, []) := by decide +kernel
theorem f86_5 : fch 86 5 = some (.istore 3, 6, []) := by decide +kernel
theorem f86_6 : fch 86 6 = some (.iload 3, 7, []) := by decide +kernel
theorem f86_7 : fch 86 7 = some (.ifCond .lt 28, 10, []) := by decide +kernel
theorem f86_10 : fch 86 10 = some (.iload 3, 11, []) := by decide +kernel
theorem f86_11 : fch 86 11 = some (.aload 0, 12, []) := by decide +kernel
theorem f86_12 : fch 86 12 = some (.invokeinterface 6 2, 15, []) := by decide +kernel
theorem f86_15 : fch 86 15 = some (.arraylength, 16, []) := by decide +kernel
theorem f86_16 : fch 86 16 = some (.if_icmp .ge 28, 19, []) := by decide +kernel
theorem f86_19 : fch 86 19 = some (.aload 0, 20, []) := by decide +kernel
theorem f86_20 : fch 86 20 = some (.invokeinterface 6 2, 23, []) := by decide +kernel
theorem f86_23 : fch 86 23 = some (.iload 3, 24, []) := by decide +kernel
theorem f86_24 : fch 86 24 = some (.iaload, 25, []) := by decide +kernel
theorem f86_25 : fch 86 25 = some (.goto 29, 28, []) := by decide +kernel
theorem f86_28 : fch 86 28 = some (.iconst 0, 29, [0, 1, 2, 3]) := by decide +kernel
theorem f86_29 : fch 86 29 = some (.ireturn, 30, [0, 1, 2, 3]) := by decide +kernel
set_option maxRecDepth 10000 in
theorem e86_0 (l0 l1 l2 : Int) (s : SG) : sem 86 0 [aA l0, aI l1, aI l2, aU] [] s = if (w32 ((w32 (l1 * 3)) + l2)) < 0 then some (aI 0, s) else grd (kd l0 = 6) (grd (0 ≤ s l0 2) (grd (100 < kd (s l0 2)) (if (w32 ((w32 (l1 * 3)) + l2)) < (kl (s l0 2)) then grd (kd l0 = 6) (grd (0 ≤ s l0 2) (grd (kd (s l0 2) = 101) (grd ((0 : Int) ≤ (w32 ((w32 (l1 * 3)) + l2)) ∧ (w32 ((w32 (l1 * 3)) + l2)) < kl (s l0 2)) (some (aI (s (s l0 2) (w32 ((w32 (l1 * 3)) + l2))), s))))) else some (aI 0, s)))) := by
  refine (x_iload f86_0 rfl rfl).trans ?_
  refine (x_iconst f86_1 rfl).trans ?_
  refine (x_imul f86_2 rfl).trans ?_
  refine (x_iload f86_3 rfl rfl).trans ?_
  refine (x_iadd f86_4 rfl).trans ?_
  refine (x_istore (l2 := [aA l0, aI l1, aI l2, aI (w32 ((w32 (l1 * 3)) + l2))]) f86_5 rfl rfl).trans ?_
  refine (x_iload f86_6 rfl rfl).trans ?_
  refine (x_if_lt (tg := 28) f86_7 rfl rfl).trans (i_c ?_ ?_)
  · refine (x_kil (l2 := [aU, aU, aU, aU]) f86_28 rfl).trans ?_
    refine (x_iconst f86_28 rfl).trans ?_
    exact x_ireturn f86_29 rfl
  · refine (x_iload f86_10 rfl rfl).trans ?_
    refine (x_aload f86_11 rfl rfl).trans ?_
    refine (x_get2 f86_12 rfl rfl).trans ?_
    refine g_c ?_
    refine g_c ?_
    refine (x_arraylength f86_15 rfl).trans ?_
    refine g_c ?_
    refine (x_icmp_ge (tg := 28) f86_16 rfl rfl).trans (i_c ?_ ?_)
    · refine (x_aload f86_19 rfl rfl).trans ?_
      refine (x_get2 f86_20 rfl rfl).trans ?_
      refine g_c ?_
      refine g_c ?_
      refine (x_iload f86_23 rfl rfl).trans ?_
      refine (x_iaload f86_24 rfl).trans ?_
      refine g_c ?_
      refine g_c ?_
      refine (x_goto (tg := 29) f86_25 rfl rfl).trans ?_
      refine (x_kil (l2 := [aU, aU, aU, aU]) f86_29 rfl).trans ?_
      exact x_ireturn f86_29 rfl
    · refine (x_kil (l2 := [aU, aU, aU, aU]) f86_28 rfl).trans ?_
      refine (x_iconst f86_28 rfl).trans ?_
      exact x_ireturn f86_29 rfl
theorem f87_0 : fch 87 0 = some (.aload 0, 1, []) := by decide +kernel
theorem f87_1 : fch 87 1 = some (.iload 1, 2, []) := by decide +kernel
theorem f87_2 : fch 87 2 = some (.invokevirtual 83, 5, []) := by decide +kernel
theorem f87_5 : fch 87 5 = some (.ifCond .eq 17, 8, []) := by decide +kernel
theorem f87_8 : fch 87 8 = some (.aload 0, 9, []) := by decide +kernel
theorem f87_9 : fch 87 9 = some (.invokeinterface 6 3, 12, []) := by decide +kernel
theorem f87_12 : fch 87 12 = some (.iload 1, 13, []) := by decide +kernel
theorem f87_13 : fch 87 13 = some (.iaload, 14, []) := by decide +kernel
theorem f87_14 : fch 87 14 = some (.goto 19, 17, []) := by decide +kernel
theorem f87_17 : fch 87 17 = some (.iconst (-9), 19, []) := by decide +kernel
theorem f87_19 : fch 87 19 = some (.ireturn, 20, [0, 1]) := by decide +kernel
set_option maxRecDepth 10000 in
theorem e87_0 (l0 l1 : Int) (s : SG) : sem 87 0 [aA l0, aI l1] [] s = grd (kd l0 = 6) (bnI (sem 83 0 [aA l0, aI l1] [] s) fun a2 s1 => if a2 = 0 then some (aI ((-9)), s1) else grd (kd l0 = 6) (grd (0 ≤ s1 l0 3) (grd (kd (s1 l0 3) = 101) (grd ((0 : Int) ≤ l1 ∧ l1 < kl (s1 l0 3)) (some (aI (s1 (s1 l0 3) l1), s1)))))) := by
  refine (x_aload f87_0 rfl rfl).trans ?_
  refine (x_iload f87_1 rfl rfl).trans ?_
  refine (x_invokevirtual (G := grd (kd l0 = 6) (bnI (sem 83 0 [aA l0, aI l1] [] s) fun a2 s1 => sem 87 5 [aA l0, aI l1] [aI a2] s1)) f87_2 rfl rfl).trans ?_
  refine g_c ?_
  refine bI_c fun a2 s1 => ?_
  refine (x_if_eq (tg := 17) f87_5 rfl rfl).trans (i_c ?_ ?_)
  · refine (x_iconst f87_17 rfl).trans ?_
    refine (x_kil (l2 := [aU, aU]) f87_19 rfl).trans ?_
    exact x_ireturn f87_19 rfl
  · refine (x_aload f87_8 rfl rfl).trans ?_
    refine (x_get2 f87_9 rfl rfl).trans ?_
    refine g_c ?_
    refine g_c ?_
    refine (x_iload f87_12 rfl rfl).trans ?_
    refine (x_iaload f87_13 rfl).trans ?_
    refine g_c ?_
    refine g_c ?_
    refine (x_goto (tg := 19) f87_14 rfl rfl).trans ?_
    refine (x_kil (l2 := [aU, aU]) f87_19 rfl).trans ?_
    exact x_ireturn f87_19 rfl
theorem f88_0 : fch 88 0 = some (.iload 1, 1, []) := by decide +kernel
theorem f88_1 : fch 88 1 = some (.invokestatic 140, 4, []) := by decide +kernel
theorem f88_4 : fch 88 4 = some (.ifCond .eq 14, 7, []) := by decide +kernel
theorem f88_7 : fch 88 7 = some (.aload 0, 8, []) := by decide +kernel
theorem f88_8 : fch 88 8 = some (.invokeinterface 6 0, 11, []) := by decide +kernel
theorem f88_11 : fch 88 11 = some (.iload 1, 12, []) := by decide +kernel
theorem f88_12 : fch 88 12 = some (.iload 2, 13, []) := by decide +kernel
theorem f88_13 : fch 88 13 = some (.iastore, 14, []) := by decide +kernel
theorem f88_14 : fch 88 14 = some (.return_, 15, [0, 1, 2]) := by decide +kernel
set_option maxRecDepth 10000 in
theorem e88_0 (l0 l1 l2 : Int) (s : SG) : sem 88 0 [aA l0, aI l1, aI l2] [] s = bnI (sem 140 0 [aI l1] [] s) fun a2 s1 => if a2 = 0 then some (aU, s1) else grd (kd l0 = 6) (grd (0 ≤ s1 l0 0) (grd (kd (s1 l0 0) = 101) (grd ((0 : Int) ≤ l1 ∧ l1 < kl (s1 l0 0)) (some (aU, up s1 (s1 l0 0) l1 l2))))) := by
  refine (x_iload f88_0 rfl rfl).trans ?_
  refine (x_invokestatic (G := bnI (sem 140 0 [aI l1] [] s) fun a2 s1 => sem 88 4 [aA l0, aI l1, aI l2] [aI a2] s1) f88_1 rfl rfl).trans ?_
  refine bI_c fun a2 s1 => ?_
  refine (x_if_eq (tg := 14) f88_4 rfl rfl).trans (i_c ?_ ?_)
  · refine (x_kil (l2 := [aU, aU, aU]) f88_14 rfl).trans ?_
    exact x_return f88_14 rfl
  · refine (x_aload f88_7 rfl rfl).trans ?_
    refine (x_get2 f88_8 rfl rfl).trans ?_
    refine g_c ?_
    refine g_c ?_
    refine (x_iload f88_11 rfl rfl).trans ?_
    refine (x_iload f88_12 rfl rfl).trans ?_
    refine (x_iastore f88_13 rfl).trans ?_
    refine g_c ?_
    refine g_c ?_
    refine (x_kil (l2 := [aU, aU, aU]) f88_14 rfl).trans ?_
    exact x_return f88_14 rfl
theorem f89_0 : fch 89 0 = some (.iload 1, 1, []) := by decide +kernel
theorem f89_1 : fch 89 1 = some (.iconst 3, 2, []) := by decide +kernel
theorem f89_2 : fch 89 2 = some (.imul, 3, []) := by decide +kernel
theorem f89_3 : fch 89 3 = some (.iload 2, 4, []) := by decide +kernel
theorem f89_4 : fch 89 4 = some (.iadd, 5, []) := by decide +kernel
theorem f89_5 : fch 89 5 = some (.istore 5, 7, []) := by decide +kernel
theorem f89_7 : fch 89 7 = some (.iload 5, 9, []) := by decide +kernel
theorem f89_9 : fch 89 9 = some (.ifCond .lt 49, 12, []) := by decide +kernel
theorem f89_12 : fch 89 12 = some (.iload 5, 14, []) := by decide +kernel
theorem f89_14 : fch 89 14 = some (.aload 0, 15, []) := by decide +kernel
theorem f89_15 : fch 89 15 = some (.invokeinterface 6 1, 18, []) := by decide +kernel
theorem f89_18 : fch 89 18 = some (.arraylength, 19, []) := by decide +kernel
theorem f89_19 : fch 89 19 = some (.if_icmp .ge 49, 22, []) := by decide +kernel
theorem f89_22 : fch 89 22 = some (.iload 5, 24, []) := by decide +kernel
theorem f89_24 : fch 89 24 = some (.aload 0, 25, []) := by decide +kernel
theorem f89_25 : fch 89 25 = some (.invokeinterface 6 2, 28, []) := by decide +kernel
theorem f89_28 : fch 89 28 = some (.arraylength, 29, []) := by decide +kernel
theorem f89_29 : fch 89 29 = some (.if_icmp .ge 49, 32, []) := by decide +kernel
theorem f89_32 : fch 89 32 = some (.aload 0, 33, []) := by decide +kernel
theorem f89_33 : fch 89 33 = some (.invokeinterface 6 1, 36, []) := by decide +kernel
theorem f89_36 : fch 89 36 = some (.iload 5, 38, []) := by decide +kernel
theorem f89_38 : fch 89 38 = some (.iload 3, 39, []) := by decide +kernel
theorem f89_39 : fch 89 39 = some (.iastore, 40, []) := by decide +kernel
theorem f89_40 : fch 89 40 = some (.aload 0, 41, []) := by decide +kernel
theorem f89_41 : fch 89 41 = some (.invokeinterface 6 2, 44, []) := by decide +kernel
theorem f89_44 : fch 89 44 = some (.iload 5, 46, []) := by decide +kernel
theorem f89_46 : fch 89 46 = some (.iload 4, 48, []) := by decide +kernel
theorem f89_48 : fch 89 48 = some (.iastore, 49, []) := by decide +kernel
theorem f89_49 : fch 89 49 = some (.return_, 50, [0, 1, 2, 3, 4, 5]) := by decide +kernel
set_option maxRecDepth 10000 in
theorem e89_0 (l0 l1 l2 l3 l4 : Int) (s : SG) : sem 89 0 [aA l0, aI l1, aI l2, aI l3, aI l4, aU] [] s = if (w32 ((w32 (l1 * 3)) + l2)) < 0 then some (aU, s) else grd (kd l0 = 6) (grd (0 ≤ s l0 1) (grd (100 < kd (s l0 1)) (if (w32 ((w32 (l1 * 3)) + l2)) < (kl (s l0 1)) then grd (kd l0 = 6) (grd (0 ≤ s l0 2) (grd (100 < kd (s l0 2)) (if (w32 ((w32 (l1 * 3)) + l2)) < (kl (s l0 2)) then grd (kd l0 = 6) (grd (0 ≤ s l0 1) (grd (kd (s l0 1) = 101) (grd ((0 : Int) ≤ (w32 ((w32 (l1 * 3)) + l2)) ∧ (w32 ((w32 (l1 * 3)) + l2)) < kl (s l0 1)) (grd (kd l0 = 6) (grd (0 ≤ (up s (s l0 1) (w32 ((w32 (l1 * 3)) + l2)) l3) l0 2) (grd (kd ((up s (s l0 1) (w32 ((w32 (l1 * 3)) + l2)) l3) l0 2) = 101) (grd ((0 : Int) ≤ (w32 ((w32 (l1 * 3)) + l2)) ∧ (w32 ((w32 (l1 * 3)) + l2)) < kl ((up s (s l0 1) (w32 ((w32 (l1 * 3)) + l2)) l3) l0 2)) (some (aU, up (up s (s l0 1) (w32 ((w32 (l1 * 3)) + l2)) l3) ((up s (s l0 1) (w32 ((w32 (l1 * 3)) + l2)) l3) l0 2) (w32 ((w32 (l1 * 3)) + l2)) l4))))))))) else some (aU, s)))) else some (aU, s)))) := by
  refine (x_iload f89_0 rfl rfl).trans ?_
  refine (x_iconst f89_1 rfl).trans ?_
  refine (x_imul f89_2 rfl).trans ?_
  refine (x_iload f89_3 rfl rfl).trans ?_
  refine (x_iadd f89_4 rfl).trans ?_
  refine (x_istore (l2 := [aA l0, aI l1, aI l2, aI l3, aI l4, aI (w32 ((w32 (l1 * 3)) + l2))]) f89_5 rfl rfl).trans ?_
  refine (x_iload f89_7 rfl rfl).trans ?_
  refine (x_if_lt (tg := 49) f89_9 rfl rfl).trans (i_c ?_ ?_)
  · refine (x_kil (l2 := [aU, aU, aU, aU, aU, aU]) f89_49 rfl).trans ?_
    exact x_return f89_49 rfl
  · refine (x_iload f89_12 rfl rfl).trans ?_
    refine (x_aload f89_14 rfl rfl).trans ?_
    refine (x_get2 f89_15 rfl rfl).trans ?_
    refine g_c ?_
    refine g_c ?_
    refine (x_arraylength f89_18 rfl).trans ?_
    refine g_c ?_
    refine (x_icmp_ge (tg := 49) f89_19 rfl rfl).trans (i_c ?_ ?_)
    · refine (x_iload f89_22 rfl rfl).trans ?_
      refine (x_aload f89_24 rfl rfl).trans ?_
      refine (x_get2 f89_25 rfl rfl).trans ?_
      refine g_c ?_
      refine g_c ?_
      refine (x_arraylength f89_28 rfl).trans ?_
      refine g_c ?_
      refine (x_icmp_ge (tg := 49) f89_29 rfl rfl).trans (i_c ?_ ?_)
      · refine (x_aload f89_32 rfl rfl).trans ?_
        refine (x_get2 f89_33 rfl rfl).trans ?_
        refine g_c ?_
        refine g_c ?_
        refine (x_iload f89_36 rfl rfl).trans ?_
        refine (x_iload f89_38 rfl rfl).trans ?_
        refine (x_iastore f89_39 rfl).trans ?_
        refine g_c ?_
        refine g_c ?_
        refine (x_aload f89_40 rfl rfl).trans ?_
        refine (x_get2 f89_41 rfl rfl).trans ?_
        refine g_c ?_
        refine g_c ?_
        refine (x_iload f89_44 rfl rfl).trans ?_
        refine (x_iload f89_46 rfl rfl).trans ?_
        refine (x_iastore f89_48 rfl).trans ?_
        refine g_c ?_
        refine g_c ?_
        refine (x_kil (l2 := [aU, aU, aU, aU, aU, aU]) f89_49 rfl).trans ?_
        exact x_return f89_49 rfl
      · refine (x_kil (l2 := [aU, aU, aU, aU, aU, aU]) f89_49 rfl).trans ?_
        exact x_return f89_49 rfl
    · refine (x_kil (l2 := [aU, aU, aU, aU, aU, aU]) f89_49 rfl).trans ?_
      exact x_return f89_49 rfl
theorem f90_0 : fch 90 0 = some (.aload 0, 1, []) := by decide +kernel
theorem f90_1 : fch 90 1 = some (.iload 1, 2, []) := by decide +kernel
theorem f90_2 : fch 90 2 = some (.invokevirtual 83, 5, []) := by decide +kernel
theorem f90_5 : fch 90 5 = some (.ifCond .eq 15, 8, []) := by decide +kernel
theorem f90_8 : fch 90 8 = some (.aload 0, 9, []) := by decide +kernel
theorem f90_9 : fch 90 9 = some (.invokeinterface 6 3, 12, []) := by decide +kernel
theorem f90_12 : fch 90 12 = some (.iload 1, 13, []) := by decide +kernel
theorem f90_13 : fch 90 13 = some (.iload 2, 14, []) := by decide +kernel
theorem f90_14 : fch 90 14 = some (.iastore, 15, []) := by decide +kernel
theorem f90_15 : fch 90 15 = some (.return_, 16, [0, 1, 2]) := by decide +kernel
set_option maxRecDepth 10000 in
theorem e90_0 (l0 l1 l2 : Int) (s : SG) : sem 90 0 [aA l0, aI l1, aI l2] [] s = grd (kd l0 = 6) (bnI (sem 83 0 [aA l0, aI l1] [] s) fun a2 s1 => if a2 = 0 then some (aU, s1) else grd (kd l0 = 6) (grd (0 ≤ s1 l0 3) (grd (kd (s1 l0 3) = 101) (grd ((0 : Int) ≤ l1 ∧ l1 < kl (s1 l0 3)) (some (aU, up s1 (s1 l0 3) l1 l2)))))) := by
  refine (x_aload f90_0 rfl rfl).trans ?_
  refine (x_iload f90_1 rfl rfl).trans ?_
  refine (x_invokevirtual (G := grd (kd l0 = 6) (bnI (sem 83 0 [aA l0, aI l1] [] s) fun a2 s1 => sem 90 5 [aA l0, aI l1, aI l2] [aI a2] s1)) f90_2 rfl rfl).trans ?_
  refine g_c ?_
  refine bI_c fun a2 s1 => ?_
  refine (x_if_eq (tg := 15) f90_5 rfl rfl).trans (i_c ?_ ?_)
  · refine (x_kil (l2 := [aU, aU, aU]) f90_15 rfl).trans ?_
    exact x_return f90_15 rfl
  · refine (x_aload f90_8 rfl rfl).trans ?_
    refine (x_get2 f90_9 rfl rfl).trans ?_
    refine g_c ?_
    refine g_c ?_
    refine (x_iload f90_12 rfl rfl).trans ?_
    refine (x_iload f90_13 rfl rfl).trans ?_
    refine (x_iastore f90_14 rfl).trans ?_
    refine g_c ?_
    refine g_c ?_
    refine (x_kil (l2 := [aU, aU, aU]) f90_15 rfl).trans ?_
    exact x_return f90_15 rfl
theorem f91_0 : fch 91 0 = some (.aload 0, 1, []) := by decide +kernel
theorem f91_1 : fch 91 1 = some (.monitorexit, 4, []) := by decide +kernel
theorem f91_4 : fch 91 4 = some (.aload 0, 5, []) := by decide +kernel
theorem f91_5 : fch 91 5 = some (.iconst 2197, 8, []) := by decide +kernel
theorem f91_8 : fch 91 8 = some (.newarray .long, 10, []) := by decide +kernel
theorem f91_10 : fch 91 10 = some (.multianewarray 7 0, 13, []) := by decide +kernel
theorem f91_13 : fch 91 13 = some (.aload 0, 14, []) := by decide +kernel
theorem f91_14 : fch 91 14 = some (.iconst 2197, 17, []) := by decide +kernel
theorem f91_17 : fch 91 17 = some (.newarray .long, 19, []) := by decide +kernel
theorem f91_19 : fch 91 19 = some (.multianewarray 7 1, 22, []) := by decide +kernel
theorem f91_22 : fch 91 22 = some (.aload 0, 23, []) := by decide +kernel
theorem f91_23 : fch 91 23 = some (.sipush 1, 24, []) := by decide +kernel
theorem f91_24 : fch 91 24 = some (.multianewarray 7 2, 27, []) := by decide +kernel
theorem f91_27 : fch 91 27 = some (.return_, 28, []) := by decide +kernel
set_option maxRecDepth 10000 in
theorem e91_0 (l0 : Int) (s : SG) : sem 91 0 [aA l0] [] s = grd (kd (s (-1) 0) = akind .long ∧ kl (s (-1) 0) = 2197) (grd (kd l0 = 7) (grd (0 ≤ s (-1) 0) (grd (kd ((up (alc s 2197 (fun _ => 0)) l0 0 (s (-1) 0)) (-1) 0) = akind .long ∧ kl ((up (alc s 2197 (fun _ => 0)) l0 0 (s (-1) 0)) (-1) 0) = 2197) (grd (kd l0 = 7) (grd (0 ≤ (up (alc s 2197 (fun _ => 0)) l0 0 (s (-1) 0)) (-1) 0) (grd (kd l0 = 7) (some (aU, up (up (alc (up (alc s 2197 (fun _ => 0)) l0 0 (s (-1) 0)) 2197 (fun _ => 0)) l0 1 ((up (alc s 2197 (fun _ => 0)) l0 0 (s (-1) 0)) (-1) 0)) l0 2 1)))))))) := by
  refine (x_aload f91_0 rfl rfl).trans ?_
  refine (x_monitorexit f91_1 rfl rfl).trans ?_
  refine (x_aload f91_4 rfl rfl).trans ?_
  refine (x_iconst f91_5 rfl).trans ?_
  refine (x_newarray f91_8 rfl).trans ?_
  refine g_c ?_
  refine (x_put2 f91_10 rfl rfl).trans ?_
  refine g_c ?_
  refine g_c ?_
  refine (x_aload f91_13 rfl rfl).trans ?_
  refine (x_iconst f91_14 rfl).trans ?_
  refine (x_newarray f91_17 rfl).trans ?_
  refine g_c ?_
  refine (x_put2 f91_19 rfl rfl).trans ?_
  refine g_c ?_
  refine g_c ?_
  refine (x_aload f91_22 rfl rfl).trans ?_
  refine (x_lconst f91_23 rfl).trans ?_
  refine (x_put1 f91_24 rfl rfl).trans ?_
  refine g_c ?_
  exact x_return f91_27 rfl
theorem f92_0 : fch 92 0 = some (.iload 0, 1, []) := by decide +kernel
theorem f92_1 : fch 92 1 = some (.invokestatic 93, 4, []) := by decide +kernel
theorem f92_4 : fch 92 4 = some (.ifCond .eq 35, 7, []) := by decide +kernel
theorem f92_7 : fch 92 7 = some (.iload 1, 8, []) := by decide +kernel
theorem f92_8 : fch 92 8 = some (.invokestatic 93, 11, []) := by decide +kernel
theorem f92_11 : fch 92 11 = some (.ifCond .eq 35, 14, []) := by decide +kernel
theorem f92_14 : fch 92 14 = some (.iload 2, 15, []) := by decide +kernel
theorem f92_15 : fch 92 15 = some (.invokestatic 93, 18, []) := by decide +kernel
theorem f92_18 : fch 92 18 = some (.ifCond .eq 35, 21, []) := by decide +kernel
theorem f92_21 : fch 92 21 = some (.iload 0, 22, []) := by decide +kernel
theorem f92_22 : fch 92 22 = some (.iload 1, 23, []) := by decide +kernel
theorem f92_23 : fch 92 23 = some (.iadd, 24, []) := by decide +kernel
theorem f92_24 : fch 92 24 = some (.iload 2, 25, []) := by decide +kernel
theorem f92_25 : fch 92 25 = some (.iadd, 26, []) := by decide +kernel
theorem f92_26 : fch 92 26 = some (.iconst 12, 28, []) := by decide +kernel
theorem f92_28 : fch 92 28 = some (.if_icmp .gt 35, 31, []) := by decide +kernel
theorem f92_31 : fch 92 31 = some (.iconst 1, 32, []) := by decide +kernel
theorem f92_32 : fch 92 32 = some (.goto 36, 35, []) := by decide +kernel
theorem f92_35 : fch 92 35 = some (.iconst 0, 36, [0, 1, 2]) := by decide +kernel
theorem f92_36 : fch 92 36 = some (.ireturn, 37, [0, 1, 2]) := by decide +kernel
set_option maxRecDepth 10000 in
theorem e92_0 (l0 l1 l2 : Int) (s : SG) : sem 92 0 [aI l0, aI l1, aI l2] [] s = bnI (sem 93 0 [aI l0] [] s) fun a2 s1 => if a2 = 0 then some (aI 0, s1) else bnI (sem 93 0 [aI l1] [] s1) fun a4 s3 => if a4 = 0 then some (aI 0, s3) else bnI (sem 93 0 [aI l2] [] s3) fun a6 s5 => if a6 = 0 then some (aI 0, s5) else if (12 : Int) < (w32 ((w32 (l0 + l1)) + l2)) then some (aI 0, s5) else some (aI 1, s5) := by
  refine (x_iload f92_0 rfl rfl).trans ?_
  refine (x_invokestatic (G := bnI (sem 93 0 [aI l0] [] s) fun a2 s1 => sem 92 4 [aI l0, aI l1, aI l2] [aI a2] s1) f92_1 rfl rfl).trans ?_
  refine bI_c fun a2 s1 => ?_
  refine (x_if_eq (tg := 35) f92_4 rfl rfl).trans (i_c ?_ ?_)
  · refine (x_kil (l2 := [aU, aU, aU]) f92_35 rfl).trans ?_
    refine (x_iconst f92_35 rfl).trans ?_
    exact x_zreturn0 f92_36 rfl
  · refine (x_iload f92_7 rfl rfl).trans ?_
    refine (x_invokestatic (G := bnI (sem 93 0 [aI l1] [] s1) fun a4 s3 => sem 92 11 [aI l0, aI l1, aI l2] [aI a4] s3) f92_8 rfl rfl).trans ?_
    refine bI_c fun a4 s3 => ?_
    refine (x_if_eq (tg := 35) f92_11 rfl rfl).trans (i_c ?_ ?_)
    · refine (x_kil (l2 := [aU, aU, aU]) f92_35 rfl).trans ?_
      refine (x_iconst f92_35 rfl).trans ?_
      exact x_zreturn0 f92_36 rfl
    · refine (x_iload f92_14 rfl rfl).trans ?_
      refine (x_invokestatic (G := bnI (sem 93 0 [aI l2] [] s3) fun a6 s5 => sem 92 18 [aI l0, aI l1, aI l2] [aI a6] s5) f92_15 rfl rfl).trans ?_
      refine bI_c fun a6 s5 => ?_
      refine (x_if_eq (tg := 35) f92_18 rfl rfl).trans (i_c ?_ ?_)
      · refine (x_kil (l2 := [aU, aU, aU]) f92_35 rfl).trans ?_
        refine (x_iconst f92_35 rfl).trans ?_
        exact x_zreturn0 f92_36 rfl
      · refine (x_iload f92_21 rfl rfl).trans ?_
        refine (x_iload f92_22 rfl rfl).trans ?_
        refine (x_iadd f92_23 rfl).trans ?_
        refine (x_iload f92_24 rfl rfl).trans ?_
        refine (x_iadd f92_25 rfl).trans ?_
        refine (x_iconst f92_26 rfl).trans ?_
        refine (x_icmp_gt (tg := 35) f92_28 rfl rfl).trans (i_c ?_ ?_)
        · refine (x_kil (l2 := [aU, aU, aU]) f92_35 rfl).trans ?_
          refine (x_iconst f92_35 rfl).trans ?_
          exact x_zreturn0 f92_36 rfl
        · refine (x_iconst f92_31 rfl).trans ?_
          refine (x_goto (tg := 36) f92_32 rfl rfl).trans ?_
          refine (x_kil (l2 := [aU, aU, aU]) f92_36 rfl).trans ?_
          exact x_zreturn1 f92_36 rfl
theorem f93_0 : fch 93 0 = some (.iload 0, 1, []) := by decide +kernel
theorem f93_1 : fch 93 1 = some (.ifCond .lt 14, 4, []) := by decide +kernel
theorem f93_4 : fch 93 4 = some (.iload 0, 5, []) := by decide +kernel
theorem f93_5 : fch 93 5 = some (.iconst 12, 7, []) := by decide +kernel
theorem f93_7 : fch 93 7 = some (.if_icmp .gt 14, 10, []) := by decide +kernel
theorem f93_10 : fch 93 10 = some (.iconst 1, 11, []) := by decide +kernel
theorem f93_11 : fch 93 11 = some (.goto 15, 14, []) := by decide +kernel
theorem f93_14 : fch 93 14 = some (.iconst 0, 15, [0]) := by decide +kernel
theorem f93_15 : fch 93 15 = some (.ireturn, 16, [0]) := by decide +kernel
set_option maxRecDepth 10000 in
theorem e93_0 (l0 : Int) (s : SG) : sem 93 0 [aI l0] [] s = if l0 < 0 then some (aI 0, s) else if (12 : Int) < l0 then some (aI 0, s) else some (aI 1, s) := by
  refine (x_iload f93_0 rfl rfl).trans ?_
  refine (x_if_lt (tg := 14) f93_1 rfl rfl).trans (i_c ?_ ?_)
  · refine (x_kil (l2 := [aU]) f93_14 rfl).trans ?_
    refine (x_iconst f93_14 rfl).trans ?_
    exact x_zreturn0 f93_15 rfl
  · refine (x_iload f93_4 rfl rfl).trans ?_
    refine (x_iconst f93_5 rfl).trans ?_
    refine (x_icmp_gt (tg := 14) f93_7 rfl rfl).trans (i_c ?_ ?_)
    · refine (x_kil (l2 := [aU]) f93_14 rfl).trans ?_
      refine (x_iconst f93_14 rfl).trans ?_
      exact x_zreturn0 f93_15 rfl
    · refine (x_iconst f93_10 rfl).trans ?_
      refine (x_goto (tg := 15) f93_11 rfl rfl).trans ?_
      refine (x_kil (l2 := [aU]) f93_15 rfl).trans ?_
      exact x_zreturn1 f93_15 rfl
theorem f94_0 : fch 94 0 = some (.iload 0, 1, []) := by decide +kernel
theorem f94_1 : fch 94 1 = some (.iconst 13, 3, []) := by decide +kernel
theorem f94_3 : fch 94 3 = some (.imul, 4, []) := by decide +kernel
theorem f94_4 : fch 94 4 = some (.iload 1, 5, []) := by decide +kernel
theorem f94_5 : fch 94 5 = some (.iadd, 6, []) := by decide +kernel
theorem f94_6 : fch 94 6 = some (.iconst 13, 8, []) := by decide +kernel
theorem f94_8 : fch 94 8 = some (.imul, 9, []) := by decide +kernel
theorem f94_9 : fch 94 9 = some (.iload 2, 10, []) := by decide +kernel
theorem f94_10 : fch 94 10 = some (.iadd, 11, []) := by decide +kernel
theorem f94_11 : fch 94 11 = some (.istore 3, 12, []) := by decide +kernel
theorem f94_12 : fch 94 12 = some (.iload 3, 13, []) := by decide +kernel
theorem f94_13 : fch 94 13 = some (.ifCond .lt 27, 16, []) := by decide +kernel
theorem f94_16 : fch 94 16 = some (.iload 3, 17, []) := by decide +kernel
theorem f94_17 : fch 94 17 = some (.iconst 2197, 20, []) := by decide +kernel
theorem f94_20 : fch 94 20 = some (.if_icmp .ge 27, 23, []) := by decide +kernel
theorem f94_23 : fch 94 23 = some (.iload 3, 24, []) := by decide +kernel
theorem f94_24 : fch 94 24 = some (.goto 28, 27, []) := by decide +kernel
theorem f94_27 : fch 94 27 = some (.iconst 0, 28, [0, 1, 2, 3]) := by decide +kernel
theorem f94_28 : fch 94 28 = some (.ireturn, 29, [0, 1, 2, 3]) := by decide +kernel
set_option maxRecDepth 10000 in
theorem e94_0 (l0 l1 l2 : Int) (s : SG) : sem 94 0 [aI l0, aI l1, aI l2, aU] [] s = if (w32 ((w32 ((w32 ((w32 (l0 * 13)) + l1)) * 13)) + l2)) < 0 then some (aI 0, s) else if (w32 ((w32 ((w32 ((w32 (l0 * 13)) + l1)) * 13)) + l2)) < 2197 then some (aI (w32 ((w32 ((w32 ((w32 (l0 * 13)) + l1)) * 13)) + l2)), s) else some (aI 0, s) := by
  refine (x_iload f94_0 rfl rfl).trans ?_
  refine (x_iconst f94_1 rfl).trans ?_
  refine (x_imul f94_3 rfl).trans ?_
  refine (x_iload f94_4 rfl rfl).trans ?_
  refine (x_iadd f94_5 rfl).trans ?_
  refine (x_iconst f94_6 rfl).trans ?_
  refine (x_imul f94_8 rfl).trans ?_
  refine (x_iload f94_9 rfl rfl).trans ?_
  refine (x_iadd f94_10 rfl).trans ?_
  refine (x_istore (l2 := [aI l0, aI l1, aI l2, aI (w32 ((w32 ((w32 ((w32 (l0 * 13)) + l1)) * 13)) + l2))]) f94_11 rfl rfl).trans ?_
  refine (x_iload f94_12 rfl rfl).trans ?_
  refine (x_if_lt (tg := 27) f94_13 rfl rfl).trans (i_c ?_ ?_)
  · refine (x_kil (l2 := [aU, aU, aU, aU]) f94_27 rfl).trans ?_
    refine (x_iconst f94_27 rfl).trans ?_
    exact x_ireturn f94_28 rfl
  · refine (x_iload f94_16 rfl rfl).trans ?_
    refine (x_iconst f94_17 rfl).trans ?_
    refine (x_icmp_ge (tg := 27) f94_20 rfl rfl).trans (i_c ?_ ?_)
    · refine (x_iload f94_23 rfl rfl).trans ?_
      refine (x_goto (tg := 28) f94_24 rfl rfl).trans ?_
      refine (x_kil (l2 := [aU, aU, aU, aU]) f94_28 rfl).trans ?_
      exact x_ireturn f94_28 rfl
    · refine (x_kil (l2 := [aU, aU, aU, aU]) f94_27 rfl).trans ?_
      refine (x_iconst f94_27 rfl).trans ?_
      exact x_ireturn f94_28 rfl
theorem f95_0 : fch 95 0 = some (.aload 0, 1, []) := by decide +kernel
theorem f95_1 : fch 95 1 = some (.aload 1, 2, []) := by decide +kernel
theorem f95_2 : fch 95 2 = some (.iload 2, 3, []) := by decide +kernel
theorem f95_3 : fch 95 3 = some (.iload 4, 5, []) := by decide +kernel
theorem f95_5 : fch 95 5 = some (.invokevirtual 85, 8, []) := by decide +kernel
theorem f95_8 : fch 95 8 = some (.multianewarray 7 3, 11, []) := by decide +kernel
theorem f95_11 : fch 95 11 = some (.aload 0, 12, []) := by decide +kernel
theorem f95_12 : fch 95 12 = some (.aload 1, 13, []) := by decide +kernel
theorem f95_13 : fch 95 13 = some (.iload 3, 14, []) := by decide +kernel
theorem f95_14 : fch 95 14 = some (.iload 4, 16, []) := by decide +kernel
theorem f95_16 : fch 95 16 = some (.invokevirtual 85, 19, []) := by decide +kernel
theorem f95_19 : fch 95 19 = some (.multianewarray 7 4, 22, []) := by decide +kernel
theorem f95_22 : fch 95 22 = some (.aload 0, 23, []) := by decide +kernel
theorem f95_23 : fch 95 23 = some (.aload 1, 24, []) := by decide +kernel
theorem f95_24 : fch 95 24 = some (.iload 2, 25, []) := by decide +kernel
theorem f95_25 : fch 95 25 = some (.iload 4, 27, []) := by decide +kernel
theorem f95_27 : fch 95 27 = some (.invokevirtual 86, 30, []) := by decide +kernel
theorem f95_30 : fch 95 30 = some (.multianewarray 7 5, 33, []) := by decide +kernel
theorem f95_33 : fch 95 33 = some (.aload 0, 34, []) := by decide +kernel
theorem f95_34 : fch 95 34 = some (.aload 1, 35, []) := by decide +kernel
theorem f95_35 : fch 95 35 = some (.iload 3, 36, []) := by decide +kernel
theorem f95_36 : fch 95 36 = some (.iload 4, 38, []) := by decide +kernel
theorem f95_38 : fch 95 38 = some (.invokevirtual 86, 41, []) := by decide +kernel
theorem f95_41 : fch 95 41 = some (.multianewarray 7 6, 44, []) := by decide +kernel
theorem f95_44 : fch 95 44 = some (.return_, 45, []) := by decide +kernel
set_option maxRecDepth 10000 in
theorem e95_0 (l0 l1 l2 l3 l4 : Int) (s : SG) : sem 95 0 [aA l0, aA l1, aI l2, aI l3, aI l4] [] s = grd (kd l1 = 6) (bnI (sem 85 0 [aA l1, aI l2, aI l4, aU] [] s) fun a2 s1 => grd (kd l0 = 7) (grd (kd l1 = 6) (bnI (sem 85 0 [aA l1, aI l3, aI l4, aU] [] (up s1 l0 3 a2)) fun a4 s3 => grd (kd l0 = 7) (grd (kd l1 = 6) (bnI (sem 86 0 [aA l1, aI l2, aI l4, aU] [] (up s3 l0 4 a4)) fun a6 s5 => grd (kd l0 = 7) (grd (kd l1 = 6) (bnI (sem 86 0 [aA l1, aI l3, aI l4, aU] [] (up s5 l0 5 a6)) fun a8 s7 => grd (kd l0 = 7) (some (aU, up s7 l0 6 a8))))))))) := by
  refine (x_aload f95_0 rfl rfl).trans ?_
  refine (x_aload f95_1 rfl rfl).trans ?_
  refine (x_iload f95_2 rfl rfl).trans ?_
  refine (x_iload f95_3 rfl rfl).trans ?_
  refine (x_invokevirtual (G := grd (kd l1 = 6) (bnI (sem 85 0 [aA l1, aI l2, aI l4, aU] [] s) fun a2 s1 => sem 95 8 [aA l0, aA l1, aI l2, aI l3, aI l4] [aI a2, aA l0] s1)) f95_5 rfl rfl).trans ?_
  refine g_c ?_
  refine bI_c fun a2 s1 => ?_
  refine (x_put0 f95_8 rfl rfl).trans ?_
  refine g_c ?_
  refine (x_aload f95_11 rfl rfl).trans ?_
  refine (x_aload f95_12 rfl rfl).trans ?_
  refine (x_iload f95_13 rfl rfl).trans ?_
  refine (x_iload f95_14 rfl rfl).trans ?_
  refine (x_invokevirtual (G := grd (kd l1 = 6) (bnI (sem 85 0 [aA l1, aI l3, aI l4, aU] [] (up s1 l0 3 a2)) fun a4 s3 => sem 95 19 [aA l0, aA l1, aI l2, aI l3, aI l4] [aI a4, aA l0] s3)) f95_16 rfl rfl).trans ?_
  refine g_c ?_
  refine bI_c fun a4 s3 => ?_
  refine (x_put0 f95_19 rfl rfl).trans ?_
  refine g_c ?_
  refine (x_aload f95_22 rfl rfl).trans ?_
  refine (x_aload f95_23 rfl rfl).trans ?_
  refine (x_iload f95_24 rfl rfl).trans ?_
  refine (x_iload f95_25 rfl rfl).trans ?_
  refine (x_invokevirtual (G := grd (kd l1 = 6) (bnI (sem 86 0 [aA l1, aI l2, aI l4, aU] [] (up s3 l0 4 a4)) fun a6 s5 => sem 95 30 [aA l0, aA l1, aI l2, aI l3, aI l4] [aI a6, aA l0] s5)) f95_27 rfl rfl).trans ?_
  refine g_c ?_
  refine bI_c fun a6 s5 => ?_
  refine (x_put0 f95_30 rfl rfl).trans ?_
  refine g_c ?_
  refine (x_aload f95_33 rfl rfl).trans ?_
  refine (x_aload f95_34 rfl rfl).trans ?_
  refine (x_iload f95_35 rfl rfl).trans ?_
  refine (x_iload f95_36 rfl rfl).trans ?_
  refine (x_invokevirtual (G := grd (kd l1 = 6) (bnI (sem 86 0 [aA l1, aI l3, aI l4, aU] [] (up s5 l0 5 a6)) fun a8 s7 => sem 95 41 [aA l0, aA l1, aI l2, aI l3, aI l4] [aI a8, aA l0] s7)) f95_38 rfl rfl).trans ?_
  refine g_c ?_
  refine bI_c fun a8 s7 => ?_
  refine (x_put0 f95_41 rfl rfl).trans ?_
  refine g_c ?_
  exact x_return f95_44 rfl
theorem f96_0 : fch 96 0 = some (.aload 0, 1, []) := by decide +kernel
theorem f96_1 : fch 96 1 = some (.invokeinterface 7 2, 4, []) := by decide +kernel
theorem f96_4 : fch 96 4 = some (.lreturn, 5, []) := by decide +kernel
set_option maxRecDepth 10000 in
theorem e96_0 (l0 : Int) (s : SG) : sem 96 0 [aA l0] [] s = grd (kd l0 = 7) (some (aL (s l0 2), s)) := by
  refine (x_aload f96_0 rfl rfl).trans ?_
  refine (x_get1 f96_1 rfl rfl).trans ?_
  refine g_c ?_
  exact x_lreturn f96_4 rfl
theorem f97_0 : fch 97 0 = some (.aload 0, 1, []) := by decide +kernel
theorem f97_1 : fch 97 1 = some (.invokeinterface 7 0, 4, []) := by decide +kernel
theorem f97_4 : fch 97 4 = some (.sipush 0, 5, []) := by decide +kernel
theorem f97_5 : fch 97 5 = some (.invokestatic 223, 8, []) := by decide +kernel
theorem f97_8 : fch 97 8 = some (.aload 0, 9, []) := by decide +kernel
theorem f97_9 : fch 97 9 = some (.invokeinterface 7 1, 12, []) := by decide +kernel
theorem f97_12 : fch 97 12 = some (.sipush 0, 13, []) := by decide +kernel
theorem f97_13 : fch 97 13 = some (.invokestatic 223, 16, []) := by decide +kernel
theorem f97_16 : fch 97 16 = some (.aload 0, 17, []) := by decide +kernel
theorem f97_17 : fch 97 17 = some (.sipush 1, 18, []) := by decide +kernel
theorem f97_18 : fch 97 18 = some (.multianewarray 7 2, 21, []) := by decide +kernel
theorem f97_21 : fch 97 21 = some (.iconst 1, 22, []) := by decide +kernel
theorem f97_22 : fch 97 22 = some (.istore 4, 24, []) := by decide +kernel
theorem f97_24 : fch 97 24 = some (.iload 4, 26, []) := by decide +kernel
theorem f97_26 : fch 97 26 = some (.iload 3, 27, []) := by decide +kernel
theorem f97_27 : fch 97 27 = some (.if_icmp .gt 70, 30, []) := by decide +kernel
theorem f97_30 : fch 97 30 = some (.iload 4, 32, []) := by decide +kernel
theorem f97_32 : fch 97 32 = some (.iconst 1, 33, []) := by decide +kernel
theorem f97_33 : fch 97 33 = some (.if_icmp .le 44, 36, []) := by decide +kernel
theorem f97_36 : fch 97 36 = some (.aload 0, 37, []) := by decide +kernel
theorem f97_37 : fch 97 37 = some (.iload 1, 38, []) := by decide +kernel
theorem f97_38 : fch 97 38 = some (.iload 2, 39, []) := by decide +kernel
theorem f97_39 : fch 97 39 = some (.iadd, 40, []) := by decide +kernel
theorem f97_40 : fch 97 40 = some (.iload 2, 41, []) := by decide +kernel
theorem f97_41 : fch 97 41 = some (.invokevirtual 98, 44, []) := by decide +kernel
theorem f97_44 : fch 97 44 = some (.aload 0, 45, []) := by decide +kernel
theorem f97_45 : fch 97 45 = some (.iload 1, 46, []) := by decide +kernel
theorem f97_46 : fch 97 46 = some (.iload 2, 47, []) := by decide +kernel
theorem f97_47 : fch 97 47 = some (.iadd, 48, []) := by decide +kernel
theorem f97_48 : fch 97 48 = some (.iload 2, 49, []) := by decide +kernel
theorem f97_49 : fch 97 49 = some (.invokevirtual 99, 52, []) := by decide +kernel
theorem f97_52 : fch 97 52 = some (.aload 0, 53, []) := by decide +kernel
theorem f97_53 : fch 97 53 = some (.dup, 54, []) := by decide +kernel
theorem f97_54 : fch 97 54 = some (.invokeinterface 7 2, 57, []) := by decide +kernel
theorem f97_57 : fch 97 57 = some (.sipush 100, 60, []) := by decide +kernel
theorem f97_60 : fch 97 60 = some (.lmul, 61, []) := by decide +kernel
theorem f97_61 : fch 97 61 = some (.multianewarray 7 2, 64, []) := by decide +kernel
theorem f97_64 : fch 97 64 = some (.iinc 4 1, 67, []) := by decide +kernel
theorem f97_67 : fch 97 67 = some (.goto 24, 70, []) := by decide +kernel
theorem f97_70 : fch 97 70 = some (.return_, 71, []) := by decide +kernel
set_option maxRecDepth 10000 in
theorem e97_0 (l0 l1 l2 l3 : Int) (s : SG) : sem 97 0 [aA l0, aI l1, aI l2, aI l3, aU] [] s = grd (kd l0 = 7) (grd (0 ≤ s l0 0) (bnV (sem 223 0 [aA (s l0 0), aL 0, aU, aU, aU] [] s) fun s1 => grd (kd l0 = 7) (grd (0 ≤ s1 l0 1) (bnV (sem 223 0 [aA (s1 l0 1), aL 0, aU, aU, aU] [] s1) fun s2 => grd (kd l0 = 7) (sem 97 24 [aA l0, aI l1, aI l2, aI l3, aI 1] [] (up s2 l0 2 1)))))) := by
  refine (x_aload f97_0 rfl rfl).trans ?_
  refine (x_get2 f97_1 rfl rfl).trans ?_
  refine g_c ?_
  refine g_c ?_
  refine (x_lconst f97_4 rfl).trans ?_
  refine (x_invokestatic (G := bnV (sem 223 0 [aA (s l0 0), aL 0, aU, aU, aU] [] s) fun s1 => sem 97 8 [aA l0, aI l1, aI l2, aI l3, aU] [] s1) f97_5 rfl rfl).trans ?_
  refine bV_c fun s1 => ?_
  refine (x_aload f97_8 rfl rfl).trans ?_
  refine (x_get2 f97_9 rfl rfl).trans ?_
  refine g_c ?_
  refine g_c ?_
  refine (x_lconst f97_12 rfl).trans ?_
  refine (x_invokestatic (G := bnV (sem 223 0 [aA (s1 l0 1), aL 0, aU, aU, aU] [] s1) fun s2 => sem 97 16 [aA l0, aI l1, aI l2, aI l3, aU] [] s2) f97_13 rfl rfl).trans ?_
  refine bV_c fun s2 => ?_
  refine (x_aload f97_16 rfl rfl).trans ?_
  refine (x_lconst f97_17 rfl).trans ?_
  refine (x_put1 f97_18 rfl rfl).trans ?_
  refine g_c ?_
  refine (x_iconst f97_21 rfl).trans ?_
  refine (x_istore (l2 := [aA l0, aI l1, aI l2, aI l3, aI 1]) f97_22 rfl rfl).trans ?_
  rfl
set_option maxRecDepth 10000 in
theorem e97_24 (l0 l1 l2 l3 l4 : Int) (s : SG) : sem 97 24 [aA l0, aI l1, aI l2, aI l3, aI l4] [] s = if l3 < l4 then some (aU, s) else if (1 : Int) < l4 then grd (kd l0 = 7) (bnV (sem 98 0 [aA l0, aI (w32 (l1 + l2)), aI l2, aU, aU, aU] [] s) fun s1 => grd (kd l0 = 7) (bnV (sem 99 0 [aA l0, aI (w32 (l1 + l2)), aI l2, aU, aU, aU] [] s1) fun s2 => grd (kd l0 = 7) (grd (kd l0 = 7) (sem 97 24 [aA l0, aI l1, aI l2, aI l3, aI (w32 (l4 + 1))] [] (up s2 l0 2 (w64 ((s2 l0 2) * 100))))))) else grd (kd l0 = 7) (bnV (sem 99 0 [aA l0, aI (w32 (l1 + l2)), aI l2, aU, aU, aU] [] s) fun s3 => grd (kd l0 = 7) (grd (kd l0 = 7) (sem 97 24 [aA l0, aI l1, aI l2, aI l3, aI (w32 (l4 + 1))] [] (up s3 l0 2 (w64 ((s3 l0 2) * 100)))))) := by
  refine (x_iload f97_24 rfl rfl).trans ?_
  refine (x_iload f97_26 rfl rfl).trans ?_
  refine (x_icmp_gt (tg := 70) f97_27 rfl rfl).trans (i_c ?_ ?_)
  · exact x_return f97_70 rfl
  · refine (x_iload f97_30 rfl rfl).trans ?_
    refine (x_iconst f97_32 rfl).trans ?_
    refine (x_icmp_le (tg := 44) f97_33 rfl rfl).trans (i_c ?_ ?_)
    · refine (x_aload f97_36 rfl rfl).trans ?_
      refine (x_iload f97_37 rfl rfl).trans ?_
      refine (x_iload f97_38 rfl rfl).trans ?_
      refine (x_iadd f97_39 rfl).trans ?_
      refine (x_iload f97_40 rfl rfl).trans ?_
      refine (x_invokevirtual (G := grd (kd l0 = 7) (bnV (sem 98 0 [aA l0, aI (w32 (l1 + l2)), aI l2, aU, aU, aU] [] s) fun s1 => sem 97 44 [aA l0, aI l1, aI l2, aI l3, aI l4] [] s1)) f97_41 rfl rfl).trans ?_
      refine g_c ?_
      refine bV_c fun s1 => ?_
      refine (x_aload f97_44 rfl rfl).trans ?_
      refine (x_iload f97_45 rfl rfl).trans ?_
      refine (x_iload f97_46 rfl rfl).trans ?_
      refine (x_iadd f97_47 rfl).trans ?_
      refine (x_iload f97_48 rfl rfl).trans ?_
      refine (x_invokevirtual (G := grd (kd l0 = 7) (bnV (sem 99 0 [aA l0, aI (w32 (l1 + l2)), aI l2, aU, aU, aU] [] s1) fun s2 => sem 97 52 [aA l0, aI l1, aI l2, aI l3, aI l4] [] s2)) f97_49 rfl rfl).trans ?_
      refine g_c ?_
      refine bV_c fun s2 => ?_
      refine (x_aload f97_52 rfl rfl).trans ?_
      refine (x_dup f97_53 rfl rfl).trans ?_
      refine (x_get1 f97_54 rfl rfl).trans ?_
      refine g_c ?_
      refine (x_lconst f97_57 rfl).trans ?_
      refine (x_lmul f97_60 rfl).trans ?_
      refine (x_put1 f97_61 rfl rfl).trans ?_
      refine g_c ?_
      refine (x_iinc (l2 := [aA l0, aI l1, aI l2, aI l3, aI (w32 (l4 + 1))]) f97_64 rfl rfl rfl).trans ?_
      refine (x_goto (tg := 24) f97_67 rfl rfl).trans ?_
      rfl
    · refine (x_aload f97_44 rfl rfl).trans ?_
      refine (x_iload f97_45 rfl rfl).trans ?_
      refine (x_iload f97_46 rfl rfl).trans ?_
      refine (x_iadd f97_47 rfl).trans ?_
      refine (x_iload f97_48 rfl rfl).trans ?_
      refine (x_invokevirtual (G := grd (kd l0 = 7) (bnV (sem 99 0 [aA l0, aI (w32 (l1 + l2)), aI l2, aU, aU, aU] [] s) fun s3 => sem 97 52 [aA l0, aI l1, aI l2, aI l3, aI l4] [] s3)) f97_49 rfl rfl).trans ?_
      refine g_c ?_
      refine bV_c fun s3 => ?_
      refine (x_aload f97_52 rfl rfl).trans ?_
      refine (x_dup f97_53 rfl rfl).trans ?_
      refine (x_get1 f97_54 rfl rfl).trans ?_
      refine g_c ?_
      refine (x_lconst f97_57 rfl).trans ?_
      refine (x_lmul f97_60 rfl).trans ?_
      refine (x_put1 f97_61 rfl rfl).trans ?_
      refine g_c ?_
      refine (x_iinc (l2 := [aA l0, aI l1, aI l2, aI l3, aI (w32 (l4 + 1))]) f97_64 rfl rfl rfl).trans ?_
      refine (x_goto (tg := 24) f97_67 rfl rfl).trans ?_
      rfl
theorem f98_0 : fch 98 0 = some (.iconst 0, 1, []) := by decide +kernel
theorem f98_1 : fch 98 1 = some (.istore 3, 2, []) := by decide +kernel
theorem f98_2 : fch 98 2 = some (.iload 3, 3, [4, 5]) := by decide +kernel
theorem f98_3 : fch 98 3 = some (.iload 1, 4, []) := by decide +kernel
theorem f98_4 : fch 98 4 = some (.if_icmp .gt 78, 7, []) := by decide +kernel
theorem f98_7 : fch 98 7 = some (.iconst 0, 8, []) := by decide +kernel
theorem f98_8 : fch 98 8 = some (.istore 4, 10, []) := by decide +kernel
theorem f98_10 : fch 98 10 = some (.iload 3, 11, [5]) := by decide +kernel
theorem f98_11 : fch 98 11 = some (.iload 4, 13, []) := by decide +kernel
theorem f98_13 : fch 98 13 = some (.iadd, 14, []) := by decide +kernel
theorem f98_14 : fch 98 14 = some (.iload 1, 15, []) := by decide +kernel
theorem f98_15 : fch 98 15 = some (.if_icmp .gt 72, 18, []) := by decide +kernel
theorem f98_18 : fch 98 18 = some (.iconst 0, 19, []) := by decide +kernel
theorem f98_19 : fch 98 19 = some (.istore 5, 21, []) := by decide +kernel
theorem f98_21 : fch 98 21 = some (.iload 5, 23, []) := by decide +kernel
theorem f98_23 : fch 98 23 = some (.iload 2, 24, []) := by decide +kernel
theorem f98_24 : fch 98 24 = some (.if_icmp .gt 66, 27, []) := by decide +kernel
theorem f98_27 : fch 98 27 = some (.iload 3, 28, []) := by decide +kernel
theorem f98_28 : fch 98 28 = some (.iload 4, 30, []) := by decide +kernel
theorem f98_30 : fch 98 30 = some (.iadd, 31, []) := by decide +kernel
theorem f98_31 : fch 98 31 = some (.iload 5, 33, []) := by decide +kernel
theorem f98_33 : fch 98 33 = some (.iadd, 34, []) := by decide +kernel
theorem f98_34 : fch 98 34 = some (.iload 1, 35, []) := by decide +kernel
theorem f98_35 : fch 98 35 = some (.if_icmp .gt 66, 38, []) := by decide +kernel
theorem f98_38 : fch 98 38 = some (.aload 0, 39, []) := by decide +kernel
theorem f98_39 : fch 98 39 = some (.invokeinterface 7 0, 42, []) := by decide +kernel
theorem f98_42 : fch 98 42 = some (.iload 3, 43, []) := by decide +kernel
theorem f98_43 : fch 98 43 = some (.iload 4, 45, []) := by decide +kernel
theorem f98_45 : fch 98 45 = some (.iload 5, 47, []) := by decide +kernel
theorem f98_47 : fch 98 47 = some (.invokestatic 94, 50, []) := by decide +kernel
theorem f98_50 : fch 98 50 = some (.aload 0, 51, []) := by decide +kernel
theorem f98_51 : fch 98 51 = some (.iload 3, 52, []) := by decide +kernel
theorem f98_52 : fch 98 52 = some (.iload 4, 54, []) := by decide +kernel
theorem f98_54 : fch 98 54 = some (.iload 5, 56, []) := by decide +kernel
theorem f98_56 : fch 98 56 = some (.invokevirtual 101, 59, []) := by decide +kernel
theorem f98_59 : fch 98 59 = some (.lastore, 60, []) := by decide +kernel
theorem f98_60 : fch 98 60 = some (.iinc 5 1, 63, []) := by decide +kernel
theorem f98_63 : fch 98 63 = some (.goto 21, 66, []) := by decide +kernel
theorem f98_66 : fch 98 66 = some (.iinc 4 1, 69, [5]) := by decide +kernel
theorem f98_69 : fch 98 69 = some (.goto 10, 72, []) := by decide +kernel
theorem f98_72 : fch 98 72 = some (.iinc 3 1, 75, []) := by decide +kernel
theorem f98_75 : fch 98 75 = some (.goto 2, 78, []) := by decide +kernel
theorem f98_78 : fch 98 78 = some (.return_, 79, []) := by decide +kernel
set_option maxRecDepth 10000 in
theorem e98_0 (l0 l1 l2 : Int) (s : SG) : sem 98 0 [aA l0, aI l1, aI l2, aU, aU, aU] [] s = sem 98 2 [aA l0, aI l1, aI l2, aI 0, aU, aU] [] s := by
  refine (x_iconst f98_0 rfl).trans ?_
  refine (x_istore (l2 := [aA l0, aI l1, aI l2, aI 0, aU, aU]) f98_1 rfl rfl).trans ?_
  rfl
set_option maxRecDepth 10000 in
theorem e98_2 (l0 l1 l2 l3 : Int) (s : SG) : sem 98 2 [aA l0, aI l1, aI l2, aI l3, aU, aU] [] s = if l1 < l3 then some (aU, s) else sem 98 10 [aA l0, aI l1, aI l2, aI l3, aI 0, aU] [] s := by
  refine (x_iload f98_2 rfl rfl).trans ?_
  refine (x_iload f98_3 rfl rfl).trans ?_
  refine (x_icmp_gt (tg := 78) f98_4 rfl rfl).trans (i_c ?_ ?_)
  · exact x_return f98_78 rfl
  · refine (x_iconst f98_7 rfl).trans ?_
    refine (x_istore (l2 := [aA l0, aI l1, aI l2, aI l3, aI 0, aU]) f98_8 rfl rfl).trans ?_
    rfl
set_option maxRecDepth 10000 in
theorem e98_10 (l0 l1 l2 l3 l4 : Int) (s : SG) : sem 98 10 [aA l0, aI l1, aI l2, aI l3, aI l4, aU] [] s = if l1 < (w32 (l3 + l4)) then sem 98 2 [aA l0, aI l1, aI l2, aI (w32 (l3 + 1)), aU, aU] [] s else sem 98 21 [aA l0, aI l1, aI l2, aI l3, aI l4, aI 0] [] s := by
  refine (x_iload f98_10 rfl rfl).trans ?_
  refine (x_iload f98_11 rfl rfl).trans ?_
  refine (x_iadd f98_13 rfl).trans ?_
  refine (x_iload f98_14 rfl rfl).trans ?_
  refine (x_icmp_gt (tg := 72) f98_15 rfl rfl).trans (i_c ?_ ?_)
  · refine (x_iinc (l2 := [aA l0, aI l1, aI l2, aI (w32 (l3 + 1)), aI l4, aU]) f98_72 rfl rfl rfl).trans ?_
    refine (x_goto (tg := 2) f98_75 rfl rfl).trans ?_
    exact x_kil f98_2 rfl
  · refine (x_iconst f98_18 rfl).trans ?_
    refine (x_istore (l2 := [aA l0, aI l1, aI l2, aI l3, aI l4, aI 0]) f98_19 rfl rfl).trans ?_
    rfl
set_option maxRecDepth 10000 in
theorem e98_21 (l0 l1 l2 l3 l4 l5 : Int) (s : SG) : sem 98 21 [aA l0, aI l1, aI l2, aI l3, aI l4, aI l5] [] s = if l2 < l5 then sem 98 10 [aA l0, aI l1, aI l2, aI l3, aI (w32 (l4 + 1)), aU] [] s else if l1 < (w32 ((w32 (l3 + l4)) + l5)) then sem 98 10 [aA l0, aI l1, aI l2, aI l3, aI (w32 (l4 + 1)), aU] [] s else grd (kd l0 = 7) (grd (0 ≤ s l0 0) (bnI (sem 94 0 [aI l3, aI l4, aI l5, aU] [] s) fun a2 s1 => grd (kd l0 = 7) (bnL (sem 101 0 [aA l0, aI l3, aI l4, aI l5, aU, aU, aU] [] s1) fun a4 s3 => grd (kd (s l0 0) = 103) (grd ((0 : Int) ≤ a2 ∧ a2 < kl (s l0 0)) (sem 98 21 [aA l0, aI l1, aI l2, aI l3, aI l4, aI (w32 (l5 + 1))] [] (up s3 (s l0 0) a2 a4)))))) := by
  refine (x_iload f98_21 rfl rfl).trans ?_
  refine (x_iload f98_23 rfl rfl).trans ?_
  refine (x_icmp_gt (tg := 66) f98_24 rfl rfl).trans (i_c ?_ ?_)
  · refine (x_kil (l2 := [aA l0, aI l1, aI l2, aI l3, aI l4, aU]) f98_66 rfl).trans ?_
    refine (x_iinc (l2 := [aA l0, aI l1, aI l2, aI l3, aI (w32 (l4 + 1)), aU]) f98_66 rfl rfl rfl).trans ?_
    refine (x_goto (tg := 10) f98_69 rfl rfl).trans ?_
    rfl
  · refine (x_iload f98_27 rfl rfl).trans ?_
    refine (x_iload f98_28 rfl rfl).trans ?_
    refine (x_iadd f98_30 rfl).trans ?_
    refine (x_iload f98_31 rfl rfl).trans ?_
    refine (x_iadd f98_33 rfl).trans ?_
    refine (x_iload f98_34 rfl rfl).trans ?_
    refine (x_icmp_gt (tg := 66) f98_35 rfl rfl).trans (i_c ?_ ?_)
    · refine (x_kil (l2 := [aA l0, aI l1, aI l2, aI l3, aI l4, aU]) f98_66 rfl).trans ?_
      refine (x_iinc (l2 := [aA l0, aI l1, aI l2, aI l3, aI (w32 (l4 + 1)), aU]) f98_66 rfl rfl rfl).trans ?_
      refine (x_goto (tg := 10) f98_69 rfl rfl).trans ?_
      rfl
    · refine (x_aload f98_38 rfl rfl).trans ?_
      refine (x_get2 f98_39 rfl rfl).trans ?_
      refine g_c ?_
      refine g_c ?_
      refine (x_iload f98_42 rfl rfl).trans ?_
      refine (x_iload f98_43 rfl rfl).trans ?_
      refine (x_iload f98_45 rfl rfl).trans ?_
      refine (x_invokestatic (G := bnI (sem 94 0 [aI l3, aI l4, aI l5, aU] [] s) fun a2 s1 => sem 98 50 [aA l0, aI l1, aI l2, aI l3, aI l4, aI l5] [aI a2, aA (s l0 0)] s1) f98_47 rfl rfl).trans ?_
      refine bI_c fun a2 s1 => ?_
      refine (x_aload f98_50 rfl rfl).trans ?_
      refine (x_iload f98_51 rfl rfl).trans ?_
      refine (x_iload f98_52 rfl rfl).trans ?_
      refine (x_iload f98_54 rfl rfl).trans ?_
      refine (x_invokevirtual (G := grd (kd l0 = 7) (bnL (sem 101 0 [aA l0, aI l3, aI l4, aI l5, aU, aU, aU] [] s1) fun a4 s3 => sem 98 59 [aA l0, aI l1, aI l2, aI l3, aI l4, aI l5] [aL a4, aI a2, aA (s l0 0)] s3)) f98_56 rfl rfl).trans ?_
      refine g_c ?_
      refine bL_c fun a4 s3 => ?_
      refine (x_lastore f98_59 rfl).trans ?_
      refine g_c ?_
      refine g_c ?_
      refine (x_iinc (l2 := [aA l0, aI l1, aI l2, aI l3, aI l4, aI (w32 (l5 + 1))]) f98_60 rfl rfl rfl).trans ?_
      refine (x_goto (tg := 21) f98_63 rfl rfl).trans ?_
      rfl
theorem f99_0 : fch 99 0 = some (.iconst 0, 1, []) := by decide +kernel
theorem f99_1 : fch 99 1 = some (.istore 3, 2, []) := by decide +kernel
theorem f99_2 : fch 99 2 = some (.iload 3, 3, [4, 5]) := by decide +kernel
theorem f99_3 : fch 99 3 = some (.iload 1, 4, []) := by decide +kernel
theorem f99_4 : fch 99 4 = some (.if_icmp .gt 78, 7, []) := by decide +kernel
theorem f99_7 : fch 99 7 = some (.iconst 0, 8, []) := by decide +kernel
theorem f99_8 : fch 99 8 = some (.istore 4, 10, []) := by decide +kernel
theorem f99_10 : fch 99 10 = some (.iload 3, 11, [5]) := by decide +kernel
theorem f99_11 : fch 99 11 = some (.iload 4, 13, []) := by decide +kernel
theorem f99_13 : fch 99 13 = some (.iadd, 14, []) := by decide +kernel
theorem f99_14 : fch 99 14 = some (.iload 1, 15, []) := by decide +kernel
theorem f99_15 : fch 99 15 = some (.if_icmp .gt 72, 18, []) := by decide +kernel
theorem f99_18 : fch 99 18 = some (.iconst 0, 19, []) := by decide +kernel
theorem f99_19 : fch 99 19 = some (.istore 5, 21, []) := by decide +kernel
theorem f99_21 : fch 99 21 = some (.iload 5, 23, []) := by decide +kernel
theorem f99_23 : fch 99 23 = some (.iload 2, 24, []) := by decide +kernel
theorem f99_24 : fch 99 24 = some (.if_icmp .gt 66, 27, []) := by decide +kernel
theorem f99_27 : fch 99 27 = some (.iload 3, 28, []) := by decide +kernel
theorem f99_28 : fch 99 28 = some (.iload 4, 30, []) := by decide +kernel
theorem f99_30 : fch 99 30 = some (.iadd, 31, []) := by decide +kernel
theorem f99_31 : fch 99 31 = some (.iload 5, 33, []) := by decide +kernel
theorem f99_33 : fch 99 33 = some (.iadd, 34, []) := by decide +kernel
theorem f99_34 : fch 99 34 = some (.iload 1, 35, []) := by decide +kernel
theorem f99_35 : fch 99 35 = some (.if_icmp .gt 66, 38, []) := by decide +kernel
theorem f99_38 : fch 99 38 = some (.aload 0, 39, []) := by decide +kernel
theorem f99_39 : fch 99 39 = some (.invokeinterface 7 1, 42, []) := by decide +kernel
theorem f99_42 : fch 99 42 = some (.iload 3, 43, []) := by decide +kernel
theorem f99_43 : fch 99 43 = some (.iload 4, 45, []) := by decide +kernel
theorem f99_45 : fch 99 45 = some (.iload 5, 47, []) := by decide +kernel
theorem f99_47 : fch 99 47 = some (.invokestatic 94, 50, []) := by decide +kernel
theorem f99_50 : fch 99 50 = some (.aload 0, 51, []) := by decide +kernel
theorem f99_51 : fch 99 51 = some (.iload 3, 52, []) := by decide +kernel
theorem f99_52 : fch 99 52 = some (.iload 4, 54, []) := by decide +kernel
theorem f99_54 : fch 99 54 = some (.iload 5, 56, []) := by decide +kernel
theorem f99_56 : fch 99 56 = some (.invokevirtual 100, 59, []) := by decide +kernel
theorem f99_59 : fch 99 59 = some (.lastore, 60, []) := by decide +kernel
theorem f99_60 : fch 99 60 = some (.iinc 5 1, 63, []) := by decide +kernel
theorem f99_63 : fch 99 63 = some (.goto 21, 66, []) := by decide +kernel
theorem f99_66 : fch 99 66 = some (.iinc 4 1, 69, [5]) := by decide +kernel
theorem f99_69 : fch 99 69 = some (.goto 10, 72, []) := by decide +kernel
theorem f99_72 : fch 99 72 = some (.iinc 3 1, 75, []) := by decide +kernel
theorem f99_75 : fch 99 75 = some (.goto 2, 78, []) := by decide +kernel
theorem f99_78 : fch 99 78 = some (.return_, 79, []) := by decide +kernel
set_option maxRecDepth 10000 in
theorem e99_0 (l0 l1 l2 : Int) (s : SG) : sem 99 0 [aA l0, aI l1, aI l2, aU, aU, aU] [] s = sem 99 2 [aA l0, aI l1, aI l2, aI 0, aU, aU] [] s := by
  refine (x_iconst f99_0 rfl).trans ?_
  refine (x_istore (l2 := [aA l0, aI l1, aI l2, aI 0, aU, aU]) f99_1 rfl rfl).trans ?_
  rfl
set_option maxRecDepth 10000 in
theorem e99_2 (l0 l1 l2 l3 : Int) (s : SG) : sem 99 2 [aA l0, aI l1, aI l2, aI l3, aU, aU] [] s = if l1 < l3 then some (aU, s) else sem 99 10 [aA l0, aI l1, aI l2, aI l3, aI 0, aU] [] s := by
  refine (x_iload f99_2 rfl rfl).trans ?_
  refine (x_iload f99_3 rfl rfl).trans ?_
  refine (x_icmp_gt (tg := 78) f99_4 rfl rfl).trans (i_c ?_ ?_)
  · exact x_return f99_78 rfl
  · refine (x_iconst f99_7 rfl).trans ?_
    refine (x_istore (l2 := [aA l0, aI l1, aI l2, aI l3, aI 0, aU]) f99_8 rfl rfl).trans ?_
    rfl
set_option maxRecDepth 10000 in
theorem e99_10 (l0 l1 l2 l3 l4 : Int) (s : SG) : sem 99 10 [aA l0, aI l1, aI l2, aI l3, aI l4, aU] [] s = if l1 < (w32 (l3 + l4)) then sem 99 2 [aA l0, aI l1, aI l2, aI (w32 (l3 + 1)), aU, aU] [] s else sem 99 21 [aA l0, aI l1, aI l2, aI l3, aI l4, aI 0] [] s := by
  refine (x_iload f99_10 rfl rfl).trans ?_
  refine (x_iload f99_11 rfl rfl).trans ?_
  refine (x_iadd f99_13 rfl).trans ?_
  refine (x_iload f99_14 rfl rfl).trans ?_
  refine (x_icmp_gt (tg := 72) f99_15 rfl rfl).trans (i_c ?_ ?_)
  · refine (x_iinc (l2 := [aA l0, aI l1, aI l2, aI (w32 (l3 + 1)), aI l4, aU]) f99_72 rfl rfl rfl).trans ?_
    refine (x_goto (tg := 2) f99_75 rfl rfl).trans ?_
    exact x_kil f99_2 rfl
  · refine (x_iconst f99_18 rfl).trans ?_
    refine (x_istore (l2 := [aA l0, aI l1, aI l2, aI l3, aI l4, aI 0]) f99_19 rfl rfl).trans ?_
    rfl
set_option maxRecDepth 10000 in
theorem e99_21 (l0 l1 l2 l3 l4 l5 : Int) (s : SG) : sem 99 21 [aA l0, aI l1, aI l2, aI l3, aI l4, aI l5] [] s = if l2 < l5 then sem 99 10 [aA l0, aI l1, aI l2, aI l3, aI (w32 (l4 + 1)), aU] [] s else if l1 < (w32 ((w32 (l3 + l4)) + l5)) then sem 99 10 [aA l0, aI l1, aI l2, aI l3, aI (w32 (l4 + 1)), aU] [] s else grd (kd l0 = 7) (grd (0 ≤ s l0 1) (bnI (sem 94 0 [aI l3, aI l4, aI l5, aU] [] s) fun a2 s1 => grd (kd l0 = 7) (bnL (sem 100 0 [aA l0, aI l3, aI l4, aI l5, aU, aU, aU, aU, aU, aU, aU, aU, aU] [] s1) fun a4 s3 => grd (kd (s l0 1) = 103) (grd ((0 : Int) ≤ a2 ∧ a2 < kl (s l0 1)) (sem 99 21 [aA l0, aI l1, aI l2, aI l3, aI l4, aI (w32 (l5 + 1))] [] (up s3 (s l0 1) a2 a4)))))) := by
  refine (x_iload f99_21 rfl rfl).trans ?_
  refine (x_iload f99_23 rfl rfl).trans ?_
  refine (x_icmp_gt (tg := 66) f99_24 rfl rfl).trans (i_c ?_ ?_)
  · refine (x_kil (l2 := [aA l0, aI l1, aI l2, aI l3, aI l4, aU]) f99_66 rfl).trans ?_
    refine (x_iinc (l2 := [aA l0, aI l1, aI l2, aI l3, aI (w32 (l4 + 1)), aU]) f99_66 rfl rfl rfl).trans ?_
    refine (x_goto (tg := 10) f99_69 rfl rfl).trans ?_
    rfl
  · refine (x_iload f99_27 rfl rfl).trans ?_
    refine (x_iload f99_28 rfl rfl).trans ?_
    refine (x_iadd f99_30 rfl).trans ?_
    refine (x_iload f99_31 rfl rfl).trans ?_
    refine (x_iadd f99_33 rfl).trans ?_
    refine (x_iload f99_34 rfl rfl).trans ?_
    refine (x_icmp_gt (tg := 66) f99_35 rfl rfl).trans (i_c ?_ ?_)
    · refine (x_kil (l2 := [aA l0, aI l1, aI l2, aI l3, aI l4, aU]) f99_66 rfl).trans ?_
      refine (x_iinc (l2 := [aA l0, aI l1, aI l2, aI l3, aI (w32 (l4 + 1)), aU]) f99_66 rfl rfl rfl).trans ?_
      refine (x_goto (tg := 10) f99_69 rfl rfl).trans ?_
      rfl
    · refine (x_aload f99_38 rfl rfl).trans ?_
      refine (x_get2 f99_39 rfl rfl).trans ?_
      refine g_c ?_
      refine g_c ?_
      refine (x_iload f99_42 rfl rfl).trans ?_
      refine (x_iload f99_43 rfl rfl).trans ?_
      refine (x_iload f99_45 rfl rfl).trans ?_
      refine (x_invokestatic (G := bnI (sem 94 0 [aI l3, aI l4, aI l5, aU] [] s) fun a2 s1 => sem 99 50 [aA l0, aI l1, aI l2, aI l3, aI l4, aI l5] [aI a2, aA (s l0 1)] s1) f99_47 rfl rfl).trans ?_
      refine bI_c fun a2 s1 => ?_
      refine (x_aload f99_50 rfl rfl).trans ?_
      refine (x_iload f99_51 rfl rfl).trans ?_
      refine (x_iload f99_52 rfl rfl).trans ?_
      refine (x_iload f99_54 rfl rfl).trans ?_
      refine (x_invokevirtual (G := grd (kd l0 = 7) (bnL (sem 100 0 [aA l0, aI l3, aI l4, aI l5, aU, aU, aU, aU, aU, aU, aU, aU, aU] [] s1) fun a4 s3 => sem 99 59 [aA l0, aI l1, aI l2, aI l3, aI l4, aI l5] [aL a4, aI a2, aA (s l0 1)] s3)) f99_56 rfl rfl).trans ?_
      refine g_c ?_
      refine bL_c fun a4 s3 => ?_
      refine (x_lastore f99_59 rfl).trans ?_
      refine g_c ?_
      refine g_c ?_
      refine (x_iinc (l2 := [aA l0, aI l1, aI l2, aI l3, aI l4, aI (w32 (l5 + 1))]) f99_60 rfl rfl rfl).trans ?_
      refine (x_goto (tg := 21) f99_63 rfl rfl).trans ?_
      rfl
theorem f100_0 : fch 100 0 = some (.sipush 0, 1, []) := by decide +kernel
theorem f100_1 : fch 100 1 = some (.lstore 4, 3, []) := by decide +kernel
theorem f100_3 : fch 100 3 = some (.iconst 0, 4, []) := by decide +kernel
theorem f100_4 : fch 100 4 = some (.istore 6, 6, []) := by decide +kernel
theorem f100_6 : fch 100 6 = some (.iload 6, 8, [7, 8, 9, 10, 11]) := by decide +kernel
theorem f100_8 : fch 100 8 = some (.iconst 1, 9, []) := by decide +kernel
theorem f100_9 : fch 100 9 = some (.if_icmp .gt 144, 12, []) := by decide +kernel
theorem f100_12 : fch 100 12 = some (.iconst 0, 13, []) := by decide +kernel
theorem f100_13 : fch 100 13 = some (.istore 7, 15, []) := by decide +kernel
theorem f100_15 : fch 100 15 = some (.iload 7, 17, [8, 9, 10, 11]) := by decide +kernel
theorem f100_17 : fch 100 17 = some (.iconst 1, 18, []) := by decide +kernel
theorem f100_18 : fch 100 18 = some (.if_icmp .gt 138, 21, []) := by decide +kernel
theorem f100_21 : fch 100 21 = some (.iload 6, 23, []) := by decide +kernel
theorem f100_23 : fch 100 23 = some (.iconst 1, 24, []) := by decide +kernel
theorem f100_24 : fch 100 24 = some (.if_icmp .ne 34, 27, []) := by decide +kernel
theorem f100_27 : fch 100 27 = some (.aload 0, 28, []) := by decide +kernel
theorem f100_28 : fch 100 28 = some (.invokeinterface 7 5, 31, []) := by decide +kernel
theorem f100_31 : fch 100 31 = some (.goto 41, 34, []) := by decide +kernel
theorem f100_34 : fch 100 34 = some (.iconst 10, 36, []) := by decide +kernel
theorem f100_36 : fch 100 36 = some (.aload 0, 37, []) := by decide +kernel
theorem f100_37 : fch 100 37 = some (.invokeinterface 7 5, 40, []) := by decide +kernel
theorem f100_40 : fch 100 40 = some (.isub, 41, []) := by decide +kernel
theorem f100_41 : fch 100 41 = some (.iload 7, 43, [8, 9, 10, 11]) := by decide +kernel
theorem f100_43 : fch 100 43 = some (.iconst 1, 44, []) := by decide +kernel
theorem f100_44 : fch 100 44 = some (.if_icmp .ne 54, 47, []) := by decide +kernel
theorem f100_47 : fch 100 47 = some (.aload 0, 48, []) := by decide +kernel
theorem f100_48 : fch 100 48 = some (.invokeinterface 7 6, 51, []) := by decide +kernel
theorem f100_51 : fch 100 51 = some (.goto 61, 54, []) := by decide +kernel
theorem f100_54 : fch 100 54 = some (.iconst 10, 56, []) := by decide +kernel
theorem f100_56 : fch 100 56 = some (.aload 0, 57, []) := by decide +kernel
theorem f100_57 : fch 100 57 = some (.invokeinterface 7 6, 60, []) := by decide +kernel
theorem f100_60 : fch 100 60 = some (.isub, 61, []) := by decide +kernel
theorem f100_61 : fch 100 61 = some (.imul, 62, [8, 9, 10, 11]) := by decide +kernel
theorem f100_62 : fch 100 62 = some (.istore 8, 64, []) := by decide +kernel
theorem f100_64 : fch 100 64 = some (.iload 1, 65, []) := by decide +kernel
theorem f100_65 : fch 100 65 = some (.aload 0, 66, []) := by decide +kernel
theorem f100_66 : fch 100 66 = some (.invokeinterface 7 3, 69, []) := by decide +kernel
theorem f100_69 : fch 100 69 = some (.iload 6, 71, []) := by decide +kernel
theorem f100_71 : fch 100 71 = some (.iadd, 72, []) := by decide +kernel
theorem f100_72 : fch 100 72 = some (.fsub, 75, []) := by decide +kernel
theorem f100_75 : fch 100 75 = some (.istore 9, 77, []) := by decide +kernel
theorem f100_77 : fch 100 77 = some (.iload 2, 78, []) := by decide +kernel
theorem f100_78 : fch 100 78 = some (.aload 0, 79, []) := by decide +kernel
theorem f100_79 : fch 100 79 = some (.invokeinterface 7 4, 82, []) := by decide +kernel
theorem f100_82 : fch 100 82 = some (.iload 7, 84, []) := by decide +kernel
theorem f100_84 : fch 100 84 = some (.iadd, 85, []) := by decide +kernel
theorem f100_85 : fch 100 85 = some (.fsub, 88, []) := by decide +kernel
theorem f100_88 : fch 100 88 = some (.istore 10, 90, []) := by decide +kernel
theorem f100_90 : fch 100 90 = some (.aload 0, 91, []) := by decide +kernel
theorem f100_91 : fch 100 91 = some (.invokeinterface 7 0, 94, []) := by decide +kernel
theorem f100_94 : fch 100 94 = some (.iload 1, 95, []) := by decide +kernel
theorem f100_95 : fch 100 95 = some (.iload 9, 97, []) := by decide +kernel
theorem f100_97 : fch 100 97 = some (.isub, 98, []) := by decide +kernel
theorem f100_98 : fch 100 98 = some (.iload 2, 99, []) := by decide +kernel
theorem f100_99 : fch 100 99 = some (.iload 10, 101, []) := by decide +kernel
theorem f100_101 : fch 100 101 = some (.isub, 102, []) := by decide +kernel
theorem f100_102 : fch 100 102 = some (.iload 3, 103, []) := by decide +kernel
theorem f100_103 : fch 100 103 = some (.invokestatic 94, 106, []) := by decide +kernel
theorem f100_106 : fch 100 106 = some (.laload, 107, []) := by decide +kernel
theorem f100_107 : fch 100 107 = some (.lstore 11, 109, []) := by decide +kernel
theorem f100_109 : fch 100 109 = some (.lload 4, 111, []) := by decide +kernel
theorem f100_111 : fch 100 111 = some (.iload 8, 113, []) := by decide +kernel
theorem f100_113 : fch 100 113 = some (.i2l, 114, []) := by decide +kernel
theorem f100_114 : fch 100 114 = some (.iload 9, 116, []) := by decide +kernel
theorem f100_116 : fch 100 116 = some (.iload 10, 118, []) := by decide +kernel
theorem f100_118 : fch 100 118 = some (.iadd, 119, []) := by decide +kernel
theorem f100_119 : fch 100 119 = some (.i2l, 120, []) := by decide +kernel
theorem f100_120 : fch 100 120 = some (.aload 0, 121, []) := by decide +kernel
theorem f100_121 : fch 100 121 = some (.invokeinterface 7 2, 124, []) := by decide +kernel
theorem f100_124 : fch 100 124 = some (.lmul, 125, []) := by decide +kernel
theorem f100_125 : fch 100 125 = some (.lload 11, 127, []) := by decide +kernel
theorem f100_127 : fch 100 127 = some (.ladd, 128, []) := by decide +kernel
theorem f100_128 : fch 100 128 = some (.lmul, 129, []) := by decide +kernel
theorem f100_129 : fch 100 129 = some (.ladd, 130, []) := by decide +kernel
theorem f100_130 : fch 100 130 = some (.lstore 4, 132, []) := by decide +kernel
theorem f100_132 : fch 100 132 = some (.iinc 7 1, 135, []) := by decide +kernel
theorem f100_135 : fch 100 135 = some (.goto 15, 138, []) := by decide +kernel
theorem f100_138 : fch 100 138 = some (.iinc 6 1, 141, []) := by decide +kernel
theorem f100_141 : fch 100 141 = some (.goto 6, 144, []) := by decide +kernel
theorem f100_144 : fch 100 144 = some (.lload 4, 146, []) := by decide +kernel
theorem f100_146 : fch 100 146 = some (.lreturn, 147, []) := by decide +kernel
set_option maxRecDepth 10000 in
theorem e100_0 (l0 l1 l2 l3 : Int) (s : SG) : sem 100 0 [aA l0, aI l1, aI l2, aI l3, aU, aU, aU, aU, aU, aU, aU, aU, aU] [] s = sem 100 6 [aA l0, aI l1, aI l2, aI l3, aL 0, aU, aI 0, aU, aU, aU, aU, aU, aU] [] s := by
  refine (x_lconst f100_0 rfl).trans ?_
  refine (x_lstore (l2 := [aA l0, aI l1, aI l2, aI l3, aL 0, aU, aU, aU, aU, aU, aU, aU, aU]) f100_1 rfl rfl).trans ?_
  refine (x_iconst f100_3 rfl).trans ?_
  refine (x_istore (l2 := [aA l0, aI l1, aI l2, aI l3, aL 0, aU, aI 0, aU, aU, aU, aU, aU, aU]) f100_4 rfl rfl).trans ?_
  rfl
set_option maxRecDepth 10000 in
theorem e100_6 (l0 l1 l2 l3 l4 l6 : Int) (s : SG) : sem 100 6 [aA l0, aI l1, aI l2, aI l3, aL l4, aU, aI l6, aU, aU, aU, aU, aU, aU] [] s = if (1 : Int) < l6 then some (aL l4, s) else sem 100 15 [aA l0, aI l1, aI l2, aI l3, aL l4, aU, aI l6, aI 0, aU, aU, aU, aU, aU] [] s := by
  refine (x_iload f100_6 rfl rfl).trans ?_
  refine (x_iconst f100_8 rfl).trans ?_
  refine (x_icmp_gt (tg := 144) f100_9 rfl rfl).trans (i_c ?_ ?_)
  · refine (x_lload f100_144 rfl rfl).trans ?_
    exact x_lreturn f100_146 rfl
  · refine (x_iconst f100_12 rfl).trans ?_
    refine (x_istore (l2 := [aA l0, aI l1, aI l2, aI l3, aL l4, aU, aI l6, aI 0, aU, aU, aU, aU, aU]) f100_13 rfl rfl).trans ?_
    rfl
set_option maxRecDepth 10000 in
theorem e100_15 (l0 l1 l2 l3 l4 l6 l7 : Int) (s : SG) : sem 100 15 [aA l0, aI l1, aI l2, aI l3, aL l4, aU, aI l6, aI l7, aU, aU, aU, aU, aU] [] s = if (1 : Int) < l7 then sem 100 6 [aA l0, aI l1, aI l2, aI l3, aL l4, aU, aI (w32 (l6 + 1)), aU, aU, aU, aU, aU, aU] [] s else if l6 = 1 then grd (kd l0 = 7) (if l7 = 1 then grd (kd l0 = 7) (sem 100 61 [aA l0, aI l1, aI l2, aI l3, aL l4, aU, aI l6, aI l7, aU, aU, aU, aU, aU] [aI (s l0 6), aI (s l0 5)] s) else grd (kd l0 = 7) (sem 100 61 [aA l0, aI l1, aI l2, aI l3, aL l4, aU, aI l6, aI l7, aU, aU, aU, aU, aU] [aI (w32 (10 - (s l0 6))), aI (s l0 5)] s)) else grd (kd l0 = 7) (if l7 = 1 then grd (kd l0 = 7) (sem 100 61 [aA l0, aI l1, aI l2, aI l3, aL l4, aU, aI l6, aI l7, aU, aU, aU, aU, aU] [aI (s l0 6), aI (w32 (10 - (s l0 5)))] s) else grd (kd l0 = 7) (sem 100 61 [aA l0, aI l1, aI l2, aI l3, aL l4, aU, aI l6, aI l7, aU, aU, aU, aU, aU] [aI (w32 (10 - (s l0 6))), aI (w32 (10 - (s l0 5)))] s)) := by
  refine (x_iload f100_15 rfl rfl).trans ?_
  refine (x_iconst f100_17 rfl).trans ?_
  refine (x_icmp_gt (tg := 138) f100_18 rfl rfl).trans (i_c ?_ ?_)
  · refine (x_iinc (l2 := [aA l0, aI l1, aI l2, aI l3, aL l4, aU, aI (w32 (l6 + 1)), aI l7, aU, aU, aU, aU, aU]) f100_138 rfl rfl rfl).trans ?_
    refine (x_goto (tg := 6) f100_141 rfl rfl).trans ?_
    exact x_kil f100_6 rfl
  · refine (x_iload f100_21 rfl rfl).trans ?_
    refine (x_iconst f100_23 rfl).trans ?_
    refine (x_icmp_ne (tg := 34) f100_24 rfl rfl).trans (i_c ?_ ?_)
    · refine (x_aload f100_27 rfl rfl).trans ?_
      refine (x_get0 f100_28 rfl rfl).trans ?_
      refine g_c ?_
      refine (x_goto (tg := 41) f100_31 rfl rfl).trans ?_
      refine (x_iload f100_41 rfl rfl).trans ?_
      refine (x_iconst f100_43 rfl).trans ?_
      refine (x_icmp_ne (tg := 54) f100_44 rfl rfl).trans (i_c ?_ ?_)
      · refine (x_aload f100_47 rfl rfl).trans ?_
        refine (x_get0 f100_48 rfl rfl).trans ?_
        refine g_c ?_
        refine (x_goto (tg := 61) f100_51 rfl rfl).trans ?_
        rfl
      · refine (x_iconst f100_54 rfl).trans ?_
        refine (x_aload f100_56 rfl rfl).trans ?_
        refine (x_get0 f100_57 rfl rfl).trans ?_
        refine g_c ?_
        refine (x_isub f100_60 rfl).trans ?_
        rfl
    · refine (x_iconst f100_34 rfl).trans ?_
      refine (x_aload f100_36 rfl rfl).trans ?_
      refine (x_get0 f100_37 rfl rfl).trans ?_
      refine g_c ?_
      refine (x_isub f100_40 rfl).trans ?_
      refine (x_iload f100_41 rfl rfl).trans ?_
      refine (x_iconst f100_43 rfl).trans ?_
      refine (x_icmp_ne (tg := 54) f100_44 rfl rfl).trans (i_c ?_ ?_)
      · refine (x_aload f100_47 rfl rfl).trans ?_
        refine (x_get0 f100_48 rfl rfl).trans ?_
        refine g_c ?_
        refine (x_goto (tg := 61) f100_51 rfl rfl).trans ?_
        rfl
      · refine (x_iconst f100_54 rfl).trans ?_
        refine (x_aload f100_56 rfl rfl).trans ?_
        refine (x_get0 f100_57 rfl rfl).trans ?_
        refine g_c ?_
        refine (x_isub f100_60 rfl).trans ?_
        rfl
set_option maxRecDepth 10000 in
theorem e100_61 (l0 l1 l2 l3 l4 l6 l7 v0 v1 : Int) (s : SG) : sem 100 61 [aA l0, aI l1, aI l2, aI l3, aL l4, aU, aI l6, aI l7, aU, aU, aU, aU, aU] [aI v0, aI v1] s = grd (kd l0 = 7) (grd (kd l0 = 7) (grd (kd l0 = 7) (grd (0 ≤ s l0 0) (bnI (sem 94 0 [aI (w32 (l1 - (min l1 (w32 ((s l0 3) + l6))))), aI (w32 (l2 - (min l2 (w32 ((s l0 4) + l7))))), aI l3, aU] [] s) fun a2 s1 => grd (kd (s l0 0) = 103) (grd ((0 : Int) ≤ a2 ∧ a2 < kl (s l0 0)) (grd (kd l0 = 7) (sem 100 15 [aA l0, aI l1, aI l2, aI l3, aL (w64 (l4 + (w64 ((w32 (v1 * v0)) * (w64 ((w64 ((w32 ((min l1 (w32 ((s l0 3) + l6))) + (min l2 (w32 ((s l0 4) + l7))))) * (s1 l0 2))) + (s1 (s l0 0) a2))))))), aU, aI l6, aI (w32 (l7 + 1)), aU, aU, aU, aU, aU] [] s1))))))) := by
  refine (x_imul f100_61 rfl).trans ?_
  refine (x_istore (l2 := [aA l0, aI l1, aI l2, aI l3, aL l4, aU, aI l6, aI l7, aI (w32 (v1 * v0)), aU, aU, aU, aU]) f100_62 rfl rfl).trans ?_
  refine (x_iload f100_64 rfl rfl).trans ?_
  refine (x_aload f100_65 rfl rfl).trans ?_
  refine (x_get0 f100_66 rfl rfl).trans ?_
  refine g_c ?_
  refine (x_iload f100_69 rfl rfl).trans ?_
  refine (x_iadd f100_71 rfl).trans ?_
  refine (x_fsub f100_72 rfl rfl).trans ?_
  refine (x_istore (l2 := [aA l0, aI l1, aI l2, aI l3, aL l4, aU, aI l6, aI l7, aI (w32 (v1 * v0)), aI (min l1 (w32 ((s l0 3) + l6))), aU, aU, aU]) f100_75 rfl rfl).trans ?_
  refine (x_iload f100_77 rfl rfl).trans ?_
  refine (x_aload f100_78 rfl rfl).trans ?_
  refine (x_get0 f100_79 rfl rfl).trans ?_
  refine g_c ?_
  refine (x_iload f100_82 rfl rfl).trans ?_
  refine (x_iadd f100_84 rfl).trans ?_
  refine (x_fsub f100_85 rfl rfl).trans ?_
  refine (x_istore (l2 := [aA l0, aI l1, aI l2, aI l3, aL l4, aU, aI l6, aI l7, aI (w32 (v1 * v0)), aI (min l1 (w32 ((s l0 3) + l6))), aI (min l2 (w32 ((s l0 4) + l7))), aU, aU]) f100_88 rfl rfl).trans ?_
  refine (x_aload f100_90 rfl rfl).trans ?_
  refine (x_get2 f100_91 rfl rfl).trans ?_
  refine g_c ?_
  refine g_c ?_
  refine (x_iload f100_94 rfl rfl).trans ?_
  refine (x_iload f100_95 rfl rfl).trans ?_
  refine (x_isub f100_97 rfl).trans ?_
  refine (x_iload f100_98 rfl rfl).trans ?_
  refine (x_iload f100_99 rfl rfl).trans ?_
  refine (x_isub f100_101 rfl).trans ?_
  refine (x_iload f100_102 rfl rfl).trans ?_
  refine (x_invokestatic (G := bnI (sem 94 0 [aI (w32 (l1 - (min l1 (w32 ((s l0 3) + l6))))), aI (w32 (l2 - (min l2 (w32 ((s l0 4) + l7))))), aI l3, aU] [] s) fun a2 s1 => sem 100 106 [aA l0, aI l1, aI l2, aI l3, aL l4, aU, aI l6, aI l7, aI (w32 (v1 * v0)), aI (min l1 (w32 ((s l0 3) + l6))), aI (min l2 (w32 ((s l0 4) + l7))), aU, aU] [aI a2, aA (s l0 0)] s1) f100_103 rfl rfl).trans ?_
  refine bI_c fun a2 s1 => ?_
  refine (x_laload f100_106 rfl).trans ?_
  refine g_c ?_
  refine g_c ?_
  refine (x_lstore (l2 := [aA l0, aI l1, aI l2, aI l3, aL l4, aU, aI l6, aI l7, aI (w32 (v1 * v0)), aI (min l1 (w32 ((s l0 3) + l6))), aI (min l2 (w32 ((s l0 4) + l7))), aL (s1 (s l0 0) a2), aU]) f100_107 rfl rfl).trans ?_
  refine (x_lload f100_109 rfl rfl).trans ?_
  refine (x_iload f100_111 rfl rfl).trans ?_
  refine (x_i2l f100_113 rfl).trans ?_
  refine (x_iload f100_114 rfl rfl).trans ?_
  refine (x_iload f100_116 rfl rfl).trans ?_
  refine (x_iadd f100_118 rfl).trans ?_
  refine (x_i2l f100_119 rfl).trans ?_
  refine (x_aload f100_120 rfl rfl).trans ?_
  refine (x_get1 f100_121 rfl rfl).trans ?_
  refine g_c ?_
  refine (x_lmul f100_124 rfl).trans ?_
  refine (x_lload f100_125 rfl rfl).trans ?_
  refine (x_ladd f100_127 rfl).trans ?_
  refine (x_lmul f100_128 rfl).trans ?_
  refine (x_ladd f100_129 rfl).trans ?_
  refine (x_lstore (l2 := [aA l0, aI l1, aI l2, aI l3, aL (w64 (l4 + (w64 ((w32 (v1 * v0)) * (w64 ((w64 ((w32 ((min l1 (w32 ((s l0 3) + l6))) + (min l2 (w32 ((s l0 4) + l7))))) * (s1 l0 2))) + (s1 (s l0 0) a2))))))), aU, aI l6, aI l7, aI (w32 (v1 * v0)), aI (min l1 (w32 ((s l0 3) + l6))), aI (min l2 (w32 ((s l0 4) + l7))), aL (s1 (s l0 0) a2), aU]) f100_130 rfl rfl).trans ?_
  refine (x_iinc (l2 := [aA l0, aI l1, aI l2, aI l3, aL (w64 (l4 + (w64 ((w32 (v1 * v0)) * (w64 ((w64 ((w32 ((min l1 (w32 ((s l0 3) + l6))) + (min l2 (w32 ((s l0 4) + l7))))) * (s1 l0 2))) + (s1 (s l0 0) a2))))))), aU, aI l6, aI (w32 (l7 + 1)), aI (w32 (v1 * v0)), aI (min l1 (w32 ((s l0 3) + l6))), aI (min l2 (w32 ((s l0 4) + l7))), aL (s1 (s l0 0) a2), aU]) f100_132 rfl rfl rfl).trans ?_
  refine (x_goto (tg := 15) f100_135 rfl rfl).trans ?_
  exact x_kil f100_15 rfl
theorem f101_0 : fch 101 0 = some (.aload 0, 1, []) := by decide +kernel
theorem f101_1 : fch 101 1 = some (.invokeinterface 7 1, 4, []) := by decide +kernel
theorem f101_4 : fch 101 4 = some (.iload 1, 5, []) := by decide +kernel
theorem f101_5 : fch 101 5 = some (.iload 2, 6, []) := by decide +kernel
theorem f101_6 : fch 101 6 = some (.iload 3, 7, []) := by decide +kernel
theorem f101_7 : fch 101 7 = some (.invokestatic 94, 10, []) := by decide +kernel
theorem f101_10 : fch 101 10 = some (.laload, 11, []) := by decide +kernel
theorem f101_11 : fch 101 11 = some (.lstore 4, 13, []) := by decide +kernel
theorem f101_13 : fch 101 13 = some (.iconst 1, 14, []) := by decide +kernel
theorem f101_14 : fch 101 14 = some (.istore 6, 16, []) := by decide +kernel
theorem f101_16 : fch 101 16 = some (.iload 6, 18, []) := by decide +kernel
theorem f101_18 : fch 101 18 = some (.iload 3, 19, []) := by decide +kernel
theorem f101_19 : fch 101 19 = some (.if_icmp .gt 76, 22, []) := by decide +kernel
theorem f101_22 : fch 101 22 = some (.lload 4, 24, []) := by decide +kernel
theorem f101_24 : fch 101 24 = some (.aload 0, 25, []) := by decide +kernel
theorem f101_25 : fch 101 25 = some (.invokeinterface 7 1, 28, []) := by decide +kernel
theorem f101_28 : fch 101 28 = some (.iload 1, 29, []) := by decide +kernel
theorem f101_29 : fch 101 29 = some (.iload 6, 31, []) := by decide +kernel
theorem f101_31 : fch 101 31 = some (.iadd, 32, []) := by decide +kernel
theorem f101_32 : fch 101 32 = some (.iload 2, 33, []) := by decide +kernel
theorem f101_33 : fch 101 33 = some (.iload 3, 34, []) := by decide +kernel
theorem f101_34 : fch 101 34 = some (.iload 6, 36, []) := by decide +kernel
theorem f101_36 : fch 101 36 = some (.isub, 37, []) := by decide +kernel
theorem f101_37 : fch 101 37 = some (.invokestatic 94, 40, []) := by decide +kernel
theorem f101_40 : fch 101 40 = some (.laload, 41, []) := by decide +kernel
theorem f101_41 : fch 101 41 = some (.dadd, 44, []) := by decide +kernel
theorem f101_44 : fch 101 44 = some (.lstore 4, 46, []) := by decide +kernel
theorem f101_46 : fch 101 46 = some (.lload 4, 48, []) := by decide +kernel
theorem f101_48 : fch 101 48 = some (.aload 0, 49, []) := by decide +kernel
theorem f101_49 : fch 101 49 = some (.invokeinterface 7 1, 52, []) := by decide +kernel
theorem f101_52 : fch 101 52 = some (.iload 1, 53, []) := by decide +kernel
theorem f101_53 : fch 101 53 = some (.iload 2, 54, []) := by decide +kernel
theorem f101_54 : fch 101 54 = some (.iload 6, 56, []) := by decide +kernel
theorem f101_56 : fch 101 56 = some (.iadd, 57, []) := by decide +kernel
theorem f101_57 : fch 101 57 = some (.iload 3, 58, []) := by decide +kernel
theorem f101_58 : fch 101 58 = some (.iload 6, 60, []) := by decide +kernel
theorem f101_60 : fch 101 60 = some (.isub, 61, []) := by decide +kernel
theorem f101_61 : fch 101 61 = some (.invokestatic 94, 64, []) := by decide +kernel
theorem f101_64 : fch 101 64 = some (.laload, 65, []) := by decide +kernel
theorem f101_65 : fch 101 65 = some (.dadd, 68, []) := by decide +kernel
theorem f101_68 : fch 101 68 = some (.lstore 4, 70, []) := by decide +kernel
theorem f101_70 : fch 101 70 = some (.iinc 6 1, 73, []) := by decide +kernel
theorem f101_73 : fch 101 73 = some (.goto 16, 76, []) := by decide +kernel
theorem f101_76 : fch 101 76 = some (.lload 4, 78, []) := by decide +kernel
theorem f101_78 : fch 101 78 = some (.lreturn, 79, []) := by decide +kernel
set_option maxRecDepth 10000 in
theorem e101_0 (l0 l1 l2 l3 : Int) (s : SG) : sem 101 0 [aA l0, aI l1, aI l2, aI l3, aU, aU, aU] [] s = grd (kd l0 = 7) (grd (0 ≤ s l0 1) (bnI (sem 94 0 [aI l1, aI l2, aI l3, aU] [] s) fun a2 s1 => grd (kd (s l0 1) = 103) (grd ((0 : Int) ≤ a2 ∧ a2 < kl (s l0 1)) (sem 101 16 [aA l0, aI l1, aI l2, aI l3, aL (s1 (s l0 1) a2), aU, aI 1] [] s1)))) := by
  refine (x_aload f101_0 rfl rfl).trans ?_
  refine (x_get2 f101_1 rfl rfl).trans ?_
  refine g_c ?_
  refine g_c ?_
  refine (x_iload f101_4 rfl rfl).trans ?_
  refine (x_iload f101_5 rfl rfl).trans ?_
  refine (x_iload f101_6 rfl rfl).trans ?_
  refine (x_invokestatic (G := bnI (sem 94 0 [aI l1, aI l2, aI l3, aU] [] s) fun a2 s1 => sem 101 10 [aA l0, aI l1, aI l2, aI l3, aU, aU, aU] [aI a2, aA (s l0 1)] s1) f101_7 rfl rfl).trans ?_
  refine bI_c fun a2 s1 => ?_
  refine (x_laload f101_10 rfl).trans ?_
  refine g_c ?_
  refine g_c ?_
  refine (x_lstore (l2 := [aA l0, aI l1, aI l2, aI l3, aL (s1 (s l0 1) a2), aU, aU]) f101_11 rfl rfl).trans ?_
  refine (x_iconst f101_13 rfl).trans ?_
  refine (x_istore (l2 := [aA l0, aI l1, aI l2, aI l3, aL (s1 (s l0 1) a2), aU, aI 1]) f101_14 rfl rfl).trans ?_
  rfl
set_option maxRecDepth 10000 in
theorem e101_16 (l0 l1 l2 l3 l4 l6 : Int) (s : SG) : sem 101 16 [aA l0, aI l1, aI l2, aI l3, aL l4, aU, aI l6] [] s = if l3 < l6 then some (aL l4, s) else grd (kd l0 = 7) (grd (0 ≤ s l0 1) (bnI (sem 94 0 [aI (w32 (l1 + l6)), aI l2, aI (w32 (l3 - l6)), aU] [] s) fun a2 s1 => grd (kd (s l0 1) = 103) (grd ((0 : Int) ≤ a2 ∧ a2 < kl (s l0 1)) (grd (kd l0 = 7) (grd (0 ≤ s1 l0 1) (bnI (sem 94 0 [aI l1, aI (w32 (l2 + l6)), aI (w32 (l3 - l6)), aU] [] s1) fun a4 s3 => grd (kd (s1 l0 1) = 103) (grd ((0 : Int) ≤ a4 ∧ a4 < kl (s1 l0 1)) (sem 101 16 [aA l0, aI l1, aI l2, aI l3, aL (max (max l4 (s1 (s l0 1) a2)) (s3 (s1 l0 1) a4)), aU, aI (w32 (l6 + 1))] [] s3)))))))) := by
  refine (x_iload f101_16 rfl rfl).trans ?_
  refine (x_iload f101_18 rfl rfl).trans ?_
  refine (x_icmp_gt (tg := 76) f101_19 rfl rfl).trans (i_c ?_ ?_)
  · refine (x_lload f101_76 rfl rfl).trans ?_
    exact x_lreturn f101_78 rfl
  · refine (x_lload f101_22 rfl rfl).trans ?_
    refine (x_aload f101_24 rfl rfl).trans ?_
    refine (x_get2 f101_25 rfl rfl).trans ?_
    refine g_c ?_
    refine g_c ?_
    refine (x_iload f101_28 rfl rfl).trans ?_
    refine (x_iload f101_29 rfl rfl).trans ?_
    refine (x_iadd f101_31 rfl).trans ?_
    refine (x_iload f101_32 rfl rfl).trans ?_
    refine (x_iload f101_33 rfl rfl).trans ?_
    refine (x_iload f101_34 rfl rfl).trans ?_
    refine (x_isub f101_36 rfl).trans ?_
    refine (x_invokestatic (G := bnI (sem 94 0 [aI (w32 (l1 + l6)), aI l2, aI (w32 (l3 - l6)), aU] [] s) fun a2 s1 => sem 101 40 [aA l0, aI l1, aI l2, aI l3, aL l4, aU, aI l6] [aI a2, aA (s l0 1), aL l4] s1) f101_37 rfl rfl).trans ?_
    refine bI_c fun a2 s1 => ?_
    refine (x_laload f101_40 rfl).trans ?_
    refine g_c ?_
    refine g_c ?_
    refine (x_dadd f101_41 rfl rfl).trans ?_
    refine (x_lstore (l2 := [aA l0, aI l1, aI l2, aI l3, aL (max l4 (s1 (s l0 1) a2)), aU, aI l6]) f101_44 rfl rfl).trans ?_
    refine (x_lload f101_46 rfl rfl).trans ?_
    refine (x_aload f101_48 rfl rfl).trans ?_
    refine (x_get2 f101_49 rfl rfl).trans ?_
    refine g_c ?_
    refine g_c ?_
    refine (x_iload f101_52 rfl rfl).trans ?_
    refine (x_iload f101_53 rfl rfl).trans ?_
    refine (x_iload f101_54 rfl rfl).trans ?_
    refine (x_iadd f101_56 rfl).trans ?_
    refine (x_iload f101_57 rfl rfl).trans ?_
    refine (x_iload f101_58 rfl rfl).trans ?_
    refine (x_isub f101_60 rfl).trans ?_
    refine (x_invokestatic (G := bnI (sem 94 0 [aI l1, aI (w32 (l2 + l6)), aI (w32 (l3 - l6)), aU] [] s1) fun a4 s3 => sem 101 64 [aA l0, aI l1, aI l2, aI l3, aL (max l4 (s1 (s l0 1) a2)), aU, aI l6] [aI a4, aA (s1 l0 1), aL (max l4 (s1 (s l0 1) a2))] s3) f101_61 rfl rfl).trans ?_
    refine bI_c fun a4 s3 => ?_
    refine (x_laload f101_64 rfl).trans ?_
    refine g_c ?_
    refine g_c ?_
    refine (x_dadd f101_65 rfl rfl).trans ?_
    refine (x_lstore (l2 := [aA l0, aI l1, aI l2, aI l3, aL (max (max l4 (s1 (s l0 1) a2)) (s3 (s1 l0 1) a4)), aU, aI l6]) f101_68 rfl rfl).trans ?_
    refine (x_iinc (l2 := [aA l0, aI l1, aI l2, aI l3, aL (max (max l4 (s1 (s l0 1) a2)) (s3 (s1 l0 1) a4)), aU, aI (w32 (l6 + 1))]) f101_70 rfl rfl rfl).trans ?_
    refine (x_goto (tg := 16) f101_73 rfl rfl).trans ?_
    rfl
theorem f102_0 : fch 102 0 = some (.aload 0, 1, []) := by decide +kernel
theorem f102_1 : fch 102 1 = some (.iload 1, 2, []) := by decide +kernel
theorem f102_2 : fch 102 2 = some (.iload 2, 3, []) := by decide +kernel
theorem f102_3 : fch 102 3 = some (.iload 3, 4, []) := by decide +kernel
theorem f102_4 : fch 102 4 = some (.invokevirtual 101, 7, []) := by decide +kernel
theorem f102_7 : fch 102 7 = some (.lstore 4, 9, []) := by decide +kernel
theorem f102_9 : fch 102 9 = some (.aload 0, 10, []) := by decide +kernel
theorem f102_10 : fch 102 10 = some (.invokeinterface 7 1, 13, []) := by decide +kernel
theorem f102_13 : fch 102 13 = some (.iload 1, 14, []) := by decide +kernel
theorem f102_14 : fch 102 14 = some (.iload 2, 15, []) := by decide +kernel
theorem f102_15 : fch 102 15 = some (.iload 3, 16, []) := by decide +kernel
theorem f102_16 : fch 102 16 = some (.invokestatic 94, 19, []) := by decide +kernel
theorem f102_19 : fch 102 19 = some (.laload, 20, []) := by decide +kernel
theorem f102_20 : fch 102 20 = some (.lload 4, 22, []) := by decide +kernel
theorem f102_22 : fch 102 22 = some (.lcmp, 23, []) := by decide +kernel
theorem f102_23 : fch 102 23 = some (.ifCond .ne 28, 26, []) := by decide +kernel
theorem f102_26 : fch 102 26 = some (.iconst 0, 27, []) := by decide +kernel
theorem f102_27 : fch 102 27 = some (.ireturn, 28, []) := by decide +kernel
theorem f102_28 : fch 102 28 = some (.iconst 1, 29, []) := by decide +kernel
theorem f102_29 : fch 102 29 = some (.istore 6, 31, []) := by decide +kernel
theorem f102_31 : fch 102 31 = some (.iload 6, 33, []) := by decide +kernel
theorem f102_33 : fch 102 33 = some (.iload 3, 34, []) := by decide +kernel
theorem f102_34 : fch 102 34 = some (.if_icmp .gt 98, 37, []) := by decide +kernel
theorem f102_37 : fch 102 37 = some (.aload 0, 38, []) := by decide +kernel
theorem f102_38 : fch 102 38 = some (.invokeinterface 7 1, 41, []) := by decide +kernel
theorem f102_41 : fch 102 41 = some (.iload 1, 42, []) := by decide +kernel
theorem f102_42 : fch 102 42 = some (.iload 6, 44, []) := by decide +kernel
theorem f102_44 : fch 102 44 = some (.iadd, 45, []) := by decide +kernel
theorem f102_45 : fch 102 45 = some (.iload 2, 46, []) := by decide +kernel
theorem f102_46 : fch 102 46 = some (.iload 3, 47, []) := by decide +kernel
theorem f102_47 : fch 102 47 = some (.iload 6, 49, []) := by decide +kernel
theorem f102_49 : fch 102 49 = some (.isub, 50, []) := by decide +kernel
theorem f102_50 : fch 102 50 = some (.invokestatic 94, 53, []) := by decide +kernel
theorem f102_53 : fch 102 53 = some (.laload, 54, []) := by decide +kernel
theorem f102_54 : fch 102 54 = some (.lload 4, 56, []) := by decide +kernel
theorem f102_56 : fch 102 56 = some (.lcmp, 57, []) := by decide +kernel
theorem f102_57 : fch 102 57 = some (.ifCond .ne 63, 60, []) := by decide +kernel
theorem f102_60 : fch 102 60 = some (.iload 6, 62, []) := by decide +kernel
theorem f102_62 : fch 102 62 = some (.ireturn, 63, []) := by decide +kernel
theorem f102_63 : fch 102 63 = some (.aload 0, 64, []) := by decide +kernel
theorem f102_64 : fch 102 64 = some (.invokeinterface 7 1, 67, []) := by decide +kernel
theorem f102_67 : fch 102 67 = some (.iload 1, 68, []) := by decide +kernel
theorem f102_68 : fch 102 68 = some (.iload 2, 69, []) := by decide +kernel
theorem f102_69 : fch 102 69 = some (.iload 6, 71, []) := by decide +kernel
theorem f102_71 : fch 102 71 = some (.iadd, 72, []) := by decide +kernel
theorem f102_72 : fch 102 72 = some (.iload 3, 73, []) := by decide +kernel
theorem f102_73 : fch 102 73 = some (.iload 6, 75, []) := by decide +kernel
theorem f102_75 : fch 102 75 = some (.isub, 76, []) := by decide +kernel
theorem f102_76 : fch 102 76 = some (.invokestatic 94, 79, []) := by decide +kernel
theorem f102_79 : fch 102 79 = some (.laload, 80, []) := by decide +kernel
theorem f102_80 : fch 102 80 = some (.lload 4, 82, []) := by decide +kernel
theorem f102_82 : fch 102 82 = some (.lcmp, 83, []) := by decide +kernel
theorem f102_83 : fch 102 83 = some (.ifCond .ne 92, 86, []) := by decide +kernel
theorem f102_86 : fch 102 86 = some (.iconst 100, 88, []) := by decide +kernel
theorem f102_88 : fch 102 88 = some (.iload 6, 90, []) := by decide +kernel
theorem f102_90 : fch 102 90 = some (.iadd, 91, []) := by decide +kernel
theorem f102_91 : fch 102 91 = some (.ireturn, 92, []) := by decide +kernel
theorem f102_92 : fch 102 92 = some (.iinc 6 1, 95, []) := by decide +kernel
theorem f102_95 : fch 102 95 = some (.goto 31, 98, []) := by decide +kernel
theorem f102_98 : fch 102 98 = some (.iconst 0, 99, []) := by decide +kernel
theorem f102_99 : fch 102 99 = some (.ireturn, 100, []) := by decide +kernel
set_option maxRecDepth 10000 in
theorem e102_0 (l0 l1 l2 l3 : Int) (s : SG) : sem 102 0 [aA l0, aI l1, aI l2, aI l3, aU, aU, aU] [] s = grd (kd l0 = 7) (bnL (sem 101 0 [aA l0, aI l1, aI l2, aI l3, aU, aU, aU] [] s) fun a2 s1 => grd (kd l0 = 7) (grd (0 ≤ s1 l0 1) (bnI (sem 94 0 [aI l1, aI l2, aI l3, aU] [] s1) fun a4 s3 => grd (kd (s1 l0 1) = 103) (grd ((0 : Int) ≤ a4 ∧ a4 < kl (s1 l0 1)) (if (cmpL (s3 (s1 l0 1) a4) a2) = 0 then some (aI 0, s3) else sem 102 31 [aA l0, aI l1, aI l2, aI l3, aL a2, aU, aI 1] [] s3))))) := by
  refine (x_aload f102_0 rfl rfl).trans ?_
  refine (x_iload f102_1 rfl rfl).trans ?_
  refine (x_iload f102_2 rfl rfl).trans ?_
  refine (x_iload f102_3 rfl rfl).trans ?_
  refine (x_invokevirtual (G := grd (kd l0 = 7) (bnL (sem 101 0 [aA l0, aI l1, aI l2, aI l3, aU, aU, aU] [] s) fun a2 s1 => sem 102 7 [aA l0, aI l1, aI l2, aI l3, aU, aU, aU] [aL a2] s1)) f102_4 rfl rfl).trans ?_
  refine g_c ?_
  refine bL_c fun a2 s1 => ?_
  refine (x_lstore (l2 := [aA l0, aI l1, aI l2, aI l3, aL a2, aU, aU]) f102_7 rfl rfl).trans ?_
  refine (x_aload f102_9 rfl rfl).trans ?_
  refine (x_get2 f102_10 rfl rfl).trans ?_
  refine g_c ?_
  refine g_c ?_
  refine (x_iload f102_13 rfl rfl).trans ?_
  refine (x_iload f102_14 rfl rfl).trans ?_
  refine (x_iload f102_15 rfl rfl).trans ?_
  refine (x_invokestatic (G := bnI (sem 94 0 [aI l1, aI l2, aI l3, aU] [] s1) fun a4 s3 => sem 102 19 [aA l0, aI l1, aI l2, aI l3, aL a2, aU, aU] [aI a4, aA (s1 l0 1)] s3) f102_16 rfl rfl).trans ?_
  refine bI_c fun a4 s3 => ?_
  refine (x_laload f102_19 rfl).trans ?_
  refine g_c ?_
  refine g_c ?_
  refine (x_lload f102_20 rfl rfl).trans ?_
  refine (x_lcmp f102_22 rfl).trans ?_
  refine (x_if_ne (tg := 28) f102_23 rfl rfl).trans (i_c ?_ ?_)
  · refine (x_iconst f102_26 rfl).trans ?_
    exact x_ireturn f102_27 rfl
  · refine (x_iconst f102_28 rfl).trans ?_
    refine (x_istore (l2 := [aA l0, aI l1, aI l2, aI l3, aL a2, aU, aI 1]) f102_29 rfl rfl).trans ?_
    rfl
set_option maxRecDepth 10000 in
theorem e102_31 (l0 l1 l2 l3 l4 l6 : Int) (s : SG) : sem 102 31 [aA l0, aI l1, aI l2, aI l3, aL l4, aU, aI l6] [] s = if l3 < l6 then some (aI 0, s) else grd (kd l0 = 7) (grd (0 ≤ s l0 1) (bnI (sem 94 0 [aI (w32 (l1 + l6)), aI l2, aI (w32 (l3 - l6)), aU] [] s) fun a2 s1 => grd (kd (s l0 1) = 103) (grd ((0 : Int) ≤ a2 ∧ a2 < kl (s l0 1)) (if (cmpL (s1 (s l0 1) a2) l4) = 0 then some (aI l6, s1) else grd (kd l0 = 7) (grd (0 ≤ s1 l0 1) (bnI (sem 94 0 [aI l1, aI (w32 (l2 + l6)), aI (w32 (l3 - l6)), aU] [] s1) fun a4 s3 => grd (kd (s1 l0 1) = 103) (grd ((0 : Int) ≤ a4 ∧ a4 < kl (s1 l0 1)) (if (cmpL (s3 (s1 l0 1) a4) l4) = 0 then some (aI (w32 (100 + l6)), s3) else sem 102 31 [aA l0, aI l1, aI l2, aI l3, aL l4, aU, aI (w32 (l6 + 1))] [] s3)))))))) := by
  refine (x_iload f102_31 rfl rfl).trans ?_
  refine (x_iload f102_33 rfl rfl).trans ?_
  refine (x_icmp_gt (tg := 98) f102_34 rfl rfl).trans (i_c ?_ ?_)
  · refine (x_iconst f102_98 rfl).trans ?_
    exact x_ireturn f102_99 rfl
  · refine (x_aload f102_37 rfl rfl).trans ?_
    refine (x_get2 f102_38 rfl rfl).trans ?_
    refine g_c ?_
    refine g_c ?_
    refine (x_iload f102_41 rfl rfl).trans ?_
    refine (x_iload f102_42 rfl rfl).trans ?_
    refine (x_iadd f102_44 rfl).trans ?_
    refine (x_iload f102_45 rfl rfl).trans ?_
    refine (x_iload f102_46 rfl rfl).trans ?_
    refine (x_iload f102_47 rfl rfl).trans ?_
    refine (x_isub f102_49 rfl).trans ?_
    refine (x_invokestatic (G := bnI (sem 94 0 [aI (w32 (l1 + l6)), aI l2, aI (w32 (l3 - l6)), aU] [] s) fun a2 s1 => sem 102 53 [aA l0, aI l1, aI l2, aI l3, aL l4, aU, aI l6] [aI a2, aA (s l0 1)] s1) f102_50 rfl rfl).trans ?_
    refine bI_c fun a2 s1 => ?_
    refine (x_laload f102_53 rfl).trans ?_
    refine g_c ?_
    refine g_c ?_
    refine (x_lload f102_54 rfl rfl).trans ?_
    refine (x_lcmp f102_56 rfl).trans ?_
    refine (x_if_ne (tg := 63) f102_57 rfl rfl).trans (i_c ?_ ?_)
    · refine (x_iload f102_60 rfl rfl).trans ?_
      exact x_ireturn f102_62 rfl
    · refine (x_aload f102_63 rfl rfl).trans ?_
      refine (x_get2 f102_64 rfl rfl).trans ?_
      refine g_c ?_
      refine g_c ?_
      refine (x_iload f102_67 rfl rfl).trans ?_
      refine (x_iload f102_68 rfl rfl).trans ?_
      refine (x_iload f102_69 rfl rfl).trans ?_
      refine (x_iadd f102_71 rfl).trans ?_
      refine (x_iload f102_72 rfl rfl).trans ?_
      refine (x_iload f102_73 rfl rfl).trans ?_
      refine (x_isub f102_75 rfl).trans ?_
      refine (x_invokestatic (G := bnI (sem 94 0 [aI l1, aI (w32 (l2 + l6)), aI (w32 (l3 - l6)), aU] [] s1) fun a4 s3 => sem 102 79 [aA l0, aI l1, aI l2, aI l3, aL l4, aU, aI l6] [aI a4, aA (s1 l0 1)] s3) f102_76 rfl rfl).trans ?_
      refine bI_c fun a4 s3 => ?_
      refine (x_laload f102_79 rfl).trans ?_
      refine g_c ?_
      refine g_c ?_
      refine (x_lload f102_80 rfl rfl).trans ?_
      refine (x_lcmp f102_82 rfl).trans ?_
      refine (x_if_ne (tg := 92) f102_83 rfl rfl).trans (i_c ?_ ?_)
      · refine (x_iconst f102_86 rfl).trans ?_
        refine (x_iload f102_88 rfl rfl).trans ?_
        refine (x_iadd f102_90 rfl).trans ?_
        exact x_ireturn f102_91 rfl
      · refine (x_iinc (l2 := [aA l0, aI l1, aI l2, aI l3, aL l4, aU, aI (w32 (l6 + 1))]) f102_92 rfl rfl rfl).trans ?_
        refine (x_goto (tg := 31) f102_95 rfl rfl).trans ?_
        rfl
theorem f103_0 : fch 103 0 = some (.aload 0, 1, []) := by decide +kernel
theorem f103_1 : fch 103 1 = some (.monitorexit, 4, []) := by decide +kernel
theorem f103_4 : fch 103 4 = some (.aload 0, 5, []) := by decide +kernel
theorem f103_5 : fch 103 5 = some (.new 5, 8, []) := by decide +kernel
theorem f103_8 : fch 103 8 = some (.dup, 9, []) := by decide +kernel
theorem f103_9 : fch 103 9 = some (.invokespecial 75, 12, []) := by decide +kernel
theorem f103_12 : fch 103 12 = some (.multianewarray 8 0, 15, []) := by decide +kernel
theorem f103_15 : fch 103 15 = some (.aload 0, 16, []) := by decide +kernel
theorem f103_16 : fch 103 16 = some (.new 2, 19, []) := by decide +kernel
theorem f103_19 : fch 103 19 = some (.dup, 20, []) := by decide +kernel
theorem f103_20 : fch 103 20 = some (.invokespecial 31, 23, []) := by decide +kernel
theorem f103_23 : fch 103 23 = some (.multianewarray 8 1, 26, []) := by decide +kernel
theorem f103_26 : fch 103 26 = some (.aload 0, 27, []) := by decide +kernel
theorem f103_27 : fch 103 27 = some (.new 0, 30, []) := by decide +kernel
theorem f103_30 : fch 103 30 = some (.dup, 31, []) := by decide +kernel
theorem f103_31 : fch 103 31 = some (.invokespecial 0, 34, []) := by decide +kernel
theorem f103_34 : fch 103 34 = some (.multianewarray 8 2, 37, []) := by decide +kernel
theorem f103_37 : fch 103 37 = some (.aload 0, 38, []) := by decide +kernel
theorem f103_38 : fch 103 38 = some (.new 4, 41, []) := by decide +kernel
theorem f103_41 : fch 103 41 = some (.dup, 42, []) := by decide +kernel
theorem f103_42 : fch 103 42 = some (.invokespecial 65, 45, []) := by decide +kernel
theorem f103_45 : fch 103 45 = some (.multianewarray 8 3, 48, []) := by decide +kernel
theorem f103_48 : fch 103 48 = some (.aload 0, 49, []) := by decide +kernel
theorem f103_49 : fch 103 49 = some (.new 7, 52, []) := by decide +kernel
theorem f103_52 : fch 103 52 = some (.dup, 53, []) := by decide +kernel
theorem f103_53 : fch 103 53 = some (.invokespecial 91, 56, []) := by decide +kernel
theorem f103_56 : fch 103 56 = some (.multianewarray 8 4, 59, []) := by decide +kernel
theorem f103_59 : fch 103 59 = some (.aload 0, 60, []) := by decide +kernel
theorem f103_60 : fch 103 60 = some (.new 1, 63, []) := by decide +kernel
theorem f103_63 : fch 103 63 = some (.dup, 64, []) := by decide +kernel
theorem f103_64 : fch 103 64 = some (.invokespecial 17, 67, []) := by decide +kernel
theorem f103_67 : fch 103 67 = some (.multianewarray 8 5, 70, []) := by decide +kernel
theorem f103_70 : fch 103 70 = some (.aload 0, 71, []) := by decide +kernel
theorem f103_71 : fch 103 71 = some (.new 3, 74, []) := by decide +kernel
theorem f103_74 : fch 103 74 = some (.dup, 75, []) := by decide +kernel
theorem f103_75 : fch 103 75 = some (.invokespecial 45, 78, []) := by decide +kernel
theorem f103_78 : fch 103 78 = some (.multianewarray 8 6, 81, []) := by decide +kernel
theorem f103_81 : fch 103 81 = some (.aload 0, 82, []) := by decide +kernel
theorem f103_82 : fch 103 82 = some (.iconst 2, 83, []) := by decide +kernel
theorem f103_83 : fch 103 83 = some (.anewarray 0, 86, []) := by decide +kernel
theorem f103_86 : fch 103 86 = some (.multianewarray 8 7, 89, []) := by decide +kernel
theorem f103_89 : fch 103 89 = some (.aload 0, 90, []) := by decide +kernel
theorem f103_90 : fch 103 90 = some (.iconst 2, 91, []) := by decide +kernel
theorem f103_91 : fch 103 91 = some (.newarray .boolean, 93, []) := by decide +kernel
theorem f103_93 : fch 103 93 = some (.multianewarray 8 8, 96, []) := by decide +kernel
theorem f103_96 : fch 103 96 = some (.aload 0, 97, []) := by decide +kernel
theorem f103_97 : fch 103 97 = some (.new 6, 100, []) := by decide +kernel
theorem f103_100 : fch 103 100 = some (.dup, 101, []) := by decide +kernel
theorem f103_101 : fch 103 101 = some (.invokespecial 81, 104, []) := by decide +kernel
theorem f103_104 : fch 103 104 = some (.multianewarray 8 9, 107, []) := by decide +kernel
theorem f103_107 : fch 103 107 = some (.aload 0, 108, []) := by decide +kernel
theorem f103_108 : fch 103 108 = some (.new 6, 111, []) := by decide +kernel
theorem f103_111 : fch 103 111 = some (.dup, 112, []) := by decide +kernel
theorem f103_112 : fch 103 112 = some (.invokespecial 81, 115, []) := by decide +kernel
theorem f103_115 : fch 103 115 = some (.multianewarray 8 10, 118, []) := by decide +kernel
theorem f103_118 : fch 103 118 = some (.iconst 0, 119, []) := by decide +kernel
theorem f103_119 : fch 103 119 = some (.istore 1, 120, []) := by decide +kernel
theorem f103_120 : fch 103 120 = some (.iload 1, 121, []) := by decide +kernel
theorem f103_121 : fch 103 121 = some (.iconst 2, 122, []) := by decide +kernel
theorem f103_122 : fch 103 122 = some (.if_icmp .ge 144, 125, []) := by decide +kernel
theorem f103_125 : fch 103 125 = some (.aload 0, 126, []) := by decide +kernel
theorem f103_126 : fch 103 126 = some (.invokeinterface 8 7, 129, []) := by decide +kernel
theorem f103_129 : fch 103 129 = some (.iload 1, 130, []) := by decide +kernel
theorem f103_130 : fch 103 130 = some (.new 1, 133, []) := by decide +kernel
theorem f103_133 : fch 103 133 = some (.dup, 134, []) := by decide +kernel
theorem f103_134 : fch 103 134 = some (.invokespecial 17, 137, []) := by decide +kernel
theorem f103_137 : fch 103 137 = some (.aastore, 138, []) := by decide +kernel
theorem f103_138 : fch 103 138 = some (.iinc 1 1, 141, []) := by decide +kernel
theorem f103_141 : fch 103 141 = some (.goto 120, 144, []) := by decide +kernel
theorem f103_144 : fch 103 144 = some (.aload 0, 145, []) := by decide +kernel
theorem f103_145 : fch 103 145 = some (.invokeinterface 8 2, 148, []) := by decide +kernel
theorem f103_148 : fch 103 148 = some (.aload 0, 149, []) := by decide +kernel
theorem f103_149 : fch 103 149 = some (.invokeinterface 8 9, 152, []) := by decide +kernel
theorem f103_152 : fch 103 152 = some (.invokevirtual 1, 155, []) := by decide +kernel
theorem f103_155 : fch 103 155 = some (.return_, 156, []) := by decide +kernel
set_option maxRecDepth 10000 in
theorem e103_0 (l0 : Int) (s : SG) : sem 103 0 [aA l0, aU] [] s = grd (kd (s (-1) 0) = 5) (grd (kd (s (-1) 0) = 5) (bnV (sem 75 0 [aA (s (-1) 0)] [] (alc s (kl (s (-1) 0)) (fun i => if fty 5 i.toNat = 2 then -1 else 0))) fun s1 => grd (kd l0 = 8) (grd (0 ≤ s (-1) 0) (grd (kd ((up s1 l0 0 (s (-1) 0)) (-1) 0) = 2) (grd (kd ((up s1 l0 0 (s (-1) 0)) (-1) 0) = 2) (bnV (sem 31 0 [aA ((up s1 l0 0 (s (-1) 0)) (-1) 0)] [] (alc (up s1 l0 0 (s (-1) 0)) (kl ((up s1 l0 0 (s (-1) 0)) (-1) 0)) (fun i => if fty 2 i.toNat = 2 then -1 else 0))) fun s2 => grd (kd l0 = 8) (grd (0 ≤ (up s1 l0 0 (s (-1) 0)) (-1) 0) (grd (kd ((up s2 l0 1 ((up s1 l0 0 (s (-1) 0)) (-1) 0)) (-1) 0) = 0) (grd (kd ((up s2 l0 1 ((up s1 l0 0 (s (-1) 0)) (-1) 0)) (-1) 0) = 0) (bnV (sem 0 0 [aA ((up s2 l0 1 ((up s1 l0 0 (s (-1) 0)) (-1) 0)) (-1) 0)] [] (alc (up s2 l0 1 ((up s1 l0 0 (s (-1) 0)) (-1) 0)) (kl ((up s2 l0 1 ((up s1 l0 0 (s (-1) 0)) (-1) 0)) (-1) 0)) (fun i => if fty 0 i.toNat = 2 then -1 else 0))) fun s3 => grd (kd l0 = 8) (grd (0 ≤ (up s2 l0 1 ((up s1 l0 0 (s (-1) 0)) (-1) 0)) (-1) 0) (grd (kd ((up s3 l0 2 ((up s2 l0 1 ((up s1 l0 0 (s (-1) 0)) (-1) 0)) (-1) 0)) (-1) 0) = 4) (grd (kd ((up s3 l0 2 ((up s2 l0 1 ((up s1 l0 0 (s (-1) 0)) (-1) 0)) (-1) 0)) (-1) 0) = 4) (bnV (sem 65 0 [aA ((up s3 l0 2 ((up s2 l0 1 ((up s1 l0 0 (s (-1) 0)) (-1) 0)) (-1) 0)) (-1) 0)] [] (alc (up s3 l0 2 ((up s2 l0 1 ((up s1 l0 0 (s (-1) 0)) (-1) 0)) (-1) 0)) (kl ((up s3 l0 2 ((up s2 l0 1 ((up s1 l0 0 (s (-1) 0)) (-1) 0)) (-1) 0)) (-1) 0)) (fun i => if fty 4 i.toNat = 2 then -1 else 0))) fun s4 => grd (kd l0 = 8) (grd (0 ≤ (up s3 l0 2 ((up s2 l0 1 ((up s1 l0 0 (s (-1) 0)) (-1) 0)) (-1) 0)) (-1) 0) (grd (kd ((up s4 l0 3 ((up s3 l0 2 ((up s2 l0 1 ((up s1 l0 0 (s (-1) 0)) (-1) 0)) (-1) 0)) (-1) 0)) (-1) 0) = 7) (grd (kd ((up s4 l0 3 ((up s3 l0 2 ((up s2 l0 1 ((up s1 l0 0 (s (-1) 0)) (-1) 0)) (-1) 0)) (-1) 0)) (-1) 0) = 7) (bnV (sem 91 0 [aA ((up s4 l0 3 ((up s3 l0 2 ((up s2 l0 1 ((up s1 l0 0 (s (-1) 0)) (-1) 0)) (-1) 0)) (-1) 0)) (-1) 0)] [] (alc (up s4 l0 3 ((up s3 l0 2 ((up s2 l0 1 ((up s1 l0 0 (s (-1) 0)) (-1) 0)) (-1) 0)) (-1) 0)) (kl ((up s4 l0 3 ((up s3 l0 2 ((up s2 l0 1 ((up s1 l0 0 (s (-1) 0)) (-1) 0)) (-1) 0)) (-1) 0)) (-1) 0)) (fun i => if fty 7 i.toNat = 2 then -1 else 0))) fun s5 => grd (kd l0 = 8) (grd (0 ≤ (up s4 l0 3 ((up s3 l0 2 ((up s2 l0 1 ((up s1 l0 0 (s (-1) 0)) (-1) 0)) (-1) 0)) (-1) 0)) (-1) 0) (grd (kd ((up s5 l0 4 ((up s4 l0 3 ((up s3 l0 2 ((up s2 l0 1 ((up s1 l0 0 (s (-1) 0)) (-1) 0)) (-1) 0)) (-1) 0)) (-1) 0)) (-1) 0) = 1) (sem 103 63 [aA l0, aU] [aA ((up s5 l0 4 ((up s4 l0 3 ((up s3 l0 2 ((up s2 l0 1 ((up s1 l0 0 (s (-1) 0)) (-1) 0)) (-1) 0)) (-1) 0)) (-1) 0)) (-1) 0), aA l0] (alc (up s5 l0 4 ((up s4 l0 3 ((up s3 l0 2 ((up s2 l0 1 ((up s1 l0 0 (s (-1) 0)) (-1) 0)) (-1) 0)) (-1) 0)) (-1) 0)) (kl ((up s5 l0 4 ((up s4 l0 3 ((up s3 l0 2 ((up s2 l0 1 ((up s1 l0 0 (s (-1) 0)) (-1) 0)) (-1) 0)) (-1) 0)) (-1) 0)) (-1) 0)) (fun i => if fty 1 i.toNat = 2 then -1 else 0))))))))))))))))))))))) := by
  refine (x_aload f103_0 rfl rfl).trans ?_
  refine (x_monitorexit f103_1 rfl rfl).trans ?_
  refine (x_aload f103_4 rfl rfl).trans ?_
  refine (x_new f103_5 rfl).trans ?_
  refine g_c ?_
  refine (x_dup f103_8 rfl rfl).trans ?_
  refine (x_invokespecial (G := grd (kd (s (-1) 0) = 5) (bnV (sem 75 0 [aA (s (-1) 0)] [] (alc s (kl (s (-1) 0)) (fun i => if fty 5 i.toNat = 2 then -1 else 0))) fun s1 => sem 103 12 [aA l0, aU] [aA (s (-1) 0), aA l0] s1)) f103_9 rfl rfl).trans ?_
  refine g_c ?_
  refine bV_c fun s1 => ?_
  refine (x_put2 f103_12 rfl rfl).trans ?_
  refine g_c ?_
  refine g_c ?_
  refine (x_aload f103_15 rfl rfl).trans ?_
  refine (x_new f103_16 rfl).trans ?_
  refine g_c ?_
  refine (x_dup f103_19 rfl rfl).trans ?_
  refine (x_invokespecial (G := grd (kd ((up s1 l0 0 (s (-1) 0)) (-1) 0) = 2) (bnV (sem 31 0 [aA ((up s1 l0 0 (s (-1) 0)) (-1) 0)] [] (alc (up s1 l0 0 (s (-1) 0)) (kl ((up s1 l0 0 (s (-1) 0)) (-1) 0)) (fun i => if fty 2 i.toNat = 2 then -1 else 0))) fun s2 => sem 103 23 [aA l0, aU] [aA ((up s1 l0 0 (s (-1) 0)) (-1) 0), aA l0] s2)) f103_20 rfl rfl).trans ?_
  refine g_c ?_
  refine bV_c fun s2 => ?_
  refine (x_put2 f103_23 rfl rfl).trans ?_
  refine g_c ?_
  refine g_c ?_
  refine (x_aload f103_26 rfl rfl).trans ?_
  refine (x_new f103_27 rfl).trans ?_
  refine g_c ?_
  refine (x_dup f103_30 rfl rfl).trans ?_
  refine (x_invokespecial (G := grd (kd ((up s2 l0 1 ((up s1 l0 0 (s (-1) 0)) (-1) 0)) (-1) 0) = 0) (bnV (sem 0 0 [aA ((up s2 l0 1 ((up s1 l0 0 (s (-1) 0)) (-1) 0)) (-1) 0)] [] (alc (up s2 l0 1 ((up s1 l0 0 (s (-1) 0)) (-1) 0)) (kl ((up s2 l0 1 ((up s1 l0 0 (s (-1) 0)) (-1) 0)) (-1) 0)) (fun i => if fty 0 i.toNat = 2 then -1 else 0))) fun s3 => sem 103 34 [aA l0, aU] [aA ((up s2 l0 1 ((up s1 l0 0 (s (-1) 0)) (-1) 0)) (-1) 0), aA l0] s3)) f103_31 rfl rfl).trans ?_
  refine g_c ?_
  refine bV_c fun s3 => ?_
  refine (x_put2 f103_34 rfl rfl).trans ?_
  refine g_c ?_
  refine g_c ?_
  refine (x_aload f103_37 rfl rfl).trans ?_
  refine (x_new f103_38 rfl).trans ?_
  refine g_c ?_
  refine (x_dup f103_41 rfl rfl).trans ?_
  refine (x_invokespecial (G := grd (kd ((up s3 l0 2 ((up s2 l0 1 ((up s1 l0 0 (s (-1) 0)) (-1) 0)) (-1) 0)) (-1) 0) = 4) (bnV (sem 65 0 [aA ((up s3 l0 2 ((up s2 l0 1 ((up s1 l0 0 (s (-1) 0)) (-1) 0)) (-1) 0)) (-1) 0)] [] (alc (up s3 l0 2 ((up s2 l0 1 ((up s1 l0 0 (s (-1) 0)) (-1) 0)) (-1) 0)) (kl ((up s3 l0 2 ((up s2 l0 1 ((up s1 l0 0 (s (-1) 0)) (-1) 0)) (-1) 0)) (-1) 0)) (fun i => if fty 4 i.toNat = 2 then -1 else 0))) fun s4 => sem 103 45 [aA l0, aU] [aA ((up s3 l0 2 ((up s2 l0 1 ((up s1 l0 0 (s (-1) 0)) (-1) 0)) (-1) 0)) (-1) 0), aA l0] s4)) f103_42 rfl rfl).trans ?_
  refine g_c ?_
  refine bV_c fun s4 => ?_
  refine (x_put2 f103_45 rfl rfl).trans ?_
  refine g_c ?_
  refine g_c ?_
  refine (x_aload f103_48 rfl rfl).trans ?_
  refine (x_new f103_49 rfl).trans ?_
  refine g_c ?_
  refine (x_dup f103_52 rfl rfl).trans ?_
  refine (x_invokespecial (G := grd (kd ((up s4 l0 3 ((up s3 l0 2 ((up s2 l0 1 ((up s1 l0 0 (s (-1) 0)) (-1) 0)) (-1) 0)) (-1) 0)) (-1) 0) = 7) (bnV (sem 91 0 [aA ((up s4 l0 3 ((up s3 l0 2 ((up s2 l0 1 ((up s1 l0 0 (s (-1) 0)) (-1) 0)) (-1) 0)) (-1) 0)) (-1) 0)] [] (alc (up s4 l0 3 ((up s3 l0 2 ((up s2 l0 1 ((up s1 l0 0 (s (-1) 0)) (-1) 0)) (-1) 0)) (-1) 0)) (kl ((up s4 l0 3 ((up s3 l0 2 ((up s2 l0 1 ((up s1 l0 0 (s (-1) 0)) (-1) 0)) (-1) 0)) (-1) 0)) (-1) 0)) (fun i => if fty 7 i.toNat = 2 then -1 else 0))) fun s5 => sem 103 56 [aA l0, aU] [aA ((up s4 l0 3 ((up s3 l0 2 ((up s2 l0 1 ((up s1 l0 0 (s (-1) 0)) (-1) 0)) (-1) 0)) (-1) 0)) (-1) 0), aA l0] s5)) f103_53 rfl rfl).trans ?_
  refine g_c ?_
  refine bV_c fun s5 => ?_
  refine (x_put2 f103_56 rfl rfl).trans ?_
  refine g_c ?_
  refine g_c ?_
  refine (x_aload f103_59 rfl rfl).trans ?_
  refine (x_new f103_60 rfl).trans ?_
  refine g_c ?_
  rfl
set_option maxRecDepth 10000 in
theorem e103_63 (l0 v0 v1 : Int) (s : SG) : sem 103 63 [aA l0, aU] [aA v0, aA v1] s = grd (kd v0 = 1) (bnV (sem 17 0 [aA v0] [] s) fun s1 => grd (kd v1 = 8) (grd (0 ≤ v0) (grd (kd ((up s1 v1 5 v0) (-1) 0) = 3) (grd (kd ((up s1 v1 5 v0) (-1) 0) = 3) (bnV (sem 45 0 [aA ((up s1 v1 5 v0) (-1) 0)] [] (alc (up s1 v1 5 v0) (kl ((up s1 v1 5 v0) (-1) 0)) (fun i => if fty 3 i.toNat = 2 then -1 else 0))) fun s2 => grd (kd l0 = 8) (grd (0 ≤ (up s1 v1 5 v0) (-1) 0) (grd (kd ((up s2 l0 6 ((up s1 v1 5 v0) (-1) 0)) (-1) 0) = 104 ∧ kl ((up s2 l0 6 ((up s1 v1 5 v0) (-1) 0)) (-1) 0) = 2) (grd (kd l0 = 8) (grd (0 ≤ (up s2 l0 6 ((up s1 v1 5 v0) (-1) 0)) (-1) 0) (grd (kd ((up (alc (up s2 l0 6 ((up s1 v1 5 v0) (-1) 0)) 2 (fun _ => -1)) l0 7 ((up s2 l0 6 ((up s1 v1 5 v0) (-1) 0)) (-1) 0)) (-1) 0) = akind .boolean ∧ kl ((up (alc (up s2 l0 6 ((up s1 v1 5 v0) (-1) 0)) 2 (fun _ => -1)) l0 7 ((up s2 l0 6 ((up s1 v1 5 v0) (-1) 0)) (-1) 0)) (-1) 0) = 2) (grd (kd l0 = 8) (grd (0 ≤ (up (alc (up s2 l0 6 ((up s1 v1 5 v0) (-1) 0)) 2 (fun _ => -1)) l0 7 ((up s2 l0 6 ((up s1 v1 5 v0) (-1) 0)) (-1) 0)) (-1) 0) (sem 103 96 [aA l0, aU] [] (up (alc (up (alc (up s2 l0 6 ((up s1 v1 5 v0) (-1) 0)) 2 (fun _ => -1)) l0 7 ((up s2 l0 6 ((up s1 v1 5 v0) (-1) 0)) (-1) 0)) 2 (fun _ => 0)) l0 8 ((up (alc (up s2 l0 6 ((up s1 v1 5 v0) (-1) 0)) 2 (fun _ => -1)) l0 7 ((up s2 l0 6 ((up s1 v1 5 v0) (-1) 0)) (-1) 0)) (-1) 0))))))))))))))) := by
  refine (x_dup f103_63 rfl rfl).trans ?_
  refine (x_invokespecial (G := grd (kd v0 = 1) (bnV (sem 17 0 [aA v0] [] s) fun s1 => sem 103 67 [aA l0, aU] [aA v0, aA v1] s1)) f103_64 rfl rfl).trans ?_
  refine g_c ?_
  refine bV_c fun s1 => ?_
  refine (x_put2 f103_67 rfl rfl).trans ?_
  refine g_c ?_
  refine g_c ?_
  refine (x_aload f103_70 rfl rfl).trans ?_
  refine (x_new f103_71 rfl).trans ?_
  refine g_c ?_
  refine (x_dup f103_74 rfl rfl).trans ?_
  refine (x_invokespecial (G := grd (kd ((up s1 v1 5 v0) (-1) 0) = 3) (bnV (sem 45 0 [aA ((up s1 v1 5 v0) (-1) 0)] [] (alc (up s1 v1 5 v0) (kl ((up s1 v1 5 v0) (-1) 0)) (fun i => if fty 3 i.toNat = 2 then -1 else 0))) fun s2 => sem 103 78 [aA l0, aU] [aA ((up s1 v1 5 v0) (-1) 0), aA l0] s2)) f103_75 rfl rfl).trans ?_
  refine g_c ?_
  refine bV_c fun s2 => ?_
  refine (x_put2 f103_78 rfl rfl).trans ?_
  refine g_c ?_
  refine g_c ?_
  refine (x_aload f103_81 rfl rfl).trans ?_
  refine (x_iconst f103_82 rfl).trans ?_
  refine (x_anewarray f103_83 rfl).trans ?_
  refine g_c ?_
  refine (x_put2 f103_86 rfl rfl).trans ?_
  refine g_c ?_
  refine g_c ?_
  refine (x_aload f103_89 rfl rfl).trans ?_
  refine (x_iconst f103_90 rfl).trans ?_
  refine (x_newarray f103_91 rfl).trans ?_
  refine g_c ?_
  refine (x_put2 f103_93 rfl rfl).trans ?_
  refine g_c ?_
  refine g_c ?_
  rfl
set_option maxRecDepth 10000 in
theorem e103_96 (l0 : Int) (s : SG) : sem 103 96 [aA l0, aU] [] s = grd (kd (s (-1) 0) = 6) (grd (kd (s (-1) 0) = 6) (bnV (sem 81 0 [aA (s (-1) 0)] [] (alc s (kl (s (-1) 0)) (fun i => if fty 6 i.toNat = 2 then -1 else 0))) fun s1 => grd (kd l0 = 8) (grd (0 ≤ s (-1) 0) (grd (kd ((up s1 l0 9 (s (-1) 0)) (-1) 0) = 6) (grd (kd ((up s1 l0 9 (s (-1) 0)) (-1) 0) = 6) (bnV (sem 81 0 [aA ((up s1 l0 9 (s (-1) 0)) (-1) 0)] [] (alc (up s1 l0 9 (s (-1) 0)) (kl ((up s1 l0 9 (s (-1) 0)) (-1) 0)) (fun i => if fty 6 i.toNat = 2 then -1 else 0))) fun s2 => grd (kd l0 = 8) (grd (0 ≤ (up s1 l0 9 (s (-1) 0)) (-1) 0) (sem 103 120 [aA l0, aI 0] [] (up s2 l0 10 ((up s1 l0 9 (s (-1) 0)) (-1) 0)))))))))) := by
  refine (x_aload f103_96 rfl rfl).trans ?_
  refine (x_new f103_97 rfl).trans ?_
  refine g_c ?_
  refine (x_dup f103_100 rfl rfl).trans ?_
  refine (x_invokespecial (G := grd (kd (s (-1) 0) = 6) (bnV (sem 81 0 [aA (s (-1) 0)] [] (alc s (kl (s (-1) 0)) (fun i => if fty 6 i.toNat = 2 then -1 else 0))) fun s1 => sem 103 104 [aA l0, aU] [aA (s (-1) 0), aA l0] s1)) f103_101 rfl rfl).trans ?_
  refine g_c ?_
  refine bV_c fun s1 => ?_
  refine (x_put2 f103_104 rfl rfl).trans ?_
  refine g_c ?_
  refine g_c ?_
  refine (x_aload f103_107 rfl rfl).trans ?_
  refine (x_new f103_108 rfl).trans ?_
  refine g_c ?_
  refine (x_dup f103_111 rfl rfl).trans ?_
  refine (x_invokespecial (G := grd (kd ((up s1 l0 9 (s (-1) 0)) (-1) 0) = 6) (bnV (sem 81 0 [aA ((up s1 l0 9 (s (-1) 0)) (-1) 0)] [] (alc (up s1 l0 9 (s (-1) 0)) (kl ((up s1 l0 9 (s (-1) 0)) (-1) 0)) (fun i => if fty 6 i.toNat = 2 then -1 else 0))) fun s2 => sem 103 115 [aA l0, aU] [aA ((up s1 l0 9 (s (-1) 0)) (-1) 0), aA l0] s2)) f103_112 rfl rfl).trans ?_
  refine g_c ?_
  refine bV_c fun s2 => ?_
  refine (x_put2 f103_115 rfl rfl).trans ?_
  refine g_c ?_
  refine g_c ?_
  refine (x_iconst f103_118 rfl).trans ?_
  refine (x_istore (l2 := [aA l0, aI 0]) f103_119 rfl rfl).trans ?_
  rfl
set_option maxRecDepth 10000 in
theorem e103_120 (l0 l1 : Int) (s : SG) : sem 103 120 [aA l0, aI l1] [] s = if l1 < 2 then grd (kd l0 = 8) (grd (0 ≤ s l0 7) (grd (kd (s (-1) 0) = 1) (grd (kd (s (-1) 0) = 1) (bnV (sem 17 0 [aA (s (-1) 0)] [] (alc s (kl (s (-1) 0)) (fun i => if fty 1 i.toNat = 2 then -1 else 0))) fun s1 => grd (kd (s l0 7) = 104) (grd ((0 : Int) ≤ l1 ∧ l1 < kl (s l0 7)) (grd (kd (s (-1) 0) = 1) (sem 103 120 [aA l0, aI (w32 (l1 + 1))] [] (up s1 (s l0 7) l1 (s (-1) 0))))))))) else grd (kd l0 = 8) (grd (0 ≤ s l0 2) (grd (kd l0 = 8) (grd (0 ≤ s l0 9) (grd (kd (s l0 2) = 0) (bnV (sem 1 0 [aA (s l0 2), aA (s l0 9), aU, aU] [] s) fun s2 => some (aU, s2)))))) := by
  refine (x_iload f103_120 rfl rfl).trans ?_
  refine (x_iconst f103_121 rfl).trans ?_
  refine (x_icmp_ge (tg := 144) f103_122 rfl rfl).trans (i_c ?_ ?_)
  · refine (x_aload f103_125 rfl rfl).trans ?_
    refine (x_get2 f103_126 rfl rfl).trans ?_
    refine g_c ?_
    refine g_c ?_
    refine (x_iload f103_129 rfl rfl).trans ?_
    refine (x_new f103_130 rfl).trans ?_
    refine g_c ?_
    refine (x_dup f103_133 rfl rfl).trans ?_
    refine (x_invokespecial (G := grd (kd (s (-1) 0) = 1) (bnV (sem 17 0 [aA (s (-1) 0)] [] (alc s (kl (s (-1) 0)) (fun i => if fty 1 i.toNat = 2 then -1 else 0))) fun s1 => sem 103 137 [aA l0, aI l1] [aA (s (-1) 0), aI l1, aA (s l0 7)] s1)) f103_134 rfl rfl).trans ?_
    refine g_c ?_
    refine bV_c fun s1 => ?_
    refine (x_aastore f103_137 rfl).trans ?_
    refine g_c ?_
    refine g_c ?_
    refine g_c ?_
    refine (x_iinc (l2 := [aA l0, aI (w32 (l1 + 1))]) f103_138 rfl rfl rfl).trans ?_
    refine (x_goto (tg := 120) f103_141 rfl rfl).trans ?_
    rfl
  · refine (x_aload f103_144 rfl rfl).trans ?_
    refine (x_get2 f103_145 rfl rfl).trans ?_
    refine g_c ?_
    refine g_c ?_
    refine (x_aload f103_148 rfl rfl).trans ?_
    refine (x_get2 f103_149 rfl rfl).trans ?_
    refine g_c ?_
    refine g_c ?_
    refine (x_invokevirtual (G := grd (kd (s l0 2) = 0) (bnV (sem 1 0 [aA (s l0 2), aA (s l0 9), aU, aU] [] s) fun s2 => sem 103 155 [aA l0, aI l1] [] s2)) f103_152 rfl rfl).trans ?_
    refine g_c ?_
    refine bV_c fun s2 => ?_
    exact x_return f103_155 rfl
theorem f104_0 : fch 104 0 = some (.iload 1, 1, []) := by decide +kernel
theorem f104_1 : fch 104 1 = some (.iconst 1, 2, []) := by decide +kernel
theorem f104_2 : fch 104 2 = some (.if_icmp .lt 11, 5, []) := by decide +kernel
theorem f104_5 : fch 104 5 = some (.iload 1, 6, []) := by decide +kernel
theorem f104_6 : fch 104 6 = some (.iconst 8, 8, []) := by decide +kernel
theorem f104_8 : fch 104 8 = some (.if_icmp .le 14, 11, []) := by decide +kernel
theorem f104_11 : fch 104 11 = some (.iconst (-2), 13, [0, 1, 2]) := by decide +kernel
theorem f104_13 : fch 104 13 = some (.ireturn, 14, []) := by decide +kernel
theorem f104_14 : fch 104 14 = some (.aload 0, 15, []) := by decide +kernel
theorem f104_15 : fch 104 15 = some (.invokeinterface 8 0, 18, []) := by decide +kernel
theorem f104_18 : fch 104 18 = some (.iload 1, 19, []) := by decide +kernel
theorem f104_19 : fch 104 19 = some (.invokevirtual 77, 22, []) := by decide +kernel
theorem f104_22 : fch 104 22 = some (.ifCond .ne 28, 25, []) := by decide +kernel
theorem f104_25 : fch 104 25 = some (.iconst (-4), 27, []) := by decide +kernel
theorem f104_27 : fch 104 27 = some (.ireturn, 28, []) := by decide +kernel
theorem f104_28 : fch 104 28 = some (.aload 0, 29, []) := by decide +kernel
theorem f104_29 : fch 104 29 = some (.invokeinterface 8 0, 32, []) := by decide +kernel
theorem f104_32 : fch 104 32 = some (.iload 1, 33, []) := by decide +kernel
theorem f104_33 : fch 104 33 = some (.lload 2, 34, []) := by decide +kernel
theorem f104_34 : fch 104 34 = some (.invokevirtual 78, 37, []) := by decide +kernel
theorem f104_37 : fch 104 37 = some (.aload 0, 38, []) := by decide +kernel
theorem f104_38 : fch 104 38 = some (.invokeinterface 8 0, 41, []) := by decide +kernel
theorem f104_41 : fch 104 41 = some (.invokevirtual 76, 44, []) := by decide +kernel
theorem f104_44 : fch 104 44 = some (.ireturn, 45, []) := by decide +kernel
set_option maxRecDepth 10000 in
theorem e104_0 (l0 l1 l2 : Int) (s : SG) : sem 104 0 [aA l0, aI l1, aL l2, aU] [] s = if l1 < 1 then some (aI ((-2)), s) else if (8 : Int) < l1 then some (aI ((-2)), s) else grd (kd l0 = 8) (grd (0 ≤ s l0 0) (grd (kd (s l0 0) = 5) (bnI (sem 77 0 [aA (s l0 0), aI l1] [] s) fun a2 s1 => if a2 = 0 then some (aI ((-4)), s1) else grd (kd l0 = 8) (grd (0 ≤ s1 l0 0) (grd (kd (s1 l0 0) = 5) (bnV (sem 78 0 [aA (s1 l0 0), aI l1, aL l2, aU, aU] [] s1) fun s3 => grd (kd l0 = 8) (grd (0 ≤ s3 l0 0) (grd (kd (s3 l0 0) = 5) (bnI (sem 76 0 [aA (s3 l0 0)] [] s3) fun a5 s4 => some (aI a5, s4)))))))))) := by
  refine (x_iload f104_0 rfl rfl).trans ?_
  refine (x_iconst f104_1 rfl).trans ?_
  refine (x_icmp_lt (tg := 11) f104_2 rfl rfl).trans (i_c ?_ ?_)
  · refine (x_kil (l2 := [aU, aU, aU, aU]) f104_11 rfl).trans ?_
    refine (x_iconst f104_11 rfl).trans ?_
    exact x_ireturn f104_13 rfl
  · refine (x_iload f104_5 rfl rfl).trans ?_
    refine (x_iconst f104_6 rfl).trans ?_
    refine (x_icmp_le (tg := 14) f104_8 rfl rfl).trans (i_c ?_ ?_)
    · refine (x_kil (l2 := [aU, aU, aU, aU]) f104_11 rfl).trans ?_
      refine (x_iconst f104_11 rfl).trans ?_
      exact x_ireturn f104_13 rfl
    · refine (x_aload f104_14 rfl rfl).trans ?_
      refine (x_get2 f104_15 rfl rfl).trans ?_
      refine g_c ?_
      refine g_c ?_
      refine (x_iload f104_18 rfl rfl).trans ?_
      refine (x_invokevirtual (G := grd (kd (s l0 0) = 5) (bnI (sem 77 0 [aA (s l0 0), aI l1] [] s) fun a2 s1 => sem 104 22 [aA l0, aI l1, aL l2, aU] [aI a2] s1)) f104_19 rfl rfl).trans ?_
      refine g_c ?_
      refine bI_c fun a2 s1 => ?_
      refine (x_if_ne (tg := 28) f104_22 rfl rfl).trans (i_c ?_ ?_)
      · refine (x_iconst f104_25 rfl).trans ?_
        exact x_ireturn f104_27 rfl
      · refine (x_aload f104_28 rfl rfl).trans ?_
        refine (x_get2 f104_29 rfl rfl).trans ?_
        refine g_c ?_
        refine g_c ?_
        refine (x_iload f104_32 rfl rfl).trans ?_
        refine (x_lload f104_33 rfl rfl).trans ?_
        refine (x_invokevirtual (G := grd (kd (s1 l0 0) = 5) (bnV (sem 78 0 [aA (s1 l0 0), aI l1, aL l2, aU, aU] [] s1) fun s3 => sem 104 37 [aA l0, aI l1, aL l2, aU] [] s3)) f104_34 rfl rfl).trans ?_
        refine g_c ?_
        refine bV_c fun s3 => ?_
        refine (x_aload f104_37 rfl rfl).trans ?_
        refine (x_get2 f104_38 rfl rfl).trans ?_
        refine g_c ?_
        refine g_c ?_
        refine (x_invokevirtual (G := grd (kd (s3 l0 0) = 5) (bnI (sem 76 0 [aA (s3 l0 0)] [] s3) fun a5 s4 => sem 104 44 [aA l0, aI l1, aL l2, aU] [aI a5] s4)) f104_41 rfl rfl).trans ?_
        refine g_c ?_
        refine bI_c fun a5 s4 => ?_
        exact x_ireturn f104_44 rfl
theorem f105_0 : fch 105 0 = some (.aload 0, 1, []) := by decide +kernel
theorem f105_1 : fch 105 1 = some (.invokeinterface 8 0, 4, []) := by decide +kernel
theorem f105_4 : fch 105 4 = some (.invokevirtual 79, 7, []) := by decide +kernel
theorem f105_7 : fch 105 7 = some (.ireturn, 8, []) := by decide +kernel
set_option maxRecDepth 10000 in
theorem e105_0 (l0 : Int) (s : SG) : sem 105 0 [aA l0] [] s = grd (kd l0 = 8) (grd (0 ≤ s l0 0) (grd (kd (s l0 0) = 5) (bnI (sem 79 0 [aA (s l0 0), aU] [] s) fun a2 s1 => some (aI a2, s1)))) := by
  refine (x_aload f105_0 rfl rfl).trans ?_
  refine (x_get2 f105_1 rfl rfl).trans ?_
  refine g_c ?_
  refine g_c ?_
  refine (x_invokevirtual (G := grd (kd (s l0 0) = 5) (bnI (sem 79 0 [aA (s l0 0), aU] [] s) fun a2 s1 => sem 105 7 [aA l0] [aI a2] s1)) f105_4 rfl rfl).trans ?_
  refine g_c ?_
  refine bI_c fun a2 s1 => ?_
  exact x_ireturn f105_7 rfl
theorem f106_0 : fch 106 0 = some (.aload 0, 1, []) := by decide +kernel
theorem f106_1 : fch 106 1 = some (.invokeinterface 8 1, 4, []) := by decide +kernel
theorem f106_4 : fch 106 4 = some (.aload 0, 5, []) := by decide +kernel
theorem f106_5 : fch 106 5 = some (.invokeinterface 8 0, 8, []) := by decide +kernel
theorem f106_8 : fch 106 8 = some (.aload 0, 9, []) := by decide +kernel
theorem f106_9 : fch 106 9 = some (.invokeinterface 8 10, 12, []) := by decide +kernel
theorem f106_12 : fch 106 12 = some (.invokevirtual 33, 15, []) := by decide +kernel
theorem f106_15 : fch 106 15 = some (.ireturn, 16, []) := by decide +kernel
set_option maxRecDepth 10000 in
theorem e106_0 (l0 : Int) (s : SG) : sem 106 0 [aA l0] [] s = grd (kd l0 = 8) (grd (0 ≤ s l0 1) (grd (kd l0 = 8) (grd (0 ≤ s l0 0) (grd (kd l0 = 8) (grd (0 ≤ s l0 10) (grd (kd (s l0 1) = 2) (bnI (sem 33 0 [aA (s l0 1), aA (s l0 0), aA (s l0 10), aU] [] s) fun a2 s1 => some (aI a2, s1)))))))) := by
  refine (x_aload f106_0 rfl rfl).trans ?_
  refine (x_get2 f106_1 rfl rfl).trans ?_
  refine g_c ?_
  refine g_c ?_
  refine (x_aload f106_4 rfl rfl).trans ?_
  refine (x_get2 f106_5 rfl rfl).trans ?_
  refine g_c ?_
  refine g_c ?_
  refine (x_aload f106_8 rfl rfl).trans ?_
  refine (x_get2 f106_9 rfl rfl).trans ?_
  refine g_c ?_
  refine g_c ?_
  refine (x_invokevirtual (G := grd (kd (s l0 1) = 2) (bnI (sem 33 0 [aA (s l0 1), aA (s l0 0), aA (s l0 10), aU] [] s) fun a2 s1 => sem 106 15 [aA l0] [aI a2] s1)) f106_12 rfl rfl).trans ?_
  refine g_c ?_
  refine bI_c fun a2 s1 => ?_
  exact x_ireturn f106_15 rfl
theorem f107_0 : fch 107 0 = some (.aload 0, 1, []) := by decide +kernel
theorem f107_1 : fch 107 1 = some (.invokeinterface 8 1, 4, []) := by decide +kernel
theorem f107_4 : fch 107 4 = some (.aload 0, 5, []) := by decide +kernel
theorem f107_5 : fch 107 5 = some (.invokeinterface 8 0, 8, []) := by decide +kernel
theorem f107_8 : fch 107 8 = some (.aload 0, 9, []) := by decide +kernel
theorem f107_9 : fch 107 9 = some (.invokeinterface 8 10, 12, []) := by decide +kernel
theorem f107_12 : fch 107 12 = some (.invokevirtual 33, 15, []) := by decide +kernel
theorem f107_15 : fch 107 15 = some (.iconst (-9), 17, []) := by decide +kernel
theorem f107_17 : fch 107 17 = some (.if_icmp .eq 23, 20, []) := by decide +kernel
theorem f107_20 : fch 107 20 = some (.iconst (-3), 22, []) := by decide +kernel
theorem f107_22 : fch 107 22 = some (.ireturn, 23, []) := by decide +kernel
theorem f107_23 : fch 107 23 = some (.aload 0, 24, []) := by decide +kernel
theorem f107_24 : fch 107 24 = some (.invokeinterface 8 9, 27, []) := by decide +kernel
theorem f107_27 : fch 107 27 = some (.astore 1, 28, []) := by decide +kernel
theorem f107_28 : fch 107 28 = some (.aload 0, 29, []) := by decide +kernel
theorem f107_29 : fch 107 29 = some (.aload 0, 30, []) := by decide +kernel
theorem f107_30 : fch 107 30 = some (.invokeinterface 8 10, 33, []) := by decide +kernel
theorem f107_33 : fch 107 33 = some (.multianewarray 8 9, 36, []) := by decide +kernel
theorem f107_36 : fch 107 36 = some (.aload 0, 37, []) := by decide +kernel
theorem f107_37 : fch 107 37 = some (.aload 1, 38, []) := by decide +kernel
theorem f107_38 : fch 107 38 = some (.multianewarray 8 10, 41, []) := by decide +kernel
theorem f107_41 : fch 107 41 = some (.aload 0, 42, []) := by decide +kernel
theorem f107_42 : fch 107 42 = some (.invokeinterface 8 2, 45, []) := by decide +kernel
theorem f107_45 : fch 107 45 = some (.aload 0, 46, []) := by decide +kernel
theorem f107_46 : fch 107 46 = some (.invokeinterface 8 9, 49, []) := by decide +kernel
theorem f107_49 : fch 107 49 = some (.invokevirtual 1, 52, []) := by decide +kernel
theorem f107_52 : fch 107 52 = some (.aload 0, 53, []) := by decide +kernel
theorem f107_53 : fch 107 53 = some (.invokeinterface 8 3, 56, []) := by decide +kernel
theorem f107_56 : fch 107 56 = some (.invokevirtual 68, 59, []) := by decide +kernel
theorem f107_59 : fch 107 59 = some (.pop, 60, []) := by decide +kernel
theorem f107_60 : fch 107 60 = some (.aload 0, 61, []) := by decide +kernel
theorem f107_61 : fch 107 61 = some (.invokeinterface 8 5, 64, []) := by decide +kernel
theorem f107_64 : fch 107 64 = some (.invokevirtual 18, 67, []) := by decide +kernel
theorem f107_67 : fch 107 67 = some (.iconst 0, 68, []) := by decide +kernel
theorem f107_68 : fch 107 68 = some (.istore 2, 69, []) := by decide +kernel
theorem f107_69 : fch 107 69 = some (.iload 2, 70, [1]) := by decide +kernel
theorem f107_70 : fch 107 70 = some (.iconst 2, 71, []) := by decide +kernel
theorem f107_71 : fch 107 71 = some (.if_icmp .ge 87, 74, []) := by decide +kernel
theorem f107_74 : fch 107 74 = some (.aload 0, 75, []) := by decide +kernel
theorem f107_75 : fch 107 75 = some (.invokeinterface 8 8, 78, []) := by decide +kernel
theorem f107_78 : fch 107 78 = some (.iload 2, 79, []) := by decide +kernel
theorem f107_79 : fch 107 79 = some (.iconst 0, 80, []) := by decide +kernel
theorem f107_80 : fch 107 80 = some (.bastore, 81, []) := by decide +kernel
theorem f107_81 : fch 107 81 = some (.iinc 2 1, 84, []) := by decide +kernel
theorem f107_84 : fch 107 84 = some (.goto 69, 87, []) := by decide +kernel
theorem f107_87 : fch 107 87 = some (.aload 0, 88, []) := by decide +kernel
theorem f107_88 : fch 107 88 = some (.invokeinterface 8 1, 91, []) := by decide +kernel
theorem f107_91 : fch 107 91 = some (.invokevirtual 32, 94, []) := by decide +kernel
theorem f107_94 : fch 107 94 = some (.ireturn, 95, []) := by decide +kernel
set_option maxRecDepth 10000 in
theorem e107_0 (l0 : Int) (s : SG) : sem 107 0 [aA l0, aU, aU] [] s = grd (kd l0 = 8) (grd (0 ≤ s l0 1) (grd (kd l0 = 8) (grd (0 ≤ s l0 0) (grd (kd l0 = 8) (grd (0 ≤ s l0 10) (grd (kd (s l0 1) = 2) (bnI (sem 33 0 [aA (s l0 1), aA (s l0 0), aA (s l0 10), aU] [] s) fun a2 s1 => if a2 = ((-9)) then grd (kd l0 = 8) (grd (0 ≤ s1 l0 9) (grd (kd l0 = 8) (grd (0 ≤ s1 l0 10) (grd (kd l0 = 8) (grd (0 ≤ s1 l0 10) (grd (kd l0 = 8) (grd (0 ≤ s1 l0 9) (grd (kd l0 = 8) (grd (0 ≤ (up (up s1 l0 9 (s1 l0 10)) l0 10 (s1 l0 9)) l0 2) (grd (kd l0 = 8) (grd (0 ≤ (up (up s1 l0 9 (s1 l0 10)) l0 10 (s1 l0 9)) l0 9) (grd (kd ((up (up s1 l0 9 (s1 l0 10)) l0 10 (s1 l0 9)) l0 2) = 0) (bnV (sem 1 0 [aA ((up (up s1 l0 9 (s1 l0 10)) l0 10 (s1 l0 9)) l0 2), aA ((up (up s1 l0 9 (s1 l0 10)) l0 10 (s1 l0 9)) l0 9), aU, aU] [] (up (up s1 l0 9 (s1 l0 10)) l0 10 (s1 l0 9))) fun s3 => grd (kd l0 = 8) (grd (0 ≤ s3 l0 3) (grd (kd (s3 l0 3) = 4) (bnI (sem 68 0 [aA (s3 l0 3), aU] [] s3) fun a5 s4 => grd (kd l0 = 8) (grd (0 ≤ s4 l0 5) (grd (kd (s4 l0 5) = 1) (bnV (sem 18 0 [aA (s4 l0 5)] [] s4) fun s6 => sem 107 69 [aA l0, aU, aI 0] [] s6))))))))))))))))))) else some (aI ((-3)), s1)))))))) := by
  refine (x_aload f107_0 rfl rfl).trans ?_
  refine (x_get2 f107_1 rfl rfl).trans ?_
  refine g_c ?_
  refine g_c ?_
  refine (x_aload f107_4 rfl rfl).trans ?_
  refine (x_get2 f107_5 rfl rfl).trans ?_
  refine g_c ?_
  refine g_c ?_
  refine (x_aload f107_8 rfl rfl).trans ?_
  refine (x_get2 f107_9 rfl rfl).trans ?_
  refine g_c ?_
  refine g_c ?_
  refine (x_invokevirtual (G := grd (kd (s l0 1) = 2) (bnI (sem 33 0 [aA (s l0 1), aA (s l0 0), aA (s l0 10), aU] [] s) fun a2 s1 => sem 107 15 [aA l0, aU, aU] [aI a2] s1)) f107_12 rfl rfl).trans ?_
  refine g_c ?_
  refine bI_c fun a2 s1 => ?_
  refine (x_iconst f107_15 rfl).trans ?_
  refine (x_icmp_eq (tg := 23) f107_17 rfl rfl).trans (i_c ?_ ?_)
  · refine (x_aload f107_23 rfl rfl).trans ?_
    refine (x_get2 f107_24 rfl rfl).trans ?_
    refine g_c ?_
    refine g_c ?_
    refine (x_astore (l2 := [aA l0, aA (s1 l0 9), aU]) f107_27 rfl rfl).trans ?_
    refine (x_aload f107_28 rfl rfl).trans ?_
    refine (x_aload f107_29 rfl rfl).trans ?_
    refine (x_get2 f107_30 rfl rfl).trans ?_
    refine g_c ?_
    refine g_c ?_
    refine (x_put2 f107_33 rfl rfl).trans ?_
    refine g_c ?_
    refine g_c ?_
    refine (x_aload f107_36 rfl rfl).trans ?_
    refine (x_aload f107_37 rfl rfl).trans ?_
    refine (x_put2 f107_38 rfl rfl).trans ?_
    refine g_c ?_
    refine g_c ?_
    refine (x_aload f107_41 rfl rfl).trans ?_
    refine (x_get2 f107_42 rfl rfl).trans ?_
    refine g_c ?_
    refine g_c ?_
    refine (x_aload f107_45 rfl rfl).trans ?_
    refine (x_get2 f107_46 rfl rfl).trans ?_
    refine g_c ?_
    refine g_c ?_
    refine (x_invokevirtual (G := grd (kd ((up (up s1 l0 9 (s1 l0 10)) l0 10 (s1 l0 9)) l0 2) = 0) (bnV (sem 1 0 [aA ((up (up s1 l0 9 (s1 l0 10)) l0 10 (s1 l0 9)) l0 2), aA ((up (up s1 l0 9 (s1 l0 10)) l0 10 (s1 l0 9)) l0 9), aU, aU] [] (up (up s1 l0 9 (s1 l0 10)) l0 10 (s1 l0 9))) fun s3 => sem 107 52 [aA l0, aA (s1 l0 9), aU] [] s3)) f107_49 rfl rfl).trans ?_
    refine g_c ?_
    refine bV_c fun s3 => ?_
    refine (x_aload f107_52 rfl rfl).trans ?_
    refine (x_get2 f107_53 rfl rfl).trans ?_
    refine g_c ?_
    refine g_c ?_
    refine (x_invokevirtual (G := grd (kd (s3 l0 3) = 4) (bnI (sem 68 0 [aA (s3 l0 3), aU] [] s3) fun a5 s4 => sem 107 59 [aA l0, aA (s1 l0 9), aU] [aI a5] s4)) f107_56 rfl rfl).trans ?_
    refine g_c ?_
    refine bI_c fun a5 s4 => ?_
    refine (x_pop f107_59 rfl rfl).trans ?_
    refine (x_aload f107_60 rfl rfl).trans ?_
    refine (x_get2 f107_61 rfl rfl).trans ?_
    refine g_c ?_
    refine g_c ?_
    refine (x_invokevirtual (G := grd (kd (s4 l0 5) = 1) (bnV (sem 18 0 [aA (s4 l0 5)] [] s4) fun s6 => sem 107 67 [aA l0, aA (s1 l0 9), aU] [] s6)) f107_64 rfl rfl).trans ?_
    refine g_c ?_
    refine bV_c fun s6 => ?_
    refine (x_iconst f107_67 rfl).trans ?_
    refine (x_istore (l2 := [aA l0, aA (s1 l0 9), aI 0]) f107_68 rfl rfl).trans ?_
    exact x_kil f107_69 rfl
  · refine (x_iconst f107_20 rfl).trans ?_
    exact x_ireturn f107_22 rfl
set_option maxRecDepth 10000 in
theorem e107_69 (l0 l2 : Int) (s : SG) : sem 107 69 [aA l0, aU, aI l2] [] s = if l2 < 2 then grd (kd l0 = 8) (grd (0 ≤ s l0 8) (grd (kd (s l0 8) = 102) (grd ((0 : Int) ≤ l2 ∧ l2 < kl (s l0 8)) (grd ((0 : Int) = 0 ∨ (0 : Int) = 1) (sem 107 69 [aA l0, aU, aI (w32 (l2 + 1))] [] (up s (s l0 8) l2 0)))))) else grd (kd l0 = 8) (grd (0 ≤ s l0 1) (grd (kd (s l0 1) = 2) (bnI (sem 32 0 [aA (s l0 1)] [] s) fun a2 s1 => some (aI a2, s1)))) := by
  refine (x_iload f107_69 rfl rfl).trans ?_
  refine (x_iconst f107_70 rfl).trans ?_
  refine (x_icmp_ge (tg := 87) f107_71 rfl rfl).trans (i_c ?_ ?_)
  · refine (x_aload f107_74 rfl rfl).trans ?_
    refine (x_get2 f107_75 rfl rfl).trans ?_
    refine g_c ?_
    refine g_c ?_
    refine (x_iload f107_78 rfl rfl).trans ?_
    refine (x_iconst f107_79 rfl).trans ?_
    refine (x_bastore f107_80 rfl).trans ?_
    refine g_c ?_
    refine g_c ?_
    refine g_c ?_
    refine (x_iinc (l2 := [aA l0, aU, aI (w32 (l2 + 1))]) f107_81 rfl rfl rfl).trans ?_
    refine (x_goto (tg := 69) f107_84 rfl rfl).trans ?_
    rfl
  · refine (x_aload f107_87 rfl rfl).trans ?_
    refine (x_get2 f107_88 rfl rfl).trans ?_
    refine g_c ?_
    refine g_c ?_
    refine (x_invokevirtual (G := grd (kd (s l0 1) = 2) (bnI (sem 32 0 [aA (s l0 1)] [] s) fun a2 s1 => sem 107 94 [aA l0, aU, aI l2] [aI a2] s1)) f107_91 rfl rfl).trans ?_
    refine g_c ?_
    refine bI_c fun a2 s1 => ?_
    exact x_ireturn f107_94 rfl
theorem f108_0 : fch 108 0 = some (.aload 0, 1, []) := by decide +kernel
theorem f108_1 : fch 108 1 = some (.invokeinterface 8 9, 4, []) := by decide +kernel
theorem f108_4 : fch 108 4 = some (.iload 1, 5, []) := by decide +kernel
theorem f108_5 : fch 108 5 = some (.invokevirtual 83, 8, []) := by decide +kernel
theorem f108_8 : fch 108 8 = some (.ifCond .eq 18, 11, []) := by decide +kernel
theorem f108_11 : fch 108 11 = some (.iload 2, 12, []) := by decide +kernel
theorem f108_12 : fch 108 12 = some (.invokestatic 140, 15, []) := by decide +kernel
theorem f108_15 : fch 108 15 = some (.ifCond .ne 20, 18, []) := by decide +kernel
theorem f108_18 : fch 108 18 = some (.iconst (-1), 19, [0, 1, 2, 3]) := by decide +kernel
theorem f108_19 : fch 108 19 = some (.ireturn, 20, []) := by decide +kernel
theorem f108_20 : fch 108 20 = some (.iload 3, 21, []) := by decide +kernel
theorem f108_21 : fch 108 21 = some (.ifCond .lt 29, 24, []) := by decide +kernel
theorem f108_24 : fch 108 24 = some (.iload 3, 25, []) := by decide +kernel
theorem f108_25 : fch 108 25 = some (.iconst 1, 26, []) := by decide +kernel
theorem f108_26 : fch 108 26 = some (.if_icmp .le 32, 29, []) := by decide +kernel
theorem f108_29 : fch 108 29 = some (.iconst (-2), 31, [0, 1, 2, 3]) := by decide +kernel
theorem f108_31 : fch 108 31 = some (.ireturn, 32, []) := by decide +kernel
theorem f108_32 : fch 108 32 = some (.iload 3, 33, []) := by decide +kernel
theorem f108_33 : fch 108 33 = some (.ifCond .ne 48, 36, []) := by decide +kernel
theorem f108_36 : fch 108 36 = some (.aload 0, 37, []) := by decide +kernel
theorem f108_37 : fch 108 37 = some (.invokeinterface 8 9, 40, []) := by decide +kernel
theorem f108_40 : fch 108 40 = some (.iload 1, 41, []) := by decide +kernel
theorem f108_41 : fch 108 41 = some (.iload 2, 42, []) := by decide +kernel
theorem f108_42 : fch 108 42 = some (.invokevirtual 85, 45, []) := by decide +kernel
theorem f108_45 : fch 108 45 = some (.goto 57, 48, []) := by decide +kernel
theorem f108_48 : fch 108 48 = some (.aload 0, 49, []) := by decide +kernel
theorem f108_49 : fch 108 49 = some (.invokeinterface 8 9, 52, []) := by decide +kernel
theorem f108_52 : fch 108 52 = some (.iload 1, 53, []) := by decide +kernel
theorem f108_53 : fch 108 53 = some (.iload 2, 54, []) := by decide +kernel
theorem f108_54 : fch 108 54 = some (.invokevirtual 86, 57, []) := by decide +kernel
theorem f108_57 : fch 108 57 = some (.ireturn, 58, [0, 1, 2, 3]) := by decide +kernel
set_option maxRecDepth 10000 in
theorem e108_0 (l0 l1 l2 l3 : Int) (s : SG) : sem 108 0 [aA l0, aI l1, aI l2, aI l3] [] s = grd (kd l0 = 8) (grd (0 ≤ s l0 9) (grd (kd (s l0 9) = 6) (bnI (sem 83 0 [aA (s l0 9), aI l1] [] s) fun a2 s1 => if a2 = 0 then some (aI ((-1)), s1) else bnI (sem 140 0 [aI l2] [] s1) fun a4 s3 => if a4 = 0 then some (aI ((-1)), s3) else if l3 < 0 then some (aI ((-2)), s3) else if (1 : Int) < l3 then some (aI ((-2)), s3) else if l3 = 0 then grd (kd l0 = 8) (grd (0 ≤ s3 l0 9) (grd (kd (s3 l0 9) = 6) (bnI (sem 85 0 [aA (s3 l0 9), aI l1, aI l2, aU] [] s3) fun a6 s5 => some (aI a6, s5)))) else grd (kd l0 = 8) (grd (0 ≤ s3 l0 9) (grd (kd (s3 l0 9) = 6) (bnI (sem 86 0 [aA (s3 l0 9), aI l1, aI l2, aU] [] s3) fun a8 s7 => some (aI a8, s7))))))) := by
  refine (x_aload f108_0 rfl rfl).trans ?_
  refine (x_get2 f108_1 rfl rfl).trans ?_
  refine g_c ?_
  refine g_c ?_
  refine (x_iload f108_4 rfl rfl).trans ?_
  refine (x_invokevirtual (G := grd (kd (s l0 9) = 6) (bnI (sem 83 0 [aA (s l0 9), aI l1] [] s) fun a2 s1 => sem 108 8 [aA l0, aI l1, aI l2, aI l3] [aI a2] s1)) f108_5 rfl rfl).trans ?_
  refine g_c ?_
  refine bI_c fun a2 s1 => ?_
  refine (x_if_eq (tg := 18) f108_8 rfl rfl).trans (i_c ?_ ?_)
  · refine (x_kil (l2 := [aU, aU, aU, aU]) f108_18 rfl).trans ?_
    refine (x_iconst f108_18 rfl).trans ?_
    exact x_ireturn f108_19 rfl
  · refine (x_iload f108_11 rfl rfl).trans ?_
    refine (x_invokestatic (G := bnI (sem 140 0 [aI l2] [] s1) fun a4 s3 => sem 108 15 [aA l0, aI l1, aI l2, aI l3] [aI a4] s3) f108_12 rfl rfl).trans ?_
    refine bI_c fun a4 s3 => ?_
    refine (x_if_ne (tg := 20) f108_15 rfl rfl).trans (i_c ?_ ?_)
    · refine (x_kil (l2 := [aU, aU, aU, aU]) f108_18 rfl).trans ?_
      refine (x_iconst f108_18 rfl).trans ?_
      exact x_ireturn f108_19 rfl
    · refine (x_iload f108_20 rfl rfl).trans ?_
      refine (x_if_lt (tg := 29) f108_21 rfl rfl).trans (i_c ?_ ?_)
      · refine (x_kil (l2 := [aU, aU, aU, aU]) f108_29 rfl).trans ?_
        refine (x_iconst f108_29 rfl).trans ?_
        exact x_ireturn f108_31 rfl
      · refine (x_iload f108_24 rfl rfl).trans ?_
        refine (x_iconst f108_25 rfl).trans ?_
        refine (x_icmp_le (tg := 32) f108_26 rfl rfl).trans (i_c ?_ ?_)
        · refine (x_kil (l2 := [aU, aU, aU, aU]) f108_29 rfl).trans ?_
          refine (x_iconst f108_29 rfl).trans ?_
          exact x_ireturn f108_31 rfl
        · refine (x_iload f108_32 rfl rfl).trans ?_
          refine (x_if_ne (tg := 48) f108_33 rfl rfl).trans (i_c ?_ ?_)
          · refine (x_aload f108_36 rfl rfl).trans ?_
            refine (x_get2 f108_37 rfl rfl).trans ?_
            refine g_c ?_
            refine g_c ?_
            refine (x_iload f108_40 rfl rfl).trans ?_
            refine (x_iload f108_41 rfl rfl).trans ?_
            refine (x_invokevirtual (G := grd (kd (s3 l0 9) = 6) (bnI (sem 85 0 [aA (s3 l0 9), aI l1, aI l2, aU] [] s3) fun a6 s5 => sem 108 45 [aA l0, aI l1, aI l2, aI l3] [aI a6] s5)) f108_42 rfl rfl).trans ?_
            refine g_c ?_
            refine bI_c fun a6 s5 => ?_
            refine (x_goto (tg := 57) f108_45 rfl rfl).trans ?_
            refine (x_kil (l2 := [aU, aU, aU, aU]) f108_57 rfl).trans ?_
            exact x_ireturn f108_57 rfl
          · refine (x_aload f108_48 rfl rfl).trans ?_
            refine (x_get2 f108_49 rfl rfl).trans ?_
            refine g_c ?_
            refine g_c ?_
            refine (x_iload f108_52 rfl rfl).trans ?_
            refine (x_iload f108_53 rfl rfl).trans ?_
            refine (x_invokevirtual (G := grd (kd (s3 l0 9) = 6) (bnI (sem 86 0 [aA (s3 l0 9), aI l1, aI l2, aU] [] s3) fun a8 s7 => sem 108 57 [aA l0, aI l1, aI l2, aI l3] [aI a8] s7)) f108_54 rfl rfl).trans ?_
            refine g_c ?_
            refine bI_c fun a8 s7 => ?_
            refine (x_kil (l2 := [aU, aU, aU, aU]) f108_57 rfl).trans ?_
            exact x_ireturn f108_57 rfl
theorem f109_0 : fch 109 0 = some (.iload 1, 1, []) := by decide +kernel
theorem f109_1 : fch 109 1 = some (.ifCond .lt 10, 4, []) := by decide +kernel
theorem f109_4 : fch 109 4 = some (.iload 1, 5, []) := by decide +kernel
theorem f109_5 : fch 109 5 = some (.iconst 9, 7, []) := by decide +kernel
theorem f109_7 : fch 109 7 = some (.if_icmp .le 13, 10, []) := by decide +kernel
theorem f109_10 : fch 109 10 = some (.iconst (-2), 12, [0, 1]) := by decide +kernel
theorem f109_12 : fch 109 12 = some (.ireturn, 13, []) := by decide +kernel
theorem f109_13 : fch 109 13 = some (.iload 1, 14, []) := by decide +kernel
theorem f109_14 : fch 109 14 = some (.ifCond .ne 25, 17, []) := by decide +kernel
theorem f109_17 : fch 109 17 = some (.aload 0, 18, []) := by decide +kernel
theorem f109_18 : fch 109 18 = some (.invokeinterface 8 9, 21, []) := by decide +kernel
theorem f109_21 : fch 109 21 = some (.invokeinterface 6 4, 24, []) := by decide +kernel
theorem f109_24 : fch 109 24 = some (.ireturn, 25, []) := by decide +kernel
theorem f109_25 : fch 109 25 = some (.iload 1, 26, []) := by decide +kernel
theorem f109_26 : fch 109 26 = some (.iconst 3, 27, []) := by decide +kernel
theorem f109_27 : fch 109 27 = some (.if_icmp .gt 41, 30, []) := by decide +kernel
theorem f109_30 : fch 109 30 = some (.aload 0, 31, []) := by decide +kernel
theorem f109_31 : fch 109 31 = some (.invokeinterface 8 9, 34, []) := by decide +kernel
theorem f109_34 : fch 109 34 = some (.iload 1, 35, []) := by decide +kernel
theorem f109_35 : fch 109 35 = some (.iconst 1, 36, []) := by decide +kernel
theorem f109_36 : fch 109 36 = some (.isub, 37, []) := by decide +kernel
theorem f109_37 : fch 109 37 = some (.invokevirtual 84, 40, []) := by decide +kernel
theorem f109_40 : fch 109 40 = some (.ireturn, 41, []) := by decide +kernel
theorem f109_41 : fch 109 41 = some (.iload 1, 42, []) := by decide +kernel
theorem f109_42 : fch 109 42 = some (.iconst 6, 44, []) := by decide +kernel
theorem f109_44 : fch 109 44 = some (.if_icmp .gt 85, 47, []) := by decide +kernel
theorem f109_47 : fch 109 47 = some (.iload 1, 48, []) := by decide +kernel
theorem f109_48 : fch 109 48 = some (.iconst 4, 49, []) := by decide +kernel
theorem f109_49 : fch 109 49 = some (.if_icmp .ne 62, 52, []) := by decide +kernel
theorem f109_52 : fch 109 52 = some (.aload 0, 53, []) := by decide +kernel
theorem f109_53 : fch 109 53 = some (.invokeinterface 8 9, 56, []) := by decide +kernel
theorem f109_56 : fch 109 56 = some (.invokeinterface 6 5, 59, []) := by decide +kernel
theorem f109_59 : fch 109 59 = some (.goto 84, 62, []) := by decide +kernel
theorem f109_62 : fch 109 62 = some (.iload 1, 63, []) := by decide +kernel
theorem f109_63 : fch 109 63 = some (.iconst 5, 64, []) := by decide +kernel
theorem f109_64 : fch 109 64 = some (.if_icmp .ne 77, 67, []) := by decide +kernel
theorem f109_67 : fch 109 67 = some (.aload 0, 68, []) := by decide +kernel
theorem f109_68 : fch 109 68 = some (.invokeinterface 8 9, 71, []) := by decide +kernel
theorem f109_71 : fch 109 71 = some (.invokeinterface 6 6, 74, []) := by decide +kernel
theorem f109_74 : fch 109 74 = some (.goto 84, 77, []) := by decide +kernel
theorem f109_77 : fch 109 77 = some (.aload 0, 78, []) := by decide +kernel
theorem f109_78 : fch 109 78 = some (.invokeinterface 8 9, 81, []) := by decide +kernel
theorem f109_81 : fch 109 81 = some (.invokeinterface 6 7, 84, []) := by decide +kernel
theorem f109_84 : fch 109 84 = some (.ireturn, 85, [0, 1]) := by decide +kernel
theorem f109_85 : fch 109 85 = some (.aload 0, 86, []) := by decide +kernel
theorem f109_86 : fch 109 86 = some (.invokeinterface 8 9, 89, []) := by decide +kernel
theorem f109_89 : fch 109 89 = some (.iload 1, 90, []) := by decide +kernel
theorem f109_90 : fch 109 90 = some (.iconst 7, 92, []) := by decide +kernel
theorem f109_92 : fch 109 92 = some (.isub, 93, []) := by decide +kernel
theorem f109_93 : fch 109 93 = some (.invokevirtual 83, 96, []) := by decide +kernel
theorem f109_96 : fch 109 96 = some (.ifCond .eq 113, 99, []) := by decide +kernel
theorem f109_99 : fch 109 99 = some (.aload 0, 100, []) := by decide +kernel
theorem f109_100 : fch 109 100 = some (.invokeinterface 8 9, 103, []) := by decide +kernel
theorem f109_103 : fch 109 103 = some (.iload 1, 104, []) := by decide +kernel
theorem f109_104 : fch 109 104 = some (.iconst 7, 106, []) := by decide +kernel
theorem f109_106 : fch 109 106 = some (.isub, 107, []) := by decide +kernel
theorem f109_107 : fch 109 107 = some (.invokevirtual 87, 110, []) := by decide +kernel
theorem f109_110 : fch 109 110 = some (.goto 114, 113, []) := by decide +kernel
theorem f109_113 : fch 109 113 = some (.iconst (-1), 114, []) := by decide +kernel
theorem f109_114 : fch 109 114 = some (.ireturn, 115, [0, 1]) := by decide +kernel
set_option maxRecDepth 10000 in
theorem e109_0 (l0 l1 : Int) (s : SG) : sem 109 0 [aA l0, aI l1] [] s = if l1 < 0 then some (aI ((-2)), s) else if (9 : Int) < l1 then some (aI ((-2)), s) else if l1 = 0 then grd (kd l0 = 8) (grd (0 ≤ s l0 9) (grd (kd (s l0 9) = 6) (some (aI (s (s l0 9) 4), s)))) else if (3 : Int) < l1 then if (6 : Int) < l1 then grd (kd l0 = 8) (grd (0 ≤ s l0 9) (grd (kd (s l0 9) = 6) (bnI (sem 83 0 [aA (s l0 9), aI (w32 (l1 - 7))] [] s) fun a2 s1 => if a2 = 0 then some (aI ((-1)), s1) else grd (kd l0 = 8) (grd (0 ≤ s1 l0 9) (grd (kd (s1 l0 9) = 6) (bnI (sem 87 0 [aA (s1 l0 9), aI (w32 (l1 - 7))] [] s1) fun a4 s3 => some (aI a4, s3))))))) else if l1 = 4 then grd (kd l0 = 8) (grd (0 ≤ s l0 9) (grd (kd (s l0 9) = 6) (some (aI (s (s l0 9) 5), s)))) else if l1 = 5 then grd (kd l0 = 8) (grd (0 ≤ s l0 9) (grd (kd (s l0 9) = 6) (some (aI (s (s l0 9) 6), s)))) else grd (kd l0 = 8) (grd (0 ≤ s l0 9) (grd (kd (s l0 9) = 6) (some (aI (s (s l0 9) 7), s)))) else grd (kd l0 = 8) (grd (0 ≤ s l0 9) (grd (kd (s l0 9) = 6) (bnI (sem 84 0 [aA (s l0 9), aI (w32 (l1 - 1))] [] s) fun a6 s5 => some (aI a6, s5)))) := by
  refine (x_iload f109_0 rfl rfl).trans ?_
  refine (x_if_lt (tg := 10) f109_1 rfl rfl).trans (i_c ?_ ?_)
  · refine (x_kil (l2 := [aU, aU]) f109_10 rfl).trans ?_
    refine (x_iconst f109_10 rfl).trans ?_
    exact x_ireturn f109_12 rfl
  · refine (x_iload f109_4 rfl rfl).trans ?_
    refine (x_iconst f109_5 rfl).trans ?_
    refine (x_icmp_le (tg := 13) f109_7 rfl rfl).trans (i_c ?_ ?_)
    · refine (x_kil (l2 := [aU, aU]) f109_10 rfl).trans ?_
      refine (x_iconst f109_10 rfl).trans ?_
      exact x_ireturn f109_12 rfl
    · refine (x_iload f109_13 rfl rfl).trans ?_
      refine (x_if_ne (tg := 25) f109_14 rfl rfl).trans (i_c ?_ ?_)
      · refine (x_aload f109_17 rfl rfl).trans ?_
        refine (x_get2 f109_18 rfl rfl).trans ?_
        refine g_c ?_
        refine g_c ?_
        refine (x_get0 f109_21 rfl rfl).trans ?_
        refine g_c ?_
        exact x_ireturn f109_24 rfl
      · refine (x_iload f109_25 rfl rfl).trans ?_
        refine (x_iconst f109_26 rfl).trans ?_
        refine (x_icmp_gt (tg := 41) f109_27 rfl rfl).trans (i_c ?_ ?_)
        · refine (x_iload f109_41 rfl rfl).trans ?_
          refine (x_iconst f109_42 rfl).trans ?_
          refine (x_icmp_gt (tg := 85) f109_44 rfl rfl).trans (i_c ?_ ?_)
          · refine (x_aload f109_85 rfl rfl).trans ?_
            refine (x_get2 f109_86 rfl rfl).trans ?_
            refine g_c ?_
            refine g_c ?_
            refine (x_iload f109_89 rfl rfl).trans ?_
            refine (x_iconst f109_90 rfl).trans ?_
            refine (x_isub f109_92 rfl).trans ?_
            refine (x_invokevirtual (G := grd (kd (s l0 9) = 6) (bnI (sem 83 0 [aA (s l0 9), aI (w32 (l1 - 7))] [] s) fun a2 s1 => sem 109 96 [aA l0, aI l1] [aI a2] s1)) f109_93 rfl rfl).trans ?_
            refine g_c ?_
            refine bI_c fun a2 s1 => ?_
            refine (x_if_eq (tg := 113) f109_96 rfl rfl).trans (i_c ?_ ?_)
            · refine (x_iconst f109_113 rfl).trans ?_
              refine (x_kil (l2 := [aU, aU]) f109_114 rfl).trans ?_
              exact x_ireturn f109_114 rfl
            · refine (x_aload f109_99 rfl rfl).trans ?_
              refine (x_get2 f109_100 rfl rfl).trans ?_
              refine g_c ?_
              refine g_c ?_
              refine (x_iload f109_103 rfl rfl).trans ?_
              refine (x_iconst f109_104 rfl).trans ?_
              refine (x_isub f109_106 rfl).trans ?_
              refine (x_invokevirtual (G := grd (kd (s1 l0 9) = 6) (bnI (sem 87 0 [aA (s1 l0 9), aI (w32 (l1 - 7))] [] s1) fun a4 s3 => sem 109 110 [aA l0, aI l1] [aI a4] s3)) f109_107 rfl rfl).trans ?_
              refine g_c ?_
              refine bI_c fun a4 s3 => ?_
              refine (x_goto (tg := 114) f109_110 rfl rfl).trans ?_
              refine (x_kil (l2 := [aU, aU]) f109_114 rfl).trans ?_
              exact x_ireturn f109_114 rfl
          · refine (x_iload f109_47 rfl rfl).trans ?_
            refine (x_iconst f109_48 rfl).trans ?_
            refine (x_icmp_ne (tg := 62) f109_49 rfl rfl).trans (i_c ?_ ?_)
            · refine (x_aload f109_52 rfl rfl).trans ?_
              refine (x_get2 f109_53 rfl rfl).trans ?_
              refine g_c ?_
              refine g_c ?_
              refine (x_get0 f109_56 rfl rfl).trans ?_
              refine g_c ?_
              refine (x_goto (tg := 84) f109_59 rfl rfl).trans ?_
              refine (x_kil (l2 := [aU, aU]) f109_84 rfl).trans ?_
              exact x_ireturn f109_84 rfl
            · refine (x_iload f109_62 rfl rfl).trans ?_
              refine (x_iconst f109_63 rfl).trans ?_
              refine (x_icmp_ne (tg := 77) f109_64 rfl rfl).trans (i_c ?_ ?_)
              · refine (x_aload f109_67 rfl rfl).trans ?_
                refine (x_get2 f109_68 rfl rfl).trans ?_
                refine g_c ?_
                refine g_c ?_
                refine (x_get0 f109_71 rfl rfl).trans ?_
                refine g_c ?_
                refine (x_goto (tg := 84) f109_74 rfl rfl).trans ?_
                refine (x_kil (l2 := [aU, aU]) f109_84 rfl).trans ?_
                exact x_ireturn f109_84 rfl
              · refine (x_aload f109_77 rfl rfl).trans ?_
                refine (x_get2 f109_78 rfl rfl).trans ?_
                refine g_c ?_
                refine g_c ?_
                refine (x_get0 f109_81 rfl rfl).trans ?_
                refine g_c ?_
                refine (x_kil (l2 := [aU, aU]) f109_84 rfl).trans ?_
                exact x_ireturn f109_84 rfl
        · refine (x_aload f109_30 rfl rfl).trans ?_
          refine (x_get2 f109_31 rfl rfl).trans ?_
          refine g_c ?_
          refine g_c ?_
          refine (x_iload f109_34 rfl rfl).trans ?_
          refine (x_iconst f109_35 rfl).trans ?_
          refine (x_isub f109_36 rfl).trans ?_
          refine (x_invokevirtual (G := grd (kd (s l0 9) = 6) (bnI (sem 84 0 [aA (s l0 9), aI (w32 (l1 - 1))] [] s) fun a6 s5 => sem 109 40 [aA l0, aI l1] [aI a6] s5)) f109_37 rfl rfl).trans ?_
          refine g_c ?_
          refine bI_c fun a6 s5 => ?_
          exact x_ireturn f109_40 rfl
theorem f110_0 : fch 110 0 = some (.aload 0, 1, []) := by decide +kernel
theorem f110_1 : fch 110 1 = some (.iload 1, 2, []) := by decide +kernel
theorem f110_2 : fch 110 2 = some (.iload 2, 3, []) := by decide +kernel
theorem f110_3 : fch 110 3 = some (.invokevirtual 145, 6, []) := by decide +kernel
theorem f110_6 : fch 110 6 = some (.istore 4, 8, []) := by decide +kernel
theorem f110_8 : fch 110 8 = some (.iload 4, 10, []) := by decide +kernel
theorem f110_10 : fch 110 10 = some (.ifCond .eq 19, 13, []) := by decide +kernel
theorem f110_13 : fch 110 13 = some (.iload 4, 15, []) := by decide +kernel
theorem f110_15 : fch 110 15 = some (.i2l, 16, []) := by decide +kernel
theorem f110_16 : fch 110 16 = some (.goto 39, 19, []) := by decide +kernel
theorem f110_19 : fch 110 19 = some (.aload 0, 20, []) := by decide +kernel
theorem f110_20 : fch 110 20 = some (.invokeinterface 8 2, 23, []) := by decide +kernel
theorem f110_23 : fch 110 23 = some (.iload 1, 24, []) := by decide +kernel
theorem f110_24 : fch 110 24 = some (.iload 2, 25, []) := by decide +kernel
theorem f110_25 : fch 110 25 = some (.invokevirtual 7, 28, []) := by decide +kernel
theorem f110_28 : fch 110 28 = some (.aload 0, 29, []) := by decide +kernel
theorem f110_29 : fch 110 29 = some (.invokeinterface 8 2, 32, []) := by decide +kernel
theorem f110_32 : fch 110 32 = some (.invokevirtual 5, 35, []) := by decide +kernel
theorem f110_35 : fch 110 35 = some (.iload 3, 36, []) := by decide +kernel
theorem f110_36 : fch 110 36 = some (.invokestatic 149, 39, []) := by decide +kernel
theorem f110_39 : fch 110 39 = some (.lreturn, 40, [0, 1, 2, 3, 4]) := by decide +kernel
set_option maxRecDepth 10000 in
theorem e110_0 (l0 l1 l2 l3 : Int) (s : SG) : sem 110 0 [aA l0, aI l1, aI l2, aI l3, aU] [] s = grd (kd l0 = 8) (bnI (sem 145 0 [aA l0, aI l1, aI l2] [] s) fun a2 s1 => if a2 = 0 then grd (kd l0 = 8) (grd (0 ≤ s1 l0 2) (grd (kd (s1 l0 2) = 0) (bnL (sem 7 0 [aA (s1 l0 2), aI l1, aI l2] [] s1) fun a4 s3 => grd (kd l0 = 8) (grd (0 ≤ s3 l0 2) (grd (kd (s3 l0 2) = 0) (bnL (sem 5 0 [aA (s3 l0 2)] [] s3) fun a6 s5 => bnL (sem 149 0 [aL a4, aU, aL a6, aU, aI l3, aU, aU] [] s5) fun a8 s7 => some (aL a8, s7))))))) else some (aL a2, s1)) := by
  refine (x_aload f110_0 rfl rfl).trans ?_
  refine (x_iload f110_1 rfl rfl).trans ?_
  refine (x_iload f110_2 rfl rfl).trans ?_
  refine (x_invokevirtual (G := grd (kd l0 = 8) (bnI (sem 145 0 [aA l0, aI l1, aI l2] [] s) fun a2 s1 => sem 110 6 [aA l0, aI l1, aI l2, aI l3, aU] [aI a2] s1)) f110_3 rfl rfl).trans ?_
  refine g_c ?_
  refine bI_c fun a2 s1 => ?_
  refine (x_istore (l2 := [aA l0, aI l1, aI l2, aI l3, aI a2]) f110_6 rfl rfl).trans ?_
  refine (x_iload f110_8 rfl rfl).trans ?_
  refine (x_if_eq (tg := 19) f110_10 rfl rfl).trans (i_c ?_ ?_)
  · refine (x_aload f110_19 rfl rfl).trans ?_
    refine (x_get2 f110_20 rfl rfl).trans ?_
    refine g_c ?_
    refine g_c ?_
    refine (x_iload f110_23 rfl rfl).trans ?_
    refine (x_iload f110_24 rfl rfl).trans ?_
    refine (x_invokevirtual (G := grd (kd (s1 l0 2) = 0) (bnL (sem 7 0 [aA (s1 l0 2), aI l1, aI l2] [] s1) fun a4 s3 => sem 110 28 [aA l0, aI l1, aI l2, aI l3, aI a2] [aL a4] s3)) f110_25 rfl rfl).trans ?_
    refine g_c ?_
    refine bL_c fun a4 s3 => ?_
    refine (x_aload f110_28 rfl rfl).trans ?_
    refine (x_get2 f110_29 rfl rfl).trans ?_
    refine g_c ?_
    refine g_c ?_
    refine (x_invokevirtual (G := grd (kd (s3 l0 2) = 0) (bnL (sem 5 0 [aA (s3 l0 2)] [] s3) fun a6 s5 => sem 110 35 [aA l0, aI l1, aI l2, aI l3, aI a2] [aL a6, aL a4] s5)) f110_32 rfl rfl).trans ?_
    refine g_c ?_
    refine bL_c fun a6 s5 => ?_
    refine (x_iload f110_35 rfl rfl).trans ?_
    refine (x_invokestatic (G := bnL (sem 149 0 [aL a4, aU, aL a6, aU, aI l3, aU, aU] [] s5) fun a8 s7 => sem 110 39 [aA l0, aI l1, aI l2, aI l3, aI a2] [aL a8] s7) f110_36 rfl rfl).trans ?_
    refine bL_c fun a8 s7 => ?_
    refine (x_kil (l2 := [aU, aU, aU, aU, aU]) f110_39 rfl).trans ?_
    exact x_lreturn f110_39 rfl
  · refine (x_iload f110_13 rfl rfl).trans ?_
    refine (x_i2l f110_15 rfl).trans ?_
    refine (x_goto (tg := 39) f110_16 rfl rfl).trans ?_
    refine (x_kil (l2 := [aU, aU, aU, aU, aU]) f110_39 rfl).trans ?_
    exact x_lreturn f110_39 rfl
theorem f111_0 : fch 111 0 = some (.aload 0, 1, []) := by decide +kernel
theorem f111_1 : fch 111 1 = some (.iload 1, 2, []) := by decide +kernel
theorem f111_2 : fch 111 2 = some (.iload 2, 3, []) := by decide +kernel
theorem f111_3 : fch 111 3 = some (.invokevirtual 145, 6, []) := by decide +kernel
theorem f111_6 : fch 111 6 = some (.istore 4, 8, []) := by decide +kernel
theorem f111_8 : fch 111 8 = some (.iload 4, 10, []) := by decide +kernel
theorem f111_10 : fch 111 10 = some (.ifCond .eq 19, 13, []) := by decide +kernel
theorem f111_13 : fch 111 13 = some (.iload 4, 15, []) := by decide +kernel
theorem f111_15 : fch 111 15 = some (.i2l, 16, []) := by decide +kernel
theorem f111_16 : fch 111 16 = some (.goto 39, 19, []) := by decide +kernel
theorem f111_19 : fch 111 19 = some (.aload 0, 20, []) := by decide +kernel
theorem f111_20 : fch 111 20 = some (.invokeinterface 8 2, 23, []) := by decide +kernel
theorem f111_23 : fch 111 23 = some (.iload 1, 24, []) := by decide +kernel
theorem f111_24 : fch 111 24 = some (.iload 2, 25, []) := by decide +kernel
theorem f111_25 : fch 111 25 = some (.invokevirtual 8, 28, []) := by decide +kernel
theorem f111_28 : fch 111 28 = some (.aload 0, 29, []) := by decide +kernel
theorem f111_29 : fch 111 29 = some (.invokeinterface 8 2, 32, []) := by decide +kernel
theorem f111_32 : fch 111 32 = some (.invokevirtual 5, 35, []) := by decide +kernel
theorem f111_35 : fch 111 35 = some (.iload 3, 36, []) := by decide +kernel
theorem f111_36 : fch 111 36 = some (.invokestatic 149, 39, []) := by decide +kernel
theorem f111_39 : fch 111 39 = some (.lreturn, 40, [0, 1, 2, 3, 4]) := by decide +kernel
set_option maxRecDepth 10000 in
theorem e111_0 (l0 l1 l2 l3 : Int) (s : SG) : sem 111 0 [aA l0, aI l1, aI l2, aI l3, aU] [] s = grd (kd l0 = 8) (bnI (sem 145 0 [aA l0, aI l1, aI l2] [] s) fun a2 s1 => if a2 = 0 then grd (kd l0 = 8) (grd (0 ≤ s1 l0 2) (grd (kd (s1 l0 2) = 0) (bnL (sem 8 0 [aA (s1 l0 2), aI l1, aI l2] [] s1) fun a4 s3 => grd (kd l0 = 8) (grd (0 ≤ s3 l0 2) (grd (kd (s3 l0 2) = 0) (bnL (sem 5 0 [aA (s3 l0 2)] [] s3) fun a6 s5 => bnL (sem 149 0 [aL a4, aU, aL a6, aU, aI l3, aU, aU] [] s5) fun a8 s7 => some (aL a8, s7))))))) else some (aL a2, s1)) := by
  refine (x_aload f111_0 rfl rfl).trans ?_
  refine (x_iload f111_1 rfl rfl).trans ?_
  refine (x_iload f111_2 rfl rfl).trans ?_
  refine (x_invokevirtual (G := grd (kd l0 = 8) (bnI (sem 145 0 [aA l0, aI l1, aI l2] [] s) fun a2 s1 => sem 111 6 [aA l0, aI l1, aI l2, aI l3, aU] [aI a2] s1)) f111_3 rfl rfl).trans ?_
  refine g_c ?_
  refine bI_c fun a2 s1 => ?_
  refine (x_istore (l2 := [aA l0, aI l1, aI l2, aI l3, aI a2]) f111_6 rfl rfl).trans ?_
  refine (x_iload f111_8 rfl rfl).trans ?_
  refine (x_if_eq (tg := 19) f111_10 rfl rfl).trans (i_c ?_ ?_)
  · refine (x_aload f111_19 rfl rfl).trans ?_
    refine (x_get2 f111_20 rfl rfl).trans ?_
    refine g_c ?_
    refine g_c ?_
    refine (x_iload f111_23 rfl rfl).trans ?_
    refine (x_iload f111_24 rfl rfl).trans ?_
    refine (x_invokevirtual (G := grd (kd (s1 l0 2) = 0) (bnL (sem 8 0 [aA (s1 l0 2), aI l1, aI l2] [] s1) fun a4 s3 => sem 111 28 [aA l0, aI l1, aI l2, aI l3, aI a2] [aL a4] s3)) f111_25 rfl rfl).trans ?_
    refine g_c ?_
    refine bL_c fun a4 s3 => ?_
    refine (x_aload f111_28 rfl rfl).trans ?_
    refine (x_get2 f111_29 rfl rfl).trans ?_
    refine g_c ?_
    refine g_c ?_
    refine (x_invokevirtual (G := grd (kd (s3 l0 2) = 0) (bnL (sem 5 0 [aA (s3 l0 2)] [] s3) fun a6 s5 => sem 111 35 [aA l0, aI l1, aI l2, aI l3, aI a2] [aL a6, aL a4] s5)) f111_32 rfl rfl).trans ?_
    refine g_c ?_
    refine bL_c fun a6 s5 => ?_
    refine (x_iload f111_35 rfl rfl).trans ?_
    refine (x_invokestatic (G := bnL (sem 149 0 [aL a4, aU, aL a6, aU, aI l3, aU, aU] [] s5) fun a8 s7 => sem 111 39 [aA l0, aI l1, aI l2, aI l3, aI a2] [aL a8] s7) f111_36 rfl rfl).trans ?_
    refine bL_c fun a8 s7 => ?_
    refine (x_kil (l2 := [aU, aU, aU, aU, aU]) f111_39 rfl).trans ?_
    exact x_lreturn f111_39 rfl
  · refine (x_iload f111_13 rfl rfl).trans ?_
    refine (x_i2l f111_15 rfl).trans ?_
    refine (x_goto (tg := 39) f111_16 rfl rfl).trans ?_
    refine (x_kil (l2 := [aU, aU, aU, aU, aU]) f111_39 rfl).trans ?_
    exact x_lreturn f111_39 rfl
theorem f112_0 : fch 112 0 = some (.aload 0, 1, []) := by decide +kernel
theorem f112_1 : fch 112 1 = some (.iload 2, 2, []) := by decide +kernel
theorem f112_2 : fch 112 2 = some (.iload 1, 3, []) := by decide +kernel
theorem f112_3 : fch 112 3 = some (.invokevirtual 145, 6, []) := by decide +kernel
theorem f112_6 : fch 112 6 = some (.istore 3, 7, []) := by decide +kernel
theorem f112_7 : fch 112 7 = some (.iload 3, 8, []) := by decide +kernel
theorem f112_8 : fch 112 8 = some (.ifCond .eq 15, 11, []) := by decide +kernel
theorem f112_11 : fch 112 11 = some (.iload 3, 12, []) := by decide +kernel
theorem f112_12 : fch 112 12 = some (.goto 28, 15, []) := by decide +kernel
theorem f112_15 : fch 112 15 = some (.aload 0, 16, []) := by decide +kernel
theorem f112_16 : fch 112 16 = some (.invokeinterface 8 2, 19, []) := by decide +kernel
theorem f112_19 : fch 112 19 = some (.aload 0, 20, []) := by decide +kernel
theorem f112_20 : fch 112 20 = some (.invokeinterface 8 9, 23, []) := by decide +kernel
theorem f112_23 : fch 112 23 = some (.iload 1, 24, []) := by decide +kernel
theorem f112_24 : fch 112 24 = some (.iload 2, 25, []) := by decide +kernel
theorem f112_25 : fch 112 25 = some (.invokevirtual 9, 28, []) := by decide +kernel
theorem f112_28 : fch 112 28 = some (.ireturn, 29, [0, 1, 2, 3]) := by decide +kernel
set_option maxRecDepth 10000 in
theorem e112_0 (l0 l1 l2 : Int) (s : SG) : sem 112 0 [aA l0, aI l1, aI l2, aU] [] s = grd (kd l0 = 8) (bnI (sem 145 0 [aA l0, aI l2, aI l1] [] s) fun a2 s1 => if a2 = 0 then grd (kd l0 = 8) (grd (0 ≤ s1 l0 2) (grd (kd l0 = 8) (grd (0 ≤ s1 l0 9) (grd (kd (s1 l0 2) = 0) (bnI (sem 9 0 [aA (s1 l0 2), aA (s1 l0 9), aI l1, aI l2] [] s1) fun a4 s3 => some (aI a4, s3)))))) else some (aI a2, s1)) := by
  refine (x_aload f112_0 rfl rfl).trans ?_
  refine (x_iload f112_1 rfl rfl).trans ?_
  refine (x_iload f112_2 rfl rfl).trans ?_
  refine (x_invokevirtual (G := grd (kd l0 = 8) (bnI (sem 145 0 [aA l0, aI l2, aI l1] [] s) fun a2 s1 => sem 112 6 [aA l0, aI l1, aI l2, aU] [aI a2] s1)) f112_3 rfl rfl).trans ?_
  refine g_c ?_
  refine bI_c fun a2 s1 => ?_
  refine (x_istore (l2 := [aA l0, aI l1, aI l2, aI a2]) f112_6 rfl rfl).trans ?_
  refine (x_iload f112_7 rfl rfl).trans ?_
  refine (x_if_eq (tg := 15) f112_8 rfl rfl).trans (i_c ?_ ?_)
  · refine (x_aload f112_15 rfl rfl).trans ?_
    refine (x_get2 f112_16 rfl rfl).trans ?_
    refine g_c ?_
    refine g_c ?_
    refine (x_aload f112_19 rfl rfl).trans ?_
    refine (x_get2 f112_20 rfl rfl).trans ?_
    refine g_c ?_
    refine g_c ?_
    refine (x_iload f112_23 rfl rfl).trans ?_
    refine (x_iload f112_24 rfl rfl).trans ?_
    refine (x_invokevirtual (G := grd (kd (s1 l0 2) = 0) (bnI (sem 9 0 [aA (s1 l0 2), aA (s1 l0 9), aI l1, aI l2] [] s1) fun a4 s3 => sem 112 28 [aA l0, aI l1, aI l2, aI a2] [aI a4] s3)) f112_25 rfl rfl).trans ?_
    refine g_c ?_
    refine bI_c fun a4 s3 => ?_
    refine (x_kil (l2 := [aU, aU, aU, aU]) f112_28 rfl).trans ?_
    exact x_ireturn f112_28 rfl
  · refine (x_iload f112_11 rfl rfl).trans ?_
    refine (x_goto (tg := 28) f112_12 rfl rfl).trans ?_
    refine (x_kil (l2 := [aU, aU, aU, aU]) f112_28 rfl).trans ?_
    exact x_ireturn f112_28 rfl
theorem f113_0 : fch 113 0 = some (.iload 1, 1, []) := by decide +kernel
theorem f113_1 : fch 113 1 = some (.invokestatic 143, 4, []) := by decide +kernel
theorem f113_4 : fch 113 4 = some (.ifCond .ne 11, 7, []) := by decide +kernel
theorem f113_7 : fch 113 7 = some (.sipush (-2), 10, []) := by decide +kernel
theorem f113_10 : fch 113 10 = some (.lreturn, 11, []) := by decide +kernel
theorem f113_11 : fch 113 11 = some (.aload 0, 12, []) := by decide +kernel
theorem f113_12 : fch 113 12 = some (.invokeinterface 8 2, 15, []) := by decide +kernel
theorem f113_15 : fch 113 15 = some (.aload 0, 16, []) := by decide +kernel
theorem f113_16 : fch 113 16 = some (.invokeinterface 8 9, 19, []) := by decide +kernel
theorem f113_19 : fch 113 19 = some (.iload 1, 20, []) := by decide +kernel
theorem f113_20 : fch 113 20 = some (.invokevirtual 10, 23, []) := by decide +kernel
theorem f113_23 : fch 113 23 = some (.aload 0, 24, []) := by decide +kernel
theorem f113_24 : fch 113 24 = some (.invokeinterface 8 2, 27, []) := by decide +kernel
theorem f113_27 : fch 113 27 = some (.invokevirtual 5, 30, []) := by decide +kernel
theorem f113_30 : fch 113 30 = some (.iload 2, 31, []) := by decide +kernel
theorem f113_31 : fch 113 31 = some (.invokestatic 149, 34, []) := by decide +kernel
theorem f113_34 : fch 113 34 = some (.lstore 3, 35, []) := by decide +kernel
theorem f113_35 : fch 113 35 = some (.iload 2, 36, []) := by decide +kernel
theorem f113_36 : fch 113 36 = some (.ifCond .eq 47, 39, []) := by decide +kernel
theorem f113_39 : fch 113 39 = some (.lload 3, 40, []) := by decide +kernel
theorem f113_40 : fch 113 40 = some (.sipush 1000000, 43, []) := by decide +kernel
theorem f113_43 : fch 113 43 = some (.ladd, 44, []) := by decide +kernel
theorem f113_44 : fch 113 44 = some (.goto 48, 47, []) := by decide +kernel
theorem f113_47 : fch 113 47 = some (.lload 3, 48, []) := by decide +kernel
theorem f113_48 : fch 113 48 = some (.lreturn, 49, [0, 1, 2, 3]) := by decide +kernel
set_option maxRecDepth 10000 in
theorem e113_0 (l0 l1 l2 : Int) (s : SG) : sem 113 0 [aA l0, aI l1, aI l2, aU, aU] [] s = bnI (sem 143 0 [aI l1] [] s) fun a2 s1 => if a2 = 0 then some (aL ((-2)), s1) else grd (kd l0 = 8) (grd (0 ≤ s1 l0 2) (grd (kd l0 = 8) (grd (0 ≤ s1 l0 9) (grd (kd (s1 l0 2) = 0) (bnL (sem 10 0 [aA (s1 l0 2), aA (s1 l0 9), aI l1] [] s1) fun a4 s3 => grd (kd l0 = 8) (grd (0 ≤ s3 l0 2) (grd (kd (s3 l0 2) = 0) (bnL (sem 5 0 [aA (s3 l0 2)] [] s3) fun a6 s5 => bnL (sem 149 0 [aL a4, aU, aL a6, aU, aI l2, aU, aU] [] s5) fun a8 s7 => if l2 = 0 then some (aL a8, s7) else some (aL (w64 (a8 + 1000000)), s7))))))))) := by
  refine (x_iload f113_0 rfl rfl).trans ?_
  refine (x_invokestatic (G := bnI (sem 143 0 [aI l1] [] s) fun a2 s1 => sem 113 4 [aA l0, aI l1, aI l2, aU, aU] [aI a2] s1) f113_1 rfl rfl).trans ?_
  refine bI_c fun a2 s1 => ?_
  refine (x_if_ne (tg := 11) f113_4 rfl rfl).trans (i_c ?_ ?_)
  · refine (x_lconst f113_7 rfl).trans ?_
    exact x_lreturn f113_10 rfl
  · refine (x_aload f113_11 rfl rfl).trans ?_
    refine (x_get2 f113_12 rfl rfl).trans ?_
    refine g_c ?_
    refine g_c ?_
    refine (x_aload f113_15 rfl rfl).trans ?_
    refine (x_get2 f113_16 rfl rfl).trans ?_
    refine g_c ?_
    refine g_c ?_
    refine (x_iload f113_19 rfl rfl).trans ?_
    refine (x_invokevirtual (G := grd (kd (s1 l0 2) = 0) (bnL (sem 10 0 [aA (s1 l0 2), aA (s1 l0 9), aI l1] [] s1) fun a4 s3 => sem 113 23 [aA l0, aI l1, aI l2, aU, aU] [aL a4] s3)) f113_20 rfl rfl).trans ?_
    refine g_c ?_
    refine bL_c fun a4 s3 => ?_
    refine (x_aload f113_23 rfl rfl).trans ?_
    refine (x_get2 f113_24 rfl rfl).trans ?_
    refine g_c ?_
    refine g_c ?_
    refine (x_invokevirtual (G := grd (kd (s3 l0 2) = 0) (bnL (sem 5 0 [aA (s3 l0 2)] [] s3) fun a6 s5 => sem 113 30 [aA l0, aI l1, aI l2, aU, aU] [aL a6, aL a4] s5)) f113_27 rfl rfl).trans ?_
    refine g_c ?_
    refine bL_c fun a6 s5 => ?_
    refine (x_iload f113_30 rfl rfl).trans ?_
    refine (x_invokestatic (G := bnL (sem 149 0 [aL a4, aU, aL a6, aU, aI l2, aU, aU] [] s5) fun a8 s7 => sem 113 34 [aA l0, aI l1, aI l2, aU, aU] [aL a8] s7) f113_31 rfl rfl).trans ?_
    refine bL_c fun a8 s7 => ?_
    refine (x_lstore (l2 := [aA l0, aI l1, aI l2, aL a8, aU]) f113_34 rfl rfl).trans ?_
    refine (x_iload f113_35 rfl rfl).trans ?_
    refine (x_if_eq (tg := 47) f113_36 rfl rfl).trans (i_c ?_ ?_)
    · refine (x_lload f113_47 rfl rfl).trans ?_
      refine (x_kil (l2 := [aU, aU, aU, aU, aU]) f113_48 rfl).trans ?_
      exact x_lreturn f113_48 rfl
    · refine (x_lload f113_39 rfl rfl).trans ?_
      refine (x_lconst f113_40 rfl).trans ?_
      refine (x_ladd f113_43 rfl).trans ?_
      refine (x_goto (tg := 48) f113_44 rfl rfl).trans ?_
      refine (x_kil (l2 := [aU, aU, aU, aU, aU]) f113_48 rfl).trans ?_
      exact x_lreturn f113_48 rfl
theorem f114_0 : fch 114 0 = some (.aload 0, 1, []) := by decide +kernel
theorem f114_1 : fch 114 1 = some (.invokeinterface 8 2, 4, []) := by decide +kernel
theorem f114_4 : fch 114 4 = some (.aload 0, 5, []) := by decide +kernel
theorem f114_5 : fch 114 5 = some (.invokeinterface 8 9, 8, []) := by decide +kernel
theorem f114_8 : fch 114 8 = some (.invokevirtual 12, 11, []) := by decide +kernel
theorem f114_11 : fch 114 11 = some (.ireturn, 12, []) := by decide +kernel
set_option maxRecDepth 10000 in
theorem e114_0 (l0 : Int) (s : SG) : sem 114 0 [aA l0] [] s = grd (kd l0 = 8) (grd (0 ≤ s l0 2) (grd (kd l0 = 8) (grd (0 ≤ s l0 9) (grd (kd (s l0 2) = 0) (bnI (sem 12 0 [aA (s l0 2), aA (s l0 9), aU, aU, aU, aU, aU, aU] [] s) fun a2 s1 => some (aI a2, s1)))))) := by
  refine (x_aload f114_0 rfl rfl).trans ?_
  refine (x_get2 f114_1 rfl rfl).trans ?_
  refine g_c ?_
  refine g_c ?_
  refine (x_aload f114_4 rfl rfl).trans ?_
  refine (x_get2 f114_5 rfl rfl).trans ?_
  refine g_c ?_
  refine g_c ?_
  refine (x_invokevirtual (G := grd (kd (s l0 2) = 0) (bnI (sem 12 0 [aA (s l0 2), aA (s l0 9), aU, aU, aU, aU, aU, aU] [] s) fun a2 s1 => sem 114 11 [aA l0] [aI a2] s1)) f114_8 rfl rfl).trans ?_
  refine g_c ?_
  refine bI_c fun a2 s1 => ?_
  exact x_ireturn f114_11 rfl
theorem f115_0 : fch 115 0 = some (.aload 0, 1, []) := by decide +kernel
theorem f115_1 : fch 115 1 = some (.iload 2, 2, []) := by decide +kernel
theorem f115_2 : fch 115 2 = some (.iload 1, 3, []) := by decide +kernel
theorem f115_3 : fch 115 3 = some (.invokevirtual 145, 6, []) := by decide +kernel
theorem f115_6 : fch 115 6 = some (.istore 5, 8, []) := by decide +kernel
theorem f115_8 : fch 115 8 = some (.iload 5, 10, []) := by decide +kernel
theorem f115_10 : fch 115 10 = some (.ifCond .eq 17, 13, []) := by decide +kernel
theorem f115_13 : fch 115 13 = some (.iload 5, 15, []) := by decide +kernel
theorem f115_15 : fch 115 15 = some (.i2l, 16, []) := by decide +kernel
theorem f115_16 : fch 115 16 = some (.lreturn, 17, []) := by decide +kernel
theorem f115_17 : fch 115 17 = some (.iload 3, 18, []) := by decide +kernel
theorem f115_18 : fch 115 18 = some (.ifCond .lt 26, 21, []) := by decide +kernel
theorem f115_21 : fch 115 21 = some (.iload 3, 22, []) := by decide +kernel
theorem f115_22 : fch 115 22 = some (.iload 1, 23, []) := by decide +kernel
theorem f115_23 : fch 115 23 = some (.if_icmp .le 30, 26, []) := by decide +kernel
theorem f115_26 : fch 115 26 = some (.sipush (-2), 29, [0, 1, 2, 3, 4, 5]) := by decide +kernel
theorem f115_29 : fch 115 29 = some (.lreturn, 30, []) := by decide +kernel
theorem f115_30 : fch 115 30 = some (.aload 0, 31, []) := by decide +kernel
theorem f115_31 : fch 115 31 = some (.invokeinterface 8 2, 34, []) := by decide +kernel
theorem f115_34 : fch 115 34 = some (.aload 0, 35, []) := by decide +kernel
theorem f115_35 : fch 115 35 = some (.invokeinterface 8 9, 38, []) := by decide +kernel
theorem f115_38 : fch 115 38 = some (.iload 1, 39, []) := by decide +kernel
theorem f115_39 : fch 115 39 = some (.invokevirtual 10, 42, []) := by decide +kernel
theorem f115_42 : fch 115 42 = some (.aload 0, 43, []) := by decide +kernel
theorem f115_43 : fch 115 43 = some (.invokeinterface 8 2, 46, []) := by decide +kernel
theorem f115_46 : fch 115 46 = some (.aload 0, 47, []) := by decide +kernel
theorem f115_47 : fch 115 47 = some (.invokeinterface 8 9, 50, []) := by decide +kernel
theorem f115_50 : fch 115 50 = some (.iload 1, 51, []) := by decide +kernel
theorem f115_51 : fch 115 51 = some (.iload 2, 52, []) := by decide +kernel
theorem f115_52 : fch 115 52 = some (.iload 3, 53, []) := by decide +kernel
theorem f115_53 : fch 115 53 = some (.invokevirtual 11, 56, []) := by decide +kernel
theorem f115_56 : fch 115 56 = some (.lsub, 57, []) := by decide +kernel
theorem f115_57 : fch 115 57 = some (.lstore 6, 59, []) := by decide +kernel
theorem f115_59 : fch 115 59 = some (.lload 6, 61, []) := by decide +kernel
theorem f115_61 : fch 115 61 = some (.aload 0, 62, []) := by decide +kernel
theorem f115_62 : fch 115 62 = some (.invokeinterface 8 2, 65, []) := by decide +kernel
theorem f115_65 : fch 115 65 = some (.invokevirtual 5, 68, []) := by decide +kernel
theorem f115_68 : fch 115 68 = some (.iload 4, 70, []) := by decide +kernel
theorem f115_70 : fch 115 70 = some (.invokestatic 149, 73, []) := by decide +kernel
theorem f115_73 : fch 115 73 = some (.lreturn, 74, []) := by decide +kernel
set_option maxRecDepth 10000 in
theorem e115_0 (l0 l1 l2 l3 l4 : Int) (s : SG) : sem 115 0 [aA l0, aI l1, aI l2, aI l3, aI l4, aU, aU, aU] [] s = grd (kd l0 = 8) (bnI (sem 145 0 [aA l0, aI l2, aI l1] [] s) fun a2 s1 => if a2 = 0 then if l3 < 0 then some (aL ((-2)), s1) else if l1 < l3 then some (aL ((-2)), s1) else grd (kd l0 = 8) (grd (0 ≤ s1 l0 2) (grd (kd l0 = 8) (grd (0 ≤ s1 l0 9) (grd (kd (s1 l0 2) = 0) (bnL (sem 10 0 [aA (s1 l0 2), aA (s1 l0 9), aI l1] [] s1) fun a4 s3 => grd (kd l0 = 8) (grd (0 ≤ s3 l0 2) (grd (kd l0 = 8) (grd (0 ≤ s3 l0 9) (grd (kd (s3 l0 2) = 0) (bnL (sem 11 0 [aA (s3 l0 2), aA (s3 l0 9), aI l1, aI l2, aI l3] [] s3) fun a6 s5 => grd (kd l0 = 8) (grd (0 ≤ s5 l0 2) (grd (kd (s5 l0 2) = 0) (bnL (sem 5 0 [aA (s5 l0 2)] [] s5) fun a8 s7 => bnL (sem 149 0 [aL (w64 (a4 - a6)), aU, aL a8, aU, aI l4, aU, aU] [] s7) fun a10 s9 => some (aL a10, s9)))))))))))))) else some (aL a2, s1)) := by
  refine (x_aload f115_0 rfl rfl).trans ?_
  refine (x_iload f115_1 rfl rfl).trans ?_
  refine (x_iload f115_2 rfl rfl).trans ?_
  refine (x_invokevirtual (G := grd (kd l0 = 8) (bnI (sem 145 0 [aA l0, aI l2, aI l1] [] s) fun a2 s1 => sem 115 6 [aA l0, aI l1, aI l2, aI l3, aI l4, aU, aU, aU] [aI a2] s1)) f115_3 rfl rfl).trans ?_
  refine g_c ?_
  refine bI_c fun a2 s1 => ?_
  refine (x_istore (l2 := [aA l0, aI l1, aI l2, aI l3, aI l4, aI a2, aU, aU]) f115_6 rfl rfl).trans ?_
  refine (x_iload f115_8 rfl rfl).trans ?_
  refine (x_if_eq (tg := 17) f115_10 rfl rfl).trans (i_c ?_ ?_)
  · refine (x_iload f115_17 rfl rfl).trans ?_
    refine (x_if_lt (tg := 26) f115_18 rfl rfl).trans (i_c ?_ ?_)
    · refine (x_kil (l2 := [aU, aU, aU, aU, aU, aU, aU, aU]) f115_26 rfl).trans ?_
      refine (x_lconst f115_26 rfl).trans ?_
      exact x_lreturn f115_29 rfl
    · refine (x_iload f115_21 rfl rfl).trans ?_
      refine (x_iload f115_22 rfl rfl).trans ?_
      refine (x_icmp_le (tg := 30) f115_23 rfl rfl).trans (i_c ?_ ?_)
      · refine (x_kil (l2 := [aU, aU, aU, aU, aU, aU, aU, aU]) f115_26 rfl).trans ?_
        refine (x_lconst f115_26 rfl).trans ?_
        exact x_lreturn f115_29 rfl
      · refine (x_aload f115_30 rfl rfl).trans ?_
        refine (x_get2 f115_31 rfl rfl).trans ?_
        refine g_c ?_
        refine g_c ?_
        refine (x_aload f115_34 rfl rfl).trans ?_
        refine (x_get2 f115_35 rfl rfl).trans ?_
        refine g_c ?_
        refine g_c ?_
        refine (x_iload f115_38 rfl rfl).trans ?_
        refine (x_invokevirtual (G := grd (kd (s1 l0 2) = 0) (bnL (sem 10 0 [aA (s1 l0 2), aA (s1 l0 9), aI l1] [] s1) fun a4 s3 => sem 115 42 [aA l0, aI l1, aI l2, aI l3, aI l4, aI a2, aU, aU] [aL a4] s3)) f115_39 rfl rfl).trans ?_
        refine g_c ?_
        refine bL_c fun a4 s3 => ?_
        refine (x_aload f115_42 rfl rfl).trans ?_
        refine (x_get2 f115_43 rfl rfl).trans ?_
        refine g_c ?_
        refine g_c ?_
        refine (x_aload f115_46 rfl rfl).trans ?_
        refine (x_get2 f115_47 rfl rfl).trans ?_
        refine g_c ?_
        refine g_c ?_
        refine (x_iload f115_50 rfl rfl).trans ?_
        refine (x_iload f115_51 rfl rfl).trans ?_
        refine (x_iload f115_52 rfl rfl).trans ?_
        refine (x_invokevirtual (G := grd (kd (s3 l0 2) = 0) (bnL (sem 11 0 [aA (s3 l0 2), aA (s3 l0 9), aI l1, aI l2, aI l3] [] s3) fun a6 s5 => sem 115 56 [aA l0, aI l1, aI l2, aI l3, aI l4, aI a2, aU, aU] [aL a6, aL a4] s5)) f115_53 rfl rfl).trans ?_
        refine g_c ?_
        refine bL_c fun a6 s5 => ?_
        refine (x_lsub f115_56 rfl).trans ?_
        refine (x_lstore (l2 := [aA l0, aI l1, aI l2, aI l3, aI l4, aI a2, aL (w64 (a4 - a6)), aU]) f115_57 rfl rfl).trans ?_
        refine (x_lload f115_59 rfl rfl).trans ?_
        refine (x_aload f115_61 rfl rfl).trans ?_
        refine (x_get2 f115_62 rfl rfl).trans ?_
        refine g_c ?_
        refine g_c ?_
        refine (x_invokevirtual (G := grd (kd (s5 l0 2) = 0) (bnL (sem 5 0 [aA (s5 l0 2)] [] s5) fun a8 s7 => sem 115 68 [aA l0, aI l1, aI l2, aI l3, aI l4, aI a2, aL (w64 (a4 - a6)), aU] [aL a8, aL (w64 (a4 - a6))] s7)) f115_65 rfl rfl).trans ?_
        refine g_c ?_
        refine bL_c fun a8 s7 => ?_
        refine (x_iload f115_68 rfl rfl).trans ?_
        refine (x_invokestatic (G := bnL (sem 149 0 [aL (w64 (a4 - a6)), aU, aL a8, aU, aI l4, aU, aU] [] s7) fun a10 s9 => sem 115 73 [aA l0, aI l1, aI l2, aI l3, aI l4, aI a2, aL (w64 (a4 - a6)), aU] [aL a10] s9) f115_70 rfl rfl).trans ?_
        refine bL_c fun a10 s9 => ?_
        exact x_lreturn f115_73 rfl
  · refine (x_iload f115_13 rfl rfl).trans ?_
    refine (x_i2l f115_15 rfl).trans ?_
    exact x_lreturn f115_16 rfl
theorem f116_0 : fch 116 0 = some (.aload 0, 1, []) := by decide +kernel
theorem f116_1 : fch 116 1 = some (.invokeinterface 8 9, 4, []) := by decide +kernel
theorem f116_4 : fch 116 4 = some (.iload 1, 5, []) := by decide +kernel
theorem f116_5 : fch 116 5 = some (.invokevirtual 83, 8, []) := by decide +kernel
theorem f116_8 : fch 116 8 = some (.ifCond .ne 13, 11, []) := by decide +kernel
theorem f116_11 : fch 116 11 = some (.iconst (-1), 12, []) := by decide +kernel
theorem f116_12 : fch 116 12 = some (.ireturn, 13, []) := by decide +kernel
theorem f116_13 : fch 116 13 = some (.iload 2, 14, []) := by decide +kernel
theorem f116_14 : fch 116 14 = some (.ifCond .lt 23, 17, []) := by decide +kernel
theorem f116_17 : fch 116 17 = some (.iload 2, 18, []) := by decide +kernel
theorem f116_18 : fch 116 18 = some (.iconst 9, 20, []) := by decide +kernel
theorem f116_20 : fch 116 20 = some (.if_icmp .le 26, 23, []) := by decide +kernel
theorem f116_23 : fch 116 23 = some (.iconst (-2), 25, [0, 1, 2]) := by decide +kernel
theorem f116_25 : fch 116 25 = some (.ireturn, 26, []) := by decide +kernel
theorem f116_26 : fch 116 26 = some (.aload 0, 27, []) := by decide +kernel
theorem f116_27 : fch 116 27 = some (.invokeinterface 8 3, 30, []) := by decide +kernel
theorem f116_30 : fch 116 30 = some (.iload 1, 31, []) := by decide +kernel
theorem f116_31 : fch 116 31 = some (.iload 2, 32, []) := by decide +kernel
theorem f116_32 : fch 116 32 = some (.invokevirtual 67, 35, []) := by decide +kernel
theorem f116_35 : fch 116 35 = some (.ifCond .eq 48, 38, []) := by decide +kernel
theorem f116_38 : fch 116 38 = some (.aload 0, 39, []) := by decide +kernel
theorem f116_39 : fch 116 39 = some (.invokeinterface 8 3, 42, []) := by decide +kernel
theorem f116_42 : fch 116 42 = some (.invokevirtual 66, 45, []) := by decide +kernel
theorem f116_45 : fch 116 45 = some (.goto 50, 48, []) := by decide +kernel
theorem f116_48 : fch 116 48 = some (.iconst (-4), 50, []) := by decide +kernel
theorem f116_50 : fch 116 50 = some (.ireturn, 51, [0, 1, 2]) := by decide +kernel
set_option maxRecDepth 10000 in
theorem e116_0 (l0 l1 l2 : Int) (s : SG) : sem 116 0 [aA l0, aI l1, aI l2] [] s = grd (kd l0 = 8) (grd (0 ≤ s l0 9) (grd (kd (s l0 9) = 6) (bnI (sem 83 0 [aA (s l0 9), aI l1] [] s) fun a2 s1 => if a2 = 0 then some (aI ((-1)), s1) else if l2 < 0 then some (aI ((-2)), s1) else if (9 : Int) < l2 then some (aI ((-2)), s1) else grd (kd l0 = 8) (grd (0 ≤ s1 l0 3) (grd (kd (s1 l0 3) = 4) (bnI (sem 67 0 [aA (s1 l0 3), aI l1, aI l2] [] s1) fun a4 s3 => if a4 = 0 then some (aI ((-4)), s3) else grd (kd l0 = 8) (grd (0 ≤ s3 l0 3) (grd (kd (s3 l0 3) = 4) (bnI (sem 66 0 [aA (s3 l0 3)] [] s3) fun a6 s5 => some (aI a6, s5)))))))))) := by
  refine (x_aload f116_0 rfl rfl).trans ?_
  refine (x_get2 f116_1 rfl rfl).trans ?_
  refine g_c ?_
  refine g_c ?_
  refine (x_iload f116_4 rfl rfl).trans ?_
  refine (x_invokevirtual (G := grd (kd (s l0 9) = 6) (bnI (sem 83 0 [aA (s l0 9), aI l1] [] s) fun a2 s1 => sem 116 8 [aA l0, aI l1, aI l2] [aI a2] s1)) f116_5 rfl rfl).trans ?_
  refine g_c ?_
  refine bI_c fun a2 s1 => ?_
  refine (x_if_ne (tg := 13) f116_8 rfl rfl).trans (i_c ?_ ?_)
  · refine (x_iconst f116_11 rfl).trans ?_
    exact x_ireturn f116_12 rfl
  · refine (x_iload f116_13 rfl rfl).trans ?_
    refine (x_if_lt (tg := 23) f116_14 rfl rfl).trans (i_c ?_ ?_)
    · refine (x_kil (l2 := [aU, aU, aU]) f116_23 rfl).trans ?_
      refine (x_iconst f116_23 rfl).trans ?_
      exact x_ireturn f116_25 rfl
    · refine (x_iload f116_17 rfl rfl).trans ?_
      refine (x_iconst f116_18 rfl).trans ?_
      refine (x_icmp_le (tg := 26) f116_20 rfl rfl).trans (i_c ?_ ?_)
      · refine (x_kil (l2 := [aU, aU, aU]) f116_23 rfl).trans ?_
        refine (x_iconst f116_23 rfl).trans ?_
        exact x_ireturn f116_25 rfl
      · refine (x_aload f116_26 rfl rfl).trans ?_
        refine (x_get2 f116_27 rfl rfl).trans ?_
        refine g_c ?_
        refine g_c ?_
        refine (x_iload f116_30 rfl rfl).trans ?_
        refine (x_iload f116_31 rfl rfl).trans ?_
        refine (x_invokevirtual (G := grd (kd (s1 l0 3) = 4) (bnI (sem 67 0 [aA (s1 l0 3), aI l1, aI l2] [] s1) fun a4 s3 => sem 116 35 [aA l0, aI l1, aI l2] [aI a4] s3)) f116_32 rfl rfl).trans ?_
        refine g_c ?_
        refine bI_c fun a4 s3 => ?_
        refine (x_if_eq (tg := 48) f116_35 rfl rfl).trans (i_c ?_ ?_)
        · refine (x_iconst f116_48 rfl).trans ?_
          refine (x_kil (l2 := [aU, aU, aU]) f116_50 rfl).trans ?_
          exact x_ireturn f116_50 rfl
        · refine (x_aload f116_38 rfl rfl).trans ?_
          refine (x_get2 f116_39 rfl rfl).trans ?_
          refine g_c ?_
          refine g_c ?_
          refine (x_invokevirtual (G := grd (kd (s3 l0 3) = 4) (bnI (sem 66 0 [aA (s3 l0 3)] [] s3) fun a6 s5 => sem 116 45 [aA l0, aI l1, aI l2] [aI a6] s5)) f116_42 rfl rfl).trans ?_
          refine g_c ?_
          refine bI_c fun a6 s5 => ?_
          refine (x_goto (tg := 50) f116_45 rfl rfl).trans ?_
          refine (x_kil (l2 := [aU, aU, aU]) f116_50 rfl).trans ?_
          exact x_ireturn f116_50 rfl
theorem f117_0 : fch 117 0 = some (.aload 0, 1, []) := by decide +kernel
theorem f117_1 : fch 117 1 = some (.invokeinterface 8 3, 4, []) := by decide +kernel
theorem f117_4 : fch 117 4 = some (.invokevirtual 68, 7, []) := by decide +kernel
theorem f117_7 : fch 117 7 = some (.ireturn, 8, []) := by decide +kernel
set_option maxRecDepth 10000 in
theorem e117_0 (l0 : Int) (s : SG) : sem 117 0 [aA l0] [] s = grd (kd l0 = 8) (grd (0 ≤ s l0 3) (grd (kd (s l0 3) = 4) (bnI (sem 68 0 [aA (s l0 3), aU] [] s) fun a2 s1 => some (aI a2, s1)))) := by
  refine (x_aload f117_0 rfl rfl).trans ?_
  refine (x_get2 f117_1 rfl rfl).trans ?_
  refine g_c ?_
  refine g_c ?_
  refine (x_invokevirtual (G := grd (kd (s l0 3) = 4) (bnI (sem 68 0 [aA (s l0 3), aU] [] s) fun a2 s1 => sem 117 7 [aA l0] [aI a2] s1)) f117_4 rfl rfl).trans ?_
  refine g_c ?_
  refine bI_c fun a2 s1 => ?_
  exact x_ireturn f117_7 rfl
theorem f118_0 : fch 118 0 = some (.iload 1, 1, []) := by decide +kernel
theorem f118_1 : fch 118 1 = some (.invokestatic 140, 4, []) := by decide +kernel
theorem f118_4 : fch 118 4 = some (.ifCond .ne 11, 7, []) := by decide +kernel
theorem f118_7 : fch 118 7 = some (.sipush (-1), 10, []) := by decide +kernel
theorem f118_10 : fch 118 10 = some (.lreturn, 11, []) := by decide +kernel
theorem f118_11 : fch 118 11 = some (.aload 0, 12, []) := by decide +kernel
theorem f118_12 : fch 118 12 = some (.invokeinterface 8 3, 15, []) := by decide +kernel
theorem f118_15 : fch 118 15 = some (.aload 0, 16, []) := by decide +kernel
theorem f118_16 : fch 118 16 = some (.invokeinterface 8 9, 19, []) := by decide +kernel
theorem f118_19 : fch 118 19 = some (.invokevirtual 70, 22, []) := by decide +kernel
theorem f118_22 : fch 118 22 = some (.lstore 3, 23, []) := by decide +kernel
theorem f118_23 : fch 118 23 = some (.lload 3, 24, []) := by decide +kernel
theorem f118_24 : fch 118 24 = some (.sipush 0, 25, []) := by decide +kernel
theorem f118_25 : fch 118 25 = some (.lcmp, 26, []) := by decide +kernel
theorem f118_26 : fch 118 26 = some (.ifCond .ne 35, 29, []) := by decide +kernel
theorem f118_29 : fch 118 29 = some (.sipush (-3), 32, []) := by decide +kernel
theorem f118_32 : fch 118 32 = some (.goto 52, 35, []) := by decide +kernel
theorem f118_35 : fch 118 35 = some (.aload 0, 36, []) := by decide +kernel
theorem f118_36 : fch 118 36 = some (.invokeinterface 8 3, 39, []) := by decide +kernel
theorem f118_39 : fch 118 39 = some (.aload 0, 40, []) := by decide +kernel
theorem f118_40 : fch 118 40 = some (.invokeinterface 8 9, 43, []) := by decide +kernel
theorem f118_43 : fch 118 43 = some (.iload 1, 44, []) := by decide +kernel
theorem f118_44 : fch 118 44 = some (.invokevirtual 69, 47, []) := by decide +kernel
theorem f118_47 : fch 118 47 = some (.lload 3, 48, []) := by decide +kernel
theorem f118_48 : fch 118 48 = some (.iload 2, 49, []) := by decide +kernel
theorem f118_49 : fch 118 49 = some (.invokestatic 149, 52, []) := by decide +kernel
theorem f118_52 : fch 118 52 = some (.lreturn, 53, [0, 1, 2, 3]) := by decide +kernel
set_option maxRecDepth 10000 in
theorem e118_0 (l0 l1 l2 : Int) (s : SG) : sem 118 0 [aA l0, aI l1, aI l2, aU, aU] [] s = bnI (sem 140 0 [aI l1] [] s) fun a2 s1 => if a2 = 0 then some (aL ((-1)), s1) else grd (kd l0 = 8) (grd (0 ≤ s1 l0 3) (grd (kd l0 = 8) (grd (0 ≤ s1 l0 9) (grd (kd (s1 l0 3) = 4) (bnL (sem 70 0 [aA (s1 l0 3), aA (s1 l0 9), aU, aU, aU] [] s1) fun a4 s3 => if (cmpL a4 0) = 0 then some (aL ((-3)), s3) else grd (kd l0 = 8) (grd (0 ≤ s3 l0 3) (grd (kd l0 = 8) (grd (0 ≤ s3 l0 9) (grd (kd (s3 l0 3) = 4) (bnL (sem 69 0 [aA (s3 l0 3), aA (s3 l0 9), aI l1, aU, aU, aU, aU, aU] [] s3) fun a6 s5 => bnL (sem 149 0 [aL a6, aU, aL a4, aU, aI l2, aU, aU] [] s5) fun a8 s7 => some (aL a8, s7))))))))))) := by
  refine (x_iload f118_0 rfl rfl).trans ?_
  refine (x_invokestatic (G := bnI (sem 140 0 [aI l1] [] s) fun a2 s1 => sem 118 4 [aA l0, aI l1, aI l2, aU, aU] [aI a2] s1) f118_1 rfl rfl).trans ?_
  refine bI_c fun a2 s1 => ?_
  refine (x_if_ne (tg := 11) f118_4 rfl rfl).trans (i_c ?_ ?_)
  · refine (x_lconst f118_7 rfl).trans ?_
    exact x_lreturn f118_10 rfl
  · refine (x_aload f118_11 rfl rfl).trans ?_
    refine (x_get2 f118_12 rfl rfl).trans ?_
    refine g_c ?_
    refine g_c ?_
    refine (x_aload f118_15 rfl rfl).trans ?_
    refine (x_get2 f118_16 rfl rfl).trans ?_
    refine g_c ?_
    refine g_c ?_
    refine (x_invokevirtual (G := grd (kd (s1 l0 3) = 4) (bnL (sem 70 0 [aA (s1 l0 3), aA (s1 l0 9), aU, aU, aU] [] s1) fun a4 s3 => sem 118 22 [aA l0, aI l1, aI l2, aU, aU] [aL a4] s3)) f118_19 rfl rfl).trans ?_
    refine g_c ?_
    refine bL_c fun a4 s3 => ?_
    refine (x_lstore (l2 := [aA l0, aI l1, aI l2, aL a4, aU]) f118_22 rfl rfl).trans ?_
    refine (x_lload f118_23 rfl rfl).trans ?_
    refine (x_lconst f118_24 rfl).trans ?_
    refine (x_lcmp f118_25 rfl).trans ?_
    refine (x_if_ne (tg := 35) f118_26 rfl rfl).trans (i_c ?_ ?_)
    · refine (x_lconst f118_29 rfl).trans ?_
      refine (x_goto (tg := 52) f118_32 rfl rfl).trans ?_
      refine (x_kil (l2 := [aU, aU, aU, aU, aU]) f118_52 rfl).trans ?_
      exact x_lreturn f118_52 rfl
    · refine (x_aload f118_35 rfl rfl).trans ?_
      refine (x_get2 f118_36 rfl rfl).trans ?_
      refine g_c ?_
      refine g_c ?_
      refine (x_aload f118_39 rfl rfl).trans ?_
      refine (x_get2 f118_40 rfl rfl).trans ?_
      refine g_c ?_
      refine g_c ?_
      refine (x_iload f118_43 rfl rfl).trans ?_
      refine (x_invokevirtual (G := grd (kd (s3 l0 3) = 4) (bnL (sem 69 0 [aA (s3 l0 3), aA (s3 l0 9), aI l1, aU, aU, aU, aU, aU] [] s3) fun a6 s5 => sem 118 47 [aA l0, aI l1, aI l2, aL a4, aU] [aL a6] s5)) f118_44 rfl rfl).trans ?_
      refine g_c ?_
      refine bL_c fun a6 s5 => ?_
      refine (x_lload f118_47 rfl rfl).trans ?_
      refine (x_iload f118_48 rfl rfl).trans ?_
      refine (x_invokestatic (G := bnL (sem 149 0 [aL a6, aU, aL a4, aU, aI l2, aU, aU] [] s5) fun a8 s7 => sem 118 52 [aA l0, aI l1, aI l2, aL a4, aU] [aL a8] s7) f118_49 rfl rfl).trans ?_
      refine bL_c fun a8 s7 => ?_
      refine (x_kil (l2 := [aU, aU, aU, aU, aU]) f118_52 rfl).trans ?_
      exact x_lreturn f118_52 rfl
theorem f119_0 : fch 119 0 = some (.aload 0, 1, []) := by decide +kernel
theorem f119_1 : fch 119 1 = some (.invokeinterface 8 3, 4, []) := by decide +kernel
theorem f119_4 : fch 119 4 = some (.aload 0, 5, []) := by decide +kernel
theorem f119_5 : fch 119 5 = some (.invokeinterface 8 9, 8, []) := by decide +kernel
theorem f119_8 : fch 119 8 = some (.invokevirtual 70, 11, []) := by decide +kernel
theorem f119_11 : fch 119 11 = some (.sipush 0, 12, []) := by decide +kernel
theorem f119_12 : fch 119 12 = some (.lcmp, 13, []) := by decide +kernel
theorem f119_13 : fch 119 13 = some (.ifCond .ne 21, 16, []) := by decide +kernel
theorem f119_16 : fch 119 16 = some (.iconst (-3), 18, []) := by decide +kernel
theorem f119_18 : fch 119 18 = some (.goto 32, 21, []) := by decide +kernel
theorem f119_21 : fch 119 21 = some (.aload 0, 22, []) := by decide +kernel
theorem f119_22 : fch 119 22 = some (.invokeinterface 8 3, 25, []) := by decide +kernel
theorem f119_25 : fch 119 25 = some (.aload 0, 26, []) := by decide +kernel
theorem f119_26 : fch 119 26 = some (.invokeinterface 8 9, 29, []) := by decide +kernel
theorem f119_29 : fch 119 29 = some (.invokevirtual 71, 32, []) := by decide +kernel
theorem f119_32 : fch 119 32 = some (.ireturn, 33, [0]) := by decide +kernel
set_option maxRecDepth 10000 in
theorem e119_0 (l0 : Int) (s : SG) : sem 119 0 [aA l0] [] s = grd (kd l0 = 8) (grd (0 ≤ s l0 3) (grd (kd l0 = 8) (grd (0 ≤ s l0 9) (grd (kd (s l0 3) = 4) (bnL (sem 70 0 [aA (s l0 3), aA (s l0 9), aU, aU, aU] [] s) fun a2 s1 => if (cmpL a2 0) = 0 then some (aI ((-3)), s1) else grd (kd l0 = 8) (grd (0 ≤ s1 l0 3) (grd (kd l0 = 8) (grd (0 ≤ s1 l0 9) (grd (kd (s1 l0 3) = 4) (bnI (sem 71 0 [aA (s1 l0 3), aA (s1 l0 9), aU, aU] [] s1) fun a4 s3 => some (aI a4, s3))))))))))) := by
  refine (x_aload f119_0 rfl rfl).trans ?_
  refine (x_get2 f119_1 rfl rfl).trans ?_
  refine g_c ?_
  refine g_c ?_
  refine (x_aload f119_4 rfl rfl).trans ?_
  refine (x_get2 f119_5 rfl rfl).trans ?_
  refine g_c ?_
  refine g_c ?_
  refine (x_invokevirtual (G := grd (kd (s l0 3) = 4) (bnL (sem 70 0 [aA (s l0 3), aA (s l0 9), aU, aU, aU] [] s) fun a2 s1 => sem 119 11 [aA l0] [aL a2] s1)) f119_8 rfl rfl).trans ?_
  refine g_c ?_
  refine bL_c fun a2 s1 => ?_
  refine (x_lconst f119_11 rfl).trans ?_
  refine (x_lcmp f119_12 rfl).trans ?_
  refine (x_if_ne (tg := 21) f119_13 rfl rfl).trans (i_c ?_ ?_)
  · refine (x_iconst f119_16 rfl).trans ?_
    refine (x_goto (tg := 32) f119_18 rfl rfl).trans ?_
    refine (x_kil (l2 := [aU]) f119_32 rfl).trans ?_
    exact x_ireturn f119_32 rfl
  · refine (x_aload f119_21 rfl rfl).trans ?_
    refine (x_get2 f119_22 rfl rfl).trans ?_
    refine g_c ?_
    refine g_c ?_
    refine (x_aload f119_25 rfl rfl).trans ?_
    refine (x_get2 f119_26 rfl rfl).trans ?_
    refine g_c ?_
    refine g_c ?_
    refine (x_invokevirtual (G := grd (kd (s1 l0 3) = 4) (bnI (sem 71 0 [aA (s1 l0 3), aA (s1 l0 9), aU, aU] [] s1) fun a4 s3 => sem 119 32 [aA l0] [aI a4] s3)) f119_29 rfl rfl).trans ?_
    refine g_c ?_
    refine bI_c fun a4 s3 => ?_
    refine (x_kil (l2 := [aU]) f119_32 rfl).trans ?_
    exact x_ireturn f119_32 rfl
theorem f120_0 : fch 120 0 = some (.aload 0, 1, []) := by decide +kernel
theorem f120_1 : fch 120 1 = some (.invokeinterface 8 3, 4, []) := by decide +kernel
theorem f120_4 : fch 120 4 = some (.aload 0, 5, []) := by decide +kernel
theorem f120_5 : fch 120 5 = some (.invokeinterface 8 9, 8, []) := by decide +kernel
theorem f120_8 : fch 120 8 = some (.invokevirtual 70, 11, []) := by decide +kernel
theorem f120_11 : fch 120 11 = some (.sipush 0, 12, []) := by decide +kernel
theorem f120_12 : fch 120 12 = some (.lcmp, 13, []) := by decide +kernel
theorem f120_13 : fch 120 13 = some (.ifCond .ne 21, 16, []) := by decide +kernel
theorem f120_16 : fch 120 16 = some (.iconst (-3), 18, []) := by decide +kernel
theorem f120_18 : fch 120 18 = some (.goto 32, 21, []) := by decide +kernel
theorem f120_21 : fch 120 21 = some (.aload 0, 22, []) := by decide +kernel
theorem f120_22 : fch 120 22 = some (.invokeinterface 8 3, 25, []) := by decide +kernel
theorem f120_25 : fch 120 25 = some (.aload 0, 26, []) := by decide +kernel
theorem f120_26 : fch 120 26 = some (.invokeinterface 8 9, 29, []) := by decide +kernel
theorem f120_29 : fch 120 29 = some (.invokevirtual 72, 32, []) := by decide +kernel
theorem f120_32 : fch 120 32 = some (.ireturn, 33, [0]) := by decide +kernel
set_option maxRecDepth 10000 in
theorem e120_0 (l0 : Int) (s : SG) : sem 120 0 [aA l0] [] s = grd (kd l0 = 8) (grd (0 ≤ s l0 3) (grd (kd l0 = 8) (grd (0 ≤ s l0 9) (grd (kd (s l0 3) = 4) (bnL (sem 70 0 [aA (s l0 3), aA (s l0 9), aU, aU, aU] [] s) fun a2 s1 => if (cmpL a2 0) = 0 then some (aI ((-3)), s1) else grd (kd l0 = 8) (grd (0 ≤ s1 l0 3) (grd (kd l0 = 8) (grd (0 ≤ s1 l0 9) (grd (kd (s1 l0 3) = 4) (bnI (sem 72 0 [aA (s1 l0 3), aA (s1 l0 9), aU, aU] [] s1) fun a4 s3 => some (aI a4, s3))))))))))) := by
  refine (x_aload f120_0 rfl rfl).trans ?_
  refine (x_get2 f120_1 rfl rfl).trans ?_
  refine g_c ?_
  refine g_c ?_
  refine (x_aload f120_4 rfl rfl).trans ?_
  refine (x_get2 f120_5 rfl rfl).trans ?_
  refine g_c ?_
  refine g_c ?_
  refine (x_invokevirtual (G := grd (kd (s l0 3) = 4) (bnL (sem 70 0 [aA (s l0 3), aA (s l0 9), aU, aU, aU] [] s) fun a2 s1 => sem 120 11 [aA l0] [aL a2] s1)) f120_8 rfl rfl).trans ?_
  refine g_c ?_
  refine bL_c fun a2 s1 => ?_
  refine (x_lconst f120_11 rfl).trans ?_
  refine (x_lcmp f120_12 rfl).trans ?_
  refine (x_if_ne (tg := 21) f120_13 rfl rfl).trans (i_c ?_ ?_)
  · refine (x_iconst f120_16 rfl).trans ?_
    refine (x_goto (tg := 32) f120_18 rfl rfl).trans ?_
    refine (x_kil (l2 := [aU]) f120_32 rfl).trans ?_
    exact x_ireturn f120_32 rfl
  · refine (x_aload f120_21 rfl rfl).trans ?_
    refine (x_get2 f120_22 rfl rfl).trans ?_
    refine g_c ?_
    refine g_c ?_
    refine (x_aload f120_25 rfl rfl).trans ?_
    refine (x_get2 f120_26 rfl rfl).trans ?_
    refine g_c ?_
    refine g_c ?_
    refine (x_invokevirtual (G := grd (kd (s1 l0 3) = 4) (bnI (sem 72 0 [aA (s1 l0 3), aA (s1 l0 9), aU, aU] [] s1) fun a4 s3 => sem 120 32 [aA l0] [aI a4] s3)) f120_29 rfl rfl).trans ?_
    refine g_c ?_
    refine bI_c fun a4 s3 => ?_
    refine (x_kil (l2 := [aU]) f120_32 rfl).trans ?_
    exact x_ireturn f120_32 rfl
theorem f121_0 : fch 121 0 = some (.aload 0, 1, []) := by decide +kernel
theorem f121_1 : fch 121 1 = some (.iload 1, 2, []) := by decide +kernel
theorem f121_2 : fch 121 2 = some (.iload 2, 3, []) := by decide +kernel
theorem f121_3 : fch 121 3 = some (.iload 3, 4, []) := by decide +kernel
theorem f121_4 : fch 121 4 = some (.iload 4, 6, []) := by decide +kernel
theorem f121_6 : fch 121 6 = some (.iload 5, 8, []) := by decide +kernel
theorem f121_8 : fch 121 8 = some (.iconst 0, 9, []) := by decide +kernel
theorem f121_9 : fch 121 9 = some (.invokevirtual 146, 12, []) := by decide +kernel
theorem f121_12 : fch 121 12 = some (.istore 7, 14, []) := by decide +kernel
theorem f121_14 : fch 121 14 = some (.iload 7, 16, []) := by decide +kernel
theorem f121_16 : fch 121 16 = some (.ifCond .eq 23, 19, []) := by decide +kernel
theorem f121_19 : fch 121 19 = some (.iload 7, 21, []) := by decide +kernel
theorem f121_21 : fch 121 21 = some (.i2l, 22, []) := by decide +kernel
theorem f121_22 : fch 121 22 = some (.lreturn, 23, []) := by decide +kernel
theorem f121_23 : fch 121 23 = some (.aload 0, 24, []) := by decide +kernel
theorem f121_24 : fch 121 24 = some (.invokeinterface 8 4, 27, []) := by decide +kernel
theorem f121_27 : fch 121 27 = some (.aload 0, 28, []) := by decide +kernel
theorem f121_28 : fch 121 28 = some (.invokeinterface 8 9, 31, []) := by decide +kernel
theorem f121_31 : fch 121 31 = some (.iload 1, 32, []) := by decide +kernel
theorem f121_32 : fch 121 32 = some (.iconst 10, 34, []) := by decide +kernel
theorem f121_34 : fch 121 34 = some (.idiv, 35, []) := by decide +kernel
theorem f121_35 : fch 121 35 = some (.iload 1, 36, []) := by decide +kernel
theorem f121_36 : fch 121 36 = some (.iconst 10, 38, []) := by decide +kernel
theorem f121_38 : fch 121 38 = some (.irem, 39, []) := by decide +kernel
theorem f121_39 : fch 121 39 = some (.iload 2, 40, []) := by decide +kernel
theorem f121_40 : fch 121 40 = some (.invokevirtual 95, 43, []) := by decide +kernel
theorem f121_43 : fch 121 43 = some (.aload 0, 44, []) := by decide +kernel
theorem f121_44 : fch 121 44 = some (.invokeinterface 8 4, 47, []) := by decide +kernel
theorem f121_47 : fch 121 47 = some (.iload 3, 48, []) := by decide +kernel
theorem f121_48 : fch 121 48 = some (.iconst 100, 50, []) := by decide +kernel
theorem f121_50 : fch 121 50 = some (.idiv, 51, []) := by decide +kernel
theorem f121_51 : fch 121 51 = some (.iload 3, 52, []) := by decide +kernel
theorem f121_52 : fch 121 52 = some (.iconst 100, 54, []) := by decide +kernel
theorem f121_54 : fch 121 54 = some (.irem, 55, []) := by decide +kernel
theorem f121_55 : fch 121 55 = some (.iadd, 56, []) := by decide +kernel
theorem f121_56 : fch 121 56 = some (.iload 4, 58, []) := by decide +kernel
theorem f121_58 : fch 121 58 = some (.iload 5, 60, []) := by decide +kernel
theorem f121_60 : fch 121 60 = some (.invokevirtual 97, 63, []) := by decide +kernel
theorem f121_63 : fch 121 63 = some (.aload 0, 64, []) := by decide +kernel
theorem f121_64 : fch 121 64 = some (.invokeinterface 8 4, 67, []) := by decide +kernel
theorem f121_67 : fch 121 67 = some (.iload 3, 68, []) := by decide +kernel
theorem f121_68 : fch 121 68 = some (.iconst 100, 70, []) := by decide +kernel
theorem f121_70 : fch 121 70 = some (.idiv, 71, []) := by decide +kernel
theorem f121_71 : fch 121 71 = some (.iload 3, 72, []) := by decide +kernel
theorem f121_72 : fch 121 72 = some (.iconst 100, 74, []) := by decide +kernel
theorem f121_74 : fch 121 74 = some (.irem, 75, []) := by decide +kernel
theorem f121_75 : fch 121 75 = some (.iload 4, 77, []) := by decide +kernel
theorem f121_77 : fch 121 77 = some (.invokevirtual 101, 80, []) := by decide +kernel
theorem f121_80 : fch 121 80 = some (.aload 0, 81, []) := by decide +kernel
theorem f121_81 : fch 121 81 = some (.invokeinterface 8 4, 84, []) := by decide +kernel
theorem f121_84 : fch 121 84 = some (.invokevirtual 96, 87, []) := by decide +kernel
theorem f121_87 : fch 121 87 = some (.iload 6, 89, []) := by decide +kernel
theorem f121_89 : fch 121 89 = some (.invokestatic 149, 92, []) := by decide +kernel
theorem f121_92 : fch 121 92 = some (.lreturn, 93, []) := by decide +kernel
set_option maxRecDepth 10000 in
theorem e121_0 (l0 l1 l2 l3 l4 l5 l6 : Int) (s : SG) : sem 121 0 [aA l0, aI l1, aI l2, aI l3, aI l4, aI l5, aI l6, aU] [] s = grd (kd l0 = 8) (bnI (sem 146 0 [aA l0, aI l1, aI l2, aI l3, aI l4, aI l5, aI 0] [] s) fun a2 s1 => if a2 = 0 then grd (kd l0 = 8) (grd (0 ≤ s1 l0 4) (grd (kd l0 = 8) (grd (0 ≤ s1 l0 9) (grd ((10 : Int) ≠ 0) (grd ((10 : Int) ≠ 0) (grd (kd (s1 l0 4) = 7) (bnV (sem 95 0 [aA (s1 l0 4), aA (s1 l0 9), aI (w32 (Int.tdiv l1 10)), aI (remA l1 10), aI l2] [] s1) fun s3 => grd (kd l0 = 8) (grd (0 ≤ s3 l0 4) (grd ((100 : Int) ≠ 0) (grd ((100 : Int) ≠ 0) (grd (kd (s3 l0 4) = 7) (bnV (sem 97 0 [aA (s3 l0 4), aI (w32 ((w32 (Int.tdiv l3 100)) + (remA l3 100))), aI l4, aI l5, aU] [] s3) fun s4 => grd (kd l0 = 8) (grd (0 ≤ s4 l0 4) (grd ((100 : Int) ≠ 0) (grd ((100 : Int) ≠ 0) (grd (kd (s4 l0 4) = 7) (bnL (sem 101 0 [aA (s4 l0 4), aI (w32 (Int.tdiv l3 100)), aI (remA l3 100), aI l4, aU, aU, aU] [] s4) fun a6 s5 => grd (kd l0 = 8) (grd (0 ≤ s5 l0 4) (grd (kd (s5 l0 4) = 7) (bnL (sem 96 0 [aA (s5 l0 4)] [] s5) fun a8 s7 => bnL (sem 149 0 [aL a6, aU, aL a8, aU, aI l6, aU, aU] [] s7) fun a10 s9 => some (aL a10, s9))))))))))))))))))))) else some (aL a2, s1)) := by
  refine (x_aload f121_0 rfl rfl).trans ?_
  refine (x_iload f121_1 rfl rfl).trans ?_
  refine (x_iload f121_2 rfl rfl).trans ?_
  refine (x_iload f121_3 rfl rfl).trans ?_
  refine (x_iload f121_4 rfl rfl).trans ?_
  refine (x_iload f121_6 rfl rfl).trans ?_
  refine (x_iconst f121_8 rfl).trans ?_
  refine (x_invokevirtual (G := grd (kd l0 = 8) (bnI (sem 146 0 [aA l0, aI l1, aI l2, aI l3, aI l4, aI l5, aI 0] [] s) fun a2 s1 => sem 121 12 [aA l0, aI l1, aI l2, aI l3, aI l4, aI l5, aI l6, aU] [aI a2] s1)) f121_9 rfl rfl).trans ?_
  refine g_c ?_
  refine bI_c fun a2 s1 => ?_
  refine (x_istore (l2 := [aA l0, aI l1, aI l2, aI l3, aI l4, aI l5, aI l6, aI a2]) f121_12 rfl rfl).trans ?_
  refine (x_iload f121_14 rfl rfl).trans ?_
  refine (x_if_eq (tg := 23) f121_16 rfl rfl).trans (i_c ?_ ?_)
  · refine (x_aload f121_23 rfl rfl).trans ?_
    refine (x_get2 f121_24 rfl rfl).trans ?_
    refine g_c ?_
    refine g_c ?_
    refine (x_aload f121_27 rfl rfl).trans ?_
    refine (x_get2 f121_28 rfl rfl).trans ?_
    refine g_c ?_
    refine g_c ?_
    refine (x_iload f121_31 rfl rfl).trans ?_
    refine (x_iconst f121_32 rfl).trans ?_
    refine (x_idiv f121_34 rfl).trans ?_
    refine g_c ?_
    refine (x_iload f121_35 rfl rfl).trans ?_
    refine (x_iconst f121_36 rfl).trans ?_
    refine (x_irem f121_38 rfl).trans ?_
    refine g_c ?_
    refine (x_iload f121_39 rfl rfl).trans ?_
    refine (x_invokevirtual (G := grd (kd (s1 l0 4) = 7) (bnV (sem 95 0 [aA (s1 l0 4), aA (s1 l0 9), aI (w32 (Int.tdiv l1 10)), aI (remA l1 10), aI l2] [] s1) fun s3 => sem 121 43 [aA l0, aI l1, aI l2, aI l3, aI l4, aI l5, aI l6, aI a2] [] s3)) f121_40 rfl rfl).trans ?_
    refine g_c ?_
    refine bV_c fun s3 => ?_
    refine (x_aload f121_43 rfl rfl).trans ?_
    refine (x_get2 f121_44 rfl rfl).trans ?_
    refine g_c ?_
    refine g_c ?_
    refine (x_iload f121_47 rfl rfl).trans ?_
    refine (x_iconst f121_48 rfl).trans ?_
    refine (x_idiv f121_50 rfl).trans ?_
    refine g_c ?_
    refine (x_iload f121_51 rfl rfl).trans ?_
    refine (x_iconst f121_52 rfl).trans ?_
    refine (x_irem f121_54 rfl).trans ?_
    refine g_c ?_
    refine (x_iadd f121_55 rfl).trans ?_
    refine (x_iload f121_56 rfl rfl).trans ?_
    refine (x_iload f121_58 rfl rfl).trans ?_
    refine (x_invokevirtual (G := grd (kd (s3 l0 4) = 7) (bnV (sem 97 0 [aA (s3 l0 4), aI (w32 ((w32 (Int.tdiv l3 100)) + (remA l3 100))), aI l4, aI l5, aU] [] s3) fun s4 => sem 121 63 [aA l0, aI l1, aI l2, aI l3, aI l4, aI l5, aI l6, aI a2] [] s4)) f121_60 rfl rfl).trans ?_
    refine g_c ?_
    refine bV_c fun s4 => ?_
    refine (x_aload f121_63 rfl rfl).trans ?_
    refine (x_get2 f121_64 rfl rfl).trans ?_
    refine g_c ?_
    refine g_c ?_
    refine (x_iload f121_67 rfl rfl).trans ?_
    refine (x_iconst f121_68 rfl).trans ?_
    refine (x_idiv f121_70 rfl).trans ?_
    refine g_c ?_
    refine (x_iload f121_71 rfl rfl).trans ?_
    refine (x_iconst f121_72 rfl).trans ?_
    refine (x_irem f121_74 rfl).trans ?_
    refine g_c ?_
    refine (x_iload f121_75 rfl rfl).trans ?_
    refine (x_invokevirtual (G := grd (kd (s4 l0 4) = 7) (bnL (sem 101 0 [aA (s4 l0 4), aI (w32 (Int.tdiv l3 100)), aI (remA l3 100), aI l4, aU, aU, aU] [] s4) fun a6 s5 => sem 121 80 [aA l0, aI l1, aI l2, aI l3, aI l4, aI l5, aI l6, aI a2] [aL a6] s5)) f121_77 rfl rfl).trans ?_
    refine g_c ?_
    refine bL_c fun a6 s5 => ?_
    refine (x_aload f121_80 rfl rfl).trans ?_
    refine (x_get2 f121_81 rfl rfl).trans ?_
    refine g_c ?_
    refine g_c ?_
    refine (x_invokevirtual (G := grd (kd (s5 l0 4) = 7) (bnL (sem 96 0 [aA (s5 l0 4)] [] s5) fun a8 s7 => sem 121 87 [aA l0, aI l1, aI l2, aI l3, aI l4, aI l5, aI l6, aI a2] [aL a8, aL a6] s7)) f121_84 rfl rfl).trans ?_
    refine g_c ?_
    refine bL_c fun a8 s7 => ?_
    refine (x_iload f121_87 rfl rfl).trans ?_
    refine (x_invokestatic (G := bnL (sem 149 0 [aL a6, aU, aL a8, aU, aI l6, aU, aU] [] s7) fun a10 s9 => sem 121 92 [aA l0, aI l1, aI l2, aI l3, aI l4, aI l5, aI l6, aI a2] [aL a10] s9) f121_89 rfl rfl).trans ?_
    refine bL_c fun a10 s9 => ?_
    exact x_lreturn f121_92 rfl
  · refine (x_iload f121_19 rfl rfl).trans ?_
    refine (x_i2l f121_21 rfl).trans ?_
    exact x_lreturn f121_22 rfl
theorem f122_0 : fch 122 0 = some (.aload 0, 1, []) := by decide +kernel
theorem f122_1 : fch 122 1 = some (.iload 1, 2, []) := by decide +kernel
theorem f122_2 : fch 122 2 = some (.iload 2, 3, []) := by decide +kernel
theorem f122_3 : fch 122 3 = some (.iload 3, 4, []) := by decide +kernel
theorem f122_4 : fch 122 4 = some (.iload 4, 6, []) := by decide +kernel
theorem f122_6 : fch 122 6 = some (.iload 5, 8, []) := by decide +kernel
theorem f122_8 : fch 122 8 = some (.iconst 1, 9, []) := by decide +kernel
theorem f122_9 : fch 122 9 = some (.invokevirtual 146, 12, []) := by decide +kernel
theorem f122_12 : fch 122 12 = some (.istore 6, 14, []) := by decide +kernel
theorem f122_14 : fch 122 14 = some (.iload 6, 16, []) := by decide +kernel
theorem f122_16 : fch 122 16 = some (.ifCond .eq 22, 19, []) := by decide +kernel
theorem f122_19 : fch 122 19 = some (.iload 6, 21, []) := by decide +kernel
theorem f122_21 : fch 122 21 = some (.ireturn, 22, []) := by decide +kernel
theorem f122_22 : fch 122 22 = some (.aload 0, 23, []) := by decide +kernel
theorem f122_23 : fch 122 23 = some (.invokeinterface 8 4, 26, []) := by decide +kernel
theorem f122_26 : fch 122 26 = some (.aload 0, 27, []) := by decide +kernel
theorem f122_27 : fch 122 27 = some (.invokeinterface 8 9, 30, []) := by decide +kernel
theorem f122_30 : fch 122 30 = some (.iload 1, 31, []) := by decide +kernel
theorem f122_31 : fch 122 31 = some (.iconst 10, 33, []) := by decide +kernel
theorem f122_33 : fch 122 33 = some (.idiv, 34, []) := by decide +kernel
theorem f122_34 : fch 122 34 = some (.iload 1, 35, []) := by decide +kernel
theorem f122_35 : fch 122 35 = some (.iconst 10, 37, []) := by decide +kernel
theorem f122_37 : fch 122 37 = some (.irem, 38, []) := by decide +kernel
theorem f122_38 : fch 122 38 = some (.iload 2, 39, []) := by decide +kernel
theorem f122_39 : fch 122 39 = some (.invokevirtual 95, 42, []) := by decide +kernel
theorem f122_42 : fch 122 42 = some (.aload 0, 43, []) := by decide +kernel
theorem f122_43 : fch 122 43 = some (.invokeinterface 8 4, 46, []) := by decide +kernel
theorem f122_46 : fch 122 46 = some (.iload 3, 47, []) := by decide +kernel
theorem f122_47 : fch 122 47 = some (.iconst 100, 49, []) := by decide +kernel
theorem f122_49 : fch 122 49 = some (.idiv, 50, []) := by decide +kernel
theorem f122_50 : fch 122 50 = some (.iload 3, 51, []) := by decide +kernel
theorem f122_51 : fch 122 51 = some (.iconst 100, 53, []) := by decide +kernel
theorem f122_53 : fch 122 53 = some (.irem, 54, []) := by decide +kernel
theorem f122_54 : fch 122 54 = some (.iadd, 55, []) := by decide +kernel
theorem f122_55 : fch 122 55 = some (.iload 4, 57, []) := by decide +kernel
theorem f122_57 : fch 122 57 = some (.iload 5, 59, []) := by decide +kernel
theorem f122_59 : fch 122 59 = some (.invokevirtual 97, 62, []) := by decide +kernel
theorem f122_62 : fch 122 62 = some (.aload 0, 63, []) := by decide +kernel
theorem f122_63 : fch 122 63 = some (.invokeinterface 8 4, 66, []) := by decide +kernel
theorem f122_66 : fch 122 66 = some (.iload 3, 67, []) := by decide +kernel
theorem f122_67 : fch 122 67 = some (.iconst 100, 69, []) := by decide +kernel
theorem f122_69 : fch 122 69 = some (.idiv, 70, []) := by decide +kernel
theorem f122_70 : fch 122 70 = some (.iload 3, 71, []) := by decide +kernel
theorem f122_71 : fch 122 71 = some (.iconst 100, 73, []) := by decide +kernel
theorem f122_73 : fch 122 73 = some (.irem, 74, []) := by decide +kernel
theorem f122_74 : fch 122 74 = some (.iload 4, 76, []) := by decide +kernel
theorem f122_76 : fch 122 76 = some (.invokevirtual 102, 79, []) := by decide +kernel
theorem f122_79 : fch 122 79 = some (.ireturn, 80, []) := by decide +kernel
set_option maxRecDepth 10000 in
theorem e122_0 (l0 l1 l2 l3 l4 l5 : Int) (s : SG) : sem 122 0 [aA l0, aI l1, aI l2, aI l3, aI l4, aI l5, aU] [] s = grd (kd l0 = 8) (bnI (sem 146 0 [aA l0, aI l1, aI l2, aI l3, aI l4, aI l5, aI 1] [] s) fun a2 s1 => if a2 = 0 then grd (kd l0 = 8) (grd (0 ≤ s1 l0 4) (grd (kd l0 = 8) (grd (0 ≤ s1 l0 9) (grd ((10 : Int) ≠ 0) (grd ((10 : Int) ≠ 0) (grd (kd (s1 l0 4) = 7) (bnV (sem 95 0 [aA (s1 l0 4), aA (s1 l0 9), aI (w32 (Int.tdiv l1 10)), aI (remA l1 10), aI l2] [] s1) fun s3 => grd (kd l0 = 8) (grd (0 ≤ s3 l0 4) (grd ((100 : Int) ≠ 0) (grd ((100 : Int) ≠ 0) (grd (kd (s3 l0 4) = 7) (bnV (sem 97 0 [aA (s3 l0 4), aI (w32 ((w32 (Int.tdiv l3 100)) + (remA l3 100))), aI l4, aI l5, aU] [] s3) fun s4 => grd (kd l0 = 8) (grd (0 ≤ s4 l0 4) (grd ((100 : Int) ≠ 0) (grd ((100 : Int) ≠ 0) (grd (kd (s4 l0 4) = 7) (bnI (sem 102 0 [aA (s4 l0 4), aI (w32 (Int.tdiv l3 100)), aI (remA l3 100), aI l4, aU, aU, aU] [] s4) fun a6 s5 => some (aI a6, s5)))))))))))))))))) else some (aI a2, s1)) := by
  refine (x_aload f122_0 rfl rfl).trans ?_
  refine (x_iload f122_1 rfl rfl).trans ?_
  refine (x_iload f122_2 rfl rfl).trans ?_
  refine (x_iload f122_3 rfl rfl).trans ?_
  refine (x_iload f122_4 rfl rfl).trans ?_
  refine (x_iload f122_6 rfl rfl).trans ?_
  refine (x_iconst f122_8 rfl).trans ?_
  refine (x_invokevirtual (G := grd (kd l0 = 8) (bnI (sem 146 0 [aA l0, aI l1, aI l2, aI l3, aI l4, aI l5, aI 1] [] s) fun a2 s1 => sem 122 12 [aA l0, aI l1, aI l2, aI l3, aI l4, aI l5, aU] [aI a2] s1)) f122_9 rfl rfl).trans ?_
  refine g_c ?_
  refine bI_c fun a2 s1 => ?_
  refine (x_istore (l2 := [aA l0, aI l1, aI l2, aI l3, aI l4, aI l5, aI a2]) f122_12 rfl rfl).trans ?_
  refine (x_iload f122_14 rfl rfl).trans ?_
  refine (x_if_eq (tg := 22) f122_16 rfl rfl).trans (i_c ?_ ?_)
  · refine (x_aload f122_22 rfl rfl).trans ?_
    refine (x_get2 f122_23 rfl rfl).trans ?_
    refine g_c ?_
    refine g_c ?_
    refine (x_aload f122_26 rfl rfl).trans ?_
    refine (x_get2 f122_27 rfl rfl).trans ?_
    refine g_c ?_
    refine g_c ?_
    refine (x_iload f122_30 rfl rfl).trans ?_
    refine (x_iconst f122_31 rfl).trans ?_
    refine (x_idiv f122_33 rfl).trans ?_
    refine g_c ?_
    refine (x_iload f122_34 rfl rfl).trans ?_
    refine (x_iconst f122_35 rfl).trans ?_
    refine (x_irem f122_37 rfl).trans ?_
    refine g_c ?_
    refine (x_iload f122_38 rfl rfl).trans ?_
    refine (x_invokevirtual (G := grd (kd (s1 l0 4) = 7) (bnV (sem 95 0 [aA (s1 l0 4), aA (s1 l0 9), aI (w32 (Int.tdiv l1 10)), aI (remA l1 10), aI l2] [] s1) fun s3 => sem 122 42 [aA l0, aI l1, aI l2, aI l3, aI l4, aI l5, aI a2] [] s3)) f122_39 rfl rfl).trans ?_
    refine g_c ?_
    refine bV_c fun s3 => ?_
    refine (x_aload f122_42 rfl rfl).trans ?_
    refine (x_get2 f122_43 rfl rfl).trans ?_
    refine g_c ?_
    refine g_c ?_
    refine (x_iload f122_46 rfl rfl).trans ?_
    refine (x_iconst f122_47 rfl).trans ?_
    refine (x_idiv f122_49 rfl).trans ?_
    refine g_c ?_
    refine (x_iload f122_50 rfl rfl).trans ?_
    refine (x_iconst f122_51 rfl).trans ?_
    refine (x_irem f122_53 rfl).trans ?_
    refine g_c ?_
    refine (x_iadd f122_54 rfl).trans ?_
    refine (x_iload f122_55 rfl rfl).trans ?_
    refine (x_iload f122_57 rfl rfl).trans ?_
    refine (x_invokevirtual (G := grd (kd (s3 l0 4) = 7) (bnV (sem 97 0 [aA (s3 l0 4), aI (w32 ((w32 (Int.tdiv l3 100)) + (remA l3 100))), aI l4, aI l5, aU] [] s3) fun s4 => sem 122 62 [aA l0, aI l1, aI l2, aI l3, aI l4, aI l5, aI a2] [] s4)) f122_59 rfl rfl).trans ?_
    refine g_c ?_
    refine bV_c fun s4 => ?_
    refine (x_aload f122_62 rfl rfl).trans ?_
    refine (x_get2 f122_63 rfl rfl).trans ?_
    refine g_c ?_
    refine g_c ?_
    refine (x_iload f122_66 rfl rfl).trans ?_
    refine (x_iconst f122_67 rfl).trans ?_
    refine (x_idiv f122_69 rfl).trans ?_
    refine g_c ?_
    refine (x_iload f122_70 rfl rfl).trans ?_
    refine (x_iconst f122_71 rfl).trans ?_
    refine (x_irem f122_73 rfl).trans ?_
    refine g_c ?_
    refine (x_iload f122_74 rfl rfl).trans ?_
    refine (x_invokevirtual (G := grd (kd (s4 l0 4) = 7) (bnI (sem 102 0 [aA (s4 l0 4), aI (w32 (Int.tdiv l3 100)), aI (remA l3 100), aI l4, aU, aU, aU] [] s4) fun a6 s5 => sem 122 79 [aA l0, aI l1, aI l2, aI l3, aI l4, aI l5, aI a2] [aI a6] s5)) f122_76 rfl rfl).trans ?_
    refine g_c ?_
    refine bI_c fun a6 s5 => ?_
    exact x_ireturn f122_79 rfl
  · refine (x_iload f122_19 rfl rfl).trans ?_
    exact x_ireturn f122_21 rfl
theorem f123_0 : fch 123 0 = some (.iload 1, 1, []) := by decide +kernel
theorem f123_1 : fch 123 1 = some (.invokestatic 140, 4, []) := by decide +kernel
theorem f123_4 : fch 123 4 = some (.ifCond .ne 9, 7, []) := by decide +kernel
theorem f123_7 : fch 123 7 = some (.iconst (-1), 8, []) := by decide +kernel
theorem f123_8 : fch 123 8 = some (.ireturn, 9, []) := by decide +kernel
theorem f123_9 : fch 123 9 = some (.aload 0, 10, []) := by decide +kernel
theorem f123_10 : fch 123 10 = some (.invokeinterface 8 5, 13, []) := by decide +kernel
theorem f123_13 : fch 123 13 = some (.invokeinterface 1 6, 16, []) := by decide +kernel
theorem f123_16 : fch 123 16 = some (.istore 2, 17, []) := by decide +kernel
theorem f123_17 : fch 123 17 = some (.aload 0, 18, []) := by decide +kernel
theorem f123_18 : fch 123 18 = some (.invokeinterface 8 5, 21, []) := by decide +kernel
theorem f123_21 : fch 123 21 = some (.iload 1, 22, []) := by decide +kernel
theorem f123_22 : fch 123 22 = some (.multianewarray 1 6, 25, []) := by decide +kernel
theorem f123_25 : fch 123 25 = some (.iload 2, 26, []) := by decide +kernel
theorem f123_26 : fch 123 26 = some (.ireturn, 27, []) := by decide +kernel
set_option maxRecDepth 10000 in
theorem e123_0 (l0 l1 : Int) (s : SG) : sem 123 0 [aA l0, aI l1, aU] [] s = bnI (sem 140 0 [aI l1] [] s) fun a2 s1 => if a2 = 0 then some (aI ((-1)), s1) else grd (kd l0 = 8) (grd (0 ≤ s1 l0 5) (grd (kd (s1 l0 5) = 1) (grd (kd l0 = 8) (grd (0 ≤ s1 l0 5) (grd (kd (s1 l0 5) = 1) (some (aI (s1 (s1 l0 5) 6), up s1 (s1 l0 5) 6 l1))))))) := by
  refine (x_iload f123_0 rfl rfl).trans ?_
  refine (x_invokestatic (G := bnI (sem 140 0 [aI l1] [] s) fun a2 s1 => sem 123 4 [aA l0, aI l1, aU] [aI a2] s1) f123_1 rfl rfl).trans ?_
  refine bI_c fun a2 s1 => ?_
  refine (x_if_ne (tg := 9) f123_4 rfl rfl).trans (i_c ?_ ?_)
  · refine (x_iconst f123_7 rfl).trans ?_
    exact x_ireturn f123_8 rfl
  · refine (x_aload f123_9 rfl rfl).trans ?_
    refine (x_get2 f123_10 rfl rfl).trans ?_
    refine g_c ?_
    refine g_c ?_
    refine (x_get0 f123_13 rfl rfl).trans ?_
    refine g_c ?_
    refine (x_istore (l2 := [aA l0, aI l1, aI (s1 (s1 l0 5) 6)]) f123_16 rfl rfl).trans ?_
    refine (x_aload f123_17 rfl rfl).trans ?_
    refine (x_get2 f123_18 rfl rfl).trans ?_
    refine g_c ?_
    refine g_c ?_
    refine (x_iload f123_21 rfl rfl).trans ?_
    refine (x_put0 f123_22 rfl rfl).trans ?_
    refine g_c ?_
    refine (x_iload f123_25 rfl rfl).trans ?_
    exact x_ireturn f123_26 rfl
theorem f124_0 : fch 124 0 = some (.aload 0, 1, []) := by decide +kernel
theorem f124_1 : fch 124 1 = some (.iload 1, 2, []) := by decide +kernel
theorem f124_2 : fch 124 2 = some (.iload 2, 3, []) := by decide +kernel
theorem f124_3 : fch 124 3 = some (.invokevirtual 145, 6, []) := by decide +kernel
theorem f124_6 : fch 124 6 = some (.istore 3, 7, []) := by decide +kernel
theorem f124_7 : fch 124 7 = some (.iload 3, 8, []) := by decide +kernel
theorem f124_8 : fch 124 8 = some (.ifCond .eq 15, 11, []) := by decide +kernel
theorem f124_11 : fch 124 11 = some (.iload 3, 12, []) := by decide +kernel
theorem f124_12 : fch 124 12 = some (.goto 24, 15, []) := by decide +kernel
theorem f124_15 : fch 124 15 = some (.aload 0, 16, []) := by decide +kernel
theorem f124_16 : fch 124 16 = some (.invokeinterface 8 5, 19, []) := by decide +kernel
theorem f124_19 : fch 124 19 = some (.iload 1, 20, []) := by decide +kernel
theorem f124_20 : fch 124 20 = some (.iload 2, 21, []) := by decide +kernel
theorem f124_21 : fch 124 21 = some (.invokevirtual 25, 24, []) := by decide +kernel
theorem f124_24 : fch 124 24 = some (.ireturn, 25, [0, 1, 2, 3]) := by decide +kernel
set_option maxRecDepth 10000 in
theorem e124_0 (l0 l1 l2 : Int) (s : SG) : sem 124 0 [aA l0, aI l1, aI l2, aU] [] s = grd (kd l0 = 8) (bnI (sem 145 0 [aA l0, aI l1, aI l2] [] s) fun a2 s1 => if a2 = 0 then grd (kd l0 = 8) (grd (0 ≤ s1 l0 5) (grd (kd (s1 l0 5) = 1) (bnI (sem 25 0 [aA (s1 l0 5), aI l1, aI l2, aU] [] s1) fun a4 s3 => some (aI a4, s3)))) else some (aI a2, s1)) := by
  refine (x_aload f124_0 rfl rfl).trans ?_
  refine (x_iload f124_1 rfl rfl).trans ?_
  refine (x_iload f124_2 rfl rfl).trans ?_
  refine (x_invokevirtual (G := grd (kd l0 = 8) (bnI (sem 145 0 [aA l0, aI l1, aI l2] [] s) fun a2 s1 => sem 124 6 [aA l0, aI l1, aI l2, aU] [aI a2] s1)) f124_3 rfl rfl).trans ?_
  refine g_c ?_
  refine bI_c fun a2 s1 => ?_
  refine (x_istore (l2 := [aA l0, aI l1, aI l2, aI a2]) f124_6 rfl rfl).trans ?_
  refine (x_iload f124_7 rfl rfl).trans ?_
  refine (x_if_eq (tg := 15) f124_8 rfl rfl).trans (i_c ?_ ?_)
  · refine (x_aload f124_15 rfl rfl).trans ?_
    refine (x_get2 f124_16 rfl rfl).trans ?_
    refine g_c ?_
    refine g_c ?_
    refine (x_iload f124_19 rfl rfl).trans ?_
    refine (x_iload f124_20 rfl rfl).trans ?_
    refine (x_invokevirtual (G := grd (kd (s1 l0 5) = 1) (bnI (sem 25 0 [aA (s1 l0 5), aI l1, aI l2, aU] [] s1) fun a4 s3 => sem 124 24 [aA l0, aI l1, aI l2, aI a2] [aI a4] s3)) f124_21 rfl rfl).trans ?_
    refine g_c ?_
    refine bI_c fun a4 s3 => ?_
    refine (x_kil (l2 := [aU, aU, aU, aU]) f124_24 rfl).trans ?_
    exact x_ireturn f124_24 rfl
  · refine (x_iload f124_11 rfl rfl).trans ?_
    refine (x_goto (tg := 24) f124_12 rfl rfl).trans ?_
    refine (x_kil (l2 := [aU, aU, aU, aU]) f124_24 rfl).trans ?_
    exact x_ireturn f124_24 rfl
theorem f125_0 : fch 125 0 = some (.aload 0, 1, []) := by decide +kernel
theorem f125_1 : fch 125 1 = some (.invokeinterface 8 9, 4, []) := by decide +kernel
theorem f125_4 : fch 125 4 = some (.iload 1, 5, []) := by decide +kernel
theorem f125_5 : fch 125 5 = some (.invokevirtual 83, 8, []) := by decide +kernel
theorem f125_8 : fch 125 8 = some (.ifCond .ne 13, 11, []) := by decide +kernel
theorem f125_11 : fch 125 11 = some (.iconst (-1), 12, []) := by decide +kernel
theorem f125_12 : fch 125 12 = some (.ireturn, 13, []) := by decide +kernel
theorem f125_13 : fch 125 13 = some (.iload 2, 14, []) := by decide +kernel
theorem f125_14 : fch 125 14 = some (.ifCond .lt 23, 17, []) := by decide +kernel
theorem f125_17 : fch 125 17 = some (.iload 2, 18, []) := by decide +kernel
theorem f125_18 : fch 125 18 = some (.iconst 63, 20, []) := by decide +kernel
theorem f125_20 : fch 125 20 = some (.if_icmp .le 28, 23, []) := by decide +kernel
theorem f125_23 : fch 125 23 = some (.iconst (-2), 25, [0, 1, 2]) := by decide +kernel
theorem f125_25 : fch 125 25 = some (.goto 37, 28, []) := by decide +kernel
theorem f125_28 : fch 125 28 = some (.aload 0, 29, []) := by decide +kernel
theorem f125_29 : fch 125 29 = some (.invokeinterface 8 5, 32, []) := by decide +kernel
theorem f125_32 : fch 125 32 = some (.iload 1, 33, []) := by decide +kernel
theorem f125_33 : fch 125 33 = some (.iload 2, 34, []) := by decide +kernel
theorem f125_34 : fch 125 34 = some (.invokevirtual 26, 37, []) := by decide +kernel
theorem f125_37 : fch 125 37 = some (.ireturn, 38, [0, 1, 2]) := by decide +kernel
set_option maxRecDepth 10000 in
theorem e125_0 (l0 l1 l2 : Int) (s : SG) : sem 125 0 [aA l0, aI l1, aI l2] [] s = grd (kd l0 = 8) (grd (0 ≤ s l0 9) (grd (kd (s l0 9) = 6) (bnI (sem 83 0 [aA (s l0 9), aI l1] [] s) fun a2 s1 => if a2 = 0 then some (aI ((-1)), s1) else if l2 < 0 then some (aI ((-2)), s1) else if (63 : Int) < l2 then some (aI ((-2)), s1) else grd (kd l0 = 8) (grd (0 ≤ s1 l0 5) (grd (kd (s1 l0 5) = 1) (bnI (sem 26 0 [aA (s1 l0 5), aI l1, aI l2, aU] [] s1) fun a4 s3 => some (aI a4, s3))))))) := by
  refine (x_aload f125_0 rfl rfl).trans ?_
  refine (x_get2 f125_1 rfl rfl).trans ?_
  refine g_c ?_
  refine g_c ?_
  refine (x_iload f125_4 rfl rfl).trans ?_
  refine (x_invokevirtual (G := grd (kd (s l0 9) = 6) (bnI (sem 83 0 [aA (s l0 9), aI l1] [] s) fun a2 s1 => sem 125 8 [aA l0, aI l1, aI l2] [aI a2] s1)) f125_5 rfl rfl).trans ?_
  refine g_c ?_
  refine bI_c fun a2 s1 => ?_
  refine (x_if_ne (tg := 13) f125_8 rfl rfl).trans (i_c ?_ ?_)
  · refine (x_iconst f125_11 rfl).trans ?_
    exact x_ireturn f125_12 rfl
  · refine (x_iload f125_13 rfl rfl).trans ?_
    refine (x_if_lt (tg := 23) f125_14 rfl rfl).trans (i_c ?_ ?_)
    · refine (x_kil (l2 := [aU, aU, aU]) f125_23 rfl).trans ?_
      refine (x_iconst f125_23 rfl).trans ?_
      refine (x_goto (tg := 37) f125_25 rfl rfl).trans ?_
      exact x_ireturn f125_37 rfl
    · refine (x_iload f125_17 rfl rfl).trans ?_
      refine (x_iconst f125_18 rfl).trans ?_
      refine (x_icmp_le (tg := 28) f125_20 rfl rfl).trans (i_c ?_ ?_)
      · refine (x_kil (l2 := [aU, aU, aU]) f125_23 rfl).trans ?_
        refine (x_iconst f125_23 rfl).trans ?_
        refine (x_goto (tg := 37) f125_25 rfl rfl).trans ?_
        exact x_ireturn f125_37 rfl
      · refine (x_aload f125_28 rfl rfl).trans ?_
        refine (x_get2 f125_29 rfl rfl).trans ?_
        refine g_c ?_
        refine g_c ?_
        refine (x_iload f125_32 rfl rfl).trans ?_
        refine (x_iload f125_33 rfl rfl).trans ?_
        refine (x_invokevirtual (G := grd (kd (s1 l0 5) = 1) (bnI (sem 26 0 [aA (s1 l0 5), aI l1, aI l2, aU] [] s1) fun a4 s3 => sem 125 37 [aA l0, aI l1, aI l2] [aI a4] s3)) f125_34 rfl rfl).trans ?_
        refine g_c ?_
        refine bI_c fun a4 s3 => ?_
        refine (x_kil (l2 := [aU, aU, aU]) f125_37 rfl).trans ?_
        exact x_ireturn f125_37 rfl
theorem f126_0 : fch 126 0 = some (.iload 1, 1, []) := by decide +kernel
theorem f126_1 : fch 126 1 = some (.invokestatic 143, 4, []) := by decide +kernel
theorem f126_4 : fch 126 4 = some (.ifCond .eq 15, 7, []) := by decide +kernel
theorem f126_7 : fch 126 7 = some (.iload 2, 8, []) := by decide +kernel
theorem f126_8 : fch 126 8 = some (.iload 3, 9, []) := by decide +kernel
theorem f126_9 : fch 126 9 = some (.invokestatic 20, 12, []) := by decide +kernel
theorem f126_12 : fch 126 12 = some (.ifCond .ne 18, 15, []) := by decide +kernel
theorem f126_15 : fch 126 15 = some (.iconst (-2), 17, [0, 1, 2, 3]) := by decide +kernel
theorem f126_17 : fch 126 17 = some (.ireturn, 18, []) := by decide +kernel
theorem f126_18 : fch 126 18 = some (.aload 0, 19, []) := by decide +kernel
theorem f126_19 : fch 126 19 = some (.invokeinterface 8 5, 22, []) := by decide +kernel
theorem f126_22 : fch 126 22 = some (.invokeinterface 1 7, 25, []) := by decide +kernel
theorem f126_25 : fch 126 25 = some (.istore 4, 27, []) := by decide +kernel
theorem f126_27 : fch 126 27 = some (.aload 0, 28, []) := by decide +kernel
theorem f126_28 : fch 126 28 = some (.invokeinterface 8 5, 31, []) := by decide +kernel
theorem f126_31 : fch 126 31 = some (.iload 1, 32, []) := by decide +kernel
theorem f126_32 : fch 126 32 = some (.multianewarray 1 7, 35, []) := by decide +kernel
theorem f126_35 : fch 126 35 = some (.aload 0, 36, []) := by decide +kernel
theorem f126_36 : fch 126 36 = some (.invokeinterface 8 5, 39, []) := by decide +kernel
theorem f126_39 : fch 126 39 = some (.iload 2, 40, []) := by decide +kernel
theorem f126_40 : fch 126 40 = some (.multianewarray 1 8, 43, []) := by decide +kernel
theorem f126_43 : fch 126 43 = some (.aload 0, 44, []) := by decide +kernel
theorem f126_44 : fch 126 44 = some (.invokeinterface 8 5, 47, []) := by decide +kernel
theorem f126_47 : fch 126 47 = some (.iload 3, 48, []) := by decide +kernel
theorem f126_48 : fch 126 48 = some (.multianewarray 1 9, 51, []) := by decide +kernel
theorem f126_51 : fch 126 51 = some (.iload 4, 53, []) := by decide +kernel
theorem f126_53 : fch 126 53 = some (.ireturn, 54, []) := by decide +kernel
set_option maxRecDepth 10000 in
theorem e126_0 (l0 l1 l2 l3 : Int) (s : SG) : sem 126 0 [aA l0, aI l1, aI l2, aI l3, aU] [] s = bnI (sem 143 0 [aI l1] [] s) fun a2 s1 => if a2 = 0 then some (aI ((-2)), s1) else bnI (sem 20 0 [aI l2, aI l3] [] s1) fun a4 s3 => if a4 = 0 then some (aI ((-2)), s3) else grd (kd l0 = 8) (grd (0 ≤ s3 l0 5) (grd (kd (s3 l0 5) = 1) (grd (kd l0 = 8) (grd (0 ≤ s3 l0 5) (grd (kd (s3 l0 5) = 1) (grd (kd l0 = 8) (grd (0 ≤ (up s3 (s3 l0 5) 7 l1) l0 5) (grd (kd ((up s3 (s3 l0 5) 7 l1) l0 5) = 1) (grd (kd l0 = 8) (grd (0 ≤ (up (up s3 (s3 l0 5) 7 l1) ((up s3 (s3 l0 5) 7 l1) l0 5) 8 l2) l0 5) (grd (kd ((up (up s3 (s3 l0 5) 7 l1) ((up s3 (s3 l0 5) 7 l1) l0 5) 8 l2) l0 5) = 1) (some (aI (s3 (s3 l0 5) 7), up (up (up s3 (s3 l0 5) 7 l1) ((up s3 (s3 l0 5) 7 l1) l0 5) 8 l2) ((up (up s3 (s3 l0 5) 7 l1) ((up s3 (s3 l0 5) 7 l1) l0 5) 8 l2) l0 5) 9 l3))))))))))))) := by
  refine (x_iload f126_0 rfl rfl).trans ?_
  refine (x_invokestatic (G := bnI (sem 143 0 [aI l1] [] s) fun a2 s1 => sem 126 4 [aA l0, aI l1, aI l2, aI l3, aU] [aI a2] s1) f126_1 rfl rfl).trans ?_
  refine bI_c fun a2 s1 => ?_
  refine (x_if_eq (tg := 15) f126_4 rfl rfl).trans (i_c ?_ ?_)
  · refine (x_kil (l2 := [aU, aU, aU, aU, aU]) f126_15 rfl).trans ?_
    refine (x_iconst f126_15 rfl).trans ?_
    exact x_ireturn f126_17 rfl
  · refine (x_iload f126_7 rfl rfl).trans ?_
    refine (x_iload f126_8 rfl rfl).trans ?_
    refine (x_invokestatic (G := bnI (sem 20 0 [aI l2, aI l3] [] s1) fun a4 s3 => sem 126 12 [aA l0, aI l1, aI l2, aI l3, aU] [aI a4] s3) f126_9 rfl rfl).trans ?_
    refine bI_c fun a4 s3 => ?_
    refine (x_if_ne (tg := 18) f126_12 rfl rfl).trans (i_c ?_ ?_)
    · refine (x_kil (l2 := [aU, aU, aU, aU, aU]) f126_15 rfl).trans ?_
      refine (x_iconst f126_15 rfl).trans ?_
      exact x_ireturn f126_17 rfl
    · refine (x_aload f126_18 rfl rfl).trans ?_
      refine (x_get2 f126_19 rfl rfl).trans ?_
      refine g_c ?_
      refine g_c ?_
      refine (x_get0 f126_22 rfl rfl).trans ?_
      refine g_c ?_
      refine (x_istore (l2 := [aA l0, aI l1, aI l2, aI l3, aI (s3 (s3 l0 5) 7)]) f126_25 rfl rfl).trans ?_
      refine (x_aload f126_27 rfl rfl).trans ?_
      refine (x_get2 f126_28 rfl rfl).trans ?_
      refine g_c ?_
      refine g_c ?_
      refine (x_iload f126_31 rfl rfl).trans ?_
      refine (x_put0 f126_32 rfl rfl).trans ?_
      refine g_c ?_
      refine (x_aload f126_35 rfl rfl).trans ?_
      refine (x_get2 f126_36 rfl rfl).trans ?_
      refine g_c ?_
      refine g_c ?_
      refine (x_iload f126_39 rfl rfl).trans ?_
      refine (x_put0 f126_40 rfl rfl).trans ?_
      refine g_c ?_
      refine (x_aload f126_43 rfl rfl).trans ?_
      refine (x_get2 f126_44 rfl rfl).trans ?_
      refine g_c ?_
      refine g_c ?_
      refine (x_iload f126_47 rfl rfl).trans ?_
      refine (x_put0 f126_48 rfl rfl).trans ?_
      refine g_c ?_
      refine (x_iload f126_51 rfl rfl).trans ?_
      exact x_ireturn f126_53 rfl
theorem f127_0 : fch 127 0 = some (.iload 1, 1, []) := by decide +kernel
theorem f127_1 : fch 127 1 = some (.invokestatic 141, 4, []) := by decide +kernel
theorem f127_4 : fch 127 4 = some (.ifCond .eq 18, 7, []) := by decide +kernel
theorem f127_7 : fch 127 7 = some (.aload 0, 8, []) := by decide +kernel
theorem f127_8 : fch 127 8 = some (.invokeinterface 8 9, 11, []) := by decide +kernel
theorem f127_11 : fch 127 11 = some (.iload 2, 12, []) := by decide +kernel
theorem f127_12 : fch 127 12 = some (.invokevirtual 83, 15, []) := by decide +kernel
theorem f127_15 : fch 127 15 = some (.ifCond .ne 20, 18, []) := by decide +kernel
theorem f127_18 : fch 127 18 = some (.iconst (-1), 19, [0, 1, 2, 3]) := by decide +kernel
theorem f127_19 : fch 127 19 = some (.ireturn, 20, []) := by decide +kernel
theorem f127_20 : fch 127 20 = some (.iload 3, 21, []) := by decide +kernel
theorem f127_21 : fch 127 21 = some (.iconst 1, 22, []) := by decide +kernel
theorem f127_22 : fch 127 22 = some (.if_icmp .lt 31, 25, []) := by decide +kernel
theorem f127_25 : fch 127 25 = some (.iload 3, 26, []) := by decide +kernel
theorem f127_26 : fch 127 26 = some (.iconst 20, 28, []) := by decide +kernel
theorem f127_28 : fch 127 28 = some (.if_icmp .le 34, 31, []) := by decide +kernel
theorem f127_31 : fch 127 31 = some (.iconst (-2), 33, [0, 1, 2, 3]) := by decide +kernel
theorem f127_33 : fch 127 33 = some (.ireturn, 34, []) := by decide +kernel
theorem f127_34 : fch 127 34 = some (.aload 0, 35, []) := by decide +kernel
theorem f127_35 : fch 127 35 = some (.invokeinterface 8 5, 38, []) := by decide +kernel
theorem f127_38 : fch 127 38 = some (.iload 1, 39, []) := by decide +kernel
theorem f127_39 : fch 127 39 = some (.iload 2, 40, []) := by decide +kernel
theorem f127_40 : fch 127 40 = some (.iload 3, 41, []) := by decide +kernel
theorem f127_41 : fch 127 41 = some (.invokevirtual 27, 44, []) := by decide +kernel
theorem f127_44 : fch 127 44 = some (.ifCond .eq 59, 47, []) := by decide +kernel
theorem f127_47 : fch 127 47 = some (.aload 0, 48, []) := by decide +kernel
theorem f127_48 : fch 127 48 = some (.invokeinterface 8 5, 51, []) := by decide +kernel
theorem f127_51 : fch 127 51 = some (.invokeinterface 1 10, 54, []) := by decide +kernel
theorem f127_54 : fch 127 54 = some (.iconst 1, 55, []) := by decide +kernel
theorem f127_55 : fch 127 55 = some (.isub, 56, []) := by decide +kernel
theorem f127_56 : fch 127 56 = some (.goto 61, 59, []) := by decide +kernel
theorem f127_59 : fch 127 59 = some (.iconst (-4), 61, []) := by decide +kernel
theorem f127_61 : fch 127 61 = some (.ireturn, 62, [0, 1, 2, 3]) := by decide +kernel
set_option maxRecDepth 10000 in
theorem e127_0 (l0 l1 l2 l3 : Int) (s : SG) : sem 127 0 [aA l0, aI l1, aI l2, aI l3] [] s = bnI (sem 141 0 [aI l1] [] s) fun a2 s1 => if a2 = 0 then some (aI ((-1)), s1) else grd (kd l0 = 8) (grd (0 ≤ s1 l0 9) (grd (kd (s1 l0 9) = 6) (bnI (sem 83 0 [aA (s1 l0 9), aI l2] [] s1) fun a4 s3 => if a4 = 0 then some (aI ((-1)), s3) else if l3 < 1 then some (aI ((-2)), s3) else if (20 : Int) < l3 then some (aI ((-2)), s3) else grd (kd l0 = 8) (grd (0 ≤ s3 l0 5) (grd (kd (s3 l0 5) = 1) (bnI (sem 27 0 [aA (s3 l0 5), aI l1, aI l2, aI l3] [] s3) fun a6 s5 => if a6 = 0 then some (aI ((-4)), s5) else grd (kd l0 = 8) (grd (0 ≤ s5 l0 5) (grd (kd (s5 l0 5) = 1) (some (aI (w32 ((s5 (s5 l0 5) 10) - 1)), s5)))))))))) := by
  refine (x_iload f127_0 rfl rfl).trans ?_
  refine (x_invokestatic (G := bnI (sem 141 0 [aI l1] [] s) fun a2 s1 => sem 127 4 [aA l0, aI l1, aI l2, aI l3] [aI a2] s1) f127_1 rfl rfl).trans ?_
  refine bI_c fun a2 s1 => ?_
  refine (x_if_eq (tg := 18) f127_4 rfl rfl).trans (i_c ?_ ?_)
  · refine (x_kil (l2 := [aU, aU, aU, aU]) f127_18 rfl).trans ?_
    refine (x_iconst f127_18 rfl).trans ?_
    exact x_ireturn f127_19 rfl
  · refine (x_aload f127_7 rfl rfl).trans ?_
    refine (x_get2 f127_8 rfl rfl).trans ?_
    refine g_c ?_
    refine g_c ?_
    refine (x_iload f127_11 rfl rfl).trans ?_
    refine (x_invokevirtual (G := grd (kd (s1 l0 9) = 6) (bnI (sem 83 0 [aA (s1 l0 9), aI l2] [] s1) fun a4 s3 => sem 127 15 [aA l0, aI l1, aI l2, aI l3] [aI a4] s3)) f127_12 rfl rfl).trans ?_
    refine g_c ?_
    refine bI_c fun a4 s3 => ?_
    refine (x_if_ne (tg := 20) f127_15 rfl rfl).trans (i_c ?_ ?_)
    · refine (x_kil (l2 := [aU, aU, aU, aU]) f127_18 rfl).trans ?_
      refine (x_iconst f127_18 rfl).trans ?_
      exact x_ireturn f127_19 rfl
    · refine (x_iload f127_20 rfl rfl).trans ?_
      refine (x_iconst f127_21 rfl).trans ?_
      refine (x_icmp_lt (tg := 31) f127_22 rfl rfl).trans (i_c ?_ ?_)
      · refine (x_kil (l2 := [aU, aU, aU, aU]) f127_31 rfl).trans ?_
        refine (x_iconst f127_31 rfl).trans ?_
        exact x_ireturn f127_33 rfl
      · refine (x_iload f127_25 rfl rfl).trans ?_
        refine (x_iconst f127_26 rfl).trans ?_
        refine (x_icmp_le (tg := 34) f127_28 rfl rfl).trans (i_c ?_ ?_)
        · refine (x_kil (l2 := [aU, aU, aU, aU]) f127_31 rfl).trans ?_
          refine (x_iconst f127_31 rfl).trans ?_
          exact x_ireturn f127_33 rfl
        · refine (x_aload f127_34 rfl rfl).trans ?_
          refine (x_get2 f127_35 rfl rfl).trans ?_
          refine g_c ?_
          refine g_c ?_
          refine (x_iload f127_38 rfl rfl).trans ?_
          refine (x_iload f127_39 rfl rfl).trans ?_
          refine (x_iload f127_40 rfl rfl).trans ?_
          refine (x_invokevirtual (G := grd (kd (s3 l0 5) = 1) (bnI (sem 27 0 [aA (s3 l0 5), aI l1, aI l2, aI l3] [] s3) fun a6 s5 => sem 127 44 [aA l0, aI l1, aI l2, aI l3] [aI a6] s5)) f127_41 rfl rfl).trans ?_
          refine g_c ?_
          refine bI_c fun a6 s5 => ?_
          refine (x_if_eq (tg := 59) f127_44 rfl rfl).trans (i_c ?_ ?_)
          · refine (x_iconst f127_59 rfl).trans ?_
            refine (x_kil (l2 := [aU, aU, aU, aU]) f127_61 rfl).trans ?_
            exact x_ireturn f127_61 rfl
          · refine (x_aload f127_47 rfl rfl).trans ?_
            refine (x_get2 f127_48 rfl rfl).trans ?_
            refine g_c ?_
            refine g_c ?_
            refine (x_get0 f127_51 rfl rfl).trans ?_
            refine g_c ?_
            refine (x_iconst f127_54 rfl).trans ?_
            refine (x_isub f127_55 rfl).trans ?_
            refine (x_goto (tg := 61) f127_56 rfl rfl).trans ?_
            refine (x_kil (l2 := [aU, aU, aU, aU]) f127_61 rfl).trans ?_
            exact x_ireturn f127_61 rfl
theorem f128_0 : fch 128 0 = some (.aload 0, 1, []) := by decide +kernel
theorem f128_1 : fch 128 1 = some (.invokeinterface 8 5, 4, []) := by decide +kernel
theorem f128_4 : fch 128 4 = some (.invokeinterface 1 10, 7, []) := by decide +kernel
theorem f128_7 : fch 128 7 = some (.istore 1, 8, []) := by decide +kernel
theorem f128_8 : fch 128 8 = some (.aload 0, 9, []) := by decide +kernel
theorem f128_9 : fch 128 9 = some (.invokeinterface 8 5, 12, []) := by decide +kernel
theorem f128_12 : fch 128 12 = some (.iconst 0, 13, []) := by decide +kernel
theorem f128_13 : fch 128 13 = some (.multianewarray 1 10, 16, []) := by decide +kernel
theorem f128_16 : fch 128 16 = some (.iload 1, 17, []) := by decide +kernel
theorem f128_17 : fch 128 17 = some (.ireturn, 18, []) := by decide +kernel
set_option maxRecDepth 10000 in
theorem e128_0 (l0 : Int) (s : SG) : sem 128 0 [aA l0, aU] [] s = grd (kd l0 = 8) (grd (0 ≤ s l0 5) (grd (kd (s l0 5) = 1) (grd (kd l0 = 8) (grd (0 ≤ s l0 5) (grd (kd (s l0 5) = 1) (some (aI (s (s l0 5) 10), up s (s l0 5) 10 0))))))) := by
  refine (x_aload f128_0 rfl rfl).trans ?_
  refine (x_get2 f128_1 rfl rfl).trans ?_
  refine g_c ?_
  refine g_c ?_
  refine (x_get0 f128_4 rfl rfl).trans ?_
  refine g_c ?_
  refine (x_istore (l2 := [aA l0, aI (s (s l0 5) 10)]) f128_7 rfl rfl).trans ?_
  refine (x_aload f128_8 rfl rfl).trans ?_
  refine (x_get2 f128_9 rfl rfl).trans ?_
  refine g_c ?_
  refine g_c ?_
  refine (x_iconst f128_12 rfl).trans ?_
  refine (x_put0 f128_13 rfl rfl).trans ?_
  refine g_c ?_
  refine (x_iload f128_16 rfl rfl).trans ?_
  exact x_ireturn f128_17 rfl
theorem f129_0 : fch 129 0 = some (.aload 0, 1, []) := by decide +kernel
theorem f129_1 : fch 129 1 = some (.invokeinterface 8 9, 4, []) := by decide +kernel
theorem f129_4 : fch 129 4 = some (.iload 1, 5, []) := by decide +kernel
theorem f129_5 : fch 129 5 = some (.invokevirtual 83, 8, []) := by decide +kernel
theorem f129_8 : fch 129 8 = some (.ifCond .eq 18, 11, []) := by decide +kernel
theorem f129_11 : fch 129 11 = some (.iload 2, 12, []) := by decide +kernel
theorem f129_12 : fch 129 12 = some (.invokestatic 141, 15, []) := by decide +kernel
theorem f129_15 : fch 129 15 = some (.ifCond .ne 20, 18, []) := by decide +kernel
theorem f129_18 : fch 129 18 = some (.iconst (-1), 19, [0, 1, 2, 3]) := by decide +kernel
theorem f129_19 : fch 129 19 = some (.ireturn, 20, []) := by decide +kernel
theorem f129_20 : fch 129 20 = some (.iload 3, 21, []) := by decide +kernel
theorem f129_21 : fch 129 21 = some (.ifCond .lt 29, 24, []) := by decide +kernel
theorem f129_24 : fch 129 24 = some (.iload 3, 25, []) := by decide +kernel
theorem f129_25 : fch 129 25 = some (.iconst 3, 26, []) := by decide +kernel
theorem f129_26 : fch 129 26 = some (.if_icmp .le 32, 29, []) := by decide +kernel
theorem f129_29 : fch 129 29 = some (.iconst (-2), 31, [0, 1, 2, 3]) := by decide +kernel
theorem f129_31 : fch 129 31 = some (.ireturn, 32, []) := by decide +kernel
theorem f129_32 : fch 129 32 = some (.aload 0, 33, []) := by decide +kernel
theorem f129_33 : fch 129 33 = some (.invokeinterface 8 6, 36, []) := by decide +kernel
theorem f129_36 : fch 129 36 = some (.aload 0, 37, []) := by decide +kernel
theorem f129_37 : fch 129 37 = some (.invokeinterface 8 9, 40, []) := by decide +kernel
theorem f129_40 : fch 129 40 = some (.aload 0, 41, []) := by decide +kernel
theorem f129_41 : fch 129 41 = some (.invokeinterface 8 5, 44, []) := by decide +kernel
theorem f129_44 : fch 129 44 = some (.invokevirtual 46, 47, []) := by decide +kernel
theorem f129_47 : fch 129 47 = some (.aload 0, 48, []) := by decide +kernel
theorem f129_48 : fch 129 48 = some (.invokeinterface 8 6, 51, []) := by decide +kernel
theorem f129_51 : fch 129 51 = some (.iload 1, 52, []) := by decide +kernel
theorem f129_52 : fch 129 52 = some (.iload 2, 53, []) := by decide +kernel
theorem f129_53 : fch 129 53 = some (.iload 3, 54, []) := by decide +kernel
theorem f129_54 : fch 129 54 = some (.invokevirtual 57, 57, []) := by decide +kernel
theorem f129_57 : fch 129 57 = some (.ireturn, 58, []) := by decide +kernel
set_option maxRecDepth 10000 in
theorem e129_0 (l0 l1 l2 l3 : Int) (s : SG) : sem 129 0 [aA l0, aI l1, aI l2, aI l3] [] s = grd (kd l0 = 8) (grd (0 ≤ s l0 9) (grd (kd (s l0 9) = 6) (bnI (sem 83 0 [aA (s l0 9), aI l1] [] s) fun a2 s1 => if a2 = 0 then some (aI ((-1)), s1) else bnI (sem 141 0 [aI l2] [] s1) fun a4 s3 => if a4 = 0 then some (aI ((-1)), s3) else if l3 < 0 then some (aI ((-2)), s3) else if (3 : Int) < l3 then some (aI ((-2)), s3) else grd (kd l0 = 8) (grd (0 ≤ s3 l0 6) (grd (kd l0 = 8) (grd (0 ≤ s3 l0 9) (grd (kd l0 = 8) (grd (0 ≤ s3 l0 5) (grd (kd (s3 l0 6) = 3) (bnV (sem 46 0 [aA (s3 l0 6), aA (s3 l0 9), aA (s3 l0 5)] [] s3) fun s5 => grd (kd l0 = 8) (grd (0 ≤ s5 l0 6) (grd (kd (s5 l0 6) = 3) (bnI (sem 57 0 [aA (s5 l0 6), aI l1, aI l2, aI l3, aU] [] s5) fun a7 s6 => some (aI a7, s6)))))))))))))) := by
  refine (x_aload f129_0 rfl rfl).trans ?_
  refine (x_get2 f129_1 rfl rfl).trans ?_
  refine g_c ?_
  refine g_c ?_
  refine (x_iload f129_4 rfl rfl).trans ?_
  refine (x_invokevirtual (G := grd (kd (s l0 9) = 6) (bnI (sem 83 0 [aA (s l0 9), aI l1] [] s) fun a2 s1 => sem 129 8 [aA l0, aI l1, aI l2, aI l3] [aI a2] s1)) f129_5 rfl rfl).trans ?_
  refine g_c ?_
  refine bI_c fun a2 s1 => ?_
  refine (x_if_eq (tg := 18) f129_8 rfl rfl).trans (i_c ?_ ?_)
  · refine (x_kil (l2 := [aU, aU, aU, aU]) f129_18 rfl).trans ?_
    refine (x_iconst f129_18 rfl).trans ?_
    exact x_ireturn f129_19 rfl
  · refine (x_iload f129_11 rfl rfl).trans ?_
    refine (x_invokestatic (G := bnI (sem 141 0 [aI l2] [] s1) fun a4 s3 => sem 129 15 [aA l0, aI l1, aI l2, aI l3] [aI a4] s3) f129_12 rfl rfl).trans ?_
    refine bI_c fun a4 s3 => ?_
    refine (x_if_ne (tg := 20) f129_15 rfl rfl).trans (i_c ?_ ?_)
    · refine (x_kil (l2 := [aU, aU, aU, aU]) f129_18 rfl).trans ?_
      refine (x_iconst f129_18 rfl).trans ?_
      exact x_ireturn f129_19 rfl
    · refine (x_iload f129_20 rfl rfl).trans ?_
      refine (x_if_lt (tg := 29) f129_21 rfl rfl).trans (i_c ?_ ?_)
      · refine (x_kil (l2 := [aU, aU, aU, aU]) f129_29 rfl).trans ?_
        refine (x_iconst f129_29 rfl).trans ?_
        exact x_ireturn f129_31 rfl
      · refine (x_iload f129_24 rfl rfl).trans ?_
        refine (x_iconst f129_25 rfl).trans ?_
        refine (x_icmp_le (tg := 32) f129_26 rfl rfl).trans (i_c ?_ ?_)
        · refine (x_kil (l2 := [aU, aU, aU, aU]) f129_29 rfl).trans ?_
          refine (x_iconst f129_29 rfl).trans ?_
          exact x_ireturn f129_31 rfl
        · refine (x_aload f129_32 rfl rfl).trans ?_
          refine (x_get2 f129_33 rfl rfl).trans ?_
          refine g_c ?_
          refine g_c ?_
          refine (x_aload f129_36 rfl rfl).trans ?_
          refine (x_get2 f129_37 rfl rfl).trans ?_
          refine g_c ?_
          refine g_c ?_
          refine (x_aload f129_40 rfl rfl).trans ?_
          refine (x_get2 f129_41 rfl rfl).trans ?_
          refine g_c ?_
          refine g_c ?_
          refine (x_invokevirtual (G := grd (kd (s3 l0 6) = 3) (bnV (sem 46 0 [aA (s3 l0 6), aA (s3 l0 9), aA (s3 l0 5)] [] s3) fun s5 => sem 129 47 [aA l0, aI l1, aI l2, aI l3] [] s5)) f129_44 rfl rfl).trans ?_
          refine g_c ?_
          refine bV_c fun s5 => ?_
          refine (x_aload f129_47 rfl rfl).trans ?_
          refine (x_get2 f129_48 rfl rfl).trans ?_
          refine g_c ?_
          refine g_c ?_
          refine (x_iload f129_51 rfl rfl).trans ?_
          refine (x_iload f129_52 rfl rfl).trans ?_
          refine (x_iload f129_53 rfl rfl).trans ?_
          refine (x_invokevirtual (G := grd (kd (s5 l0 6) = 3) (bnI (sem 57 0 [aA (s5 l0 6), aI l1, aI l2, aI l3, aU] [] s5) fun a7 s6 => sem 129 57 [aA l0, aI l1, aI l2, aI l3] [aI a7] s6)) f129_54 rfl rfl).trans ?_
          refine g_c ?_
          refine bI_c fun a7 s6 => ?_
          exact x_ireturn f129_57 rfl
theorem f130_0 : fch 130 0 = some (.iload 1, 1, []) := by decide +kernel
theorem f130_1 : fch 130 1 = some (.ifCond .lt 9, 4, []) := by decide +kernel
theorem f130_4 : fch 130 4 = some (.iload 1, 5, []) := by decide +kernel
theorem f130_5 : fch 130 5 = some (.iconst 4, 6, []) := by decide +kernel
theorem f130_6 : fch 130 6 = some (.if_icmp .le 12, 9, []) := by decide +kernel
theorem f130_9 : fch 130 9 = some (.iconst (-2), 11, [0, 1]) := by decide +kernel
theorem f130_11 : fch 130 11 = some (.ireturn, 12, []) := by decide +kernel
theorem f130_12 : fch 130 12 = some (.aload 0, 13, []) := by decide +kernel
theorem f130_13 : fch 130 13 = some (.invokeinterface 8 6, 16, []) := by decide +kernel
theorem f130_16 : fch 130 16 = some (.aload 0, 17, []) := by decide +kernel
theorem f130_17 : fch 130 17 = some (.invokeinterface 8 9, 20, []) := by decide +kernel
theorem f130_20 : fch 130 20 = some (.aload 0, 21, []) := by decide +kernel
theorem f130_21 : fch 130 21 = some (.invokeinterface 8 5, 24, []) := by decide +kernel
theorem f130_24 : fch 130 24 = some (.invokevirtual 46, 27, []) := by decide +kernel
theorem f130_27 : fch 130 27 = some (.iload 1, 28, []) := by decide +kernel
theorem f130_28 : fch 130 28 = some (.tableswitch 92 0 3 #[60, 68, 76, 84], 60, []) := by decide +kernel
theorem f130_60 : fch 130 60 = some (.aload 0, 61, []) := by decide +kernel
theorem f130_61 : fch 130 61 = some (.invokeinterface 8 6, 64, []) := by decide +kernel
theorem f130_64 : fch 130 64 = some (.invokevirtual 60, 67, []) := by decide +kernel
theorem f130_67 : fch 130 67 = some (.ireturn, 68, []) := by decide +kernel
theorem f130_68 : fch 130 68 = some (.aload 0, 69, []) := by decide +kernel
theorem f130_69 : fch 130 69 = some (.invokeinterface 8 6, 72, []) := by decide +kernel
theorem f130_72 : fch 130 72 = some (.invokevirtual 61, 75, []) := by decide +kernel
theorem f130_75 : fch 130 75 = some (.ireturn, 76, []) := by decide +kernel
theorem f130_76 : fch 130 76 = some (.aload 0, 77, []) := by decide +kernel
theorem f130_77 : fch 130 77 = some (.invokeinterface 8 6, 80, []) := by decide +kernel
theorem f130_80 : fch 130 80 = some (.invokevirtual 62, 83, []) := by decide +kernel
theorem f130_83 : fch 130 83 = some (.ireturn, 84, []) := by decide +kernel
theorem f130_84 : fch 130 84 = some (.aload 0, 85, []) := by decide +kernel
theorem f130_85 : fch 130 85 = some (.invokeinterface 8 6, 88, []) := by decide +kernel
theorem f130_88 : fch 130 88 = some (.invokevirtual 63, 91, []) := by decide +kernel
theorem f130_91 : fch 130 91 = some (.ireturn, 92, []) := by decide +kernel
theorem f130_92 : fch 130 92 = some (.aload 0, 93, []) := by decide +kernel
theorem f130_93 : fch 130 93 = some (.invokeinterface 8 6, 96, []) := by decide +kernel
theorem f130_96 : fch 130 96 = some (.aload 0, 97, []) := by decide +kernel
theorem f130_97 : fch 130 97 = some (.invokeinterface 8 9, 100, []) := by decide +kernel
theorem f130_100 : fch 130 100 = some (.aload 0, 101, []) := by decide +kernel
theorem f130_101 : fch 130 101 = some (.invokeinterface 8 5, 104, []) := by decide +kernel
theorem f130_104 : fch 130 104 = some (.invokevirtual 64, 107, []) := by decide +kernel
theorem f130_107 : fch 130 107 = some (.iconst 100000, 110, []) := by decide +kernel
theorem f130_110 : fch 130 110 = some (.iadd, 111, []) := by decide +kernel
theorem f130_111 : fch 130 111 = some (.ireturn, 112, []) := by decide +kernel
set_option maxRecDepth 10000 in
theorem e130_0 (l0 l1 : Int) (s : SG) : sem 130 0 [aA l0, aI l1] [] s = if l1 < 0 then some (aI ((-2)), s) else if (4 : Int) < l1 then some (aI ((-2)), s) else grd (kd l0 = 8) (grd (0 ≤ s l0 6) (grd (kd l0 = 8) (grd (0 ≤ s l0 9) (grd (kd l0 = 8) (grd (0 ≤ s l0 5) (grd (kd (s l0 6) = 3) (bnV (sem 46 0 [aA (s l0 6), aA (s l0 9), aA (s l0 5)] [] s) fun s1 => if l1 = 0 then grd (kd l0 = 8) (grd (0 ≤ s1 l0 6) (grd (kd (s1 l0 6) = 3) (bnI (sem 60 0 [aA (s1 l0 6), aU, aU] [] s1) fun a3 s2 => some (aI a3, s2)))) else if l1 = 1 then grd (kd l0 = 8) (grd (0 ≤ s1 l0 6) (grd (kd (s1 l0 6) = 3) (bnI (sem 61 0 [aA (s1 l0 6), aU, aU] [] s1) fun a5 s4 => some (aI a5, s4)))) else if l1 = 2 then grd (kd l0 = 8) (grd (0 ≤ s1 l0 6) (grd (kd (s1 l0 6) = 3) (bnI (sem 62 0 [aA (s1 l0 6)] [] s1) fun a7 s6 => some (aI a7, s6)))) else if l1 = 3 then grd (kd l0 = 8) (grd (0 ≤ s1 l0 6) (grd (kd (s1 l0 6) = 3) (bnI (sem 63 0 [aA (s1 l0 6)] [] s1) fun a9 s8 => some (aI a9, s8)))) else grd (kd l0 = 8) (grd (0 ≤ s1 l0 6) (grd (kd l0 = 8) (grd (0 ≤ s1 l0 9) (grd (kd l0 = 8) (grd (0 ≤ s1 l0 5) (grd (kd (s1 l0 6) = 3) (bnI (sem 64 0 [aA (s1 l0 6), aA (s1 l0 9), aA (s1 l0 5), aU, aU] [] s1) fun a11 s10 => some (aI (w32 (a11 + 100000)), s10))))))))))))))) := by
  refine (x_iload f130_0 rfl rfl).trans ?_
  refine (x_if_lt (tg := 9) f130_1 rfl rfl).trans (i_c ?_ ?_)
  · refine (x_kil (l2 := [aU, aU]) f130_9 rfl).trans ?_
    refine (x_iconst f130_9 rfl).trans ?_
    exact x_ireturn f130_11 rfl
  · refine (x_iload f130_4 rfl rfl).trans ?_
    refine (x_iconst f130_5 rfl).trans ?_
    refine (x_icmp_le (tg := 12) f130_6 rfl rfl).trans (i_c ?_ ?_)
    · refine (x_kil (l2 := [aU, aU]) f130_9 rfl).trans ?_
      refine (x_iconst f130_9 rfl).trans ?_
      exact x_ireturn f130_11 rfl
    · refine (x_aload f130_12 rfl rfl).trans ?_
      refine (x_get2 f130_13 rfl rfl).trans ?_
      refine g_c ?_
      refine g_c ?_
      refine (x_aload f130_16 rfl rfl).trans ?_
      refine (x_get2 f130_17 rfl rfl).trans ?_
      refine g_c ?_
      refine g_c ?_
      refine (x_aload f130_20 rfl rfl).trans ?_
      refine (x_get2 f130_21 rfl rfl).trans ?_
      refine g_c ?_
      refine g_c ?_
      refine (x_invokevirtual (G := grd (kd (s l0 6) = 3) (bnV (sem 46 0 [aA (s l0 6), aA (s l0 9), aA (s l0 5)] [] s) fun s1 => sem 130 27 [aA l0, aI l1] [] s1)) f130_24 rfl rfl).trans ?_
      refine g_c ?_
      refine bV_c fun s1 => ?_
      refine (x_iload f130_27 rfl rfl).trans ?_
      refine (x_tsw f130_28 rfl).trans ?_
      refine Eq.trans (b := sem 130 (if l1 = 0 then 60 else if l1 = 1 then 68 else if l1 = 2 then 76 else if l1 = 3 then 84 else 92) [aA l0, aI l1] [] s1) rfl ?_
      refine x_ite.trans (i_c ?_ ?_)
      · refine (x_aload f130_60 rfl rfl).trans ?_
        refine (x_get2 f130_61 rfl rfl).trans ?_
        refine g_c ?_
        refine g_c ?_
        refine (x_invokevirtual (G := grd (kd (s1 l0 6) = 3) (bnI (sem 60 0 [aA (s1 l0 6), aU, aU] [] s1) fun a3 s2 => sem 130 67 [aA l0, aI l1] [aI a3] s2)) f130_64 rfl rfl).trans ?_
        refine g_c ?_
        refine bI_c fun a3 s2 => ?_
        exact x_ireturn f130_67 rfl
      refine x_ite.trans (i_c ?_ ?_)
      · refine (x_aload f130_68 rfl rfl).trans ?_
        refine (x_get2 f130_69 rfl rfl).trans ?_
        refine g_c ?_
        refine g_c ?_
        refine (x_invokevirtual (G := grd (kd (s1 l0 6) = 3) (bnI (sem 61 0 [aA (s1 l0 6), aU, aU] [] s1) fun a5 s4 => sem 130 75 [aA l0, aI l1] [aI a5] s4)) f130_72 rfl rfl).trans ?_
        refine g_c ?_
        refine bI_c fun a5 s4 => ?_
        exact x_ireturn f130_75 rfl
      refine x_ite.trans (i_c ?_ ?_)
      · refine (x_aload f130_76 rfl rfl).trans ?_
        refine (x_get2 f130_77 rfl rfl).trans ?_
        refine g_c ?_
        refine g_c ?_
        refine (x_invokevirtual (G := grd (kd (s1 l0 6) = 3) (bnI (sem 62 0 [aA (s1 l0 6)] [] s1) fun a7 s6 => sem 130 83 [aA l0, aI l1] [aI a7] s6)) f130_80 rfl rfl).trans ?_
        refine g_c ?_
        refine bI_c fun a7 s6 => ?_
        exact x_ireturn f130_83 rfl
      refine x_ite.trans (i_c ?_ ?_)
      · refine (x_aload f130_84 rfl rfl).trans ?_
        refine (x_get2 f130_85 rfl rfl).trans ?_
        refine g_c ?_
        refine g_c ?_
        refine (x_invokevirtual (G := grd (kd (s1 l0 6) = 3) (bnI (sem 63 0 [aA (s1 l0 6)] [] s1) fun a9 s8 => sem 130 91 [aA l0, aI l1] [aI a9] s8)) f130_88 rfl rfl).trans ?_
        refine g_c ?_
        refine bI_c fun a9 s8 => ?_
        exact x_ireturn f130_91 rfl
      refine (x_aload f130_92 rfl rfl).trans ?_
      refine (x_get2 f130_93 rfl rfl).trans ?_
      refine g_c ?_
      refine g_c ?_
      refine (x_aload f130_96 rfl rfl).trans ?_
      refine (x_get2 f130_97 rfl rfl).trans ?_
      refine g_c ?_
      refine g_c ?_
      refine (x_aload f130_100 rfl rfl).trans ?_
      refine (x_get2 f130_101 rfl rfl).trans ?_
      refine g_c ?_
      refine g_c ?_
      refine (x_invokevirtual (G := grd (kd (s1 l0 6) = 3) (bnI (sem 64 0 [aA (s1 l0 6), aA (s1 l0 9), aA (s1 l0 5), aU, aU] [] s1) fun a11 s10 => sem 130 107 [aA l0, aI l1] [aI a11] s10)) f130_104 rfl rfl).trans ?_
      refine g_c ?_
      refine bI_c fun a11 s10 => ?_
      refine (x_iconst f130_107 rfl).trans ?_
      refine (x_iadd f130_110 rfl).trans ?_
      exact x_ireturn f130_111 rfl
