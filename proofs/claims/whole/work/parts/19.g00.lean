set_option maxRecDepth 10000 in
theorem g1_0 {t : Int} (ht : t = 32 ∨ t = 37) {s : SG} (hR : RefC s) : sem 1 0 [aA 5, aA t, aU, aU] [] s = bnV (sem 223 0 [aA 7, aL 0, aU, aU, aU] [] s) fun s1 => sem 1 15 [aA 5, aA t, aI 0, aU] [] (up s1 5 4 0) := by
  refine (x_aload f1_0 rfl rfl).trans ?_
  refine (y_get2 (ji := 1) rfl f1_1 rfl rfl).trans ?_
  refine (g_t rfl).trans ?_
  refine (g_t (by rw [show s 5 1 = 7 from hR.2.2.2.2.2.2.2.2.2.2.2.2.1]; decide)).trans ?_
  rw [show s 5 1 = 7 from hR.2.2.2.2.2.2.2.2.2.2.2.2.1]
  refine (x_lconst f1_4 rfl).trans ?_
  refine (x_invokestatic (G := bnV (sem 223 0 [aA 7, aL 0, aU, aU, aU] [] s) fun s1 => sem 1 8 [aA 5, aA t, aU, aU] [] s1) f1_5 rfl rfl).trans ?_
  refine bV_h fun s1 qs1 => ?_
  have rs1 := RefC.sem qs1 rfl hR
  refine (x_aload f1_8 rfl rfl).trans ?_
  refine (x_lconst f1_9 rfl).trans ?_
  refine (y_put1 (ji := 4) rfl f1_10 rfl rfl).trans ?_
  refine (g_t rfl).trans ?_
  refine (x_iconst f1_13 rfl).trans ?_
  refine (x_istore (l2 := [aA 5, aA t, aI 0, aU]) f1_14 rfl rfl).trans ?_
  rfl
set_option maxRecDepth 10000 in
theorem g1_15 {t : Int} (ht : t = 32 ∨ t = 37) {s : SG} (hR : RefC s) (l2 : Int) : sem 1 15 [aA 5, aA t, aI l2, aU] [] s = if l2 < 3 then bnI (sem 83 0 [aA t, aI l2] [] s) fun a2 s1 => sem 1 15 [aA 5, aA t, aI (w32 (l2 + 1)), aU] [] (up s1 5 4 (w64 ((s 5 4) + (w64 (1000000 * a2))))) else sem 1 47 [aA 5, aA t, aI 0, aU] [] s := by
  refine (x_iload f1_15 rfl rfl).trans ?_
  refine (x_iconst f1_16 rfl).trans ?_
  refine (x_icmp_ge (tg := 45) f1_17 rfl rfl).trans (i_c ?_ ?_)
  · refine (x_aload f1_20 rfl rfl).trans ?_
    refine (x_dup f1_21 rfl rfl).trans ?_
    refine (y_get1 (ji := 4) rfl f1_22 rfl rfl).trans ?_
    refine (g_t rfl).trans ?_
    refine (x_lconst f1_25 rfl).trans ?_
    refine (x_aload f1_28 rfl rfl).trans ?_
    refine (x_iload f1_29 rfl rfl).trans ?_
    refine (x_invokevirtual (G := grd (kd t = 6) (bnI (sem 83 0 [aA t, aI l2] [] s) fun a2 s1 => sem 1 33 [aA 5, aA t, aI l2, aU] [aI a2, aL 1000000, aL (s 5 4), aA 5] s1)) f1_30 rfl rfl).trans ?_
    refine (g_t ((kd_t ht).1)).trans ?_
    refine bI_h fun a2 s1 qs1 => ?_
    have rs1 := RefC.sem qs1 rfl hR
    refine (x_i2l f1_33 rfl).trans ?_
    refine (x_lmul f1_34 rfl).trans ?_
    refine (x_ladd f1_35 rfl).trans ?_
    refine (y_put1 (ji := 4) rfl f1_36 rfl rfl).trans ?_
    refine (g_t rfl).trans ?_
    refine (x_iinc (l2 := [aA 5, aA t, aI (w32 (l2 + 1)), aU]) f1_39 rfl rfl rfl).trans ?_
    refine (x_goto (tg := 15) f1_42 rfl rfl).trans ?_
    rfl
  · refine (x_iconst f1_45 rfl).trans ?_
    refine (x_istore (l2 := [aA 5, aA t, aI 0, aU]) f1_46 rfl rfl).trans ?_
    rfl
set_option maxRecDepth 10000 in
theorem g1_47 {t : Int} (ht : t = 32 ∨ t = 37) {s : SG} (hR : RefC s) (l2 : Int) : sem 1 47 [aA 5, aA t, aI l2, aU] [] s = if l2 < (s t 4) then if l2 < 3 then sem 1 62 [aA 5, aA t, aI l2, aI 0] [] s else some (aU, s) else some (aU, s) := by
  refine (x_iload f1_47 rfl rfl).trans ?_
  refine (x_aload f1_48 rfl rfl).trans ?_
  refine (y_get0 (ji := 4) rfl f1_49 rfl rfl).trans ?_
  refine (g_t ((kd_t ht).1)).trans ?_
  refine (x_icmp_ge (tg := 106) f1_52 rfl rfl).trans (i_c ?_ ?_)
  · refine (x_iload f1_55 rfl rfl).trans ?_
    refine (x_iconst f1_56 rfl).trans ?_
    refine (x_icmp_ge (tg := 106) f1_57 rfl rfl).trans (i_c ?_ ?_)
    · refine (x_iconst f1_60 rfl).trans ?_
      refine (x_istore (l2 := [aA 5, aA t, aI l2, aI 0]) f1_61 rfl rfl).trans ?_
      rfl
    · refine (x_kil (l2 := [aU, aU, aU, aU]) f1_106 rfl).trans ?_
      exact x_return f1_106 rfl
  · refine (x_kil (l2 := [aU, aU, aU, aU]) f1_106 rfl).trans ?_
    exact x_return f1_106 rfl
set_option maxRecDepth 10000 in
theorem g1_62 {t : Int} (ht : t = 32 ∨ t = 37) {s : SG} (hR : RefC s) (l2 l3 : Int) : sem 1 62 [aA 5, aA t, aI l2, aI l3] [] s = if l3 < 3 then bnI (sem 84 0 [aA t, aI l2, aI l3, aU] [] s) fun a2 s1 => bnI (sem 85 0 [aA t, aI l2, aI l3, aU] [] s1) fun a4 s3 => bnI (sem 83 0 [aA t, aI l3] [] s3) fun a6 s5 => bnV (sem 2 0 [aA 5, aI l2, aI a2, aI a4, aI a6, aU, aU] [] s5) fun s7 => sem 1 62 [aA 5, aA t, aI l2, aI (w32 (l3 + 1))] [] s7 else bnV (sem 4 0 [aA 5, aI l2, aU, aU] [] s) fun s8 => sem 1 47 [aA 5, aA t, aI (w32 (l2 + 1)), aU] [] s8 := by
  refine (x_iload f1_62 rfl rfl).trans ?_
  refine (x_iconst f1_63 rfl).trans ?_
  refine (x_icmp_ge (tg := 95) f1_64 rfl rfl).trans (i_c ?_ ?_)
  · refine (x_aload f1_67 rfl rfl).trans ?_
    refine (x_iload f1_68 rfl rfl).trans ?_
    refine (x_aload f1_69 rfl rfl).trans ?_
    refine (x_iload f1_70 rfl rfl).trans ?_
    refine (x_iload f1_71 rfl rfl).trans ?_
    refine (x_invokevirtual (G := grd (kd t = 6) (bnI (sem 84 0 [aA t, aI l2, aI l3, aU] [] s) fun a2 s1 => sem 1 75 [aA 5, aA t, aI l2, aI l3] [aI a2, aI l2, aA 5] s1)) f1_72 rfl rfl).trans ?_
    refine (g_t ((kd_t ht).1)).trans ?_
    refine bI_h fun a2 s1 qs1 => ?_
    have rs1 := RefC.sem qs1 rfl hR
    refine (x_aload f1_75 rfl rfl).trans ?_
    refine (x_iload f1_76 rfl rfl).trans ?_
    refine (x_iload f1_77 rfl rfl).trans ?_
    refine (x_invokevirtual (G := grd (kd t = 6) (bnI (sem 85 0 [aA t, aI l2, aI l3, aU] [] s1) fun a4 s3 => sem 1 81 [aA 5, aA t, aI l2, aI l3] [aI a4, aI a2, aI l2, aA 5] s3)) f1_78 rfl rfl).trans ?_
    refine (g_t ((kd_t ht).1)).trans ?_
    refine bI_h fun a4 s3 qs3 => ?_
    have rs3 := RefC.sem qs3 rfl rs1
    refine (x_aload f1_81 rfl rfl).trans ?_
    refine (x_iload f1_82 rfl rfl).trans ?_
    refine (x_invokevirtual (G := grd (kd t = 6) (bnI (sem 83 0 [aA t, aI l3] [] s3) fun a6 s5 => sem 1 86 [aA 5, aA t, aI l2, aI l3] [aI a6, aI a4, aI a2, aI l2, aA 5] s5)) f1_83 rfl rfl).trans ?_
    refine (g_t ((kd_t ht).1)).trans ?_
    refine bI_h fun a6 s5 qs5 => ?_
    have rs5 := RefC.sem qs5 rfl rs3
    refine (x_invokevirtual (G := grd (kd 5 = 0) (bnV (sem 2 0 [aA 5, aI l2, aI a2, aI a4, aI a6, aU, aU] [] s5) fun s7 => sem 1 89 [aA 5, aA t, aI l2, aI l3] [] s7)) f1_86 rfl rfl).trans ?_
    refine (g_t rfl).trans ?_
    refine bV_h fun s7 qs7 => ?_
    have rs7 := RefC.sem qs7 rfl rs5
    refine (x_iinc (l2 := [aA 5, aA t, aI l2, aI (w32 (l3 + 1))]) f1_89 rfl rfl rfl).trans ?_
    refine (x_goto (tg := 62) f1_92 rfl rfl).trans ?_
    rfl
  · refine (x_aload f1_95 rfl rfl).trans ?_
    refine (x_iload f1_96 rfl rfl).trans ?_
    refine (x_invokevirtual (G := grd (kd 5 = 0) (bnV (sem 4 0 [aA 5, aI l2, aU, aU] [] s) fun s8 => sem 1 100 [aA 5, aA t, aI l2, aI l3] [] s8)) f1_97 rfl rfl).trans ?_
    refine (g_t rfl).trans ?_
    refine bV_h fun s8 qs8 => ?_
    have rs8 := RefC.sem qs8 rfl hR
    refine (x_iinc (l2 := [aA 5, aA t, aI (w32 (l2 + 1)), aI l3]) f1_100 rfl rfl rfl).trans ?_
    refine (x_goto (tg := 47) f1_103 rfl rfl).trans ?_
    exact x_kil f1_47 rfl
set_option maxRecDepth 10000 in
theorem g2_0 {s : SG} (hR : RefC s) (l1 l2 l3 l4 : Int) : sem 2 0 [aA 5, aI l1, aI l2, aI l3, aI l4, aU, aU] [] s = bnV (sem 3 0 [aA 5, aI l3, aU, aU] [] s) fun s1 => sem 2 8 [aA 5, aI l1, aI l2, aU, aI l4, aI 0, aU] [] s1 := by
  refine (x_aload f2_0 rfl rfl).trans ?_
  refine (x_iload f2_1 rfl rfl).trans ?_
  refine (x_invokevirtual (G := grd (kd 5 = 0) (bnV (sem 3 0 [aA 5, aI l3, aU, aU] [] s) fun s1 => sem 2 5 [aA 5, aI l1, aI l2, aI l3, aI l4, aU, aU] [] s1)) f2_2 rfl rfl).trans ?_
  refine (g_t rfl).trans ?_
  refine bV_h fun s1 qs1 => ?_
  have rs1 := RefC.sem qs1 rfl hR
  refine (x_iconst f2_5 rfl).trans ?_
  refine (x_istore (l2 := [aA 5, aI l1, aI l2, aI l3, aI l4, aI 0, aU]) f2_6 rfl rfl).trans ?_
  exact x_kil f2_8 rfl
set_option maxRecDepth 10000 in
theorem g2_8 {s : SG} (hR : RefC s) (l1 l2 l4 l5 : Int) : sem 2 8 [aA 5, aI l1, aI l2, aU, aI l4, aI l5, aU] [] s = if (6 : Int) < l5 then some (aU, s) else bnI (sem 6 0 [aA 5, aI l1, aI (w32 ((w32 ((w32 (6 * l2)) + l5)) - 1))] [] s) fun a2 s1 => if a2 = 0 then sem 2 8 [aA 5, aI l1, aI l2, aU, aI l4, aI (w32 (l5 + 1)), aU] [] s1 else grd ((0 : Int) ≤ (w32 ((w32 (l1 * 61)) + (w32 ((w32 ((w32 (6 * l2)) + l5)) - 1)))) ∧ (w32 ((w32 (l1 * 61)) + (w32 ((w32 ((w32 (6 * l2)) + l5)) - 1)))) < 183) (grd ((0 : Int) ≤ l5 ∧ l5 < 7) (sem 2 8 [aA 5, aI l1, aI l2, aU, aI l4, aI (w32 (l5 + 1)), aU] [] (up s1 7 (w32 ((w32 (l1 * 61)) + (w32 ((w32 ((w32 (6 * l2)) + l5)) - 1)))) (w64 ((s1 7 (w32 ((w32 (l1 * 61)) + (w32 ((w32 ((w32 (6 * l2)) + l5)) - 1))))) + (w64 ((s1 8 l5) * l4))))))) := by
  refine (x_iload f2_8 rfl rfl).trans ?_
  refine (x_iconst f2_10 rfl).trans ?_
  refine (x_icmp_gt (tg := 68) f2_12 rfl rfl).trans (i_c ?_ ?_)
  · exact x_return f2_68 rfl
  · refine (x_iconst f2_15 rfl).trans ?_
    refine (x_iload f2_17 rfl rfl).trans ?_
    refine (x_imul f2_18 rfl).trans ?_
    refine (x_iload f2_19 rfl rfl).trans ?_
    refine (x_iadd f2_21 rfl).trans ?_
    refine (x_iconst f2_22 rfl).trans ?_
    refine (x_isub f2_23 rfl).trans ?_
    refine (x_istore (l2 := [aA 5, aI l1, aI l2, aU, aI l4, aI l5, aI (w32 ((w32 ((w32 (6 * l2)) + l5)) - 1))]) f2_24 rfl rfl).trans ?_
    refine (x_aload f2_26 rfl rfl).trans ?_
    refine (x_iload f2_27 rfl rfl).trans ?_
    refine (x_iload f2_28 rfl rfl).trans ?_
    refine (x_invokevirtual (G := grd (kd 5 = 0) (bnI (sem 6 0 [aA 5, aI l1, aI (w32 ((w32 ((w32 (6 * l2)) + l5)) - 1))] [] s) fun a2 s1 => sem 2 33 [aA 5, aI l1, aI l2, aU, aI l4, aI l5, aI (w32 ((w32 ((w32 (6 * l2)) + l5)) - 1))] [aI a2] s1)) f2_30 rfl rfl).trans ?_
    refine (g_t rfl).trans ?_
    refine bI_h fun a2 s1 qs1 => ?_
    have rs1 := RefC.sem qs1 rfl hR
    refine (x_if_eq (tg := 62) f2_33 rfl rfl).trans (i_c ?_ ?_)
    · refine (x_kil (l2 := [aA 5, aI l1, aI l2, aU, aI l4, aI l5, aU]) f2_62 rfl).trans ?_
      refine (x_iinc (l2 := [aA 5, aI l1, aI l2, aU, aI l4, aI (w32 (l5 + 1)), aU]) f2_62 rfl rfl rfl).trans ?_
      refine (x_goto (tg := 8) f2_65 rfl rfl).trans ?_
      rfl
    · refine (x_aload f2_36 rfl rfl).trans ?_
      refine (y_get2 (ji := 1) rfl f2_37 rfl rfl).trans ?_
      refine (g_t rfl).trans ?_
      refine (g_t (by rw [show s1 5 1 = 7 from rs1.2.2.2.2.2.2.2.2.2.2.2.2.1]; decide)).trans ?_
      rw [show s1 5 1 = 7 from rs1.2.2.2.2.2.2.2.2.2.2.2.2.1]
      refine (x_iload f2_40 rfl rfl).trans ?_
      refine (x_iconst f2_41 rfl).trans ?_
      refine (x_imul f2_43 rfl).trans ?_
      refine (x_iload f2_44 rfl rfl).trans ?_
      refine (x_iadd f2_46 rfl).trans ?_
      refine (x_dup2 f2_47 rfl rfl).trans ?_
      refine (x_laload f2_48 rfl).trans ?_
      refine (g_t rfl).trans ?_
      refine g_kl (n := 183) rfl fun hg3 => ?_
      refine (x_aload f2_49 rfl rfl).trans ?_
      refine (y_get2 (ji := 2) rfl f2_50 rfl rfl).trans ?_
      refine (g_t rfl).trans ?_
      refine (g_t (by rw [show s1 5 2 = 8 from rs1.2.2.2.2.2.2.2.2.2.2.2.2.2.1]; decide)).trans ?_
      rw [show s1 5 2 = 8 from rs1.2.2.2.2.2.2.2.2.2.2.2.2.2.1]
      refine (x_iload f2_53 rfl rfl).trans ?_
      refine (x_laload f2_55 rfl).trans ?_
      refine (g_t rfl).trans ?_
      refine g_kl (n := 7) rfl fun hg4 => ?_
      refine (x_iload f2_56 rfl rfl).trans ?_
      refine (x_i2l f2_58 rfl).trans ?_
      refine (x_lmul f2_59 rfl).trans ?_
      refine (x_ladd f2_60 rfl).trans ?_
      refine (x_lastore f2_61 rfl).trans ?_
      refine (g_t rfl).trans ?_
      refine (g_kt (n := 183) rfl hg3).trans ?_
      refine (x_kil (l2 := [aA 5, aI l1, aI l2, aU, aI l4, aI l5, aU]) f2_62 rfl).trans ?_
      refine (x_iinc (l2 := [aA 5, aI l1, aI l2, aU, aI l4, aI (w32 (l5 + 1)), aU]) f2_62 rfl rfl rfl).trans ?_
      refine (x_goto (tg := 8) f2_65 rfl rfl).trans ?_
      rfl
set_option maxRecDepth 10000 in
theorem g3_0 {s : SG} (hR : RefC s) (l1 : Int) : sem 3 0 [aA 5, aI l1, aU, aU] [] s = bnV (sem 223 0 [aA 8, aL 0, aU, aU, aU] [] s) fun s1 => sem 3 17 [aA 5, aI l1, aI 1, aU] [] (up s1 8 0 1) := by
  refine (x_aload f3_0 rfl rfl).trans ?_
  refine (y_get2 (ji := 2) rfl f3_1 rfl rfl).trans ?_
  refine (g_t rfl).trans ?_
  refine (g_t (by rw [show s 5 2 = 8 from hR.2.2.2.2.2.2.2.2.2.2.2.2.2.1]; decide)).trans ?_
  rw [show s 5 2 = 8 from hR.2.2.2.2.2.2.2.2.2.2.2.2.2.1]
  refine (x_lconst f3_4 rfl).trans ?_
  refine (x_invokestatic (G := bnV (sem 223 0 [aA 8, aL 0, aU, aU, aU] [] s) fun s1 => sem 3 8 [aA 5, aI l1, aU, aU] [] s1) f3_5 rfl rfl).trans ?_
  refine bV_h fun s1 qs1 => ?_
  have rs1 := RefC.sem qs1 rfl hR
  refine (x_aload f3_8 rfl rfl).trans ?_
  refine (y_get2 (ji := 2) rfl f3_9 rfl rfl).trans ?_
  refine (g_t rfl).trans ?_
  refine (g_t (by rw [show s1 5 2 = 8 from rs1.2.2.2.2.2.2.2.2.2.2.2.2.2.1]; decide)).trans ?_
  rw [show s1 5 2 = 8 from rs1.2.2.2.2.2.2.2.2.2.2.2.2.2.1]
  refine (x_iconst f3_12 rfl).trans ?_
  refine (x_lconst f3_13 rfl).trans ?_
  refine (x_lastore f3_14 rfl).trans ?_
  refine (g_t rfl).trans ?_
  refine (g_kt (n := 7) rfl (by decide)).trans ?_
  refine (x_iconst f3_15 rfl).trans ?_
  refine (x_istore (l2 := [aA 5, aI l1, aI 1, aU]) f3_16 rfl rfl).trans ?_
  rfl
set_option maxRecDepth 10000 in
theorem g3_17 {s : SG} (hR : RefC s) (l1 l2 : Int) : sem 3 17 [aA 5, aI l1, aI l2, aU] [] s = if (6 : Int) < l2 then some (aU, s) else sem 3 25 [aA 5, aI l1, aI l2, aI l2] [] s := by
  refine (x_iload f3_17 rfl rfl).trans ?_
  refine (x_iconst f3_18 rfl).trans ?_
  refine (x_icmp_gt (tg := 86) f3_20 rfl rfl).trans (i_c ?_ ?_)
  · exact x_return f3_86 rfl
  · refine (x_iload f3_23 rfl rfl).trans ?_
    refine (x_istore (l2 := [aA 5, aI l1, aI l2, aI l2]) f3_24 rfl rfl).trans ?_
    rfl
set_option maxRecDepth 10000 in
theorem g3_25 {s : SG} (hR : RefC s) (l1 l2 l3 : Int) : sem 3 25 [aA 5, aI l1, aI l2, aI l3] [] s = if l3 < 1 then sem 3 17 [aA 5, aI l1, aI (w32 (l2 + 1)), aU] [] (up s 8 0 (w64 ((s 8 0) * (w32 (10 - l1))))) else grd ((0 : Int) ≤ l3 ∧ l3 < 7) (grd ((0 : Int) ≤ (w32 (l3 - 1)) ∧ (w32 (l3 - 1)) < 7) (sem 3 25 [aA 5, aI l1, aI l2, aI (w32 (l3 + (-1)))] [] (up s 8 l3 (w64 ((w64 ((s 8 l3) * (w32 (10 - l1)))) + (w64 ((s 8 (w32 (l3 - 1))) * l1))))))) := by
  refine (x_iload f3_25 rfl rfl).trans ?_
  refine (x_iconst f3_26 rfl).trans ?_
  refine (x_icmp_lt (tg := 66) f3_27 rfl rfl).trans (i_c ?_ ?_)
  · refine (x_aload f3_66 rfl rfl).trans ?_
    refine (y_get2 (ji := 2) rfl f3_67 rfl rfl).trans ?_
    refine (g_t rfl).trans ?_
    refine (g_t (by rw [show s 5 2 = 8 from hR.2.2.2.2.2.2.2.2.2.2.2.2.2.1]; decide)).trans ?_
    rw [show s 5 2 = 8 from hR.2.2.2.2.2.2.2.2.2.2.2.2.2.1]
    refine (x_iconst f3_70 rfl).trans ?_
    refine (x_dup2 f3_71 rfl rfl).trans ?_
    refine (x_laload f3_72 rfl).trans ?_
    refine (g_t rfl).trans ?_
    refine (g_kt (n := 7) rfl (by decide)).trans ?_
    refine (x_iconst f3_73 rfl).trans ?_
    refine (x_iload f3_75 rfl rfl).trans ?_
    refine (x_isub f3_76 rfl).trans ?_
    refine (x_i2l f3_77 rfl).trans ?_
    refine (x_lmul f3_78 rfl).trans ?_
    refine (x_lastore f3_79 rfl).trans ?_
    refine (g_t rfl).trans ?_
    refine (g_kt (n := 7) rfl (by decide)).trans ?_
    refine (x_iinc (l2 := [aA 5, aI l1, aI (w32 (l2 + 1)), aI l3]) f3_80 rfl rfl rfl).trans ?_
    refine (x_goto (tg := 17) f3_83 rfl rfl).trans ?_
    exact x_kil f3_17 rfl
  · refine (x_aload f3_30 rfl rfl).trans ?_
    refine (y_get2 (ji := 2) rfl f3_31 rfl rfl).trans ?_
    refine (g_t rfl).trans ?_
    refine (g_t (by rw [show s 5 2 = 8 from hR.2.2.2.2.2.2.2.2.2.2.2.2.2.1]; decide)).trans ?_
    rw [show s 5 2 = 8 from hR.2.2.2.2.2.2.2.2.2.2.2.2.2.1]
    refine (x_iload f3_34 rfl rfl).trans ?_
    refine (x_aload f3_35 rfl rfl).trans ?_
    refine (y_get2 (ji := 2) rfl f3_36 rfl rfl).trans ?_
    refine (g_t rfl).trans ?_
    refine (g_t (by rw [show s 5 2 = 8 from hR.2.2.2.2.2.2.2.2.2.2.2.2.2.1]; decide)).trans ?_
    rw [show s 5 2 = 8 from hR.2.2.2.2.2.2.2.2.2.2.2.2.2.1]
    refine (x_iload f3_39 rfl rfl).trans ?_
    refine (x_laload f3_40 rfl).trans ?_
    refine (g_t rfl).trans ?_
    refine g_kl (n := 7) rfl fun hg1 => ?_
    refine (x_iconst f3_41 rfl).trans ?_
    refine (x_iload f3_43 rfl rfl).trans ?_
    refine (x_isub f3_44 rfl).trans ?_
    refine (x_i2l f3_45 rfl).trans ?_
    refine (x_lmul f3_46 rfl).trans ?_
    refine (x_aload f3_47 rfl rfl).trans ?_
    refine (y_get2 (ji := 2) rfl f3_48 rfl rfl).trans ?_
    refine (g_t rfl).trans ?_
    refine (g_t (by rw [show s 5 2 = 8 from hR.2.2.2.2.2.2.2.2.2.2.2.2.2.1]; decide)).trans ?_
    rw [show s 5 2 = 8 from hR.2.2.2.2.2.2.2.2.2.2.2.2.2.1]
    refine (x_iload f3_51 rfl rfl).trans ?_
    refine (x_iconst f3_52 rfl).trans ?_
    refine (x_isub f3_53 rfl).trans ?_
    refine (x_laload f3_54 rfl).trans ?_
    refine (g_t rfl).trans ?_
    refine g_kl (n := 7) rfl fun hg2 => ?_
    refine (x_iload f3_55 rfl rfl).trans ?_
    refine (x_i2l f3_56 rfl).trans ?_
    refine (x_lmul f3_57 rfl).trans ?_
    refine (x_ladd f3_58 rfl).trans ?_
    refine (x_lastore f3_59 rfl).trans ?_
    refine (g_t rfl).trans ?_
    refine (g_kt (n := 7) rfl hg1).trans ?_
    refine (x_iinc (l2 := [aA 5, aI l1, aI l2, aI (w32 (l3 + (-1)))]) f3_60 rfl rfl rfl).trans ?_
    refine (x_goto (tg := 25) f3_63 rfl rfl).trans ?_
    rfl
set_option maxRecDepth 10000 in
theorem g4_0 {s : SG} (hR : RefC s) (l1 : Int) : sem 4 0 [aA 5, aI l1, aU, aU] [] s = bnI (sem 139 0 [aI l1] [] s) fun a2 s1 => if a2 = 0 then some (aU, s1) else sem 4 16 [aA 5, aU, aI (w32 (l1 * 61)), aI 59] [] s1 := by
  refine (x_iload f4_0 rfl rfl).trans ?_
  refine (x_invokestatic (G := bnI (sem 139 0 [aI l1] [] s) fun a2 s1 => sem 4 4 [aA 5, aI l1, aU, aU] [aI a2] s1) f4_1 rfl rfl).trans ?_
  refine bI_h fun a2 s1 qs1 => ?_
  have rs1 := RefC.sem qs1 rfl hR
  refine (x_if_ne (tg := 8) f4_4 rfl rfl).trans (i_c ?_ ?_)
  · exact x_return f4_7 rfl
  · refine (x_iload f4_8 rfl rfl).trans ?_
    refine (x_iconst f4_9 rfl).trans ?_
    refine (x_imul f4_11 rfl).trans ?_
    refine (x_istore (l2 := [aA 5, aI l1, aI (w32 (l1 * 61)), aU]) f4_12 rfl rfl).trans ?_
    refine (x_iconst f4_13 rfl).trans ?_
    refine (x_istore (l2 := [aA 5, aI l1, aI (w32 (l1 * 61)), aI 59]) f4_15 rfl rfl).trans ?_
    exact x_kil f4_16 rfl
set_option maxRecDepth 10000 in
theorem g4_16 {s : SG} (hR : RefC s) (l2 l3 : Int) : sem 4 16 [aA 5, aU, aI l2, aI l3] [] s = if l3 < 0 then grd ((0 : Int) ≤ l2 ∧ l2 < 183) (sem 4 56 [aA 5, aU, aI l2, aI 1] [] (up s 6 l2 0)) else grd ((0 : Int) ≤ (w32 (l2 + l3)) ∧ (w32 (l2 + l3)) < 183) (grd ((0 : Int) ≤ (w32 ((w32 (l2 + l3)) + 1)) ∧ (w32 ((w32 (l2 + l3)) + 1)) < 183) (sem 4 16 [aA 5, aU, aI l2, aI (w32 (l3 + (-1)))] [] (up s 7 (w32 (l2 + l3)) (w64 ((s 7 (w32 (l2 + l3))) + (s 7 (w32 ((w32 (l2 + l3)) + 1)))))))) := by
  refine (x_iload f4_16 rfl rfl).trans ?_
  refine (x_if_lt (tg := 47) f4_17 rfl rfl).trans (i_c ?_ ?_)
  · refine (x_aload f4_47 rfl rfl).trans ?_
    refine (y_get2 (ji := 0) rfl f4_48 rfl rfl).trans ?_
    refine (g_t rfl).trans ?_
    refine (g_t (by rw [show s 5 0 = 6 from hR.2.2.2.2.2.2.2.2.2.2.2.1]; decide)).trans ?_
    rw [show s 5 0 = 6 from hR.2.2.2.2.2.2.2.2.2.2.2.1]
    refine (x_iload f4_51 rfl rfl).trans ?_
    refine (x_lconst f4_52 rfl).trans ?_
    refine (x_lastore f4_53 rfl).trans ?_
    refine (g_t rfl).trans ?_
    refine g_kl (n := 183) rfl fun hg1 => ?_
    refine (x_iconst f4_54 rfl).trans ?_
    refine (x_istore (l2 := [aA 5, aU, aI l2, aI 1]) f4_55 rfl rfl).trans ?_
    rfl
  · refine (x_aload f4_20 rfl rfl).trans ?_
    refine (y_get2 (ji := 1) rfl f4_21 rfl rfl).trans ?_
    refine (g_t rfl).trans ?_
    refine (g_t (by rw [show s 5 1 = 7 from hR.2.2.2.2.2.2.2.2.2.2.2.2.1]; decide)).trans ?_
    rw [show s 5 1 = 7 from hR.2.2.2.2.2.2.2.2.2.2.2.2.1]
    refine (x_iload f4_24 rfl rfl).trans ?_
    refine (x_iload f4_25 rfl rfl).trans ?_
    refine (x_iadd f4_26 rfl).trans ?_
    refine (x_dup2 f4_27 rfl rfl).trans ?_
    refine (x_laload f4_28 rfl).trans ?_
    refine (g_t rfl).trans ?_
    refine g_kl (n := 183) rfl fun hg2 => ?_
    refine (x_aload f4_29 rfl rfl).trans ?_
    refine (y_get2 (ji := 1) rfl f4_30 rfl rfl).trans ?_
    refine (g_t rfl).trans ?_
    refine (g_t (by rw [show s 5 1 = 7 from hR.2.2.2.2.2.2.2.2.2.2.2.2.1]; decide)).trans ?_
    rw [show s 5 1 = 7 from hR.2.2.2.2.2.2.2.2.2.2.2.2.1]
    refine (x_iload f4_33 rfl rfl).trans ?_
    refine (x_iload f4_34 rfl rfl).trans ?_
    refine (x_iadd f4_35 rfl).trans ?_
    refine (x_iconst f4_36 rfl).trans ?_
    refine (x_iadd f4_37 rfl).trans ?_
    refine (x_laload f4_38 rfl).trans ?_
    refine (g_t rfl).trans ?_
    refine g_kl (n := 183) rfl fun hg3 => ?_
    refine (x_ladd f4_39 rfl).trans ?_
    refine (x_lastore f4_40 rfl).trans ?_
    refine (g_t rfl).trans ?_
    refine (g_kt (n := 183) rfl hg2).trans ?_
    refine (x_iinc (l2 := [aA 5, aU, aI l2, aI (w32 (l3 + (-1)))]) f4_41 rfl rfl rfl).trans ?_
    refine (x_goto (tg := 16) f4_44 rfl rfl).trans ?_
    rfl
set_option maxRecDepth 10000 in
theorem g4_56 {s : SG} (hR : RefC s) (l2 l3 : Int) : sem 4 56 [aA 5, aU, aI l2, aI l3] [] s = if (60 : Int) < l3 then some (aU, s) else grd ((0 : Int) ≤ (w32 ((w32 (l2 + l3)) - 1)) ∧ (w32 ((w32 (l2 + l3)) - 1)) < 183) (grd ((0 : Int) ≤ (w32 (l2 + l3)) ∧ (w32 (l2 + l3)) < 183) (sem 4 56 [aA 5, aU, aI l2, aI (w32 (l3 + 1))] [] (up s 6 (w32 (l2 + l3)) (w64 ((s 6 (w32 ((w32 (l2 + l3)) - 1))) + (s 7 (w32 ((w32 (l2 + l3)) - 1)))))))) := by
  refine (x_iload f4_56 rfl rfl).trans ?_
  refine (x_iconst f4_57 rfl).trans ?_
  refine (x_icmp_gt (tg := 97) f4_59 rfl rfl).trans (i_c ?_ ?_)
  · exact x_return f4_97 rfl
  · refine (x_aload f4_62 rfl rfl).trans ?_
    refine (y_get2 (ji := 0) rfl f4_63 rfl rfl).trans ?_
    refine (g_t rfl).trans ?_
    refine (g_t (by rw [show s 5 0 = 6 from hR.2.2.2.2.2.2.2.2.2.2.2.1]; decide)).trans ?_
    rw [show s 5 0 = 6 from hR.2.2.2.2.2.2.2.2.2.2.2.1]
    refine (x_iload f4_66 rfl rfl).trans ?_
    refine (x_iload f4_67 rfl rfl).trans ?_
    refine (x_iadd f4_68 rfl).trans ?_
    refine (x_aload f4_69 rfl rfl).trans ?_
    refine (y_get2 (ji := 0) rfl f4_70 rfl rfl).trans ?_
    refine (g_t rfl).trans ?_
    refine (g_t (by rw [show s 5 0 = 6 from hR.2.2.2.2.2.2.2.2.2.2.2.1]; decide)).trans ?_
    rw [show s 5 0 = 6 from hR.2.2.2.2.2.2.2.2.2.2.2.1]
    refine (x_iload f4_73 rfl rfl).trans ?_
    refine (x_iload f4_74 rfl rfl).trans ?_
    refine (x_iadd f4_75 rfl).trans ?_
    refine (x_iconst f4_76 rfl).trans ?_
    refine (x_isub f4_77 rfl).trans ?_
    refine (x_laload f4_78 rfl).trans ?_
    refine (g_t rfl).trans ?_
    refine g_kl (n := 183) rfl fun hg1 => ?_
    refine (x_aload f4_79 rfl rfl).trans ?_
    refine (y_get2 (ji := 1) rfl f4_80 rfl rfl).trans ?_
    refine (g_t rfl).trans ?_
    refine (g_t (by rw [show s 5 1 = 7 from hR.2.2.2.2.2.2.2.2.2.2.2.2.1]; decide)).trans ?_
    rw [show s 5 1 = 7 from hR.2.2.2.2.2.2.2.2.2.2.2.2.1]
    refine (x_iload f4_83 rfl rfl).trans ?_
    refine (x_iload f4_84 rfl rfl).trans ?_
    refine (x_iadd f4_85 rfl).trans ?_
    refine (x_iconst f4_86 rfl).trans ?_
    refine (x_isub f4_87 rfl).trans ?_
    refine (x_laload f4_88 rfl).trans ?_
    refine (g_t rfl).trans ?_
    refine (g_kt (n := 183) rfl hg1).trans ?_
    refine (x_ladd f4_89 rfl).trans ?_
    refine (x_lastore f4_90 rfl).trans ?_
    refine (g_t rfl).trans ?_
    refine g_kl (n := 183) rfl fun hg2 => ?_
    refine (x_iinc (l2 := [aA 5, aU, aI l2, aI (w32 (l3 + 1))]) f4_91 rfl rfl rfl).trans ?_
    refine (x_goto (tg := 56) f4_94 rfl rfl).trans ?_
    rfl
set_option maxRecDepth 10000 in
theorem g5_0 {s : SG} (hR : RefC s) : sem 5 0 [aA 5] [] s = some (aL (s 5 4), s) := by
  refine (x_aload f5_0 rfl rfl).trans ?_
  refine (y_get1 (ji := 4) rfl f5_1 rfl rfl).trans ?_
  refine (g_t rfl).trans ?_
  exact x_lreturn f5_4 rfl
set_option maxRecDepth 10000 in
theorem g6_0 {s : SG} (hR : RefC s) (l1 l2 : Int) : sem 6 0 [aA 5, aI l1, aI l2] [] s = bnI (sem 139 0 [aI l1] [] s) fun a2 s1 => if a2 = 0 then some (aI 0, s1) else bnI (sem 143 0 [aI l2] [] s1) fun a4 s3 => if a4 = 0 then some (aI 0, s3) else some (aI 1, s3) := by
  refine (x_iload f6_0 rfl rfl).trans ?_
  refine (x_invokestatic (G := bnI (sem 139 0 [aI l1] [] s) fun a2 s1 => sem 6 4 [aA 5, aI l1, aI l2] [aI a2] s1) f6_1 rfl rfl).trans ?_
  refine bI_h fun a2 s1 qs1 => ?_
  have rs1 := RefC.sem qs1 rfl hR
  refine (x_if_eq (tg := 18) f6_4 rfl rfl).trans (i_c ?_ ?_)
  · refine (x_kil (l2 := [aU, aU, aU]) f6_18 rfl).trans ?_
    refine (x_iconst f6_18 rfl).trans ?_
    exact x_zreturn0 f6_19 rfl
  · refine (x_iload f6_7 rfl rfl).trans ?_
    refine (x_invokestatic (G := bnI (sem 143 0 [aI l2] [] s1) fun a4 s3 => sem 6 11 [aA 5, aI l1, aI l2] [aI a4] s3) f6_8 rfl rfl).trans ?_
    refine bI_h fun a4 s3 qs3 => ?_
    have rs3 := RefC.sem qs3 rfl rs1
    refine (x_if_eq (tg := 18) f6_11 rfl rfl).trans (i_c ?_ ?_)
    · refine (x_kil (l2 := [aU, aU, aU]) f6_18 rfl).trans ?_
      refine (x_iconst f6_18 rfl).trans ?_
      exact x_zreturn0 f6_19 rfl
    · refine (x_iconst f6_14 rfl).trans ?_
      refine (x_goto (tg := 19) f6_15 rfl rfl).trans ?_
      refine (x_kil (l2 := [aU, aU, aU]) f6_19 rfl).trans ?_
      exact x_zreturn1 f6_19 rfl
set_option maxRecDepth 10000 in
theorem g7_0 {s : SG} (hR : RefC s) (l1 l2 : Int) : sem 7 0 [aA 5, aI l1, aI l2] [] s = bnI (sem 6 0 [aA 5, aI l1, aI l2] [] s) fun a2 s1 => if a2 = 0 then some (aL 0, s1) else grd ((0 : Int) ≤ (w32 ((w32 (l1 * 61)) + l2)) ∧ (w32 ((w32 (l1 * 61)) + l2)) < 183) (some (aL (s1 6 (w32 ((w32 (l1 * 61)) + l2))), s1)) := by
  refine (x_aload f7_0 rfl rfl).trans ?_
  refine (x_iload f7_1 rfl rfl).trans ?_
  refine (x_iload f7_2 rfl rfl).trans ?_
  refine (x_invokevirtual (G := grd (kd 5 = 0) (bnI (sem 6 0 [aA 5, aI l1, aI l2] [] s) fun a2 s1 => sem 7 6 [aA 5, aI l1, aI l2] [aI a2] s1)) f7_3 rfl rfl).trans ?_
  refine (g_t rfl).trans ?_
  refine bI_h fun a2 s1 qs1 => ?_
  have rs1 := RefC.sem qs1 rfl hR
  refine (x_if_eq (tg := 23) f7_6 rfl rfl).trans (i_c ?_ ?_)
  · refine (x_lconst f7_23 rfl).trans ?_
    refine (x_kil (l2 := [aU, aU, aU]) f7_24 rfl).trans ?_
    exact x_lreturn f7_24 rfl
  · refine (x_aload f7_9 rfl rfl).trans ?_
    refine (y_get2 (ji := 0) rfl f7_10 rfl rfl).trans ?_
    refine (g_t rfl).trans ?_
    refine (g_t (by rw [show s1 5 0 = 6 from rs1.2.2.2.2.2.2.2.2.2.2.2.1]; decide)).trans ?_
    rw [show s1 5 0 = 6 from rs1.2.2.2.2.2.2.2.2.2.2.2.1]
    refine (x_iload f7_13 rfl rfl).trans ?_
    refine (x_iconst f7_14 rfl).trans ?_
    refine (x_imul f7_16 rfl).trans ?_
    refine (x_iload f7_17 rfl rfl).trans ?_
    refine (x_iadd f7_18 rfl).trans ?_
    refine (x_laload f7_19 rfl).trans ?_
    refine (g_t rfl).trans ?_
    refine g_kl (n := 183) rfl fun hg3 => ?_
    refine (x_goto (tg := 24) f7_20 rfl rfl).trans ?_
    refine (x_kil (l2 := [aU, aU, aU]) f7_24 rfl).trans ?_
    exact x_lreturn f7_24 rfl
set_option maxRecDepth 10000 in
theorem g8_0 {s : SG} (hR : RefC s) (l1 l2 : Int) : sem 8 0 [aA 5, aI l1, aI l2] [] s = bnI (sem 6 0 [aA 5, aI l1, aI l2] [] s) fun a2 s1 => if a2 = 0 then some (aL 0, s1) else grd ((0 : Int) ≤ (w32 ((w32 (l1 * 61)) + l2)) ∧ (w32 ((w32 (l1 * 61)) + l2)) < 183) (some (aL (s1 7 (w32 ((w32 (l1 * 61)) + l2))), s1)) := by
  refine (x_aload f8_0 rfl rfl).trans ?_
  refine (x_iload f8_1 rfl rfl).trans ?_
  refine (x_iload f8_2 rfl rfl).trans ?_
  refine (x_invokevirtual (G := grd (kd 5 = 0) (bnI (sem 6 0 [aA 5, aI l1, aI l2] [] s) fun a2 s1 => sem 8 6 [aA 5, aI l1, aI l2] [aI a2] s1)) f8_3 rfl rfl).trans ?_
  refine (g_t rfl).trans ?_
  refine bI_h fun a2 s1 qs1 => ?_
  have rs1 := RefC.sem qs1 rfl hR
  refine (x_if_eq (tg := 23) f8_6 rfl rfl).trans (i_c ?_ ?_)
  · refine (x_lconst f8_23 rfl).trans ?_
    refine (x_kil (l2 := [aU, aU, aU]) f8_24 rfl).trans ?_
    exact x_lreturn f8_24 rfl
  · refine (x_aload f8_9 rfl rfl).trans ?_
    refine (y_get2 (ji := 1) rfl f8_10 rfl rfl).trans ?_
    refine (g_t rfl).trans ?_
    refine (g_t (by rw [show s1 5 1 = 7 from rs1.2.2.2.2.2.2.2.2.2.2.2.2.1]; decide)).trans ?_
    rw [show s1 5 1 = 7 from rs1.2.2.2.2.2.2.2.2.2.2.2.2.1]
    refine (x_iload f8_13 rfl rfl).trans ?_
    refine (x_iconst f8_14 rfl).trans ?_
    refine (x_imul f8_16 rfl).trans ?_
    refine (x_iload f8_17 rfl rfl).trans ?_
    refine (x_iadd f8_18 rfl).trans ?_
    refine (x_laload f8_19 rfl).trans ?_
    refine (g_t rfl).trans ?_
    refine g_kl (n := 183) rfl fun hg3 => ?_
    refine (x_goto (tg := 24) f8_20 rfl rfl).trans ?_
    refine (x_kil (l2 := [aU, aU, aU]) f8_24 rfl).trans ?_
    exact x_lreturn f8_24 rfl
set_option maxRecDepth 10000 in
theorem g9_0 {t : Int} (ht : t = 32 ∨ t = 37) {s : SG} (hR : RefC s) (l2 l3 : Int) : sem 9 0 [aA 5, aA t, aI l2, aI l3] [] s = bnV (sem 13 0 [aA 5] [] s) fun s1 => bnV (sem 14 0 [aA 5, aA t, aI l2, aI ((-9)), aU] [] s1) fun s2 => bnI (sem 139 0 [aI l3] [] s2) fun a4 s3 => if a4 = 0 then some (aI 0, s3) else grd ((0 : Int) ≤ l3 ∧ l3 < 3) (some (aI (s3 9 l3), s3)) := by
  refine (x_aload f9_0 rfl rfl).trans ?_
  refine (x_invokevirtual (G := grd (kd 5 = 0) (bnV (sem 13 0 [aA 5] [] s) fun s1 => sem 9 4 [aA 5, aA t, aI l2, aI l3] [] s1)) f9_1 rfl rfl).trans ?_
  refine (g_t rfl).trans ?_
  refine bV_h fun s1 qs1 => ?_
  have rs1 := RefC.sem qs1 rfl hR
  refine (x_aload f9_4 rfl rfl).trans ?_
  refine (x_aload f9_5 rfl rfl).trans ?_
  refine (x_iload f9_6 rfl rfl).trans ?_
  refine (x_iconst f9_7 rfl).trans ?_
  refine (x_invokevirtual (G := grd (kd 5 = 0) (bnV (sem 14 0 [aA 5, aA t, aI l2, aI ((-9)), aU] [] s1) fun s2 => sem 9 12 [aA 5, aA t, aI l2, aI l3] [] s2)) f9_9 rfl rfl).trans ?_
  refine (g_t rfl).trans ?_
  refine bV_h fun s2 qs2 => ?_
  have rs2 := RefC.sem qs2 rfl rs1
  refine (x_iload f9_12 rfl rfl).trans ?_
  refine (x_invokestatic (G := bnI (sem 139 0 [aI l3] [] s2) fun a4 s3 => sem 9 16 [aA 5, aA t, aI l2, aI l3] [aI a4] s3) f9_13 rfl rfl).trans ?_
  refine bI_h fun a4 s3 qs3 => ?_
  have rs3 := RefC.sem qs3 rfl rs2
  refine (x_if_eq (tg := 28) f9_16 rfl rfl).trans (i_c ?_ ?_)
  · refine (x_iconst f9_28 rfl).trans ?_
    refine (x_kil (l2 := [aU, aU, aU, aU]) f9_29 rfl).trans ?_
    exact x_ireturn f9_29 rfl
  · refine (x_aload f9_19 rfl rfl).trans ?_
    refine (y_get2 (ji := 3) rfl f9_20 rfl rfl).trans ?_
    refine (g_t rfl).trans ?_
    refine (g_t (by rw [show s3 5 3 = 9 from rs3.2.2.2.2.2.2.2.2.2.2.2.2.2.2.1]; decide)).trans ?_
    rw [show s3 5 3 = 9 from rs3.2.2.2.2.2.2.2.2.2.2.2.2.2.2.1]
    refine (x_iload f9_23 rfl rfl).trans ?_
    refine (x_iaload f9_24 rfl).trans ?_
    refine (g_t rfl).trans ?_
    refine g_kl (n := 3) rfl fun hg5 => ?_
    refine (x_goto (tg := 29) f9_25 rfl rfl).trans ?_
    refine (x_kil (l2 := [aU, aU, aU, aU]) f9_29 rfl).trans ?_
    exact x_ireturn f9_29 rfl
set_option maxRecDepth 10000 in
theorem g10_0 {t : Int} (ht : t = 32 ∨ t = 37) {s : SG} (hR : RefC s) (l2 : Int) : sem 10 0 [aA 5, aA t, aI l2] [] s = bnV (sem 13 0 [aA 5] [] s) fun s1 => bnV (sem 14 0 [aA 5, aA t, aI l2, aI ((-9)), aU] [] s1) fun s2 => bnL (sem 16 0 [aA 5, aA t, aI l2, aU, aU, aU, aU] [] s2) fun a4 s3 => some (aL a4, s3) := by
  refine (x_aload f10_0 rfl rfl).trans ?_
  refine (x_invokevirtual (G := grd (kd 5 = 0) (bnV (sem 13 0 [aA 5] [] s) fun s1 => sem 10 4 [aA 5, aA t, aI l2] [] s1)) f10_1 rfl rfl).trans ?_
  refine (g_t rfl).trans ?_
  refine bV_h fun s1 qs1 => ?_
  have rs1 := RefC.sem qs1 rfl hR
  refine (x_aload f10_4 rfl rfl).trans ?_
  refine (x_aload f10_5 rfl rfl).trans ?_
  refine (x_iload f10_6 rfl rfl).trans ?_
  refine (x_iconst f10_7 rfl).trans ?_
  refine (x_invokevirtual (G := grd (kd 5 = 0) (bnV (sem 14 0 [aA 5, aA t, aI l2, aI ((-9)), aU] [] s1) fun s2 => sem 10 12 [aA 5, aA t, aI l2] [] s2)) f10_9 rfl rfl).trans ?_
  refine (g_t rfl).trans ?_
  refine bV_h fun s2 qs2 => ?_
  have rs2 := RefC.sem qs2 rfl rs1
  refine (x_aload f10_12 rfl rfl).trans ?_
  refine (x_aload f10_13 rfl rfl).trans ?_
  refine (x_iload f10_14 rfl rfl).trans ?_
  refine (x_invokevirtual (G := grd (kd 5 = 0) (bnL (sem 16 0 [aA 5, aA t, aI l2, aU, aU, aU, aU] [] s2) fun a4 s3 => sem 10 18 [aA 5, aA t, aI l2] [aL a4] s3)) f10_15 rfl rfl).trans ?_
  refine (g_t rfl).trans ?_
  refine bL_h fun a4 s3 qs3 => ?_
  have rs3 := RefC.sem qs3 rfl rs2
  exact x_lreturn f10_18 rfl
set_option maxRecDepth 10000 in
theorem g11_0 {t : Int} (ht : t = 32 ∨ t = 37) {s : SG} (hR : RefC s) (l2 l3 l4 : Int) : sem 11 0 [aA 5, aA t, aI l2, aI l3, aI l4] [] s = bnV (sem 13 0 [aA 5] [] s) fun s1 => bnI (sem 139 0 [aI l3] [] s1) fun a3 s2 => if a3 = 0 then bnV (sem 14 0 [aA 5, aA t, aI (w32 (l2 - l4)), aI l3, aU] [] s2) fun s4 => bnL (sem 16 0 [aA 5, aA t, aI l2, aU, aU, aU, aU] [] s4) fun a6 s5 => some (aL a6, s5) else grd ((0 : Int) ≤ l3 ∧ l3 < 3) (bnV (sem 14 0 [aA 5, aA t, aI (w32 (l2 - l4)), aI l3, aU] [] (up s2 9 l3 l4)) fun s8 => bnL (sem 16 0 [aA 5, aA t, aI l2, aU, aU, aU, aU] [] s8) fun a10 s9 => some (aL a10, s9)) := by
  refine (x_aload f11_0 rfl rfl).trans ?_
  refine (x_invokevirtual (G := grd (kd 5 = 0) (bnV (sem 13 0 [aA 5] [] s) fun s1 => sem 11 4 [aA 5, aA t, aI l2, aI l3, aI l4] [] s1)) f11_1 rfl rfl).trans ?_
  refine (g_t rfl).trans ?_
  refine bV_h fun s1 qs1 => ?_
  have rs1 := RefC.sem qs1 rfl hR
  refine (x_iload f11_4 rfl rfl).trans ?_
  refine (x_invokestatic (G := bnI (sem 139 0 [aI l3] [] s1) fun a3 s2 => sem 11 8 [aA 5, aA t, aI l2, aI l3, aI l4] [aI a3] s2) f11_5 rfl rfl).trans ?_
  refine bI_h fun a3 s2 qs2 => ?_
  have rs2 := RefC.sem qs2 rfl rs1
  refine (x_if_eq (tg := 19) f11_8 rfl rfl).trans (i_c ?_ ?_)
  · refine (x_aload f11_19 rfl rfl).trans ?_
    refine (x_aload f11_20 rfl rfl).trans ?_
    refine (x_iload f11_21 rfl rfl).trans ?_
    refine (x_iload f11_22 rfl rfl).trans ?_
    refine (x_isub f11_24 rfl).trans ?_
    refine (x_iload f11_25 rfl rfl).trans ?_
    refine (x_invokevirtual (G := grd (kd 5 = 0) (bnV (sem 14 0 [aA 5, aA t, aI (w32 (l2 - l4)), aI l3, aU] [] s2) fun s4 => sem 11 29 [aA 5, aA t, aI l2, aI l3, aI l4] [] s4)) f11_26 rfl rfl).trans ?_
    refine (g_t rfl).trans ?_
    refine bV_h fun s4 qs4 => ?_
    have rs4 := RefC.sem qs4 rfl rs2
    refine (x_aload f11_29 rfl rfl).trans ?_
    refine (x_aload f11_30 rfl rfl).trans ?_
    refine (x_iload f11_31 rfl rfl).trans ?_
    refine (x_invokevirtual (G := grd (kd 5 = 0) (bnL (sem 16 0 [aA 5, aA t, aI l2, aU, aU, aU, aU] [] s4) fun a6 s5 => sem 11 35 [aA 5, aA t, aI l2, aI l3, aI l4] [aL a6] s5)) f11_32 rfl rfl).trans ?_
    refine (g_t rfl).trans ?_
    refine bL_h fun a6 s5 qs5 => ?_
    have rs5 := RefC.sem qs5 rfl rs4
    exact x_lreturn f11_35 rfl
  · refine (x_aload f11_11 rfl rfl).trans ?_
    refine (y_get2 (ji := 3) rfl f11_12 rfl rfl).trans ?_
    refine (g_t rfl).trans ?_
    refine (g_t (by rw [show s2 5 3 = 9 from rs2.2.2.2.2.2.2.2.2.2.2.2.2.2.2.1]; decide)).trans ?_
    rw [show s2 5 3 = 9 from rs2.2.2.2.2.2.2.2.2.2.2.2.2.2.2.1]
    refine (x_iload f11_15 rfl rfl).trans ?_
    refine (x_iload f11_16 rfl rfl).trans ?_
    refine (x_iastore f11_18 rfl).trans ?_
    refine (g_t rfl).trans ?_
    refine g_kl (n := 3) rfl fun hg7 => ?_
    refine (x_aload f11_19 rfl rfl).trans ?_
    refine (x_aload f11_20 rfl rfl).trans ?_
    refine (x_iload f11_21 rfl rfl).trans ?_
    refine (x_iload f11_22 rfl rfl).trans ?_
    refine (x_isub f11_24 rfl).trans ?_
    refine (x_iload f11_25 rfl rfl).trans ?_
    refine (x_invokevirtual (G := grd (kd 5 = 0) (bnV (sem 14 0 [aA 5, aA t, aI (w32 (l2 - l4)), aI l3, aU] [] (up s2 9 l3 l4)) fun s8 => sem 11 29 [aA 5, aA t, aI l2, aI l3, aI l4] [] s8)) f11_26 rfl rfl).trans ?_
    refine (g_t rfl).trans ?_
    refine bV_h fun s8 qs8 => ?_
    have rs8 := RefC.sem qs8 rfl (RefC.upd rs2 (rcb_a (by decide)))
    refine (x_aload f11_29 rfl rfl).trans ?_
    refine (x_aload f11_30 rfl rfl).trans ?_
    refine (x_iload f11_31 rfl rfl).trans ?_
    refine (x_invokevirtual (G := grd (kd 5 = 0) (bnL (sem 16 0 [aA 5, aA t, aI l2, aU, aU, aU, aU] [] s8) fun a10 s9 => sem 11 35 [aA 5, aA t, aI l2, aI l3, aI l4] [aL a10] s9)) f11_32 rfl rfl).trans ?_
    refine (g_t rfl).trans ?_
    refine bL_h fun a10 s9 qs9 => ?_
    have rs9 := RefC.sem qs9 rfl rs8
    exact x_lreturn f11_35 rfl
set_option maxRecDepth 10000 in
theorem g12_0 {t : Int} (ht : t = 32 ∨ t = 37) {s : SG} (hR : RefC s) : sem 12 0 [aA 5, aA t, aU, aU, aU, aU, aU, aU] [] s = bnV (sem 13 0 [aA 5] [] s) fun s1 => bnL (sem 16 0 [aA 5, aA t, aI 0, aU, aU, aU, aU] [] s1) fun a3 s2 => sem 12 16 [aA 5, aA t, aI 0, aL a3, aU, aI 1, aU, aU] [] s2 := by
  refine (x_aload f12_0 rfl rfl).trans ?_
  refine (x_invokevirtual (G := grd (kd 5 = 0) (bnV (sem 13 0 [aA 5] [] s) fun s1 => sem 12 4 [aA 5, aA t, aU, aU, aU, aU, aU, aU] [] s1)) f12_1 rfl rfl).trans ?_
  refine (g_t rfl).trans ?_
  refine bV_h fun s1 qs1 => ?_
  have rs1 := RefC.sem qs1 rfl hR
  refine (x_iconst f12_4 rfl).trans ?_
  refine (x_istore (l2 := [aA 5, aA t, aI 0, aU, aU, aU, aU, aU]) f12_5 rfl rfl).trans ?_
  refine (x_aload f12_6 rfl rfl).trans ?_
  refine (x_aload f12_7 rfl rfl).trans ?_
  refine (x_iconst f12_8 rfl).trans ?_
  refine (x_invokevirtual (G := grd (kd 5 = 0) (bnL (sem 16 0 [aA 5, aA t, aI 0, aU, aU, aU, aU] [] s1) fun a3 s2 => sem 12 12 [aA 5, aA t, aI 0, aU, aU, aU, aU, aU] [aL a3] s2)) f12_9 rfl rfl).trans ?_
  refine (g_t rfl).trans ?_
  refine bL_h fun a3 s2 qs2 => ?_
  have rs2 := RefC.sem qs2 rfl rs1
  refine (x_lstore (l2 := [aA 5, aA t, aI 0, aL a3, aU, aU, aU, aU]) f12_12 rfl rfl).trans ?_
  refine (x_iconst f12_13 rfl).trans ?_
  refine (x_istore (l2 := [aA 5, aA t, aI 0, aL a3, aU, aI 1, aU, aU]) f12_14 rfl rfl).trans ?_
  rfl
set_option maxRecDepth 10000 in
theorem g12_16 {t : Int} (ht : t = 32 ∨ t = 37) {s : SG} (hR : RefC s) (l2 l3 l5 : Int) : sem 12 16 [aA 5, aA t, aI l2, aL l3, aU, aI l5, aU, aU] [] s = if (60 : Int) < l5 then some (aI l2, s) else bnV (sem 15 0 [aA 5, aA t, aI ((-9)), aU, aU] [] s) fun s1 => bnL (sem 16 0 [aA 5, aA t, aI l5, aU, aU, aU, aU] [] s1) fun a3 s2 => if (0 : Int) < (cmpL a3 l3) then sem 12 16 [aA 5, aA t, aI l5, aL a3, aU, aI (w32 (l5 + 1)), aU, aU] [] s2 else sem 12 16 [aA 5, aA t, aI l2, aL l3, aU, aI (w32 (l5 + 1)), aU, aU] [] s2 := by
  refine (x_iload f12_16 rfl rfl).trans ?_
  refine (x_iconst f12_18 rfl).trans ?_
  refine (x_icmp_gt (tg := 58) f12_20 rfl rfl).trans (i_c ?_ ?_)
  · refine (x_iload f12_58 rfl rfl).trans ?_
    exact x_ireturn f12_59 rfl
  · refine (x_aload f12_23 rfl rfl).trans ?_
    refine (x_aload f12_24 rfl rfl).trans ?_
    refine (x_iconst f12_25 rfl).trans ?_
    refine (x_invokevirtual (G := grd (kd 5 = 0) (bnV (sem 15 0 [aA 5, aA t, aI ((-9)), aU, aU] [] s) fun s1 => sem 12 30 [aA 5, aA t, aI l2, aL l3, aU, aI l5, aU, aU] [] s1)) f12_27 rfl rfl).trans ?_
    refine (g_t rfl).trans ?_
    refine bV_h fun s1 qs1 => ?_
    have rs1 := RefC.sem qs1 rfl hR
    refine (x_aload f12_30 rfl rfl).trans ?_
    refine (x_aload f12_31 rfl rfl).trans ?_
    refine (x_iload f12_32 rfl rfl).trans ?_
    refine (x_invokevirtual (G := grd (kd 5 = 0) (bnL (sem 16 0 [aA 5, aA t, aI l5, aU, aU, aU, aU] [] s1) fun a3 s2 => sem 12 37 [aA 5, aA t, aI l2, aL l3, aU, aI l5, aU, aU] [aL a3] s2)) f12_34 rfl rfl).trans ?_
    refine (g_t rfl).trans ?_
    refine bL_h fun a3 s2 qs2 => ?_
    have rs2 := RefC.sem qs2 rfl rs1
    refine (x_lstore (l2 := [aA 5, aA t, aI l2, aL l3, aU, aI l5, aL a3, aU]) f12_37 rfl rfl).trans ?_
    refine (x_lload f12_39 rfl rfl).trans ?_
    refine (x_lload f12_41 rfl rfl).trans ?_
    refine (x_lcmp f12_42 rfl).trans ?_
    refine (x_if_le (tg := 52) f12_43 rfl rfl).trans (i_c ?_ ?_)
    · refine (x_lload f12_46 rfl rfl).trans ?_
      refine (x_lstore (l2 := [aA 5, aA t, aI l2, aL a3, aU, aI l5, aL a3, aU]) f12_48 rfl rfl).trans ?_
      refine (x_iload f12_49 rfl rfl).trans ?_
      refine (x_istore (l2 := [aA 5, aA t, aI l5, aL a3, aU, aI l5, aL a3, aU]) f12_51 rfl rfl).trans ?_
      refine (x_kil (l2 := [aA 5, aA t, aI l5, aL a3, aU, aI l5, aU, aU]) f12_52 rfl).trans ?_
      refine (x_iinc (l2 := [aA 5, aA t, aI l5, aL a3, aU, aI (w32 (l5 + 1)), aU, aU]) f12_52 rfl rfl rfl).trans ?_
      refine (x_goto (tg := 16) f12_55 rfl rfl).trans ?_
      rfl
    · refine (x_kil (l2 := [aA 5, aA t, aI l2, aL l3, aU, aI l5, aU, aU]) f12_52 rfl).trans ?_
      refine (x_iinc (l2 := [aA 5, aA t, aI l2, aL l3, aU, aI (w32 (l5 + 1)), aU, aU]) f12_52 rfl rfl rfl).trans ?_
      refine (x_goto (tg := 16) f12_55 rfl rfl).trans ?_
      rfl
set_option maxRecDepth 10000 in
theorem g13_0 {s : SG} (hR : RefC s) : sem 13 0 [aA 5] [] s = bnV (sem 222 0 [aA 9, aI 0, aU, aU] [] s) fun s1 => some (aU, s1) := by
  refine (x_aload f13_0 rfl rfl).trans ?_
  refine (y_get2 (ji := 3) rfl f13_1 rfl rfl).trans ?_
  refine (g_t rfl).trans ?_
  refine (g_t (by rw [show s 5 3 = 9 from hR.2.2.2.2.2.2.2.2.2.2.2.2.2.2.1]; decide)).trans ?_
  rw [show s 5 3 = 9 from hR.2.2.2.2.2.2.2.2.2.2.2.2.2.2.1]
  refine (x_iconst f13_4 rfl).trans ?_
  refine (x_invokestatic (G := bnV (sem 222 0 [aA 9, aI 0, aU, aU] [] s) fun s1 => sem 13 8 [aA 5] [] s1) f13_5 rfl rfl).trans ?_
  refine bV_h fun s1 qs1 => ?_
  have rs1 := RefC.sem qs1 rfl hR
  exact x_return f13_8 rfl
set_option maxRecDepth 10000 in
theorem g14_0 {t : Int} (ht : t = 32 ∨ t = 37) {s : SG} (hR : RefC s) (l2 l3 : Int) : sem 14 0 [aA 5, aA t, aI l2, aI l3, aU] [] s = sem 14 3 [aA 5, aA t, aI l2, aI l3, aI 0] [] s := by
  refine (x_iconst f14_0 rfl).trans ?_
  refine (x_istore (l2 := [aA 5, aA t, aI l2, aI l3, aI 0]) f14_1 rfl rfl).trans ?_
  rfl
set_option maxRecDepth 10000 in
theorem g14_3 {t : Int} (ht : t = 32 ∨ t = 37) {s : SG} (hR : RefC s) (l2 l3 l4 : Int) : sem 14 3 [aA 5, aA t, aI l2, aI l3, aI l4] [] s = if l4 < l2 then bnV (sem 15 0 [aA 5, aA t, aI l3, aU, aU] [] s) fun s1 => sem 14 3 [aA 5, aA t, aI l2, aI l3, aI (w32 (l4 + 1))] [] s1 else some (aU, s) := by
  refine (x_iload f14_3 rfl rfl).trans ?_
  refine (x_iload f14_5 rfl rfl).trans ?_
  refine (x_icmp_ge (tg := 21) f14_6 rfl rfl).trans (i_c ?_ ?_)
  · refine (x_aload f14_9 rfl rfl).trans ?_
    refine (x_aload f14_10 rfl rfl).trans ?_
    refine (x_iload f14_11 rfl rfl).trans ?_
    refine (x_invokevirtual (G := grd (kd 5 = 0) (bnV (sem 15 0 [aA 5, aA t, aI l3, aU, aU] [] s) fun s1 => sem 14 15 [aA 5, aA t, aI l2, aI l3, aI l4] [] s1)) f14_12 rfl rfl).trans ?_
    refine (g_t rfl).trans ?_
    refine bV_h fun s1 qs1 => ?_
    have rs1 := RefC.sem qs1 rfl hR
    refine (x_iinc (l2 := [aA 5, aA t, aI l2, aI l3, aI (w32 (l4 + 1))]) f14_15 rfl rfl rfl).trans ?_
    refine (x_goto (tg := 3) f14_18 rfl rfl).trans ?_
    rfl
  · exact x_return f14_21 rfl
set_option maxRecDepth 10000 in
theorem g15_0 {t : Int} (ht : t = 32 ∨ t = 37) {s : SG} (hR : RefC s) (l2 : Int) : sem 15 0 [aA 5, aA t, aI l2, aU, aU] [] s = sem 15 6 [aA 5, aA t, aI l2, aI ((-9)), aI 0] [] s := by
  refine (x_iconst f15_0 rfl).trans ?_
  refine (x_istore (l2 := [aA 5, aA t, aI l2, aI ((-9)), aU]) f15_2 rfl rfl).trans ?_
  refine (x_iconst f15_3 rfl).trans ?_
  refine (x_istore (l2 := [aA 5, aA t, aI l2, aI ((-9)), aI 0]) f15_4 rfl rfl).trans ?_
  rfl
set_option maxRecDepth 10000 in
theorem g15_6 {t : Int} (ht : t = 32 ∨ t = 37) {s : SG} (hR : RefC s) (l2 l3 l4 : Int) : sem 15 6 [aA 5, aA t, aI l2, aI l3, aI l4] [] s = if l4 < (s t 4) then if l4 < 3 then if l4 = l2 then sem 15 6 [aA 5, aA t, aI l2, aI l3, aI (w32 (l4 + 1))] [] s else bnI (sem 139 0 [aI l3] [] s) fun a2 s1 => if a2 = 0 then sem 15 6 [aA 5, aA t, aI l2, aI l4, aI (w32 (l4 + 1))] [] s1 else grd ((0 : Int) ≤ l4 ∧ l4 < 3) (bnL (sem 8 0 [aA 5, aI l4, aI (s1 9 l4)] [] s1) fun a5 s4 => grd ((0 : Int) ≤ l3 ∧ l3 < 3) (bnL (sem 8 0 [aA 5, aI l3, aI (s4 9 l3)] [] s4) fun a8 s7 => if (0 : Int) < (cmpL a5 a8) then sem 15 6 [aA 5, aA t, aI l2, aI l4, aI (w32 (l4 + 1))] [] s7 else sem 15 6 [aA 5, aA t, aI l2, aI l3, aI (w32 (l4 + 1))] [] s7)) else bnI (sem 139 0 [aI l3] [] s) fun a10 s9 => if a10 = 0 then some (aU, s9) else grd ((0 : Int) ≤ l3 ∧ l3 < 3) (some (aU, up s9 9 l3 (w32 ((s9 9 l3) + 1)))) else bnI (sem 139 0 [aI l3] [] s) fun a13 s12 => if a13 = 0 then some (aU, s12) else grd ((0 : Int) ≤ l3 ∧ l3 < 3) (some (aU, up s12 9 l3 (w32 ((s12 9 l3) + 1)))) := by
  refine (x_iload f15_6 rfl rfl).trans ?_
  refine (x_aload f15_8 rfl rfl).trans ?_
  refine (y_get0 (ji := 4) rfl f15_9 rfl rfl).trans ?_
  refine (g_t ((kd_t ht).1)).trans ?_
  refine (x_icmp_ge (tg := 71) f15_12 rfl rfl).trans (i_c ?_ ?_)
  · refine (x_iload f15_15 rfl rfl).trans ?_
    refine (x_iconst f15_17 rfl).trans ?_
    refine (x_icmp_ge (tg := 71) f15_18 rfl rfl).trans (i_c ?_ ?_)
    · refine (x_iload f15_21 rfl rfl).trans ?_
      refine (x_iload f15_23 rfl rfl).trans ?_
      refine (x_icmp_eq (tg := 65) f15_24 rfl rfl).trans (i_c ?_ ?_)
      · refine (x_iinc (l2 := [aA 5, aA t, aI l2, aI l3, aI (w32 (l4 + 1))]) f15_65 rfl rfl rfl).trans ?_
        refine (x_goto (tg := 6) f15_68 rfl rfl).trans ?_
        rfl
      · refine (x_iload f15_27 rfl rfl).trans ?_
        refine (x_invokestatic (G := bnI (sem 139 0 [aI l3] [] s) fun a2 s1 => sem 15 31 [aA 5, aA t, aI l2, aI l3, aI l4] [aI a2] s1) f15_28 rfl rfl).trans ?_
        refine bI_h fun a2 s1 qs1 => ?_
        have rs1 := RefC.sem qs1 rfl hR
        refine (x_if_eq (tg := 62) f15_31 rfl rfl).trans (i_c ?_ ?_)
        · refine (x_kil (l2 := [aA 5, aA t, aI l2, aU, aI l4]) f15_62 rfl).trans ?_
          refine (x_iload f15_62 rfl rfl).trans ?_
          refine (x_istore (l2 := [aA 5, aA t, aI l2, aI l4, aI l4]) f15_64 rfl rfl).trans ?_
          refine (x_iinc (l2 := [aA 5, aA t, aI l2, aI l4, aI (w32 (l4 + 1))]) f15_65 rfl rfl rfl).trans ?_
          refine (x_goto (tg := 6) f15_68 rfl rfl).trans ?_
          rfl
        · refine (x_aload f15_34 rfl rfl).trans ?_
          refine (x_iload f15_35 rfl rfl).trans ?_
          refine (x_aload f15_37 rfl rfl).trans ?_
          refine (y_get2 (ji := 3) rfl f15_38 rfl rfl).trans ?_
          refine (g_t rfl).trans ?_
          refine (g_t (by rw [show s1 5 3 = 9 from rs1.2.2.2.2.2.2.2.2.2.2.2.2.2.2.1]; decide)).trans ?_
          rw [show s1 5 3 = 9 from rs1.2.2.2.2.2.2.2.2.2.2.2.2.2.2.1]
          refine (x_iload f15_41 rfl rfl).trans ?_
          refine (x_iaload f15_43 rfl).trans ?_
          refine (g_t rfl).trans ?_
          refine g_kl (n := 3) rfl fun hg3 => ?_
          refine (x_invokevirtual (G := grd (kd 5 = 0) (bnL (sem 8 0 [aA 5, aI l4, aI (s1 9 l4)] [] s1) fun a5 s4 => sem 15 47 [aA 5, aA t, aI l2, aI l3, aI l4] [aL a5] s4)) f15_44 rfl rfl).trans ?_
          refine (g_t rfl).trans ?_
          refine bL_h fun a5 s4 qs4 => ?_
          have rs4 := RefC.sem qs4 rfl rs1
          refine (x_aload f15_47 rfl rfl).trans ?_
          refine (x_iload f15_48 rfl rfl).trans ?_
          refine (x_aload f15_49 rfl rfl).trans ?_
          refine (y_get2 (ji := 3) rfl f15_50 rfl rfl).trans ?_
          refine (g_t rfl).trans ?_
          refine (g_t (by rw [show s4 5 3 = 9 from rs4.2.2.2.2.2.2.2.2.2.2.2.2.2.2.1]; decide)).trans ?_
          rw [show s4 5 3 = 9 from rs4.2.2.2.2.2.2.2.2.2.2.2.2.2.2.1]
          refine (x_iload f15_53 rfl rfl).trans ?_
          refine (x_iaload f15_54 rfl).trans ?_
          refine (g_t rfl).trans ?_
          refine g_kl (n := 3) rfl fun hg6 => ?_
          refine (x_invokevirtual (G := grd (kd 5 = 0) (bnL (sem 8 0 [aA 5, aI l3, aI (s4 9 l3)] [] s4) fun a8 s7 => sem 15 58 [aA 5, aA t, aI l2, aI l3, aI l4] [aL a8, aL a5] s7)) f15_55 rfl rfl).trans ?_
          refine (g_t rfl).trans ?_
          refine bL_h fun a8 s7 qs7 => ?_
          have rs7 := RefC.sem qs7 rfl rs4
          refine (x_lcmp f15_58 rfl).trans ?_
          refine (x_if_le (tg := 65) f15_59 rfl rfl).trans (i_c ?_ ?_)
          · refine (x_kil (l2 := [aA 5, aA t, aI l2, aU, aI l4]) f15_62 rfl).trans ?_
            refine (x_iload f15_62 rfl rfl).trans ?_
            refine (x_istore (l2 := [aA 5, aA t, aI l2, aI l4, aI l4]) f15_64 rfl rfl).trans ?_
            refine (x_iinc (l2 := [aA 5, aA t, aI l2, aI l4, aI (w32 (l4 + 1))]) f15_65 rfl rfl rfl).trans ?_
            refine (x_goto (tg := 6) f15_68 rfl rfl).trans ?_
            rfl
          · refine (x_iinc (l2 := [aA 5, aA t, aI l2, aI l3, aI (w32 (l4 + 1))]) f15_65 rfl rfl rfl).trans ?_
            refine (x_goto (tg := 6) f15_68 rfl rfl).trans ?_
            rfl
    · refine (x_kil (l2 := [aA 5, aU, aU, aI l3, aU]) f15_71 rfl).trans ?_
      refine (x_iload f15_71 rfl rfl).trans ?_
      refine (x_invokestatic (G := bnI (sem 139 0 [aI l3] [] s) fun a10 s9 => sem 15 75 [aA 5, aU, aU, aI l3, aU] [aI a10] s9) f15_72 rfl rfl).trans ?_
      refine bI_h fun a10 s9 qs9 => ?_
      have rs9 := RefC.sem qs9 rfl hR
      refine (x_if_eq (tg := 88) f15_75 rfl rfl).trans (i_c ?_ ?_)
      · refine (x_kil (l2 := [aU, aU, aU, aU, aU]) f15_88 rfl).trans ?_
        exact x_return f15_88 rfl
      · refine (x_aload f15_78 rfl rfl).trans ?_
        refine (y_get2 (ji := 3) rfl f15_79 rfl rfl).trans ?_
        refine (g_t rfl).trans ?_
        refine (g_t (by rw [show s9 5 3 = 9 from rs9.2.2.2.2.2.2.2.2.2.2.2.2.2.2.1]; decide)).trans ?_
        rw [show s9 5 3 = 9 from rs9.2.2.2.2.2.2.2.2.2.2.2.2.2.2.1]
        refine (x_iload f15_82 rfl rfl).trans ?_
        refine (x_dup2 f15_83 rfl rfl).trans ?_
        refine (x_iaload f15_84 rfl).trans ?_
        refine (g_t rfl).trans ?_
        refine g_kl (n := 3) rfl fun hg11 => ?_
        refine (x_iconst f15_85 rfl).trans ?_
        refine (x_iadd f15_86 rfl).trans ?_
        refine (x_iastore f15_87 rfl).trans ?_
        refine (g_t rfl).trans ?_
        refine (g_kt (n := 3) rfl hg11).trans ?_
        refine (x_kil (l2 := [aU, aU, aU, aU, aU]) f15_88 rfl).trans ?_
        exact x_return f15_88 rfl
  · refine (x_kil (l2 := [aA 5, aU, aU, aI l3, aU]) f15_71 rfl).trans ?_
    refine (x_iload f15_71 rfl rfl).trans ?_
    refine (x_invokestatic (G := bnI (sem 139 0 [aI l3] [] s) fun a13 s12 => sem 15 75 [aA 5, aU, aU, aI l3, aU] [aI a13] s12) f15_72 rfl rfl).trans ?_
    refine bI_h fun a13 s12 qs12 => ?_
    have rs12 := RefC.sem qs12 rfl hR
    refine (x_if_eq (tg := 88) f15_75 rfl rfl).trans (i_c ?_ ?_)
    · refine (x_kil (l2 := [aU, aU, aU, aU, aU]) f15_88 rfl).trans ?_
      exact x_return f15_88 rfl
    · refine (x_aload f15_78 rfl rfl).trans ?_
      refine (y_get2 (ji := 3) rfl f15_79 rfl rfl).trans ?_
      refine (g_t rfl).trans ?_
      refine (g_t (by rw [show s12 5 3 = 9 from rs12.2.2.2.2.2.2.2.2.2.2.2.2.2.2.1]; decide)).trans ?_
      rw [show s12 5 3 = 9 from rs12.2.2.2.2.2.2.2.2.2.2.2.2.2.2.1]
      refine (x_iload f15_82 rfl rfl).trans ?_
      refine (x_dup2 f15_83 rfl rfl).trans ?_
      refine (x_iaload f15_84 rfl).trans ?_
      refine (g_t rfl).trans ?_
      refine g_kl (n := 3) rfl fun hg14 => ?_
      refine (x_iconst f15_85 rfl).trans ?_
      refine (x_iadd f15_86 rfl).trans ?_
      refine (x_iastore f15_87 rfl).trans ?_
      refine (g_t rfl).trans ?_
      refine (g_kt (n := 3) rfl hg14).trans ?_
      refine (x_kil (l2 := [aU, aU, aU, aU, aU]) f15_88 rfl).trans ?_
      exact x_return f15_88 rfl
set_option maxRecDepth 10000 in
theorem g16_0 {t : Int} (ht : t = 32 ∨ t = 37) {s : SG} (hR : RefC s) (l2 : Int) : sem 16 0 [aA 5, aA t, aI l2, aU, aU, aU, aU] [] s = sem 16 5 [aA 5, aA t, aI l2, aL 0, aU, aI 0, aU] [] s := by
  refine (x_lconst f16_0 rfl).trans ?_
  refine (x_lstore (l2 := [aA 5, aA t, aI l2, aL 0, aU, aU, aU]) f16_1 rfl rfl).trans ?_
  refine (x_iconst f16_2 rfl).trans ?_
  refine (x_istore (l2 := [aA 5, aA t, aI l2, aL 0, aU, aI 0, aU]) f16_3 rfl rfl).trans ?_
  rfl
set_option maxRecDepth 10000 in
theorem g16_5 {t : Int} (ht : t = 32 ∨ t = 37) {s : SG} (hR : RefC s) (l2 l3 l5 : Int) : sem 16 5 [aA 5, aA t, aI l2, aL l3, aU, aI l5, aU] [] s = if l5 < (s t 4) then if l5 < 3 then grd ((0 : Int) ≤ l5 ∧ l5 < 3) (bnL (sem 7 0 [aA 5, aI l5, aI (s 9 l5)] [] s) fun a3 s2 => sem 16 5 [aA 5, aA t, aI l2, aL (w64 (l3 + a3)), aU, aI (w32 (l5 + 1)), aU] [] s2) else sem 16 42 [aA 5, aA t, aI l2, aL l3, aU, aU, aU] [] s else sem 16 42 [aA 5, aA t, aI l2, aL l3, aU, aU, aU] [] s := by
  refine (x_iload f16_5 rfl rfl).trans ?_
  refine (x_aload f16_7 rfl rfl).trans ?_
  refine (y_get0 (ji := 4) rfl f16_8 rfl rfl).trans ?_
  refine (g_t ((kd_t ht).1)).trans ?_
  refine (x_icmp_ge (tg := 42) f16_11 rfl rfl).trans (i_c ?_ ?_)
  · refine (x_iload f16_14 rfl rfl).trans ?_
    refine (x_iconst f16_16 rfl).trans ?_
    refine (x_icmp_ge (tg := 42) f16_17 rfl rfl).trans (i_c ?_ ?_)
    · refine (x_lload f16_20 rfl rfl).trans ?_
      refine (x_aload f16_21 rfl rfl).trans ?_
      refine (x_iload f16_22 rfl rfl).trans ?_
      refine (x_aload f16_24 rfl rfl).trans ?_
      refine (y_get2 (ji := 3) rfl f16_25 rfl rfl).trans ?_
      refine (g_t rfl).trans ?_
      refine (g_t (by rw [show s 5 3 = 9 from hR.2.2.2.2.2.2.2.2.2.2.2.2.2.2.1]; decide)).trans ?_
      rw [show s 5 3 = 9 from hR.2.2.2.2.2.2.2.2.2.2.2.2.2.2.1]
      refine (x_iload f16_28 rfl rfl).trans ?_
      refine (x_iaload f16_30 rfl).trans ?_
      refine (g_t rfl).trans ?_
      refine g_kl (n := 3) rfl fun hg1 => ?_
      refine (x_invokevirtual (G := grd (kd 5 = 0) (bnL (sem 7 0 [aA 5, aI l5, aI (s 9 l5)] [] s) fun a3 s2 => sem 16 34 [aA 5, aA t, aI l2, aL l3, aU, aI l5, aU] [aL a3, aL l3] s2)) f16_31 rfl rfl).trans ?_
      refine (g_t rfl).trans ?_
      refine bL_h fun a3 s2 qs2 => ?_
      have rs2 := RefC.sem qs2 rfl hR
      refine (x_ladd f16_34 rfl).trans ?_
      refine (x_lstore (l2 := [aA 5, aA t, aI l2, aL (w64 (l3 + a3)), aU, aI l5, aU]) f16_35 rfl rfl).trans ?_
      refine (x_iinc (l2 := [aA 5, aA t, aI l2, aL (w64 (l3 + a3)), aU, aI (w32 (l5 + 1)), aU]) f16_36 rfl rfl rfl).trans ?_
      refine (x_goto (tg := 5) f16_39 rfl rfl).trans ?_
      rfl
    · exact x_kil f16_42 rfl
  · exact x_kil f16_42 rfl
set_option maxRecDepth 10000 in
theorem g16_42 {t : Int} (ht : t = 32 ∨ t = 37) {s : SG} (hR : RefC s) (l2 l3 : Int) : sem 16 42 [aA 5, aA t, aI l2, aL l3, aU, aU, aU] [] s = some (aL (w64 ((w64 ((w64 (l3 * (s t 6))) + (w64 ((w64 ((w64 (l2 * (s 5 4))) - l3)) * (s t 7))))) - (w64 ((w64 (l2 * (s 5 4))) * (s t 5))))), s) := by
  refine (x_iload f16_42 rfl rfl).trans ?_
  refine (x_i2l f16_43 rfl).trans ?_
  refine (x_aload f16_44 rfl rfl).trans ?_
  refine (y_get1 (ji := 4) rfl f16_45 rfl rfl).trans ?_
  refine (g_t rfl).trans ?_
  refine (x_lmul f16_48 rfl).trans ?_
  refine (x_lload f16_49 rfl rfl).trans ?_
  refine (x_lsub f16_50 rfl).trans ?_
  refine (x_lstore (l2 := [aA 5, aA t, aI l2, aL l3, aU, aL (w64 ((w64 (l2 * (s 5 4))) - l3)), aU]) f16_51 rfl rfl).trans ?_
  refine (x_lload f16_53 rfl rfl).trans ?_
  refine (x_aload f16_54 rfl rfl).trans ?_
  refine (y_get0 (ji := 6) rfl f16_55 rfl rfl).trans ?_
  refine (g_t ((kd_t ht).1)).trans ?_
  refine (x_i2l f16_58 rfl).trans ?_
  refine (x_lmul f16_59 rfl).trans ?_
  refine (x_lload f16_60 rfl rfl).trans ?_
  refine (x_aload f16_62 rfl rfl).trans ?_
  refine (y_get0 (ji := 7) rfl f16_63 rfl rfl).trans ?_
  refine (g_t ((kd_t ht).1)).trans ?_
  refine (x_i2l f16_66 rfl).trans ?_
  refine (x_lmul f16_67 rfl).trans ?_
  refine (x_ladd f16_68 rfl).trans ?_
  refine (x_iload f16_69 rfl rfl).trans ?_
  refine (x_i2l f16_70 rfl).trans ?_
  refine (x_aload f16_71 rfl rfl).trans ?_
  refine (y_get1 (ji := 4) rfl f16_72 rfl rfl).trans ?_
  refine (g_t rfl).trans ?_
  refine (x_lmul f16_75 rfl).trans ?_
  refine (x_aload f16_76 rfl rfl).trans ?_
  refine (y_get0 (ji := 5) rfl f16_77 rfl rfl).trans ?_
  refine (g_t ((kd_t ht).1)).trans ?_
  refine (x_i2l f16_80 rfl).trans ?_
  refine (x_lmul f16_81 rfl).trans ?_
  refine (x_lsub f16_82 rfl).trans ?_
  exact x_lreturn f16_83 rfl
set_option maxRecDepth 10000 in
theorem g18_0 {k : Int} (hk : k = 16 ∨ k = 42 ∨ k = 49) {s : SG} (hR : RefC s) : sem 18 0 [aA k] [] s = bnV (sem 222 0 [aA (k + 1), aI 0, aU, aU] [] s) fun s1 => bnV (sem 222 0 [aA (k + 2), aI 5, aU, aU] [] s1) fun s2 => bnV (sem 222 0 [aA (k + 3), aI 0, aU, aU] [] s2) fun s3 => some (aU, up (up (up (up (up s3 k 6 0) k 7 0) k 8 0) k 9 0) k 10 0) := by
  refine (x_aload f18_0 rfl rfl).trans ?_
  refine (y_get2 (ji := 0) rfl f18_1 rfl rfl).trans ?_
  refine (g_t ((kd_k hk).1)).trans ?_
  refine (g_t (by rw [show s k 0 = k + 1 from ((ref_k hR hk).1)]; omega)).trans ?_
  rw [show s k 0 = k + 1 from ((ref_k hR hk).1)]
  refine (x_iconst f18_4 rfl).trans ?_
  refine (x_invokestatic (G := bnV (sem 222 0 [aA (k + 1), aI 0, aU, aU] [] s) fun s1 => sem 18 8 [aA k] [] s1) f18_5 rfl rfl).trans ?_
  refine bV_h fun s1 qs1 => ?_
  have rs1 := RefC.sem qs1 rfl hR
  refine (x_aload f18_8 rfl rfl).trans ?_
  refine (y_get2 (ji := 1) rfl f18_9 rfl rfl).trans ?_
  refine (g_t ((kd_k hk).1)).trans ?_
  refine (g_t (by rw [show s1 k 1 = k + 2 from ((ref_k rs1 hk).2.1)]; omega)).trans ?_
  rw [show s1 k 1 = k + 2 from ((ref_k rs1 hk).2.1)]
  refine (x_iconst f18_12 rfl).trans ?_
  refine (x_invokestatic (G := bnV (sem 222 0 [aA (k + 2), aI 5, aU, aU] [] s1) fun s2 => sem 18 16 [aA k] [] s2) f18_13 rfl rfl).trans ?_
  refine bV_h fun s2 qs2 => ?_
  have rs2 := RefC.sem qs2 rfl rs1
  refine (x_aload f18_16 rfl rfl).trans ?_
  refine (y_get2 (ji := 2) rfl f18_17 rfl rfl).trans ?_
  refine (g_t ((kd_k hk).1)).trans ?_
  refine (g_t (by rw [show s2 k 2 = k + 3 from ((ref_k rs2 hk).2.2.1)]; omega)).trans ?_
  rw [show s2 k 2 = k + 3 from ((ref_k rs2 hk).2.2.1)]
  refine (x_iconst f18_20 rfl).trans ?_
  refine (x_invokestatic (G := bnV (sem 222 0 [aA (k + 3), aI 0, aU, aU] [] s2) fun s3 => sem 18 24 [aA k] [] s3) f18_21 rfl rfl).trans ?_
  refine bV_h fun s3 qs3 => ?_
  have rs3 := RefC.sem qs3 rfl rs2
  refine (x_aload f18_24 rfl rfl).trans ?_
  refine (x_iconst f18_25 rfl).trans ?_
  refine (y_put0 (ji := 6) rfl f18_26 rfl rfl).trans ?_
  refine (g_t ((kd_k hk).1)).trans ?_
  refine (x_aload f18_29 rfl rfl).trans ?_
  refine (x_iconst f18_30 rfl).trans ?_
  refine (y_put0 (ji := 7) rfl f18_31 rfl rfl).trans ?_
  refine (g_t ((kd_k hk).1)).trans ?_
  refine (x_aload f18_34 rfl rfl).trans ?_
  refine (x_iconst f18_35 rfl).trans ?_
  refine (y_put0 (ji := 8) rfl f18_36 rfl rfl).trans ?_
  refine (g_t ((kd_k hk).1)).trans ?_
  refine (x_aload f18_39 rfl rfl).trans ?_
  refine (x_iconst f18_40 rfl).trans ?_
  refine (y_put0 (ji := 9) rfl f18_41 rfl rfl).trans ?_
  refine (g_t ((kd_k hk).1)).trans ?_
  refine (x_aload f18_44 rfl rfl).trans ?_
  refine (x_iconst f18_45 rfl).trans ?_
  refine (y_put0 (ji := 10) rfl f18_46 rfl rfl).trans ?_
  refine (g_t ((kd_k hk).1)).trans ?_
  exact x_return f18_49 rfl
set_option maxRecDepth 10000 in
theorem g19_0 {k : Int} (hk : k = 16 ∨ k = 42 ∨ k = 49) {k2 : Int} (hk2 : k2 = 16 ∨ k2 = 42 ∨ k2 = 49) {s : SG} (hR : RefC s) : sem 19 0 [aA k, aA k2] [] s = some (aU, up (up (up (up (up (cpy (cpy (cpy (cpy (cpy (cpy s (k2 + 1) 0 (k + 1) 0 3) (k2 + 2) 0 (k + 2) 0 3) (k2 + 3) 0 (k + 3) 0 3) (k2 + 4) 0 (k + 4) 0 6) (k2 + 5) 0 (k + 5) 0 6) (k2 + 6) 0 (k + 6) 0 6) k 6 (s k2 6)) k 7 (s k2 7)) k 8 (s k2 8)) k 9 (s k2 9)) k 10 (s k2 10)) := by
  refine (x_aload f19_0 rfl rfl).trans ?_
  refine (y_get2 (ji := 0) rfl f19_1 rfl rfl).trans ?_
  refine (g_t ((kd_k hk2).1)).trans ?_
  refine (g_t (by rw [show s k2 0 = k2 + 1 from ((ref_k hR hk2).1)]; omega)).trans ?_
  rw [show s k2 0 = k2 + 1 from ((ref_k hR hk2).1)]
  refine (x_iconst f19_4 rfl).trans ?_
  refine (x_aload f19_5 rfl rfl).trans ?_
  refine (y_get2 (ji := 0) rfl f19_6 rfl rfl).trans ?_
  refine (g_t ((kd_k hk).1)).trans ?_
  refine (g_t (by rw [show s k 0 = k + 1 from ((ref_k hR hk).1)]; omega)).trans ?_
  rw [show s k 0 = k + 1 from ((ref_k hR hk).1)]
  refine (x_iconst f19_9 rfl).trans ?_
  refine (x_iconst f19_10 rfl).trans ?_
  refine (x_copy f19_11 rfl rfl).trans ?_
  refine (g_t ⟨((kd_k hk2).2.1), ((kd_k hk).2.1)⟩).trans ?_
  refine (g_t (by rw [show kl (k2 + 1) = 3 from ((kd_k hk2).2.2.1), show kl (k + 1) = 3 from ((kd_k hk).2.2.1)]; decide)).trans ?_
  refine (x_aload f19_14 rfl rfl).trans ?_
  refine (y_get2 (ji := 1) rfl f19_15 rfl rfl).trans ?_
  refine (g_t ((kd_k hk2).1)).trans ?_
  refine (g_t (by rw [show (cpy s (k2 + 1) 0 (k + 1) 0 3) k2 1 = k2 + 2 from (by rw [cpy_ne (by omega)]; exact ((ref_k hR hk2).2.1))]; omega)).trans ?_
  rw [show (cpy s (k2 + 1) 0 (k + 1) 0 3) k2 1 = k2 + 2 from (by rw [cpy_ne (by omega)]; exact ((ref_k hR hk2).2.1))]
  refine (x_iconst f19_18 rfl).trans ?_
  refine (x_aload f19_19 rfl rfl).trans ?_
  refine (y_get2 (ji := 1) rfl f19_20 rfl rfl).trans ?_
  refine (g_t ((kd_k hk).1)).trans ?_
  refine (g_t (by rw [show (cpy s (k2 + 1) 0 (k + 1) 0 3) k 1 = k + 2 from (by rw [cpy_ne (by omega)]; exact ((ref_k hR hk).2.1))]; omega)).trans ?_
  rw [show (cpy s (k2 + 1) 0 (k + 1) 0 3) k 1 = k + 2 from (by rw [cpy_ne (by omega)]; exact ((ref_k hR hk).2.1))]
  refine (x_iconst f19_23 rfl).trans ?_
  refine (x_iconst f19_24 rfl).trans ?_
  refine (x_copy f19_25 rfl rfl).trans ?_
  refine (g_t ⟨((kd_k hk2).2.2.2.1), ((kd_k hk).2.2.2.1)⟩).trans ?_
  refine (g_t (by rw [show kl (k2 + 2) = 3 from ((kd_k hk2).2.2.2.2.1), show kl (k + 2) = 3 from ((kd_k hk).2.2.2.2.1)]; decide)).trans ?_
  refine (x_aload f19_28 rfl rfl).trans ?_
  refine (y_get2 (ji := 2) rfl f19_29 rfl rfl).trans ?_
  refine (g_t ((kd_k hk2).1)).trans ?_
  refine (g_t (by rw [show (cpy (cpy s (k2 + 1) 0 (k + 1) 0 3) (k2 + 2) 0 (k + 2) 0 3) k2 2 = k2 + 3 from (by rw [cpy_ne (by omega), cpy_ne (by omega)]; exact ((ref_k hR hk2).2.2.1))]; omega)).trans ?_
  rw [show (cpy (cpy s (k2 + 1) 0 (k + 1) 0 3) (k2 + 2) 0 (k + 2) 0 3) k2 2 = k2 + 3 from (by rw [cpy_ne (by omega), cpy_ne (by omega)]; exact ((ref_k hR hk2).2.2.1))]
  refine (x_iconst f19_32 rfl).trans ?_
  refine (x_aload f19_33 rfl rfl).trans ?_
  refine (y_get2 (ji := 2) rfl f19_34 rfl rfl).trans ?_
  refine (g_t ((kd_k hk).1)).trans ?_
  refine (g_t (by rw [show (cpy (cpy s (k2 + 1) 0 (k + 1) 0 3) (k2 + 2) 0 (k + 2) 0 3) k 2 = k + 3 from (by rw [cpy_ne (by omega), cpy_ne (by omega)]; exact ((ref_k hR hk).2.2.1))]; omega)).trans ?_
  rw [show (cpy (cpy s (k2 + 1) 0 (k + 1) 0 3) (k2 + 2) 0 (k + 2) 0 3) k 2 = k + 3 from (by rw [cpy_ne (by omega), cpy_ne (by omega)]; exact ((ref_k hR hk).2.2.1))]
  refine (x_iconst f19_37 rfl).trans ?_
  refine (x_iconst f19_38 rfl).trans ?_
  refine (x_copy f19_39 rfl rfl).trans ?_
  refine (g_t ⟨((kd_k hk2).2.2.2.2.2.1), ((kd_k hk).2.2.2.2.2.1)⟩).trans ?_
  refine (g_t (by rw [show kl (k2 + 3) = 3 from ((kd_k hk2).2.2.2.2.2.2.1), show kl (k + 3) = 3 from ((kd_k hk).2.2.2.2.2.2.1)]; decide)).trans ?_
  refine (x_aload f19_42 rfl rfl).trans ?_
  refine (y_get2 (ji := 3) rfl f19_43 rfl rfl).trans ?_
  refine (g_t ((kd_k hk2).1)).trans ?_
  refine (g_t (by rw [show (cpy (cpy (cpy s (k2 + 1) 0 (k + 1) 0 3) (k2 + 2) 0 (k + 2) 0 3) (k2 + 3) 0 (k + 3) 0 3) k2 3 = k2 + 4 from (by rw [cpy_ne (by omega), cpy_ne (by omega), cpy_ne (by omega)]; exact ((ref_k hR hk2).2.2.2.1))]; omega)).trans ?_
  rw [show (cpy (cpy (cpy s (k2 + 1) 0 (k + 1) 0 3) (k2 + 2) 0 (k + 2) 0 3) (k2 + 3) 0 (k + 3) 0 3) k2 3 = k2 + 4 from (by rw [cpy_ne (by omega), cpy_ne (by omega), cpy_ne (by omega)]; exact ((ref_k hR hk2).2.2.2.1))]
  refine (x_iconst f19_46 rfl).trans ?_
  refine (x_aload f19_47 rfl rfl).trans ?_
  refine (y_get2 (ji := 3) rfl f19_48 rfl rfl).trans ?_
  refine (g_t ((kd_k hk).1)).trans ?_
  refine (g_t (by rw [show (cpy (cpy (cpy s (k2 + 1) 0 (k + 1) 0 3) (k2 + 2) 0 (k + 2) 0 3) (k2 + 3) 0 (k + 3) 0 3) k 3 = k + 4 from (by rw [cpy_ne (by omega), cpy_ne (by omega), cpy_ne (by omega)]; exact ((ref_k hR hk).2.2.2.1))]; omega)).trans ?_
  rw [show (cpy (cpy (cpy s (k2 + 1) 0 (k + 1) 0 3) (k2 + 2) 0 (k + 2) 0 3) (k2 + 3) 0 (k + 3) 0 3) k 3 = k + 4 from (by rw [cpy_ne (by omega), cpy_ne (by omega), cpy_ne (by omega)]; exact ((ref_k hR hk).2.2.2.1))]
  refine (x_iconst f19_51 rfl).trans ?_
  refine (x_iconst f19_52 rfl).trans ?_
  refine (x_copy f19_54 rfl rfl).trans ?_
  refine (g_t ⟨((kd_k hk2).2.2.2.2.2.2.2.1), ((kd_k hk).2.2.2.2.2.2.2.1)⟩).trans ?_
  refine (g_t (by rw [show kl (k2 + 4) = 6 from ((kd_k hk2).2.2.2.2.2.2.2.2.1), show kl (k + 4) = 6 from ((kd_k hk).2.2.2.2.2.2.2.2.1)]; decide)).trans ?_
  refine (x_aload f19_57 rfl rfl).trans ?_
  refine (y_get2 (ji := 4) rfl f19_58 rfl rfl).trans ?_
  refine (g_t ((kd_k hk2).1)).trans ?_
  refine (g_t (by rw [show (cpy (cpy (cpy (cpy s (k2 + 1) 0 (k + 1) 0 3) (k2 + 2) 0 (k + 2) 0 3) (k2 + 3) 0 (k + 3) 0 3) (k2 + 4) 0 (k + 4) 0 6) k2 4 = k2 + 5 from (by rw [cpy_ne (by omega), cpy_ne (by omega), cpy_ne (by omega), cpy_ne (by omega)]; exact ((ref_k hR hk2).2.2.2.2.1))]; omega)).trans ?_
  rw [show (cpy (cpy (cpy (cpy s (k2 + 1) 0 (k + 1) 0 3) (k2 + 2) 0 (k + 2) 0 3) (k2 + 3) 0 (k + 3) 0 3) (k2 + 4) 0 (k + 4) 0 6) k2 4 = k2 + 5 from (by rw [cpy_ne (by omega), cpy_ne (by omega), cpy_ne (by omega), cpy_ne (by omega)]; exact ((ref_k hR hk2).2.2.2.2.1))]
  refine (x_iconst f19_61 rfl).trans ?_
  refine (x_aload f19_62 rfl rfl).trans ?_
  refine (y_get2 (ji := 4) rfl f19_63 rfl rfl).trans ?_
  refine (g_t ((kd_k hk).1)).trans ?_
  refine (g_t (by rw [show (cpy (cpy (cpy (cpy s (k2 + 1) 0 (k + 1) 0 3) (k2 + 2) 0 (k + 2) 0 3) (k2 + 3) 0 (k + 3) 0 3) (k2 + 4) 0 (k + 4) 0 6) k 4 = k + 5 from (by rw [cpy_ne (by omega), cpy_ne (by omega), cpy_ne (by omega), cpy_ne (by omega)]; exact ((ref_k hR hk).2.2.2.2.1))]; omega)).trans ?_
  rw [show (cpy (cpy (cpy (cpy s (k2 + 1) 0 (k + 1) 0 3) (k2 + 2) 0 (k + 2) 0 3) (k2 + 3) 0 (k + 3) 0 3) (k2 + 4) 0 (k + 4) 0 6) k 4 = k + 5 from (by rw [cpy_ne (by omega), cpy_ne (by omega), cpy_ne (by omega), cpy_ne (by omega)]; exact ((ref_k hR hk).2.2.2.2.1))]
  refine (x_iconst f19_66 rfl).trans ?_
  refine (x_iconst f19_67 rfl).trans ?_
  refine (x_copy f19_69 rfl rfl).trans ?_
  refine (g_t ⟨((kd_k hk2).2.2.2.2.2.2.2.2.2.1), ((kd_k hk).2.2.2.2.2.2.2.2.2.1)⟩).trans ?_
  refine (g_t (by rw [show kl (k2 + 5) = 6 from ((kd_k hk2).2.2.2.2.2.2.2.2.2.2.1), show kl (k + 5) = 6 from ((kd_k hk).2.2.2.2.2.2.2.2.2.2.1)]; decide)).trans ?_
  refine (x_aload f19_72 rfl rfl).trans ?_
  refine (y_get2 (ji := 5) rfl f19_73 rfl rfl).trans ?_
  refine (g_t ((kd_k hk2).1)).trans ?_
  refine (g_t (by rw [show (cpy (cpy (cpy (cpy (cpy s (k2 + 1) 0 (k + 1) 0 3) (k2 + 2) 0 (k + 2) 0 3) (k2 + 3) 0 (k + 3) 0 3) (k2 + 4) 0 (k + 4) 0 6) (k2 + 5) 0 (k + 5) 0 6) k2 5 = k2 + 6 from (by rw [cpy_ne (by omega), cpy_ne (by omega), cpy_ne (by omega), cpy_ne (by omega), cpy_ne (by omega)]; exact ((ref_k hR hk2).2.2.2.2.2))]; omega)).trans ?_
  rw [show (cpy (cpy (cpy (cpy (cpy s (k2 + 1) 0 (k + 1) 0 3) (k2 + 2) 0 (k + 2) 0 3) (k2 + 3) 0 (k + 3) 0 3) (k2 + 4) 0 (k + 4) 0 6) (k2 + 5) 0 (k + 5) 0 6) k2 5 = k2 + 6 from (by rw [cpy_ne (by omega), cpy_ne (by omega), cpy_ne (by omega), cpy_ne (by omega), cpy_ne (by omega)]; exact ((ref_k hR hk2).2.2.2.2.2))]
  refine (x_iconst f19_76 rfl).trans ?_
  refine (x_aload f19_77 rfl rfl).trans ?_
  refine (y_get2 (ji := 5) rfl f19_78 rfl rfl).trans ?_
  refine (g_t ((kd_k hk).1)).trans ?_
  refine (g_t (by rw [show (cpy (cpy (cpy (cpy (cpy s (k2 + 1) 0 (k + 1) 0 3) (k2 + 2) 0 (k + 2) 0 3) (k2 + 3) 0 (k + 3) 0 3) (k2 + 4) 0 (k + 4) 0 6) (k2 + 5) 0 (k + 5) 0 6) k 5 = k + 6 from (by rw [cpy_ne (by omega), cpy_ne (by omega), cpy_ne (by omega), cpy_ne (by omega), cpy_ne (by omega)]; exact ((ref_k hR hk).2.2.2.2.2))]; omega)).trans ?_
  rw [show (cpy (cpy (cpy (cpy (cpy s (k2 + 1) 0 (k + 1) 0 3) (k2 + 2) 0 (k + 2) 0 3) (k2 + 3) 0 (k + 3) 0 3) (k2 + 4) 0 (k + 4) 0 6) (k2 + 5) 0 (k + 5) 0 6) k 5 = k + 6 from (by rw [cpy_ne (by omega), cpy_ne (by omega), cpy_ne (by omega), cpy_ne (by omega), cpy_ne (by omega)]; exact ((ref_k hR hk).2.2.2.2.2))]
  refine (x_iconst f19_81 rfl).trans ?_
  refine (x_iconst f19_82 rfl).trans ?_
  refine (x_copy f19_84 rfl rfl).trans ?_
  refine (g_t ⟨((kd_k hk2).2.2.2.2.2.2.2.2.2.2.2.1), ((kd_k hk).2.2.2.2.2.2.2.2.2.2.2.1)⟩).trans ?_
  refine (g_t (by rw [show kl (k2 + 6) = 6 from ((kd_k hk2).2.2.2.2.2.2.2.2.2.2.2.2), show kl (k + 6) = 6 from ((kd_k hk).2.2.2.2.2.2.2.2.2.2.2.2)]; decide)).trans ?_
  refine (x_aload f19_87 rfl rfl).trans ?_
  refine (x_aload f19_88 rfl rfl).trans ?_
  refine (y_get0 (ji := 6) rfl f19_89 rfl rfl).trans ?_
  refine (g_t ((kd_k hk2).1)).trans ?_
  rw [show (cpy (cpy (cpy (cpy (cpy (cpy s (k2 + 1) 0 (k + 1) 0 3) (k2 + 2) 0 (k + 2) 0 3) (k2 + 3) 0 (k + 3) 0 3) (k2 + 4) 0 (k + 4) 0 6) (k2 + 5) 0 (k + 5) 0 6) (k2 + 6) 0 (k + 6) 0 6) k2 6 = s k2 6 from by rw [cpy_ne (by omega), cpy_ne (by omega), cpy_ne (by omega), cpy_ne (by omega), cpy_ne (by omega), cpy_ne (by omega)]]
  refine (y_put0 (ji := 6) rfl f19_92 rfl rfl).trans ?_
  refine (g_t ((kd_k hk).1)).trans ?_
  refine (x_aload f19_95 rfl rfl).trans ?_
  refine (x_aload f19_96 rfl rfl).trans ?_
  refine (y_get0 (ji := 7) rfl f19_97 rfl rfl).trans ?_
  refine (g_t ((kd_k hk2).1)).trans ?_
  rw [show (up (cpy (cpy (cpy (cpy (cpy (cpy s (k2 + 1) 0 (k + 1) 0 3) (k2 + 2) 0 (k + 2) 0 3) (k2 + 3) 0 (k + 3) 0 3) (k2 + 4) 0 (k + 4) 0 6) (k2 + 5) 0 (k + 5) 0 6) (k2 + 6) 0 (k + 6) 0 6) k 6 (s k2 6)) k2 7 = s k2 7 from by rw [up_ni (by decide), cpy_ne (by omega), cpy_ne (by omega), cpy_ne (by omega), cpy_ne (by omega), cpy_ne (by omega), cpy_ne (by omega)]]
  refine (y_put0 (ji := 7) rfl f19_100 rfl rfl).trans ?_
  refine (g_t ((kd_k hk).1)).trans ?_
  refine (x_aload f19_103 rfl rfl).trans ?_
  refine (x_aload f19_104 rfl rfl).trans ?_
  refine (y_get0 (ji := 8) rfl f19_105 rfl rfl).trans ?_
  refine (g_t ((kd_k hk2).1)).trans ?_
  rw [show (up (up (cpy (cpy (cpy (cpy (cpy (cpy s (k2 + 1) 0 (k + 1) 0 3) (k2 + 2) 0 (k + 2) 0 3) (k2 + 3) 0 (k + 3) 0 3) (k2 + 4) 0 (k + 4) 0 6) (k2 + 5) 0 (k + 5) 0 6) (k2 + 6) 0 (k + 6) 0 6) k 6 (s k2 6)) k 7 (s k2 7)) k2 8 = s k2 8 from by rw [up_ni (by decide), up_ni (by decide), cpy_ne (by omega), cpy_ne (by omega), cpy_ne (by omega), cpy_ne (by omega), cpy_ne (by omega), cpy_ne (by omega)]]
  refine (y_put0 (ji := 8) rfl f19_108 rfl rfl).trans ?_
  refine (g_t ((kd_k hk).1)).trans ?_
  refine (x_aload f19_111 rfl rfl).trans ?_
  refine (x_aload f19_112 rfl rfl).trans ?_
  refine (y_get0 (ji := 9) rfl f19_113 rfl rfl).trans ?_
  refine (g_t ((kd_k hk2).1)).trans ?_
  rw [show (up (up (up (cpy (cpy (cpy (cpy (cpy (cpy s (k2 + 1) 0 (k + 1) 0 3) (k2 + 2) 0 (k + 2) 0 3) (k2 + 3) 0 (k + 3) 0 3) (k2 + 4) 0 (k + 4) 0 6) (k2 + 5) 0 (k + 5) 0 6) (k2 + 6) 0 (k + 6) 0 6) k 6 (s k2 6)) k 7 (s k2 7)) k 8 (s k2 8)) k2 9 = s k2 9 from by rw [up_ni (by decide), up_ni (by decide), up_ni (by decide), cpy_ne (by omega), cpy_ne (by omega), cpy_ne (by omega), cpy_ne (by omega), cpy_ne (by omega), cpy_ne (by omega)]]
  refine (y_put0 (ji := 9) rfl f19_116 rfl rfl).trans ?_
  refine (g_t ((kd_k hk).1)).trans ?_
  refine (x_aload f19_119 rfl rfl).trans ?_
  refine (x_aload f19_120 rfl rfl).trans ?_
  refine (y_get0 (ji := 10) rfl f19_121 rfl rfl).trans ?_
  refine (g_t ((kd_k hk2).1)).trans ?_
  rw [show (up (up (up (up (cpy (cpy (cpy (cpy (cpy (cpy s (k2 + 1) 0 (k + 1) 0 3) (k2 + 2) 0 (k + 2) 0 3) (k2 + 3) 0 (k + 3) 0 3) (k2 + 4) 0 (k + 4) 0 6) (k2 + 5) 0 (k + 5) 0 6) (k2 + 6) 0 (k + 6) 0 6) k 6 (s k2 6)) k 7 (s k2 7)) k 8 (s k2 8)) k 9 (s k2 9)) k2 10 = s k2 10 from by rw [up_ni (by decide), up_ni (by decide), up_ni (by decide), up_ni (by decide), cpy_ne (by omega), cpy_ne (by omega), cpy_ne (by omega), cpy_ne (by omega), cpy_ne (by omega), cpy_ne (by omega)]]
  refine (y_put0 (ji := 10) rfl f19_124 rfl rfl).trans ?_
  refine (g_t ((kd_k hk).1)).trans ?_
  exact x_return f19_127 rfl
set_option maxRecDepth 10000 in
theorem g21_0 {k : Int} (hk : k = 16 ∨ k = 42 ∨ k = 49) {s : SG} (hR : RefC s) (l1 : Int) : sem 21 0 [aA k, aI l1] [] s = bnI (sem 139 0 [aI l1] [] s) fun a2 s1 => if a2 = 0 then some (aI 0, s1) else grd ((0 : Int) ≤ l1 ∧ l1 < 3) (some (aI (s1 (k + 1) l1), s1)) := by
  refine (x_iload f21_0 rfl rfl).trans ?_
  refine (x_invokestatic (G := bnI (sem 139 0 [aI l1] [] s) fun a2 s1 => sem 21 4 [aA k, aI l1] [aI a2] s1) f21_1 rfl rfl).trans ?_
  refine bI_h fun a2 s1 qs1 => ?_
  have rs1 := RefC.sem qs1 rfl hR
  refine (x_if_eq (tg := 16) f21_4 rfl rfl).trans (i_c ?_ ?_)
  · refine (x_iconst f21_16 rfl).trans ?_
    refine (x_kil (l2 := [aU, aU]) f21_17 rfl).trans ?_
    exact x_ireturn f21_17 rfl
  · refine (x_aload f21_7 rfl rfl).trans ?_
    refine (y_get2 (ji := 0) rfl f21_8 rfl rfl).trans ?_
    refine (g_t ((kd_k hk).1)).trans ?_
    refine (g_t (by rw [show s1 k 0 = k + 1 from ((ref_k rs1 hk).1)]; omega)).trans ?_
    rw [show s1 k 0 = k + 1 from ((ref_k rs1 hk).1)]
    refine (x_iload f21_11 rfl rfl).trans ?_
    refine (x_iaload f21_12 rfl).trans ?_
    refine (g_t ((kd_k hk).2.1)).trans ?_
    refine g_kl (n := 3) ((kd_k hk).2.2.1) fun hg3 => ?_
    refine (x_goto (tg := 17) f21_13 rfl rfl).trans ?_
    refine (x_kil (l2 := [aU, aU]) f21_17 rfl).trans ?_
    exact x_ireturn f21_17 rfl
set_option maxRecDepth 10000 in
theorem g22_0 {k : Int} (hk : k = 16 ∨ k = 42 ∨ k = 49) {s : SG} (hR : RefC s) (l1 : Int) : sem 22 0 [aA k, aI l1] [] s = bnI (sem 139 0 [aI l1] [] s) fun a2 s1 => if a2 = 0 then some (aI 0, s1) else grd ((0 : Int) ≤ l1 ∧ l1 < 3) (some (aI (s1 (k + 2) l1), s1)) := by
  refine (x_iload f22_0 rfl rfl).trans ?_
  refine (x_invokestatic (G := bnI (sem 139 0 [aI l1] [] s) fun a2 s1 => sem 22 4 [aA k, aI l1] [aI a2] s1) f22_1 rfl rfl).trans ?_
  refine bI_h fun a2 s1 qs1 => ?_
  have rs1 := RefC.sem qs1 rfl hR
  refine (x_if_eq (tg := 16) f22_4 rfl rfl).trans (i_c ?_ ?_)
  · refine (x_iconst f22_16 rfl).trans ?_
    refine (x_kil (l2 := [aU, aU]) f22_17 rfl).trans ?_
    exact x_ireturn f22_17 rfl
  · refine (x_aload f22_7 rfl rfl).trans ?_
    refine (y_get2 (ji := 1) rfl f22_8 rfl rfl).trans ?_
    refine (g_t ((kd_k hk).1)).trans ?_
    refine (g_t (by rw [show s1 k 1 = k + 2 from ((ref_k rs1 hk).2.1)]; omega)).trans ?_
    rw [show s1 k 1 = k + 2 from ((ref_k rs1 hk).2.1)]
    refine (x_iload f22_11 rfl rfl).trans ?_
    refine (x_iaload f22_12 rfl).trans ?_
    refine (g_t ((kd_k hk).2.2.2.1)).trans ?_
    refine g_kl (n := 3) ((kd_k hk).2.2.2.2.1) fun hg3 => ?_
    refine (x_goto (tg := 17) f22_13 rfl rfl).trans ?_
    refine (x_kil (l2 := [aU, aU]) f22_17 rfl).trans ?_
    exact x_ireturn f22_17 rfl
set_option maxRecDepth 10000 in
theorem g23_0 {k : Int} (hk : k = 16 ∨ k = 42 ∨ k = 49) {s : SG} (hR : RefC s) (l1 l2 : Int) : sem 23 0 [aA k, aI l1, aI l2] [] s = bnI (sem 139 0 [aI l1] [] s) fun a2 s1 => if a2 = 0 then some (aI 0, s1) else bnI (sem 141 0 [aI l2] [] s1) fun a4 s3 => if a4 = 0 then some (aI 0, s3) else grd ((0 : Int) ≤ l1 ∧ l1 < 3) (if (iandA (ishrA (s3 (k + 3) l1) l2) 1) = 1 then some (aI 1, s3) else some (aI 0, s3)) := by
  refine (x_iload f23_0 rfl rfl).trans ?_
  refine (x_invokestatic (G := bnI (sem 139 0 [aI l1] [] s) fun a2 s1 => sem 23 4 [aA k, aI l1, aI l2] [aI a2] s1) f23_1 rfl rfl).trans ?_
  refine bI_h fun a2 s1 qs1 => ?_
  have rs1 := RefC.sem qs1 rfl hR
  refine (x_if_eq (tg := 32) f23_4 rfl rfl).trans (i_c ?_ ?_)
  · refine (x_kil (l2 := [aU, aU, aU]) f23_32 rfl).trans ?_
    refine (x_iconst f23_32 rfl).trans ?_
    exact x_zreturn0 f23_33 rfl
  · refine (x_iload f23_7 rfl rfl).trans ?_
    refine (x_invokestatic (G := bnI (sem 141 0 [aI l2] [] s1) fun a4 s3 => sem 23 11 [aA k, aI l1, aI l2] [aI a4] s3) f23_8 rfl rfl).trans ?_
    refine bI_h fun a4 s3 qs3 => ?_
    have rs3 := RefC.sem qs3 rfl rs1
    refine (x_if_eq (tg := 32) f23_11 rfl rfl).trans (i_c ?_ ?_)
    · refine (x_kil (l2 := [aU, aU, aU]) f23_32 rfl).trans ?_
      refine (x_iconst f23_32 rfl).trans ?_
      exact x_zreturn0 f23_33 rfl
    · refine (x_aload f23_14 rfl rfl).trans ?_
      refine (y_get2 (ji := 2) rfl f23_15 rfl rfl).trans ?_
      refine (g_t ((kd_k hk).1)).trans ?_
      refine (g_t (by rw [show s3 k 2 = k + 3 from ((ref_k rs3 hk).2.2.1)]; omega)).trans ?_
      rw [show s3 k 2 = k + 3 from ((ref_k rs3 hk).2.2.1)]
      refine (x_iload f23_18 rfl rfl).trans ?_
      refine (x_iaload f23_19 rfl).trans ?_
      refine (g_t ((kd_k hk).2.2.2.2.2.1)).trans ?_
      refine g_kl (n := 3) ((kd_k hk).2.2.2.2.2.2.1) fun hg5 => ?_
      refine (x_iload f23_20 rfl rfl).trans ?_
      refine (x_ishr f23_21 rfl).trans ?_
      refine (x_iconst f23_22 rfl).trans ?_
      refine (x_iand f23_23 rfl).trans ?_
      refine (x_iconst f23_24 rfl).trans ?_
      refine (x_icmp_ne (tg := 32) f23_25 rfl rfl).trans (i_c ?_ ?_)
      · refine (x_iconst f23_28 rfl).trans ?_
        refine (x_goto (tg := 33) f23_29 rfl rfl).trans ?_
        refine (x_kil (l2 := [aU, aU, aU]) f23_33 rfl).trans ?_
        exact x_zreturn1 f23_33 rfl
      · refine (x_kil (l2 := [aU, aU, aU]) f23_32 rfl).trans ?_
        refine (x_iconst f23_32 rfl).trans ?_
        exact x_zreturn0 f23_33 rfl
set_option maxRecDepth 10000 in
theorem g24_0 {k : Int} (hk : k = 16 ∨ k = 42 ∨ k = 49) {s : SG} (hR : RefC s) (l1 l2 : Int) : sem 24 0 [aA k, aI l1, aI l2, aU] [] s = bnI (sem 21 0 [aA k, aI l1] [] s) fun a2 s1 => bnI (sem 139 0 [aI l1] [] s1) fun a4 s3 => if a4 = 0 then some (aI a2, s3) else grd ((0 : Int) ≤ l1 ∧ l1 < 3) (some (aI a2, up s3 (k + 1) l1 l2)) := by
  refine (x_aload f24_0 rfl rfl).trans ?_
  refine (x_iload f24_1 rfl rfl).trans ?_
  refine (x_invokevirtual (G := grd (kd k = 1) (bnI (sem 21 0 [aA k, aI l1] [] s) fun a2 s1 => sem 24 5 [aA k, aI l1, aI l2, aU] [aI a2] s1)) f24_2 rfl rfl).trans ?_
  refine (g_t ((kd_k hk).1)).trans ?_
  refine bI_h fun a2 s1 qs1 => ?_
  have rs1 := RefC.sem qs1 rfl hR
  refine (x_istore (l2 := [aA k, aI l1, aI l2, aI a2]) f24_5 rfl rfl).trans ?_
  refine (x_iload f24_6 rfl rfl).trans ?_
  refine (x_invokestatic (G := bnI (sem 139 0 [aI l1] [] s1) fun a4 s3 => sem 24 10 [aA k, aI l1, aI l2, aI a2] [aI a4] s3) f24_7 rfl rfl).trans ?_
  refine bI_h fun a4 s3 qs3 => ?_
  have rs3 := RefC.sem qs3 rfl rs1
  refine (x_if_eq (tg := 20) f24_10 rfl rfl).trans (i_c ?_ ?_)
  · refine (x_kil (l2 := [aU, aU, aU, aI a2]) f24_20 rfl).trans ?_
    refine (x_iload f24_20 rfl rfl).trans ?_
    exact x_ireturn f24_21 rfl
  · refine (x_aload f24_13 rfl rfl).trans ?_
    refine (y_get2 (ji := 0) rfl f24_14 rfl rfl).trans ?_
    refine (g_t ((kd_k hk).1)).trans ?_
    refine (g_t (by rw [show s3 k 0 = k + 1 from ((ref_k rs3 hk).1)]; omega)).trans ?_
    rw [show s3 k 0 = k + 1 from ((ref_k rs3 hk).1)]
    refine (x_iload f24_17 rfl rfl).trans ?_
    refine (x_iload f24_18 rfl rfl).trans ?_
    refine (x_iastore f24_19 rfl).trans ?_
    refine (g_t ((kd_k hk).2.1)).trans ?_
    refine g_kl (n := 3) ((kd_k hk).2.2.1) fun hg5 => ?_
    refine (x_kil (l2 := [aU, aU, aU, aI a2]) f24_20 rfl).trans ?_
    refine (x_iload f24_20 rfl rfl).trans ?_
    exact x_ireturn f24_21 rfl
set_option maxRecDepth 10000 in
theorem g25_0 {k : Int} (hk : k = 16 ∨ k = 42 ∨ k = 49) {s : SG} (hR : RefC s) (l1 l2 : Int) : sem 25 0 [aA k, aI l1, aI l2, aU] [] s = bnI (sem 139 0 [aI l1] [] s) fun a2 s1 => if a2 = 0 then some (aI 0, s1) else grd ((0 : Int) ≤ l1 ∧ l1 < 3) (some (aI (s1 (k + 3) l1), up s1 (k + 3) l1 l2)) := by
  refine (x_iload f25_0 rfl rfl).trans ?_
  refine (x_invokestatic (G := bnI (sem 139 0 [aI l1] [] s) fun a2 s1 => sem 25 4 [aA k, aI l1, aI l2, aU] [aI a2] s1) f25_1 rfl rfl).trans ?_
  refine bI_h fun a2 s1 qs1 => ?_
  have rs1 := RefC.sem qs1 rfl hR
  refine (x_if_ne (tg := 9) f25_4 rfl rfl).trans (i_c ?_ ?_)
  · refine (x_iconst f25_7 rfl).trans ?_
    exact x_ireturn f25_8 rfl
  · refine (x_aload f25_9 rfl rfl).trans ?_
    refine (y_get2 (ji := 2) rfl f25_10 rfl rfl).trans ?_
    refine (g_t ((kd_k hk).1)).trans ?_
    refine (g_t (by rw [show s1 k 2 = k + 3 from ((ref_k rs1 hk).2.2.1)]; omega)).trans ?_
    rw [show s1 k 2 = k + 3 from ((ref_k rs1 hk).2.2.1)]
    refine (x_iload f25_13 rfl rfl).trans ?_
    refine (x_iaload f25_14 rfl).trans ?_
    refine (g_t ((kd_k hk).2.2.2.2.2.1)).trans ?_
    refine g_kl (n := 3) ((kd_k hk).2.2.2.2.2.2.1) fun hg3 => ?_
    refine (x_istore (l2 := [aA k, aI l1, aI l2, aI (s1 (k + 3) l1)]) f25_15 rfl rfl).trans ?_
    refine (x_aload f25_16 rfl rfl).trans ?_
    refine (y_get2 (ji := 2) rfl f25_17 rfl rfl).trans ?_
    refine (g_t ((kd_k hk).1)).trans ?_
    refine (g_t (by rw [show s1 k 2 = k + 3 from ((ref_k rs1 hk).2.2.1)]; omega)).trans ?_
    rw [show s1 k 2 = k + 3 from ((ref_k rs1 hk).2.2.1)]
    refine (x_iload f25_20 rfl rfl).trans ?_
    refine (x_iload f25_21 rfl rfl).trans ?_
    refine (x_iastore f25_22 rfl).trans ?_
    refine (g_t ((kd_k hk).2.2.2.2.2.1)).trans ?_
    refine (g_kt (n := 3) ((kd_k hk).2.2.2.2.2.2.1) hg3).trans ?_
    refine (x_iload f25_23 rfl rfl).trans ?_
    exact x_ireturn f25_24 rfl
set_option maxRecDepth 10000 in
theorem g26_0 {k : Int} (hk : k = 16 ∨ k = 42 ∨ k = 49) {s : SG} (hR : RefC s) (l1 l2 l3 : Int) : sem 26 0 [aA k, aI l1, aI l2, aI l3] [] s = if (s k 10) < 6 then grd ((0 : Int) ≤ (s k 10) ∧ (s k 10) < 6) (some (aI 1, up (up (up (up s (k + 4) (s k 10) l1) (k + 5) (s k 10) l2) (k + 6) (s k 10) l3) k 10 (w32 ((s k 10) + 1)))) else some (aI 0, s) := by
  refine (x_aload f26_0 rfl rfl).trans ?_
  refine (y_get0 (ji := 10) rfl f26_1 rfl rfl).trans ?_
  refine (g_t ((kd_k hk).1)).trans ?_
  refine (x_iconst f26_4 rfl).trans ?_
  refine (x_icmp_lt (tg := 11) f26_6 rfl rfl).trans (i_c ?_ ?_)
  · refine (x_aload f26_11 rfl rfl).trans ?_
    refine (y_get2 (ji := 3) rfl f26_12 rfl rfl).trans ?_
    refine (g_t ((kd_k hk).1)).trans ?_
    refine (g_t (by rw [show s k 3 = k + 4 from ((ref_k hR hk).2.2.2.1)]; omega)).trans ?_
    rw [show s k 3 = k + 4 from ((ref_k hR hk).2.2.2.1)]
    refine (x_aload f26_15 rfl rfl).trans ?_
    refine (y_get0 (ji := 10) rfl f26_16 rfl rfl).trans ?_
    refine (g_t ((kd_k hk).1)).trans ?_
    refine (x_iload f26_19 rfl rfl).trans ?_
    refine (x_iastore f26_20 rfl).trans ?_
    refine (g_t ((kd_k hk).2.2.2.2.2.2.2.1)).trans ?_
    refine g_kl (n := 6) ((kd_k hk).2.2.2.2.2.2.2.2.1) fun hg1 => ?_
    refine (x_aload f26_21 rfl rfl).trans ?_
    refine (y_get2 (ji := 4) rfl f26_22 rfl rfl).trans ?_
    refine (g_t ((kd_k hk).1)).trans ?_
    refine (g_t (by rw [show (up s (k + 4) (s k 10) l1) k 4 = k + 5 from (by rw [up_ne (by omega)]; exact ((ref_k hR hk).2.2.2.2.1))]; omega)).trans ?_
    rw [show (up s (k + 4) (s k 10) l1) k 4 = k + 5 from (by rw [up_ne (by omega)]; exact ((ref_k hR hk).2.2.2.2.1))]
    refine (x_aload f26_25 rfl rfl).trans ?_
    refine (y_get0 (ji := 10) rfl f26_26 rfl rfl).trans ?_
    refine (g_t ((kd_k hk).1)).trans ?_
    rw [show (up s (k + 4) (s k 10) l1) k 10 = s k 10 from by rw [up_ne (by omega)]]
    refine (x_iload f26_29 rfl rfl).trans ?_
    refine (x_iastore f26_30 rfl).trans ?_
    refine (g_t ((kd_k hk).2.2.2.2.2.2.2.2.2.1)).trans ?_
    refine (g_kt (n := 6) ((kd_k hk).2.2.2.2.2.2.2.2.2.2.1) hg1).trans ?_
    refine (x_aload f26_31 rfl rfl).trans ?_
    refine (y_get2 (ji := 5) rfl f26_32 rfl rfl).trans ?_
    refine (g_t ((kd_k hk).1)).trans ?_
    refine (g_t (by rw [show (up (up s (k + 4) (s k 10) l1) (k + 5) (s k 10) l2) k 5 = k + 6 from (by rw [up_ne (by omega), up_ne (by omega)]; exact ((ref_k hR hk).2.2.2.2.2))]; omega)).trans ?_
    rw [show (up (up s (k + 4) (s k 10) l1) (k + 5) (s k 10) l2) k 5 = k + 6 from (by rw [up_ne (by omega), up_ne (by omega)]; exact ((ref_k hR hk).2.2.2.2.2))]
    refine (x_aload f26_35 rfl rfl).trans ?_
    refine (y_get0 (ji := 10) rfl f26_36 rfl rfl).trans ?_
    refine (g_t ((kd_k hk).1)).trans ?_
    rw [show (up (up s (k + 4) (s k 10) l1) (k + 5) (s k 10) l2) k 10 = s k 10 from by rw [up_ne (by omega), up_ne (by omega)]]
    refine (x_iload f26_39 rfl rfl).trans ?_
    refine (x_iastore f26_40 rfl).trans ?_
    refine (g_t ((kd_k hk).2.2.2.2.2.2.2.2.2.2.2.1)).trans ?_
    refine (g_kt (n := 6) ((kd_k hk).2.2.2.2.2.2.2.2.2.2.2.2) hg1).trans ?_
    refine (x_aload f26_41 rfl rfl).trans ?_
    refine (x_dup f26_42 rfl rfl).trans ?_
    refine (y_get0 (ji := 10) rfl f26_43 rfl rfl).trans ?_
    refine (g_t ((kd_k hk).1)).trans ?_
    rw [show (up (up (up s (k + 4) (s k 10) l1) (k + 5) (s k 10) l2) (k + 6) (s k 10) l3) k 10 = s k 10 from by rw [up_ne (by omega), up_ne (by omega), up_ne (by omega)]]
    refine (x_iconst f26_46 rfl).trans ?_
    refine (x_iadd f26_47 rfl).trans ?_
    refine (y_put0 (ji := 10) rfl f26_48 rfl rfl).trans ?_
    refine (g_t ((kd_k hk).1)).trans ?_
    refine (x_iconst f26_51 rfl).trans ?_
    exact x_zreturn1 f26_52 rfl
  · refine (x_iconst f26_9 rfl).trans ?_
    exact x_zreturn0 f26_10 rfl
set_option maxRecDepth 10000 in
theorem g27_0 {k : Int} (hk : k = 16 ∨ k = 42 ∨ k = 49) {s : SG} (hR : RefC s) : sem 27 0 [aA k, aU, aU] [] s = sem 27 4 [aA k, aI 0, aI 0] [] s := by
  refine (x_iconst f27_0 rfl).trans ?_
  refine (x_istore (l2 := [aA k, aI 0, aU]) f27_1 rfl rfl).trans ?_
  refine (x_iconst f27_2 rfl).trans ?_
  refine (x_istore (l2 := [aA k, aI 0, aI 0]) f27_3 rfl rfl).trans ?_
  rfl
set_option maxRecDepth 10000 in
theorem g27_4 {k : Int} (hk : k = 16 ∨ k = 42 ∨ k = 49) {s : SG} (hR : RefC s) (l1 l2 : Int) : sem 27 4 [aA k, aI l1, aI l2] [] s = if l2 < 3 then grd ((0 : Int) ≤ l2 ∧ l2 < 3) (sem 27 4 [aA k, aI (w32 (l1 + (s (k + 1) l2))), aI (w32 (l2 + 1))] [] s) else some (aI l1, s) := by
  refine (x_iload f27_4 rfl rfl).trans ?_
  refine (x_iconst f27_5 rfl).trans ?_
  refine (x_icmp_ge (tg := 24) f27_6 rfl rfl).trans (i_c ?_ ?_)
  · refine (x_iload f27_9 rfl rfl).trans ?_
    refine (x_aload f27_10 rfl rfl).trans ?_
    refine (y_get2 (ji := 0) rfl f27_11 rfl rfl).trans ?_
    refine (g_t ((kd_k hk).1)).trans ?_
    refine (g_t (by rw [show s k 0 = k + 1 from ((ref_k hR hk).1)]; omega)).trans ?_
    rw [show s k 0 = k + 1 from ((ref_k hR hk).1)]
    refine (x_iload f27_14 rfl rfl).trans ?_
    refine (x_iaload f27_15 rfl).trans ?_
    refine (g_t ((kd_k hk).2.1)).trans ?_
    refine g_kl (n := 3) ((kd_k hk).2.2.1) fun hg1 => ?_
    refine (x_iadd f27_16 rfl).trans ?_
    refine (x_istore (l2 := [aA k, aI (w32 (l1 + (s (k + 1) l2))), aI l2]) f27_17 rfl rfl).trans ?_
    refine (x_iinc (l2 := [aA k, aI (w32 (l1 + (s (k + 1) l2))), aI (w32 (l2 + 1))]) f27_18 rfl rfl rfl).trans ?_
    refine (x_goto (tg := 4) f27_21 rfl rfl).trans ?_
    rfl
  · refine (x_iload f27_24 rfl rfl).trans ?_
    exact x_ireturn f27_25 rfl
set_option maxRecDepth 10000 in
theorem g28_0 {k : Int} (hk : k = 16 ∨ k = 42 ∨ k = 49) {s : SG} (hR : RefC s) (l1 l2 : Int) : sem 28 0 [aA k, aI l1, aI l2, aU] [] s = bnI (sem 139 0 [aI l1] [] s) fun a2 s1 => if a2 = 0 then some (aI 0, s1) else grd ((0 : Int) ≤ l1 ∧ l1 < 3) (if (if l2 = 0 then max (w32 ((s1 (k + 2) l1) - 1)) 0 else min (w32 ((s1 (k + 2) l1) + 1)) 9 : Int) < (s1 (k + 2) l1) then some (aI 1, up s1 (k + 2) l1 (if l2 = 0 then max (w32 ((s1 (k + 2) l1) - 1)) 0 else min (w32 ((s1 (k + 2) l1) + 1)) 9)) else some (aI 0, up s1 (k + 2) l1 (if l2 = 0 then max (w32 ((s1 (k + 2) l1) - 1)) 0 else min (w32 ((s1 (k + 2) l1) + 1)) 9))) := by
  refine (x_iload f28_0 rfl rfl).trans ?_
  refine (x_invokestatic (G := bnI (sem 139 0 [aI l1] [] s) fun a2 s1 => sem 28 4 [aA k, aI l1, aI l2, aU] [aI a2] s1) f28_1 rfl rfl).trans ?_
  refine bI_h fun a2 s1 qs1 => ?_
  have rs1 := RefC.sem qs1 rfl hR
  refine (x_if_ne (tg := 9) f28_4 rfl rfl).trans (i_c ?_ ?_)
  · refine (x_iconst f28_7 rfl).trans ?_
    exact x_zreturn0 f28_8 rfl
  · refine (x_aload f28_9 rfl rfl).trans ?_
    refine (y_get2 (ji := 1) rfl f28_10 rfl rfl).trans ?_
    refine (g_t ((kd_k hk).1)).trans ?_
    refine (g_t (by rw [show s1 k 1 = k + 2 from ((ref_k rs1 hk).2.1)]; omega)).trans ?_
    rw [show s1 k 1 = k + 2 from ((ref_k rs1 hk).2.1)]
    refine (x_iload f28_13 rfl rfl).trans ?_
    refine (x_iaload f28_14 rfl).trans ?_
    refine (g_t ((kd_k hk).2.2.2.1)).trans ?_
    refine g_kl (n := 3) ((kd_k hk).2.2.2.2.1) fun hg3 => ?_
    refine (x_istore (l2 := [aA k, aI l1, aI l2, aI (s1 (k + 2) l1)]) f28_15 rfl rfl).trans ?_
    refine (x_aload f28_16 rfl rfl).trans ?_
    refine (y_get2 (ji := 1) rfl f28_17 rfl rfl).trans ?_
    refine (g_t ((kd_k hk).1)).trans ?_
    refine (g_t (by rw [show s1 k 1 = k + 2 from ((ref_k rs1 hk).2.1)]; omega)).trans ?_
    rw [show s1 k 1 = k + 2 from ((ref_k rs1 hk).2.1)]
    refine (x_iload f28_20 rfl rfl).trans ?_
    refine (x_iload f28_21 rfl rfl).trans ?_
    refine (x_if_eq (tg := 36) f28_22 rfl rfl).trans ?_
    refine Eq.trans (b := if l2 = 0 then sem 28 43 [aA k, aI l1, aU, aI (s1 (k + 2) l1)] [aI (max (w32 ((s1 (k + 2) l1) - 1)) 0), aI l1, aA (k + 2)] s1 else sem 28 43 [aA k, aI l1, aU, aI (s1 (k + 2) l1)] [aI (min (w32 ((s1 (k + 2) l1) + 1)) 9), aI l1, aA (k + 2)] s1) (i_c ?_ ?_) ?_
    · refine (x_iload f28_36 rfl rfl).trans ?_
      refine (x_iconst f28_37 rfl).trans ?_
      refine (x_isub f28_38 rfl).trans ?_
      refine (x_iconst f28_39 rfl).trans ?_
      refine (x_fadd f28_40 rfl rfl).trans ?_
      exact x_kil f28_43 rfl
    · refine (x_iload f28_25 rfl rfl).trans ?_
      refine (x_iconst f28_26 rfl).trans ?_
      refine (x_iadd f28_27 rfl).trans ?_
      refine (x_iconst f28_28 rfl).trans ?_
      refine (x_fsub f28_30 rfl rfl).trans ?_
      refine (x_goto (tg := 43) f28_33 rfl rfl).trans ?_
      exact x_kil f28_43 rfl
    refine m_I.trans ?_
    refine (x_iastore f28_43 rfl).trans ?_
    refine (g_t ((kd_k hk).2.2.2.1)).trans ?_
    refine (g_kt (n := 3) ((kd_k hk).2.2.2.2.1) hg3).trans ?_
    refine (x_aload f28_44 rfl rfl).trans ?_
    refine (y_get2 (ji := 1) rfl f28_45 rfl rfl).trans ?_
    refine (g_t ((kd_k hk).1)).trans ?_
    refine (g_t (by rw [show (up s1 (k + 2) l1 (if l2 = 0 then max (w32 ((s1 (k + 2) l1) - 1)) 0 else min (w32 ((s1 (k + 2) l1) + 1)) 9)) k 1 = k + 2 from (by rw [up_ne (by omega)]; exact ((ref_k rs1 hk).2.1))]; omega)).trans ?_
    rw [show (up s1 (k + 2) l1 (if l2 = 0 then max (w32 ((s1 (k + 2) l1) - 1)) 0 else min (w32 ((s1 (k + 2) l1) + 1)) 9)) k 1 = k + 2 from (by rw [up_ne (by omega)]; exact ((ref_k rs1 hk).2.1))]
    refine (x_iload f28_48 rfl rfl).trans ?_
    refine (x_iaload f28_49 rfl).trans ?_
    refine (g_t ((kd_k hk).2.2.2.1)).trans ?_
    refine (g_kt (n := 3) ((kd_k hk).2.2.2.2.1) hg3).trans ?_
    rw [show (up s1 (k + 2) l1 (if l2 = 0 then max (w32 ((s1 (k + 2) l1) - 1)) 0 else min (w32 ((s1 (k + 2) l1) + 1)) 9)) (k + 2) l1 = if l2 = 0 then max (w32 ((s1 (k + 2) l1) - 1)) 0 else min (w32 ((s1 (k + 2) l1) + 1)) 9 from by rw [up_at]]
    refine (x_iload f28_50 rfl rfl).trans ?_
    refine (x_icmp_ge (tg := 58) f28_51 rfl rfl).trans (i_c ?_ ?_)
    · refine (x_iconst f28_54 rfl).trans ?_
      refine (x_goto (tg := 59) f28_55 rfl rfl).trans ?_
      refine (x_kil (l2 := [aU, aU, aU, aU]) f28_59 rfl).trans ?_
      exact x_zreturn1 f28_59 rfl
    · refine (x_iconst f28_58 rfl).trans ?_
      refine (x_kil (l2 := [aU, aU, aU, aU]) f28_59 rfl).trans ?_
      exact x_zreturn0 f28_59 rfl
set_option maxRecDepth 10000 in
theorem g29_0 {k : Int} (hk : k = 16 ∨ k = 42 ∨ k = 49) {s : SG} (hR : RefC s) (l1 l2 : Int) : sem 29 0 [aA k, aI l1, aI l2, aU] [] s = bnI (sem 22 0 [aA k, aI l1] [] s) fun a2 s1 => if a2 < 3 then some (aI (max (w32 (l2 - 1)) 0), s1) else if (7 : Int) < a2 then some (aI (w32 (l2 + 1)), s1) else some (aI l2, s1) := by
  refine (x_aload f29_0 rfl rfl).trans ?_
  refine (x_iload f29_1 rfl rfl).trans ?_
  refine (x_invokevirtual (G := grd (kd k = 1) (bnI (sem 22 0 [aA k, aI l1] [] s) fun a2 s1 => sem 29 5 [aA k, aI l1, aI l2, aU] [aI a2] s1)) f29_2 rfl rfl).trans ?_
  refine (g_t ((kd_k hk).1)).trans ?_
  refine bI_h fun a2 s1 qs1 => ?_
  have rs1 := RefC.sem qs1 rfl hR
  refine (x_istore (l2 := [aA k, aI l1, aI l2, aI a2]) f29_5 rfl rfl).trans ?_
  refine (x_iload f29_6 rfl rfl).trans ?_
  refine (x_iconst f29_7 rfl).trans ?_
  refine (x_icmp_ge (tg := 19) f29_8 rfl rfl).trans (i_c ?_ ?_)
  · refine (x_iload f29_11 rfl rfl).trans ?_
    refine (x_iconst f29_12 rfl).trans ?_
    refine (x_isub f29_13 rfl).trans ?_
    refine (x_iconst f29_14 rfl).trans ?_
    refine (x_fadd f29_15 rfl rfl).trans ?_
    exact x_ireturn f29_18 rfl
  · refine (x_iload f29_19 rfl rfl).trans ?_
    refine (x_iconst f29_20 rfl).trans ?_
    refine (x_icmp_le (tg := 31) f29_22 rfl rfl).trans (i_c ?_ ?_)
    · refine (x_iload f29_25 rfl rfl).trans ?_
      refine (x_iconst f29_26 rfl).trans ?_
      refine (x_iadd f29_27 rfl).trans ?_
      refine (x_goto (tg := 32) f29_28 rfl rfl).trans ?_
      refine (x_kil (l2 := [aU, aU, aU, aU]) f29_32 rfl).trans ?_
      exact x_ireturn f29_32 rfl
    · refine (x_iload f29_31 rfl rfl).trans ?_
      refine (x_kil (l2 := [aU, aU, aU, aU]) f29_32 rfl).trans ?_
      exact x_ireturn f29_32 rfl
set_option maxRecDepth 10000 in
theorem g31_0 {s : SG} (hR : RefC s) : sem 31 0 [aA 3] [] s = some (aI (s 3 2), s) := by
  refine (x_aload f31_0 rfl rfl).trans ?_
  refine (y_get0 (ji := 2) rfl f31_1 rfl rfl).trans ?_
  refine (g_t rfl).trans ?_
  exact x_ireturn f31_4 rfl
set_option maxRecDepth 10000 in
theorem g32_0 {t : Int} (ht : t = 32 ∨ t = 37) {s : SG} (hR : RefC s) : sem 32 0 [aA 3, aA 1, aA t, aU] [] s = sem 32 12 [aA 3, aA 1, aA t, aI 0] [] (up (up s 3 1 0) 3 2 0) := by
  refine (x_aload f32_0 rfl rfl).trans ?_
  refine (x_iconst f32_1 rfl).trans ?_
  refine (y_put0 (ji := 1) rfl f32_2 rfl rfl).trans ?_
  refine (g_t rfl).trans ?_
  refine (x_aload f32_5 rfl rfl).trans ?_
  refine (x_iconst f32_6 rfl).trans ?_
  refine (y_put0 (ji := 2) rfl f32_7 rfl rfl).trans ?_
  refine (g_t rfl).trans ?_
  refine (x_iconst f32_10 rfl).trans ?_
  refine (x_istore (l2 := [aA 3, aA 1, aA t, aI 0]) f32_11 rfl rfl).trans ?_
  rfl
set_option maxRecDepth 10000 in
theorem g32_12 {t : Int} (ht : t = 32 ∨ t = 37) {s : SG} (hR : RefC s) (l3 : Int) : sem 32 12 [aA 3, aA 1, aA t, aI l3] [] s = if l3 < 18 then grd ((0 : Int) ≤ l3 ∧ l3 < 18) (sem 32 12 [aA 3, aA 1, aA t, aI (w32 (l3 + 1))] [] (up s 4 l3 0)) else bnV (sem 81 0 [aA t] [] s) fun s2 => bnI (sem 33 0 [aA 3, aA 1, aA t, aU] [] s2) fun a4 s3 => if a4 = 0 then some (aI (s3 3 1), s3) else sem 32 54 [aA 3, aA 1, aA t, aU] [] (up s3 3 2 1) := by
  refine (x_iload f32_12 rfl rfl).trans ?_
  refine (x_iconst f32_13 rfl).trans ?_
  refine (x_icmp_ge (tg := 31) f32_15 rfl rfl).trans (i_c ?_ ?_)
  · refine (x_aload f32_18 rfl rfl).trans ?_
    refine (y_get2 (ji := 0) rfl f32_19 rfl rfl).trans ?_
    refine (g_t rfl).trans ?_
    refine (g_t (by rw [show s 3 0 = 4 from hR.2.2.2.2.2.2.2.2.2.2.1]; decide)).trans ?_
    rw [show s 3 0 = 4 from hR.2.2.2.2.2.2.2.2.2.2.1]
    refine (x_iload f32_22 rfl rfl).trans ?_
    refine (x_iconst f32_23 rfl).trans ?_
    refine (x_bastore f32_24 rfl).trans ?_
    refine (g_t rfl).trans ?_
    refine g_kl (n := 18) rfl fun hg1 => ?_
    refine (g_t (by decide)).trans ?_
    refine (x_iinc (l2 := [aA 3, aA 1, aA t, aI (w32 (l3 + 1))]) f32_25 rfl rfl rfl).trans ?_
    refine (x_goto (tg := 12) f32_28 rfl rfl).trans ?_
    rfl
  · refine (x_aload f32_31 rfl rfl).trans ?_
    refine (x_invokevirtual (G := grd (kd t = 6) (bnV (sem 81 0 [aA t] [] s) fun s2 => sem 32 35 [aA 3, aA 1, aA t, aI l3] [] s2)) f32_32 rfl rfl).trans ?_
    refine (g_t ((kd_t ht).1)).trans ?_
    refine bV_h fun s2 qs2 => ?_
    have rs2 := RefC.sem qs2 rfl hR
    refine (x_aload f32_35 rfl rfl).trans ?_
    refine (x_aload f32_36 rfl rfl).trans ?_
    refine (x_aload f32_37 rfl rfl).trans ?_
    refine (x_invokevirtual (G := grd (kd 3 = 2) (bnI (sem 33 0 [aA 3, aA 1, aA t, aU] [] s2) fun a4 s3 => sem 32 41 [aA 3, aA 1, aA t, aI l3] [aI a4] s3)) f32_38 rfl rfl).trans ?_
    refine (g_t rfl).trans ?_
    refine bI_h fun a4 s3 qs3 => ?_
    have rs3 := RefC.sem qs3 rfl rs2
    refine (x_if_ne (tg := 49) f32_41 rfl rfl).trans (i_c ?_ ?_)
    · refine (x_aload f32_44 rfl rfl).trans ?_
      refine (y_get0 (ji := 1) rfl f32_45 rfl rfl).trans ?_
      refine (g_t rfl).trans ?_
      exact x_ireturn f32_48 rfl
    · refine (x_aload f32_49 rfl rfl).trans ?_
      refine (x_iconst f32_50 rfl).trans ?_
      refine (y_put0 (ji := 2) rfl f32_51 rfl rfl).trans ?_
      refine (g_t rfl).trans ?_
      exact x_kil f32_54 rfl
set_option maxRecDepth 10000 in
theorem g32_54 {t : Int} (ht : t = 32 ∨ t = 37) {s : SG} (hR : RefC s) : sem 32 54 [aA 3, aA 1, aA t, aU] [] s = if (18 : Int) < (s 3 2) then some (aI ((-9)), s) else bnI (sem 75 0 [aA 1] [] s) fun a2 s1 => if (s 3 1) < a2 then bnI (sem 34 0 [aA 3, aA 1, aA t] [] s1) fun a4 s3 => if a4 = 0 then some (aI (s3 3 1), s3) else sem 32 54 [aA 3, aA 1, aA t, aU] [] (up s3 3 2 (w32 ((s3 3 2) + 1))) else some (aI ((-9)), s1) := by
  refine (x_aload f32_54 rfl rfl).trans ?_
  refine (y_get0 (ji := 2) rfl f32_55 rfl rfl).trans ?_
  refine (g_t rfl).trans ?_
  refine (x_iconst f32_58 rfl).trans ?_
  refine (x_icmp_gt (tg := 101) f32_60 rfl rfl).trans (i_c ?_ ?_)
  · refine (x_kil (l2 := [aU, aU, aU, aU]) f32_101 rfl).trans ?_
    refine (x_iconst f32_101 rfl).trans ?_
    exact x_ireturn f32_103 rfl
  · refine (x_aload f32_63 rfl rfl).trans ?_
    refine (y_get0 (ji := 1) rfl f32_64 rfl rfl).trans ?_
    refine (g_t rfl).trans ?_
    refine (x_aload f32_67 rfl rfl).trans ?_
    refine (x_invokevirtual (G := grd (kd 1 = 5) (bnI (sem 75 0 [aA 1] [] s) fun a2 s1 => sem 32 71 [aA 3, aA 1, aA t, aU] [aI a2, aI (s 3 1)] s1)) f32_68 rfl rfl).trans ?_
    refine (g_t rfl).trans ?_
    refine bI_h fun a2 s1 qs1 => ?_
    have rs1 := RefC.sem qs1 rfl hR
    refine (x_icmp_ge (tg := 101) f32_71 rfl rfl).trans (i_c ?_ ?_)
    · refine (x_aload f32_74 rfl rfl).trans ?_
      refine (x_aload f32_75 rfl rfl).trans ?_
      refine (x_aload f32_76 rfl rfl).trans ?_
      refine (x_invokevirtual (G := grd (kd 3 = 2) (bnI (sem 34 0 [aA 3, aA 1, aA t] [] s1) fun a4 s3 => sem 32 80 [aA 3, aA 1, aA t, aU] [aI a4] s3)) f32_77 rfl rfl).trans ?_
      refine (g_t rfl).trans ?_
      refine bI_h fun a4 s3 qs3 => ?_
      have rs3 := RefC.sem qs3 rfl rs1
      refine (x_if_ne (tg := 88) f32_80 rfl rfl).trans (i_c ?_ ?_)
      · refine (x_aload f32_83 rfl rfl).trans ?_
        refine (y_get0 (ji := 1) rfl f32_84 rfl rfl).trans ?_
        refine (g_t rfl).trans ?_
        exact x_ireturn f32_87 rfl
      · refine (x_aload f32_88 rfl rfl).trans ?_
        refine (x_dup f32_89 rfl rfl).trans ?_
        refine (y_get0 (ji := 2) rfl f32_90 rfl rfl).trans ?_
        refine (g_t rfl).trans ?_
        refine (x_iconst f32_93 rfl).trans ?_
        refine (x_iadd f32_94 rfl).trans ?_
        refine (y_put0 (ji := 2) rfl f32_95 rfl rfl).trans ?_
        refine (g_t rfl).trans ?_
        refine (x_goto (tg := 54) f32_98 rfl rfl).trans ?_
        rfl
    · refine (x_kil (l2 := [aU, aU, aU, aU]) f32_101 rfl).trans ?_
      refine (x_iconst f32_101 rfl).trans ?_
      exact x_ireturn f32_103 rfl
set_option maxRecDepth 10000 in
theorem g33_0 {t : Int} (ht : t = 32 ∨ t = 37) {s : SG} (hR : RefC s) : sem 33 0 [aA 3, aA 1, aA t, aU] [] s = bnI (sem 79 0 [aA 1, aI (s 3 1)] [] s) fun a2 s1 => if a2 = 78 then bnI (sem 40 0 [aA 3, aA 1, aI 1, aI 3, aU] [] (up s1 3 1 (w32 ((s1 3 1) + 1)))) fun a4 s3 => if a4 = ((-9)) then some (aI 0, s3) else some (aI 1, up s3 t 4 a4) else some (aI 0, s1) := by
  refine (x_aload f33_0 rfl rfl).trans ?_
  refine (x_aload f33_1 rfl rfl).trans ?_
  refine (y_get0 (ji := 1) rfl f33_2 rfl rfl).trans ?_
  refine (g_t rfl).trans ?_
  refine (x_invokevirtual (G := grd (kd 1 = 5) (bnI (sem 79 0 [aA 1, aI (s 3 1)] [] s) fun a2 s1 => sem 33 8 [aA 3, aA 1, aA t, aU] [aI a2] s1)) f33_5 rfl rfl).trans ?_
  refine (g_t rfl).trans ?_
  refine bI_h fun a2 s1 qs1 => ?_
  have rs1 := RefC.sem qs1 rfl hR
  refine (x_iconst f33_8 rfl).trans ?_
  refine (x_icmp_eq (tg := 15) f33_10 rfl rfl).trans (i_c ?_ ?_)
  · refine (x_aload f33_15 rfl rfl).trans ?_
    refine (x_dup f33_16 rfl rfl).trans ?_
    refine (y_get0 (ji := 1) rfl f33_17 rfl rfl).trans ?_
    refine (g_t rfl).trans ?_
    refine (x_iconst f33_20 rfl).trans ?_
    refine (x_iadd f33_21 rfl).trans ?_
    refine (y_put0 (ji := 1) rfl f33_22 rfl rfl).trans ?_
    refine (g_t rfl).trans ?_
    refine (x_aload f33_25 rfl rfl).trans ?_
    refine (x_aload f33_26 rfl rfl).trans ?_
    refine (x_iconst f33_27 rfl).trans ?_
    refine (x_iconst f33_28 rfl).trans ?_
    refine (x_invokevirtual (G := grd (kd 3 = 2) (bnI (sem 40 0 [aA 3, aA 1, aI 1, aI 3, aU] [] (up s1 3 1 (w32 ((s1 3 1) + 1)))) fun a4 s3 => sem 33 32 [aA 3, aA 1, aA t, aU] [aI a4] s3)) f33_29 rfl rfl).trans ?_
    refine (g_t rfl).trans ?_
    refine bI_h fun a4 s3 qs3 => ?_
    have rs3 := RefC.sem qs3 rfl (RefC.upd rs1 (rcb_f (c := 2) (j := 1) rfl (by decide) (by decide)))
    refine (x_istore (l2 := [aA 3, aA 1, aA t, aI a4]) f33_32 rfl rfl).trans ?_
    refine (x_iload f33_33 rfl rfl).trans ?_
    refine (x_iconst f33_34 rfl).trans ?_
    refine (x_icmp_ne (tg := 41) f33_36 rfl rfl).trans (i_c ?_ ?_)
    · refine (x_iconst f33_39 rfl).trans ?_
      exact x_zreturn0 f33_40 rfl
    · refine (x_aload f33_41 rfl rfl).trans ?_
      refine (x_iload f33_42 rfl rfl).trans ?_
      refine (y_put0 (ji := 4) rfl f33_43 rfl rfl).trans ?_
      refine (g_t ((kd_t ht).1)).trans ?_
      refine (x_iconst f33_46 rfl).trans ?_
      exact x_zreturn1 f33_47 rfl
  · refine (x_iconst f33_13 rfl).trans ?_
    exact x_zreturn0 f33_14 rfl
set_option maxRecDepth 10000 in
theorem g34_0 {t : Int} (ht : t = 32 ∨ t = 37) {s : SG} (hR : RefC s) : sem 34 0 [aA 3, aA 1, aA t] [] s = bnI (sem 79 0 [aA 1, aI (s 3 1)] [] s) fun a2 s1 => if a2 = 67 then bnI (sem 38 0 [aA 3, aA 1, aA t, aI 15, aU, aU, aU] [] s1) fun a4 s3 => grd (a4 = 0 ∨ a4 = 1) (some (aI a4, s3)) else if a2 = 71 then bnI (sem 37 0 [aA 3, aA 1, aA t, aU, aU] [] s1) fun a6 s5 => grd (a6 = 0 ∨ a6 = 1) (some (aI a6, s5)) else if a2 = 75 then bnI (sem 35 0 [aA 3, aA 1, aA t, aU, aU] [] s1) fun a8 s7 => grd (a8 = 0 ∨ a8 = 1) (some (aI a8, s7)) else if a2 = 80 then bnI (sem 38 0 [aA 3, aA 1, aA t, aI 16, aU, aU, aU] [] s1) fun a10 s9 => grd (a10 = 0 ∨ a10 = 1) (some (aI a10, s9)) else if a2 = 82 then bnI (sem 38 0 [aA 3, aA 1, aA t, aI 17, aU, aU, aU] [] s1) fun a12 s11 => grd (a12 = 0 ∨ a12 = 1) (some (aI a12, s11)) else if a2 = 87 then bnI (sem 36 0 [aA 3, aA 1, aA t, aU, aU, aU, aU] [] s1) fun a14 s13 => grd (a14 = 0 ∨ a14 = 1) (some (aI a14, s13)) else some (aI 0, s1) := by
  refine (x_aload f34_0 rfl rfl).trans ?_
  refine (x_aload f34_1 rfl rfl).trans ?_
  refine (y_get0 (ji := 1) rfl f34_2 rfl rfl).trans ?_
  refine (g_t rfl).trans ?_
  refine (x_invokevirtual (G := grd (kd 1 = 5) (bnI (sem 79 0 [aA 1, aI (s 3 1)] [] s) fun a2 s1 => sem 34 8 [aA 3, aA 1, aA t] [aI a2] s1)) f34_5 rfl rfl).trans ?_
  refine (g_t rfl).trans ?_
  refine bI_h fun a2 s1 qs1 => ?_
  have rs1 := RefC.sem qs1 rfl hR
  refine (x_lsw f34_8 rfl).trans ?_
  refine Eq.trans (b := sem 34 (if a2 = 67 then 89 else if a2 = 71 then 82 else if a2 = 75 then 68 else if a2 = 80 then 98 else if a2 = 82 then 107 else if a2 = 87 then 75 else 116) [aA 3, aA 1, aA t] [] s1) rfl ?_
  refine x_ite.trans (i_c ?_ ?_)
  · refine (x_aload f34_89 rfl rfl).trans ?_
    refine (x_aload f34_90 rfl rfl).trans ?_
    refine (x_aload f34_91 rfl rfl).trans ?_
    refine (x_iconst f34_92 rfl).trans ?_
    refine (x_invokevirtual (G := grd (kd 3 = 2) (bnI (sem 38 0 [aA 3, aA 1, aA t, aI 15, aU, aU, aU] [] s1) fun a4 s3 => sem 34 97 [aA 3, aA 1, aA t] [aI a4] s3)) f34_94 rfl rfl).trans ?_
    refine (g_t rfl).trans ?_
    refine bI_h fun a4 s3 qs3 => ?_
    have rs3 := RefC.sem qs3 rfl rs1
    exact x_zreturn f34_97 rfl
  refine x_ite.trans (i_c ?_ ?_)
  · refine (x_aload f34_82 rfl rfl).trans ?_
    refine (x_aload f34_83 rfl rfl).trans ?_
    refine (x_aload f34_84 rfl rfl).trans ?_
    refine (x_invokevirtual (G := grd (kd 3 = 2) (bnI (sem 37 0 [aA 3, aA 1, aA t, aU, aU] [] s1) fun a6 s5 => sem 34 88 [aA 3, aA 1, aA t] [aI a6] s5)) f34_85 rfl rfl).trans ?_
    refine (g_t rfl).trans ?_
    refine bI_h fun a6 s5 qs5 => ?_
    have rs5 := RefC.sem qs5 rfl rs1
    exact x_zreturn f34_88 rfl
  refine x_ite.trans (i_c ?_ ?_)
  · refine (x_aload f34_68 rfl rfl).trans ?_
    refine (x_aload f34_69 rfl rfl).trans ?_
    refine (x_aload f34_70 rfl rfl).trans ?_
    refine (x_invokevirtual (G := grd (kd 3 = 2) (bnI (sem 35 0 [aA 3, aA 1, aA t, aU, aU] [] s1) fun a8 s7 => sem 34 74 [aA 3, aA 1, aA t] [aI a8] s7)) f34_71 rfl rfl).trans ?_
    refine (g_t rfl).trans ?_
    refine bI_h fun a8 s7 qs7 => ?_
    have rs7 := RefC.sem qs7 rfl rs1
    exact x_zreturn f34_74 rfl
  refine x_ite.trans (i_c ?_ ?_)
  · refine (x_aload f34_98 rfl rfl).trans ?_
    refine (x_aload f34_99 rfl rfl).trans ?_
    refine (x_aload f34_100 rfl rfl).trans ?_
    refine (x_iconst f34_101 rfl).trans ?_
    refine (x_invokevirtual (G := grd (kd 3 = 2) (bnI (sem 38 0 [aA 3, aA 1, aA t, aI 16, aU, aU, aU] [] s1) fun a10 s9 => sem 34 106 [aA 3, aA 1, aA t] [aI a10] s9)) f34_103 rfl rfl).trans ?_
    refine (g_t rfl).trans ?_
    refine bI_h fun a10 s9 qs9 => ?_
    have rs9 := RefC.sem qs9 rfl rs1
    exact x_zreturn f34_106 rfl
  refine x_ite.trans (i_c ?_ ?_)
  · refine (x_aload f34_107 rfl rfl).trans ?_
    refine (x_aload f34_108 rfl rfl).trans ?_
    refine (x_aload f34_109 rfl rfl).trans ?_
    refine (x_iconst f34_110 rfl).trans ?_
    refine (x_invokevirtual (G := grd (kd 3 = 2) (bnI (sem 38 0 [aA 3, aA 1, aA t, aI 17, aU, aU, aU] [] s1) fun a12 s11 => sem 34 115 [aA 3, aA 1, aA t] [aI a12] s11)) f34_112 rfl rfl).trans ?_
    refine (g_t rfl).trans ?_
    refine bI_h fun a12 s11 qs11 => ?_
    have rs11 := RefC.sem qs11 rfl rs1
    exact x_zreturn f34_115 rfl
  refine x_ite.trans (i_c ?_ ?_)
  · refine (x_aload f34_75 rfl rfl).trans ?_
    refine (x_aload f34_76 rfl rfl).trans ?_
    refine (x_aload f34_77 rfl rfl).trans ?_
    refine (x_invokevirtual (G := grd (kd 3 = 2) (bnI (sem 36 0 [aA 3, aA 1, aA t, aU, aU, aU, aU] [] s1) fun a14 s13 => sem 34 81 [aA 3, aA 1, aA t] [aI a14] s13)) f34_78 rfl rfl).trans ?_
    refine (g_t rfl).trans ?_
    refine bI_h fun a14 s13 qs13 => ?_
    have rs13 := RefC.sem qs13 rfl rs1
    exact x_zreturn f34_81 rfl
  refine (x_iconst f34_116 rfl).trans ?_
  exact x_zreturn0 f34_117 rfl
set_option maxRecDepth 10000 in
theorem g35_0 {t : Int} (ht : t = 32 ∨ t = 37) {s : SG} (hR : RefC s) : sem 35 0 [aA 3, aA 1, aA t, aU, aU] [] s = bnI (sem 43 0 [aA 3, aI 0, aI 3, aU] [] s) fun a2 s1 => if a2 = 0 then bnI (sem 41 0 [aA 3, aA 1, aI 2, aI 0, aU] [] (up s1 3 1 (w32 ((s1 3 1) + 1)))) fun a4 s3 => if a4 = ((-9)) then if ((-9) : Int) = ((-9)) then some (aI 0, s3) else bnV (sem 87 0 [aA t, aI a4, aI ((-9))] [] s3) fun s5 => some (aI 1, s5) else bnI (sem 40 0 [aA 3, aA 1, aI 1, aI 9, aU] [] s3) fun a7 s6 => if a7 = ((-9)) then some (aI 0, s6) else bnV (sem 87 0 [aA t, aI a4, aI a7] [] s6) fun s8 => some (aI 1, s8) else some (aI 0, s1) := by
  refine (x_aload f35_0 rfl rfl).trans ?_
  refine (x_iconst f35_1 rfl).trans ?_
  refine (x_iconst f35_2 rfl).trans ?_
  refine (x_invokevirtual (G := grd (kd 3 = 2) (bnI (sem 43 0 [aA 3, aI 0, aI 3, aU] [] s) fun a2 s1 => sem 35 6 [aA 3, aA 1, aA t, aU, aU] [aI a2] s1)) f35_3 rfl rfl).trans ?_
  refine (g_t rfl).trans ?_
  refine bI_h fun a2 s1 qs1 => ?_
  have rs1 := RefC.sem qs1 rfl hR
  refine (x_if_eq (tg := 11) f35_6 rfl rfl).trans (i_c ?_ ?_)
  · refine (x_aload f35_11 rfl rfl).trans ?_
    refine (x_dup f35_12 rfl rfl).trans ?_
    refine (y_get0 (ji := 1) rfl f35_13 rfl rfl).trans ?_
    refine (g_t rfl).trans ?_
    refine (x_iconst f35_16 rfl).trans ?_
    refine (x_iadd f35_17 rfl).trans ?_
    refine (y_put0 (ji := 1) rfl f35_18 rfl rfl).trans ?_
    refine (g_t rfl).trans ?_
    refine (x_aload f35_21 rfl rfl).trans ?_
    refine (x_aload f35_22 rfl rfl).trans ?_
    refine (x_iconst f35_23 rfl).trans ?_
    refine (x_iconst f35_24 rfl).trans ?_
    refine (x_invokevirtual (G := grd (kd 3 = 2) (bnI (sem 41 0 [aA 3, aA 1, aI 2, aI 0, aU] [] (up s1 3 1 (w32 ((s1 3 1) + 1)))) fun a4 s3 => sem 35 28 [aA 3, aA 1, aA t, aU, aU] [aI a4] s3)) f35_25 rfl rfl).trans ?_
    refine (g_t rfl).trans ?_
    refine bI_h fun a4 s3 qs3 => ?_
    have rs3 := RefC.sem qs3 rfl (RefC.upd rs1 (rcb_f (c := 2) (j := 1) rfl (by decide) (by decide)))
    refine (x_istore (l2 := [aA 3, aA 1, aA t, aI a4, aU]) f35_28 rfl rfl).trans ?_
    refine (x_iload f35_29 rfl rfl).trans ?_
    refine (x_iconst f35_30 rfl).trans ?_
    refine (x_icmp_ne (tg := 40) f35_32 rfl rfl).trans (i_c ?_ ?_)
    · refine (x_iconst f35_35 rfl).trans ?_
      refine (x_goto (tg := 48) f35_37 rfl rfl).trans ?_
      refine (x_kil (l2 := [aU, aU, aA t, aI a4, aU]) f35_48 rfl).trans ?_
      refine (x_istore (l2 := [aU, aU, aA t, aI a4, aI ((-9))]) f35_48 rfl rfl).trans ?_
      refine (x_iload f35_50 rfl rfl).trans ?_
      refine (x_iconst f35_52 rfl).trans ?_
      refine (x_icmp_ne (tg := 59) f35_54 rfl rfl).trans (i_c ?_ ?_)
      · refine (x_iconst f35_57 rfl).trans ?_
        exact x_zreturn0 f35_58 rfl
      · refine (x_aload f35_59 rfl rfl).trans ?_
        refine (x_iload f35_60 rfl rfl).trans ?_
        refine (x_iload f35_61 rfl rfl).trans ?_
        refine (x_invokevirtual (G := grd (kd t = 6) (bnV (sem 87 0 [aA t, aI a4, aI ((-9))] [] s3) fun s5 => sem 35 66 [aU, aU, aA t, aI a4, aI ((-9))] [] s5)) f35_63 rfl rfl).trans ?_
        refine (g_t ((kd_t ht).1)).trans ?_
        refine bV_h fun s5 qs5 => ?_
        have rs5 := RefC.sem qs5 rfl rs3
        refine (x_iconst f35_66 rfl).trans ?_
        exact x_zreturn1 f35_67 rfl
    · refine (x_aload f35_40 rfl rfl).trans ?_
      refine (x_aload f35_41 rfl rfl).trans ?_
      refine (x_iconst f35_42 rfl).trans ?_
      refine (x_iconst f35_43 rfl).trans ?_
      refine (x_invokevirtual (G := grd (kd 3 = 2) (bnI (sem 40 0 [aA 3, aA 1, aI 1, aI 9, aU] [] s3) fun a7 s6 => sem 35 48 [aA 3, aA 1, aA t, aI a4, aU] [aI a7] s6)) f35_45 rfl rfl).trans ?_
      refine (g_t rfl).trans ?_
      refine bI_h fun a7 s6 qs6 => ?_
      have rs6 := RefC.sem qs6 rfl rs3
      refine (x_kil (l2 := [aU, aU, aA t, aI a4, aU]) f35_48 rfl).trans ?_
      refine (x_istore (l2 := [aU, aU, aA t, aI a4, aI a7]) f35_48 rfl rfl).trans ?_
      refine (x_iload f35_50 rfl rfl).trans ?_
      refine (x_iconst f35_52 rfl).trans ?_
      refine (x_icmp_ne (tg := 59) f35_54 rfl rfl).trans (i_c ?_ ?_)
      · refine (x_iconst f35_57 rfl).trans ?_
        exact x_zreturn0 f35_58 rfl
      · refine (x_aload f35_59 rfl rfl).trans ?_
        refine (x_iload f35_60 rfl rfl).trans ?_
        refine (x_iload f35_61 rfl rfl).trans ?_
        refine (x_invokevirtual (G := grd (kd t = 6) (bnV (sem 87 0 [aA t, aI a4, aI a7] [] s6) fun s8 => sem 35 66 [aU, aU, aA t, aI a4, aI a7] [] s8)) f35_63 rfl rfl).trans ?_
        refine (g_t ((kd_t ht).1)).trans ?_
        refine bV_h fun s8 qs8 => ?_
        have rs8 := RefC.sem qs8 rfl rs6
        refine (x_iconst f35_66 rfl).trans ?_
        exact x_zreturn1 f35_67 rfl
  · refine (x_iconst f35_9 rfl).trans ?_
    exact x_zreturn0 f35_10 rfl
set_option maxRecDepth 10000 in
theorem g36_0 {t : Int} (ht : t = 32 ∨ t = 37) {s : SG} (hR : RefC s) : sem 36 0 [aA 3, aA 1, aA t, aU, aU, aU, aU] [] s = bnI (sem 43 0 [aA 3, aI 3, aI (w32 ((s t 4) * 3)), aU] [] s) fun a2 s1 => if a2 = 0 then bnI (sem 39 0 [aA 3, aA 1, aI 0, aI (w32 ((s1 t 4) - 1)), aU] [] (up s1 3 1 (w32 ((s1 3 1) + 1)))) fun a4 s3 => if a4 = ((-9)) then some (aI 0, s3) else bnI (sem 43 0 [aA 3, aI (w32 (3 + (w32 (a4 * 3)))), aI 3, aU] [] s3) fun a6 s5 => if a6 = 0 then bnI (sem 41 0 [aA 3, aA 1, aI 2, aI (w32 (3 + (w32 (a4 * 3)))), aU] [] (up s5 3 1 (w32 ((s5 3 1) + 1)))) fun a8 s7 => if a8 = ((-9)) then sem 36 102 [aA 3, aA 1, aA t, aI a4, aI a8, aU, aU] [aI ((-9))] s7 else bnI (sem 40 0 [aA 3, aA 1, aI 0, aI 3, aU] [] s7) fun a10 s9 => sem 36 102 [aA 3, aA 1, aA t, aI a4, aI a8, aU, aU] [aI a10] s9 else some (aI 0, s5) else some (aI 0, s1) := by
  refine (x_aload f36_0 rfl rfl).trans ?_
  refine (x_iconst f36_1 rfl).trans ?_
  refine (x_aload f36_2 rfl rfl).trans ?_
  refine (y_get0 (ji := 4) rfl f36_3 rfl rfl).trans ?_
  refine (g_t ((kd_t ht).1)).trans ?_
  refine (x_iconst f36_6 rfl).trans ?_
  refine (x_imul f36_7 rfl).trans ?_
  refine (x_invokevirtual (G := grd (kd 3 = 2) (bnI (sem 43 0 [aA 3, aI 3, aI (w32 ((s t 4) * 3)), aU] [] s) fun a2 s1 => sem 36 11 [aA 3, aA 1, aA t, aU, aU, aU, aU] [aI a2] s1)) f36_8 rfl rfl).trans ?_
  refine (g_t rfl).trans ?_
  refine bI_h fun a2 s1 qs1 => ?_
  have rs1 := RefC.sem qs1 rfl hR
  refine (x_if_eq (tg := 16) f36_11 rfl rfl).trans (i_c ?_ ?_)
  · refine (x_aload f36_16 rfl rfl).trans ?_
    refine (x_dup f36_17 rfl rfl).trans ?_
    refine (y_get0 (ji := 1) rfl f36_18 rfl rfl).trans ?_
    refine (g_t rfl).trans ?_
    refine (x_iconst f36_21 rfl).trans ?_
    refine (x_iadd f36_22 rfl).trans ?_
    refine (y_put0 (ji := 1) rfl f36_23 rfl rfl).trans ?_
    refine (g_t rfl).trans ?_
    refine (x_aload f36_26 rfl rfl).trans ?_
    refine (x_aload f36_27 rfl rfl).trans ?_
    refine (x_iconst f36_28 rfl).trans ?_
    refine (x_aload f36_29 rfl rfl).trans ?_
    refine (y_get0 (ji := 4) rfl f36_30 rfl rfl).trans ?_
    refine (g_t ((kd_t ht).1)).trans ?_
    rw [show (up s1 3 1 (w32 ((s1 3 1) + 1))) t 4 = s1 t 4 from by rw [up_ne (by omega)]]
    refine (x_iconst f36_33 rfl).trans ?_
    refine (x_isub f36_34 rfl).trans ?_
    refine (x_invokevirtual (G := grd (kd 3 = 2) (bnI (sem 39 0 [aA 3, aA 1, aI 0, aI (w32 ((s1 t 4) - 1)), aU] [] (up s1 3 1 (w32 ((s1 3 1) + 1)))) fun a4 s3 => sem 36 38 [aA 3, aA 1, aA t, aU, aU, aU, aU] [aI a4] s3)) f36_35 rfl rfl).trans ?_
    refine (g_t rfl).trans ?_
    refine bI_h fun a4 s3 qs3 => ?_
    have rs3 := RefC.sem qs3 rfl (RefC.upd rs1 (rcb_f (c := 2) (j := 1) rfl (by decide) (by decide)))
    refine (x_istore (l2 := [aA 3, aA 1, aA t, aI a4, aU, aU, aU]) f36_38 rfl rfl).trans ?_
    refine (x_iload f36_39 rfl rfl).trans ?_
    refine (x_iconst f36_40 rfl).trans ?_
    refine (x_icmp_eq (tg := 58) f36_42 rfl rfl).trans (i_c ?_ ?_)
    · refine (x_kil (l2 := [aU, aU, aU, aU, aU, aU, aU]) f36_58 rfl).trans ?_
      refine (x_iconst f36_58 rfl).trans ?_
      exact x_zreturn0 f36_59 rfl
    · refine (x_aload f36_45 rfl rfl).trans ?_
      refine (x_iconst f36_46 rfl).trans ?_
      refine (x_iload f36_47 rfl rfl).trans ?_
      refine (x_iconst f36_48 rfl).trans ?_
      refine (x_imul f36_49 rfl).trans ?_
      refine (x_iadd f36_50 rfl).trans ?_
      refine (x_iconst f36_51 rfl).trans ?_
      refine (x_invokevirtual (G := grd (kd 3 = 2) (bnI (sem 43 0 [aA 3, aI (w32 (3 + (w32 (a4 * 3)))), aI 3, aU] [] s3) fun a6 s5 => sem 36 55 [aA 3, aA 1, aA t, aI a4, aU, aU, aU] [aI a6] s5)) f36_52 rfl rfl).trans ?_
      refine (g_t rfl).trans ?_
      refine bI_h fun a6 s5 qs5 => ?_
      have rs5 := RefC.sem qs5 rfl rs3
      refine (x_if_eq (tg := 60) f36_55 rfl rfl).trans (i_c ?_ ?_)
      · refine (x_aload f36_60 rfl rfl).trans ?_
        refine (x_dup f36_61 rfl rfl).trans ?_
        refine (y_get0 (ji := 1) rfl f36_62 rfl rfl).trans ?_
        refine (g_t rfl).trans ?_
        refine (x_iconst f36_65 rfl).trans ?_
        refine (x_iadd f36_66 rfl).trans ?_
        refine (y_put0 (ji := 1) rfl f36_67 rfl rfl).trans ?_
        refine (g_t rfl).trans ?_
        refine (x_aload f36_70 rfl rfl).trans ?_
        refine (x_aload f36_71 rfl rfl).trans ?_
        refine (x_iconst f36_72 rfl).trans ?_
        refine (x_iconst f36_73 rfl).trans ?_
        refine (x_iload f36_74 rfl rfl).trans ?_
        refine (x_iconst f36_75 rfl).trans ?_
        refine (x_imul f36_76 rfl).trans ?_
        refine (x_iadd f36_77 rfl).trans ?_
        refine (x_invokevirtual (G := grd (kd 3 = 2) (bnI (sem 41 0 [aA 3, aA 1, aI 2, aI (w32 (3 + (w32 (a4 * 3)))), aU] [] (up s5 3 1 (w32 ((s5 3 1) + 1)))) fun a8 s7 => sem 36 81 [aA 3, aA 1, aA t, aI a4, aU, aU, aU] [aI a8] s7)) f36_78 rfl rfl).trans ?_
        refine (g_t rfl).trans ?_
        refine bI_h fun a8 s7 qs7 => ?_
        have rs7 := RefC.sem qs7 rfl (RefC.upd rs5 (rcb_f (c := 2) (j := 1) rfl (by decide) (by decide)))
        refine (x_istore (l2 := [aA 3, aA 1, aA t, aI a4, aI a8, aU, aU]) f36_81 rfl rfl).trans ?_
        refine (x_iload f36_83 rfl rfl).trans ?_
        refine (x_iconst f36_85 rfl).trans ?_
        refine (x_icmp_ne (tg := 95) f36_87 rfl rfl).trans (i_c ?_ ?_)
        · refine (x_iconst f36_90 rfl).trans ?_
          refine (x_goto (tg := 102) f36_92 rfl rfl).trans ?_
          rfl
        · refine (x_aload f36_95 rfl rfl).trans ?_
          refine (x_aload f36_96 rfl rfl).trans ?_
          refine (x_iconst f36_97 rfl).trans ?_
          refine (x_iconst f36_98 rfl).trans ?_
          refine (x_invokevirtual (G := grd (kd 3 = 2) (bnI (sem 40 0 [aA 3, aA 1, aI 0, aI 3, aU] [] s7) fun a10 s9 => sem 36 102 [aA 3, aA 1, aA t, aI a4, aI a8, aU, aU] [aI a10] s9)) f36_99 rfl rfl).trans ?_
          refine (g_t rfl).trans ?_
          refine bI_h fun a10 s9 qs9 => ?_
          have rs9 := RefC.sem qs9 rfl rs7
          rfl
      · refine (x_kil (l2 := [aU, aU, aU, aU, aU, aU, aU]) f36_58 rfl).trans ?_
        refine (x_iconst f36_58 rfl).trans ?_
        exact x_zreturn0 f36_59 rfl
  · refine (x_iconst f36_14 rfl).trans ?_
    exact x_zreturn0 f36_15 rfl
set_option maxRecDepth 10000 in
theorem g36_102 {t : Int} (ht : t = 32 ∨ t = 37) {s : SG} (hR : RefC s) (l3 l4 v0 : Int) : sem 36 102 [aA 3, aA 1, aA t, aI l3, aI l4, aU, aU] [aI v0] s = if v0 = ((-9)) then if ((-9) : Int) = ((-9)) then some (aI 0, s) else bnV (sem 88 0 [aA t, aI l3, aI l4, aI v0, aI ((-9)), aU] [] s) fun s1 => some (aI 1, s1) else bnI (sem 40 0 [aA 3, aA 1, aI 0, aI 9, aU] [] s) fun a3 s2 => if a3 = ((-9)) then some (aI 0, s2) else bnV (sem 88 0 [aA t, aI l3, aI l4, aI v0, aI a3, aU] [] s2) fun s4 => some (aI 1, s4) := by
  refine (x_istore (l2 := [aA 3, aA 1, aA t, aI l3, aI l4, aI v0, aU]) f36_102 rfl rfl).trans ?_
  refine (x_iload f36_104 rfl rfl).trans ?_
  refine (x_iconst f36_106 rfl).trans ?_
  refine (x_icmp_ne (tg := 116) f36_108 rfl rfl).trans (i_c ?_ ?_)
  · refine (x_iconst f36_111 rfl).trans ?_
    refine (x_goto (tg := 124) f36_113 rfl rfl).trans ?_
    refine (x_kil (l2 := [aU, aU, aA t, aI l3, aI l4, aI v0, aU]) f36_124 rfl).trans ?_
    refine (x_istore (l2 := [aU, aU, aA t, aI l3, aI l4, aI v0, aI ((-9))]) f36_124 rfl rfl).trans ?_
    refine (x_iload f36_126 rfl rfl).trans ?_
    refine (x_iconst f36_128 rfl).trans ?_
    refine (x_icmp_ne (tg := 135) f36_130 rfl rfl).trans (i_c ?_ ?_)
    · refine (x_iconst f36_133 rfl).trans ?_
      exact x_zreturn0 f36_134 rfl
    · refine (x_aload f36_135 rfl rfl).trans ?_
      refine (x_iload f36_136 rfl rfl).trans ?_
      refine (x_iload f36_137 rfl rfl).trans ?_
      refine (x_iload f36_139 rfl rfl).trans ?_
      refine (x_iload f36_141 rfl rfl).trans ?_
      refine (x_invokevirtual (G := grd (kd t = 6) (bnV (sem 88 0 [aA t, aI l3, aI l4, aI v0, aI ((-9)), aU] [] s) fun s1 => sem 36 146 [aU, aU, aA t, aI l3, aI l4, aI v0, aI ((-9))] [] s1)) f36_143 rfl rfl).trans ?_
      refine (g_t ((kd_t ht).1)).trans ?_
      refine bV_h fun s1 qs1 => ?_
      have rs1 := RefC.sem qs1 rfl hR
      refine (x_iconst f36_146 rfl).trans ?_
      exact x_zreturn1 f36_147 rfl
  · refine (x_aload f36_116 rfl rfl).trans ?_
    refine (x_aload f36_117 rfl rfl).trans ?_
    refine (x_iconst f36_118 rfl).trans ?_
    refine (x_iconst f36_119 rfl).trans ?_
    refine (x_invokevirtual (G := grd (kd 3 = 2) (bnI (sem 40 0 [aA 3, aA 1, aI 0, aI 9, aU] [] s) fun a3 s2 => sem 36 124 [aA 3, aA 1, aA t, aI l3, aI l4, aI v0, aU] [aI a3] s2)) f36_121 rfl rfl).trans ?_
    refine (g_t rfl).trans ?_
    refine bI_h fun a3 s2 qs2 => ?_
    have rs2 := RefC.sem qs2 rfl hR
    refine (x_kil (l2 := [aU, aU, aA t, aI l3, aI l4, aI v0, aU]) f36_124 rfl).trans ?_
    refine (x_istore (l2 := [aU, aU, aA t, aI l3, aI l4, aI v0, aI a3]) f36_124 rfl rfl).trans ?_
    refine (x_iload f36_126 rfl rfl).trans ?_
    refine (x_iconst f36_128 rfl).trans ?_
    refine (x_icmp_ne (tg := 135) f36_130 rfl rfl).trans (i_c ?_ ?_)
    · refine (x_iconst f36_133 rfl).trans ?_
      exact x_zreturn0 f36_134 rfl
    · refine (x_aload f36_135 rfl rfl).trans ?_
      refine (x_iload f36_136 rfl rfl).trans ?_
      refine (x_iload f36_137 rfl rfl).trans ?_
      refine (x_iload f36_139 rfl rfl).trans ?_
      refine (x_iload f36_141 rfl rfl).trans ?_
      refine (x_invokevirtual (G := grd (kd t = 6) (bnV (sem 88 0 [aA t, aI l3, aI l4, aI v0, aI a3, aU] [] s2) fun s4 => sem 36 146 [aU, aU, aA t, aI l3, aI l4, aI v0, aI a3] [] s4)) f36_143 rfl rfl).trans ?_
      refine (g_t ((kd_t ht).1)).trans ?_
      refine bV_h fun s4 qs4 => ?_
      have rs4 := RefC.sem qs4 rfl rs2
      refine (x_iconst f36_146 rfl).trans ?_
      exact x_zreturn1 f36_147 rfl
set_option maxRecDepth 10000 in
theorem g37_0 {t : Int} (ht : t = 32 ∨ t = 37) {s : SG} (hR : RefC s) : sem 37 0 [aA 3, aA 1, aA t, aU, aU] [] s = if (s t 4) = 1 then some (aI 0, s) else bnI (sem 43 0 [aA 3, aI 12, aI (s t 4), aU] [] s) fun a2 s1 => if a2 = 0 then bnI (sem 41 0 [aA 3, aA 1, aI (w32 ((s1 t 4) - 1)), aI 12, aU] [] (up s1 3 1 (w32 ((s1 3 1) + 1)))) fun a4 s3 => if a4 = ((-9)) then sem 37 70 [aA 3, aU, aA t, aI a4, aU] [aI ((-9))] s3 else bnI (sem 39 0 [aA 3, aA 1, aI 0, aI (w32 ((s3 t 4) - 1)), aU] [] s3) fun a6 s5 => sem 37 70 [aA 3, aU, aA t, aI a4, aU] [aI a6] s5 else some (aI 0, s1) := by
  refine (x_aload f37_0 rfl rfl).trans ?_
  refine (y_get0 (ji := 4) rfl f37_1 rfl rfl).trans ?_
  refine (g_t ((kd_t ht).1)).trans ?_
  refine (x_iconst f37_4 rfl).trans ?_
  refine (x_icmp_eq (tg := 21) f37_5 rfl rfl).trans (i_c ?_ ?_)
  · refine (x_kil (l2 := [aU, aU, aU, aU, aU]) f37_21 rfl).trans ?_
    refine (x_iconst f37_21 rfl).trans ?_
    exact x_zreturn0 f37_22 rfl
  · refine (x_aload f37_8 rfl rfl).trans ?_
    refine (x_iconst f37_9 rfl).trans ?_
    refine (x_aload f37_11 rfl rfl).trans ?_
    refine (y_get0 (ji := 4) rfl f37_12 rfl rfl).trans ?_
    refine (g_t ((kd_t ht).1)).trans ?_
    refine (x_invokevirtual (G := grd (kd 3 = 2) (bnI (sem 43 0 [aA 3, aI 12, aI (s t 4), aU] [] s) fun a2 s1 => sem 37 18 [aA 3, aA 1, aA t, aU, aU] [aI a2] s1)) f37_15 rfl rfl).trans ?_
    refine (g_t rfl).trans ?_
    refine bI_h fun a2 s1 qs1 => ?_
    have rs1 := RefC.sem qs1 rfl hR
    refine (x_if_eq (tg := 23) f37_18 rfl rfl).trans (i_c ?_ ?_)
    · refine (x_aload f37_23 rfl rfl).trans ?_
      refine (x_dup f37_24 rfl rfl).trans ?_
      refine (y_get0 (ji := 1) rfl f37_25 rfl rfl).trans ?_
      refine (g_t rfl).trans ?_
      refine (x_iconst f37_28 rfl).trans ?_
      refine (x_iadd f37_29 rfl).trans ?_
      refine (y_put0 (ji := 1) rfl f37_30 rfl rfl).trans ?_
      refine (g_t rfl).trans ?_
      refine (x_aload f37_33 rfl rfl).trans ?_
      refine (x_aload f37_34 rfl rfl).trans ?_
      refine (x_aload f37_35 rfl rfl).trans ?_
      refine (y_get0 (ji := 4) rfl f37_36 rfl rfl).trans ?_
      refine (g_t ((kd_t ht).1)).trans ?_
      rw [show (up s1 3 1 (w32 ((s1 3 1) + 1))) t 4 = s1 t 4 from by rw [up_ne (by omega)]]
      refine (x_iconst f37_39 rfl).trans ?_
      refine (x_isub f37_40 rfl).trans ?_
      refine (x_iconst f37_41 rfl).trans ?_
      refine (x_invokevirtual (G := grd (kd 3 = 2) (bnI (sem 41 0 [aA 3, aA 1, aI (w32 ((s1 t 4) - 1)), aI 12, aU] [] (up s1 3 1 (w32 ((s1 3 1) + 1)))) fun a4 s3 => sem 37 46 [aA 3, aA 1, aA t, aU, aU] [aI a4] s3)) f37_43 rfl rfl).trans ?_
      refine (g_t rfl).trans ?_
      refine bI_h fun a4 s3 qs3 => ?_
      have rs3 := RefC.sem qs3 rfl (RefC.upd rs1 (rcb_f (c := 2) (j := 1) rfl (by decide) (by decide)))
      refine (x_istore (l2 := [aA 3, aA 1, aA t, aI a4, aU]) f37_46 rfl rfl).trans ?_
      refine (x_iload f37_47 rfl rfl).trans ?_
      refine (x_iconst f37_48 rfl).trans ?_
      refine (x_icmp_ne (tg := 58) f37_50 rfl rfl).trans (i_c ?_ ?_)
      · refine (x_iconst f37_53 rfl).trans ?_
        refine (x_goto (tg := 70) f37_55 rfl rfl).trans ?_
        exact x_kil f37_70 rfl
      · refine (x_aload f37_58 rfl rfl).trans ?_
        refine (x_aload f37_59 rfl rfl).trans ?_
        refine (x_iconst f37_60 rfl).trans ?_
        refine (x_aload f37_61 rfl rfl).trans ?_
        refine (y_get0 (ji := 4) rfl f37_62 rfl rfl).trans ?_
        refine (g_t ((kd_t ht).1)).trans ?_
        refine (x_iconst f37_65 rfl).trans ?_
        refine (x_isub f37_66 rfl).trans ?_
        refine (x_invokevirtual (G := grd (kd 3 = 2) (bnI (sem 39 0 [aA 3, aA 1, aI 0, aI (w32 ((s3 t 4) - 1)), aU] [] s3) fun a6 s5 => sem 37 70 [aA 3, aA 1, aA t, aI a4, aU] [aI a6] s5)) f37_67 rfl rfl).trans ?_
        refine (g_t rfl).trans ?_
        refine bI_h fun a6 s5 qs5 => ?_
        have rs5 := RefC.sem qs5 rfl rs3
        exact x_kil f37_70 rfl
    · refine (x_kil (l2 := [aU, aU, aU, aU, aU]) f37_21 rfl).trans ?_
      refine (x_iconst f37_21 rfl).trans ?_
      exact x_zreturn0 f37_22 rfl
set_option maxRecDepth 10000 in
theorem g37_70 {t : Int} (ht : t = 32 ∨ t = 37) {s : SG} (hR : RefC s) (l3 v0 : Int) : sem 37 70 [aA 3, aU, aA t, aI l3, aU] [aI v0] s = if v0 = ((-9)) then some (aI 0, s) else if v0 = l3 then some (aI 0, s) else bnV (sem 89 0 [aA t, aI l3, aI v0] [] (up s 3 1 (w32 ((s 3 1) + 1)))) fun s1 => some (aI 1, s1) := by
  refine (x_istore (l2 := [aA 3, aU, aA t, aI l3, aI v0]) f37_70 rfl rfl).trans ?_
  refine (x_iload f37_72 rfl rfl).trans ?_
  refine (x_iconst f37_74 rfl).trans ?_
  refine (x_icmp_eq (tg := 85) f37_76 rfl rfl).trans (i_c ?_ ?_)
  · refine (x_kil (l2 := [aU, aU, aU, aU, aU]) f37_85 rfl).trans ?_
    refine (x_iconst f37_85 rfl).trans ?_
    exact x_zreturn0 f37_86 rfl
  · refine (x_iload f37_79 rfl rfl).trans ?_
    refine (x_iload f37_81 rfl rfl).trans ?_
    refine (x_icmp_ne (tg := 87) f37_82 rfl rfl).trans (i_c ?_ ?_)
    · refine (x_kil (l2 := [aU, aU, aU, aU, aU]) f37_85 rfl).trans ?_
      refine (x_iconst f37_85 rfl).trans ?_
      exact x_zreturn0 f37_86 rfl
    · refine (x_aload f37_87 rfl rfl).trans ?_
      refine (x_dup f37_88 rfl rfl).trans ?_
      refine (y_get0 (ji := 1) rfl f37_89 rfl rfl).trans ?_
      refine (g_t rfl).trans ?_
      refine (x_iconst f37_92 rfl).trans ?_
      refine (x_iadd f37_93 rfl).trans ?_
      refine (y_put0 (ji := 1) rfl f37_94 rfl rfl).trans ?_
      refine (g_t rfl).trans ?_
      refine (x_aload f37_97 rfl rfl).trans ?_
      refine (x_iload f37_98 rfl rfl).trans ?_
      refine (x_iload f37_99 rfl rfl).trans ?_
      refine (x_invokevirtual (G := grd (kd t = 6) (bnV (sem 89 0 [aA t, aI l3, aI v0] [] (up s 3 1 (w32 ((s 3 1) + 1)))) fun s1 => sem 37 104 [aA 3, aU, aA t, aI l3, aI v0] [] s1)) f37_101 rfl rfl).trans ?_
      refine (g_t ((kd_t ht).1)).trans ?_
      refine bV_h fun s1 qs1 => ?_
      have rs1 := RefC.sem qs1 rfl (RefC.upd hR (rcb_f (c := 2) (j := 1) rfl (by decide) (by decide)))
      refine (x_iconst f37_104 rfl).trans ?_
      exact x_zreturn1 f37_105 rfl
set_option maxRecDepth 10000 in
theorem g38_0 {t : Int} (ht : t = 32 ∨ t = 37) {s : SG} (hR : RefC s) (l3 : Int) : sem 38 0 [aA 3, aA 1, aA t, aI l3, aU, aU, aU] [] s = bnI (sem 42 0 [aA 3, aI l3] [] s) fun a2 s1 => if a2 = 0 then some (aI 0, s1) else bnI (sem 40 0 [aA 3, aA 1, aI 0, aI 9, aU] [] (up s1 3 1 (w32 ((s1 3 1) + 1)))) fun a4 s3 => if a4 = ((-9)) then sem 38 50 [aU, aU, aA t, aI l3, aI a4, aU, aU] [aI ((-9))] s3 else bnI (sem 40 0 [aA 3, aA 1, aI 0, aI 9, aU] [] s3) fun a6 s5 => sem 38 50 [aU, aU, aA t, aI l3, aI a4, aU, aU] [aI a6] s5 := by
  refine (x_aload f38_0 rfl rfl).trans ?_
  refine (x_iload f38_1 rfl rfl).trans ?_
  refine (x_invokevirtual (G := grd (kd 3 = 2) (bnI (sem 42 0 [aA 3, aI l3] [] s) fun a2 s1 => sem 38 5 [aA 3, aA 1, aA t, aI l3, aU, aU, aU] [aI a2] s1)) f38_2 rfl rfl).trans ?_
  refine (g_t rfl).trans ?_
  refine bI_h fun a2 s1 qs1 => ?_
  have rs1 := RefC.sem qs1 rfl hR
  refine (x_if_ne (tg := 10) f38_5 rfl rfl).trans (i_c ?_ ?_)
  · refine (x_iconst f38_8 rfl).trans ?_
    exact x_zreturn0 f38_9 rfl
  · refine (x_aload f38_10 rfl rfl).trans ?_
    refine (x_dup f38_11 rfl rfl).trans ?_
    refine (y_get0 (ji := 1) rfl f38_12 rfl rfl).trans ?_
    refine (g_t rfl).trans ?_
    refine (x_iconst f38_15 rfl).trans ?_
    refine (x_iadd f38_16 rfl).trans ?_
    refine (y_put0 (ji := 1) rfl f38_17 rfl rfl).trans ?_
    refine (g_t rfl).trans ?_
    refine (x_aload f38_20 rfl rfl).trans ?_
    refine (x_aload f38_21 rfl rfl).trans ?_
    refine (x_iconst f38_22 rfl).trans ?_
    refine (x_iconst f38_23 rfl).trans ?_
    refine (x_invokevirtual (G := grd (kd 3 = 2) (bnI (sem 40 0 [aA 3, aA 1, aI 0, aI 9, aU] [] (up s1 3 1 (w32 ((s1 3 1) + 1)))) fun a4 s3 => sem 38 28 [aA 3, aA 1, aA t, aI l3, aU, aU, aU] [aI a4] s3)) f38_25 rfl rfl).trans ?_
    refine (g_t rfl).trans ?_
    refine bI_h fun a4 s3 qs3 => ?_
    have rs3 := RefC.sem qs3 rfl (RefC.upd rs1 (rcb_f (c := 2) (j := 1) rfl (by decide) (by decide)))
    refine (x_istore (l2 := [aA 3, aA 1, aA t, aI l3, aI a4, aU, aU]) f38_28 rfl rfl).trans ?_
    refine (x_iload f38_30 rfl rfl).trans ?_
    refine (x_iconst f38_32 rfl).trans ?_
    refine (x_icmp_ne (tg := 42) f38_34 rfl rfl).trans (i_c ?_ ?_)
    · refine (x_iconst f38_37 rfl).trans ?_
      refine (x_goto (tg := 50) f38_39 rfl rfl).trans ?_
      exact x_kil f38_50 rfl
    · refine (x_aload f38_42 rfl rfl).trans ?_
      refine (x_aload f38_43 rfl rfl).trans ?_
      refine (x_iconst f38_44 rfl).trans ?_
      refine (x_iconst f38_45 rfl).trans ?_
      refine (x_invokevirtual (G := grd (kd 3 = 2) (bnI (sem 40 0 [aA 3, aA 1, aI 0, aI 9, aU] [] s3) fun a6 s5 => sem 38 50 [aA 3, aA 1, aA t, aI l3, aI a4, aU, aU] [aI a6] s5)) f38_47 rfl rfl).trans ?_
      refine (g_t rfl).trans ?_
      refine bI_h fun a6 s5 qs5 => ?_
      have rs5 := RefC.sem qs5 rfl rs3
      exact x_kil f38_50 rfl
set_option maxRecDepth 10000 in
theorem g38_50 {t : Int} (ht : t = 32 ∨ t = 37) {s : SG} (hR : RefC s) (l3 l4 v0 : Int) : sem 38 50 [aU, aU, aA t, aI l3, aI l4, aU, aU] [aI v0] s = if v0 = ((-9)) then some (aI 0, s) else if l3 = 15 then some (aI 1, up s t 5 (w32 ((w32 (l4 * 10)) + v0))) else if l3 = 16 then some (aI 1, up s t 6 (w32 ((w32 (l4 * 10)) + v0))) else some (aI 1, up s t 7 (w32 ((w32 (l4 * 10)) + v0))) := by
  refine (x_istore (l2 := [aU, aU, aA t, aI l3, aI l4, aI v0, aU]) f38_50 rfl rfl).trans ?_
  refine (x_iload f38_52 rfl rfl).trans ?_
  refine (x_iconst f38_54 rfl).trans ?_
  refine (x_icmp_ne (tg := 61) f38_56 rfl rfl).trans (i_c ?_ ?_)
  · refine (x_iconst f38_59 rfl).trans ?_
    exact x_zreturn0 f38_60 rfl
  · refine (x_iload f38_61 rfl rfl).trans ?_
    refine (x_iconst f38_63 rfl).trans ?_
    refine (x_imul f38_65 rfl).trans ?_
    refine (x_iload f38_66 rfl rfl).trans ?_
    refine (x_iadd f38_68 rfl).trans ?_
    refine (x_istore (l2 := [aU, aU, aA t, aI l3, aI l4, aI v0, aI (w32 ((w32 (l4 * 10)) + v0))]) f38_69 rfl rfl).trans ?_
    refine (x_iload f38_71 rfl rfl).trans ?_
    refine (x_iconst f38_72 rfl).trans ?_
    refine (x_icmp_ne (tg := 86) f38_74 rfl rfl).trans (i_c ?_ ?_)
    · refine (x_aload f38_77 rfl rfl).trans ?_
      refine (x_iload f38_78 rfl rfl).trans ?_
      refine (y_put0 (ji := 5) rfl f38_80 rfl rfl).trans ?_
      refine (g_t ((kd_t ht).1)).trans ?_
      refine (x_goto (tg := 107) f38_83 rfl rfl).trans ?_
      refine (x_kil (l2 := [aU, aU, aU, aU, aU, aU, aU]) f38_107 rfl).trans ?_
      refine (x_iconst f38_107 rfl).trans ?_
      exact x_zreturn1 f38_108 rfl
    · refine (x_iload f38_86 rfl rfl).trans ?_
      refine (x_iconst f38_87 rfl).trans ?_
      refine (x_icmp_ne (tg := 101) f38_89 rfl rfl).trans (i_c ?_ ?_)
      · refine (x_aload f38_92 rfl rfl).trans ?_
        refine (x_iload f38_93 rfl rfl).trans ?_
        refine (y_put0 (ji := 6) rfl f38_95 rfl rfl).trans ?_
        refine (g_t ((kd_t ht).1)).trans ?_
        refine (x_goto (tg := 107) f38_98 rfl rfl).trans ?_
        refine (x_kil (l2 := [aU, aU, aU, aU, aU, aU, aU]) f38_107 rfl).trans ?_
        refine (x_iconst f38_107 rfl).trans ?_
        exact x_zreturn1 f38_108 rfl
      · refine (x_aload f38_101 rfl rfl).trans ?_
        refine (x_iload f38_102 rfl rfl).trans ?_
        refine (y_put0 (ji := 7) rfl f38_104 rfl rfl).trans ?_
        refine (g_t ((kd_t ht).1)).trans ?_
        refine (x_kil (l2 := [aU, aU, aU, aU, aU, aU, aU]) f38_107 rfl).trans ?_
        refine (x_iconst f38_107 rfl).trans ?_
        exact x_zreturn1 f38_108 rfl
set_option maxRecDepth 10000 in
theorem g39_0 {s : SG} (hR : RefC s) (l2 l3 : Int) : sem 39 0 [aA 3, aA 1, aI l2, aI l3, aU] [] s = bnI (sem 79 0 [aA 1, aI (s 3 1)] [] s) fun a2 s1 => if (w32 (a2 - 48)) < l2 then some (aI ((-9)), s1) else if l3 < (w32 (a2 - 48)) then some (aI ((-9)), s1) else some (aI (w32 (a2 - 48)), s1) := by
  refine (x_aload f39_0 rfl rfl).trans ?_
  refine (x_aload f39_1 rfl rfl).trans ?_
  refine (y_get0 (ji := 1) rfl f39_2 rfl rfl).trans ?_
  refine (g_t rfl).trans ?_
  refine (x_invokevirtual (G := grd (kd 1 = 5) (bnI (sem 79 0 [aA 1, aI (s 3 1)] [] s) fun a2 s1 => sem 39 8 [aA 3, aA 1, aI l2, aI l3, aU] [aI a2] s1)) f39_5 rfl rfl).trans ?_
  refine (g_t rfl).trans ?_
  refine bI_h fun a2 s1 qs1 => ?_
  have rs1 := RefC.sem qs1 rfl hR
  refine (x_iconst f39_8 rfl).trans ?_
  refine (x_isub f39_10 rfl).trans ?_
  refine (x_istore (l2 := [aA 3, aA 1, aI l2, aI l3, aI (w32 (a2 - 48))]) f39_11 rfl rfl).trans ?_
  refine (x_iload f39_13 rfl rfl).trans ?_
  refine (x_iload f39_15 rfl rfl).trans ?_
  refine (x_icmp_lt (tg := 25) f39_16 rfl rfl).trans (i_c ?_ ?_)
  · refine (x_kil (l2 := [aU, aU, aU, aU, aU]) f39_25 rfl).trans ?_
    refine (x_iconst f39_25 rfl).trans ?_
    refine (x_goto (tg := 32) f39_27 rfl rfl).trans ?_
    exact x_ireturn f39_32 rfl
  · refine (x_iload f39_19 rfl rfl).trans ?_
    refine (x_iload f39_21 rfl rfl).trans ?_
    refine (x_icmp_le (tg := 30) f39_22 rfl rfl).trans (i_c ?_ ?_)
    · refine (x_kil (l2 := [aU, aU, aU, aU, aU]) f39_25 rfl).trans ?_
      refine (x_iconst f39_25 rfl).trans ?_
      refine (x_goto (tg := 32) f39_27 rfl rfl).trans ?_
      exact x_ireturn f39_32 rfl
    · refine (x_iload f39_30 rfl rfl).trans ?_
      refine (x_kil (l2 := [aU, aU, aU, aU, aU]) f39_32 rfl).trans ?_
      exact x_ireturn f39_32 rfl
set_option maxRecDepth 10000 in
theorem g40_0 {s : SG} (hR : RefC s) (l2 l3 : Int) : sem 40 0 [aA 3, aA 1, aI l2, aI l3, aU] [] s = bnI (sem 39 0 [aA 3, aA 1, aI l2, aI l3, aU] [] s) fun a2 s1 => if a2 = ((-9)) then some (aI a2, s1) else some (aI a2, up s1 3 1 (w32 ((s1 3 1) + 1))) := by
  refine (x_aload f40_0 rfl rfl).trans ?_
  refine (x_aload f40_1 rfl rfl).trans ?_
  refine (x_iload f40_2 rfl rfl).trans ?_
  refine (x_iload f40_3 rfl rfl).trans ?_
  refine (x_invokevirtual (G := grd (kd 3 = 2) (bnI (sem 39 0 [aA 3, aA 1, aI l2, aI l3, aU] [] s) fun a2 s1 => sem 40 7 [aA 3, aA 1, aI l2, aI l3, aU] [aI a2] s1)) f40_4 rfl rfl).trans ?_
  refine (g_t rfl).trans ?_
  refine bI_h fun a2 s1 qs1 => ?_
  have rs1 := RefC.sem qs1 rfl hR
  refine (x_istore (l2 := [aA 3, aA 1, aI l2, aI l3, aI a2]) f40_7 rfl rfl).trans ?_
  refine (x_iload f40_9 rfl rfl).trans ?_
  refine (x_iconst f40_11 rfl).trans ?_
  refine (x_icmp_eq (tg := 26) f40_13 rfl rfl).trans (i_c ?_ ?_)
  · refine (x_kil (l2 := [aU, aU, aU, aU, aI a2]) f40_26 rfl).trans ?_
    refine (x_iload f40_26 rfl rfl).trans ?_
    exact x_ireturn f40_28 rfl
  · refine (x_aload f40_16 rfl rfl).trans ?_
    refine (x_dup f40_17 rfl rfl).trans ?_
    refine (y_get0 (ji := 1) rfl f40_18 rfl rfl).trans ?_
    refine (g_t rfl).trans ?_
    refine (x_iconst f40_21 rfl).trans ?_
    refine (x_iadd f40_22 rfl).trans ?_
    refine (y_put0 (ji := 1) rfl f40_23 rfl rfl).trans ?_
    refine (g_t rfl).trans ?_
    refine (x_kil (l2 := [aU, aU, aU, aU, aI a2]) f40_26 rfl).trans ?_
    refine (x_iload f40_26 rfl rfl).trans ?_
    exact x_ireturn f40_28 rfl
set_option maxRecDepth 10000 in
theorem g41_0 {s : SG} (hR : RefC s) (l2 l3 : Int) : sem 41 0 [aA 3, aA 1, aI l2, aI l3, aU] [] s = bnI (sem 39 0 [aA 3, aA 1, aI 0, aI l2, aU] [] s) fun a2 s1 => if a2 = ((-9)) then some (aI ((-9)), s1) else bnI (sem 42 0 [aA 3, aI (w32 (l3 + a2))] [] s1) fun a4 s3 => if a4 = 0 then some (aI ((-9)), s3) else some (aI a2, up s3 3 1 (w32 ((s3 3 1) + 1))) := by
  refine (x_aload f41_0 rfl rfl).trans ?_
  refine (x_aload f41_1 rfl rfl).trans ?_
  refine (x_iconst f41_2 rfl).trans ?_
  refine (x_iload f41_3 rfl rfl).trans ?_
  refine (x_invokevirtual (G := grd (kd 3 = 2) (bnI (sem 39 0 [aA 3, aA 1, aI 0, aI l2, aU] [] s) fun a2 s1 => sem 41 7 [aA 3, aA 1, aI l2, aI l3, aU] [aI a2] s1)) f41_4 rfl rfl).trans ?_
  refine (g_t rfl).trans ?_
  refine bI_h fun a2 s1 qs1 => ?_
  have rs1 := RefC.sem qs1 rfl hR
  refine (x_istore (l2 := [aA 3, aA 1, aI l2, aI l3, aI a2]) f41_7 rfl rfl).trans ?_
  refine (x_iload f41_9 rfl rfl).trans ?_
  refine (x_iconst f41_11 rfl).trans ?_
  refine (x_icmp_eq (tg := 27) f41_13 rfl rfl).trans (i_c ?_ ?_)
  · refine (x_kil (l2 := [aU, aU, aU, aU, aU]) f41_27 rfl).trans ?_
    refine (x_iconst f41_27 rfl).trans ?_
    exact x_ireturn f41_29 rfl
  · refine (x_aload f41_16 rfl rfl).trans ?_
    refine (x_iload f41_17 rfl rfl).trans ?_
    refine (x_iload f41_18 rfl rfl).trans ?_
    refine (x_iadd f41_20 rfl).trans ?_
    refine (x_invokevirtual (G := grd (kd 3 = 2) (bnI (sem 42 0 [aA 3, aI (w32 (l3 + a2))] [] s1) fun a4 s3 => sem 41 24 [aA 3, aA 1, aI l2, aI l3, aI a2] [aI a4] s3)) f41_21 rfl rfl).trans ?_
    refine (g_t rfl).trans ?_
    refine bI_h fun a4 s3 qs3 => ?_
    have rs3 := RefC.sem qs3 rfl rs1
    refine (x_if_ne (tg := 30) f41_24 rfl rfl).trans (i_c ?_ ?_)
    · refine (x_kil (l2 := [aU, aU, aU, aU, aU]) f41_27 rfl).trans ?_
      refine (x_iconst f41_27 rfl).trans ?_
      exact x_ireturn f41_29 rfl
    · refine (x_aload f41_30 rfl rfl).trans ?_
      refine (x_dup f41_31 rfl rfl).trans ?_
      refine (y_get0 (ji := 1) rfl f41_32 rfl rfl).trans ?_
      refine (g_t rfl).trans ?_
      refine (x_iconst f41_35 rfl).trans ?_
      refine (x_iadd f41_36 rfl).trans ?_
      refine (y_put0 (ji := 1) rfl f41_37 rfl rfl).trans ?_
      refine (g_t rfl).trans ?_
      refine (x_iload f41_40 rfl rfl).trans ?_
      exact x_ireturn f41_42 rfl
set_option maxRecDepth 10000 in
theorem g42_0 {s : SG} (hR : RefC s) (l1 : Int) : sem 42 0 [aA 3, aI l1] [] s = if l1 < 0 then some (aI 0, s) else if l1 < 18 then grd ((0 : Int) ≤ l1 ∧ l1 < 18) (if (s 4 l1) = 0 then some (aI 1, up s 4 l1 1) else some (aI 0, s)) else some (aI 0, s) := by
  refine (x_iload f42_0 rfl rfl).trans ?_
  refine (x_if_lt (tg := 19) f42_1 rfl rfl).trans (i_c ?_ ?_)
  · refine (x_kil (l2 := [aU, aU]) f42_19 rfl).trans ?_
    refine (x_iconst f42_19 rfl).trans ?_
    exact x_zreturn0 f42_20 rfl
  · refine (x_iload f42_4 rfl rfl).trans ?_
    refine (x_iconst f42_5 rfl).trans ?_
    refine (x_icmp_ge (tg := 19) f42_7 rfl rfl).trans (i_c ?_ ?_)
    · refine (x_aload f42_10 rfl rfl).trans ?_
      refine (y_get2 (ji := 0) rfl f42_11 rfl rfl).trans ?_
      refine (g_t rfl).trans ?_
      refine (g_t (by rw [show s 3 0 = 4 from hR.2.2.2.2.2.2.2.2.2.2.1]; decide)).trans ?_
      rw [show s 3 0 = 4 from hR.2.2.2.2.2.2.2.2.2.2.1]
      refine (x_iload f42_14 rfl rfl).trans ?_
      refine (x_baload f42_15 rfl).trans ?_
      refine (g_t rfl).trans ?_
      refine g_kl (n := 18) rfl fun hg1 => ?_
      refine (x_if_eq (tg := 21) f42_16 rfl rfl).trans (i_c ?_ ?_)
      · refine (x_aload f42_21 rfl rfl).trans ?_
        refine (y_get2 (ji := 0) rfl f42_22 rfl rfl).trans ?_
        refine (g_t rfl).trans ?_
        refine (g_t (by rw [show s 3 0 = 4 from hR.2.2.2.2.2.2.2.2.2.2.1]; decide)).trans ?_
        rw [show s 3 0 = 4 from hR.2.2.2.2.2.2.2.2.2.2.1]
        refine (x_iload f42_25 rfl rfl).trans ?_
        refine (x_iconst f42_26 rfl).trans ?_
        refine (x_bastore f42_27 rfl).trans ?_
        refine (g_t rfl).trans ?_
        refine (g_kt (n := 18) rfl hg1).trans ?_
        refine (g_t (by decide)).trans ?_
        refine (x_iconst f42_28 rfl).trans ?_
        exact x_zreturn1 f42_29 rfl
      · refine (x_kil (l2 := [aU, aU]) f42_19 rfl).trans ?_
        refine (x_iconst f42_19 rfl).trans ?_
        exact x_zreturn0 f42_20 rfl
    · refine (x_kil (l2 := [aU, aU]) f42_19 rfl).trans ?_
      refine (x_iconst f42_19 rfl).trans ?_
      exact x_zreturn0 f42_20 rfl
set_option maxRecDepth 10000 in
theorem g43_0 {s : SG} (hR : RefC s) (l1 l2 : Int) : sem 43 0 [aA 3, aI l1, aI l2, aU] [] s = sem 43 6 [aA 3, aI l1, aI l2, aI (max l1 0)] [] s := by
  refine (x_iload f43_0 rfl rfl).trans ?_
  refine (x_iconst f43_1 rfl).trans ?_
  refine (x_fadd f43_2 rfl rfl).trans ?_
  refine (x_istore (l2 := [aA 3, aI l1, aI l2, aI (max l1 0)]) f43_5 rfl rfl).trans ?_
  rfl
set_option maxRecDepth 10000 in
theorem g43_6 {s : SG} (hR : RefC s) (l1 l2 l3 : Int) : sem 43 6 [aA 3, aI l1, aI l2, aI l3] [] s = if l3 < (w32 (l1 + l2)) then if l3 < 18 then grd ((0 : Int) ≤ l3 ∧ l3 < 18) (if (s 4 l3) = 0 then some (aI 0, s) else sem 43 6 [aA 3, aI l1, aI l2, aI (w32 (l3 + 1))] [] s) else some (aI 1, s) else some (aI 1, s) := by
  refine (x_iload f43_6 rfl rfl).trans ?_
  refine (x_iload f43_7 rfl rfl).trans ?_
  refine (x_iload f43_8 rfl rfl).trans ?_
  refine (x_iadd f43_9 rfl).trans ?_
  refine (x_icmp_ge (tg := 36) f43_10 rfl rfl).trans (i_c ?_ ?_)
  · refine (x_iload f43_13 rfl rfl).trans ?_
    refine (x_iconst f43_14 rfl).trans ?_
    refine (x_icmp_ge (tg := 36) f43_16 rfl rfl).trans (i_c ?_ ?_)
    · refine (x_aload f43_19 rfl rfl).trans ?_
      refine (y_get2 (ji := 0) rfl f43_20 rfl rfl).trans ?_
      refine (g_t rfl).trans ?_
      refine (g_t (by rw [show s 3 0 = 4 from hR.2.2.2.2.2.2.2.2.2.2.1]; decide)).trans ?_
      rw [show s 3 0 = 4 from hR.2.2.2.2.2.2.2.2.2.2.1]
      refine (x_iload f43_23 rfl rfl).trans ?_
      refine (x_baload f43_24 rfl).trans ?_
      refine (g_t rfl).trans ?_
      refine g_kl (n := 18) rfl fun hg1 => ?_
      refine (x_if_ne (tg := 30) f43_25 rfl rfl).trans (i_c ?_ ?_)
      · refine (x_iconst f43_28 rfl).trans ?_
        exact x_zreturn0 f43_29 rfl
      · refine (x_iinc (l2 := [aA 3, aI l1, aI l2, aI (w32 (l3 + 1))]) f43_30 rfl rfl rfl).trans ?_
        refine (x_goto (tg := 6) f43_33 rfl rfl).trans ?_
        rfl
    · refine (x_kil (l2 := [aU, aU, aU, aU]) f43_36 rfl).trans ?_
      refine (x_iconst f43_36 rfl).trans ?_
      exact x_zreturn1 f43_37 rfl
  · refine (x_kil (l2 := [aU, aU, aU, aU]) f43_36 rfl).trans ?_
    refine (x_iconst f43_36 rfl).trans ?_
    exact x_zreturn1 f43_37 rfl
set_option maxRecDepth 10000 in
theorem g45_0 {t : Int} (ht : t = 32 ∨ t = 37) {s : SG} (hR : RefC s) : sem 45 0 [aA 23, aA t, aA 16] [] s = bnV (sem 48 0 [aA 23, aA t, aA 16, aU, aU] [] (up (up s 23 9 ((-9))) 23 10 ((-9)))) fun s1 => some (aU, s1) := by
  refine (x_aload f45_0 rfl rfl).trans ?_
  refine (x_iconst f45_1 rfl).trans ?_
  refine (y_put0 (ji := 9) rfl f45_3 rfl rfl).trans ?_
  refine (g_t rfl).trans ?_
  refine (x_aload f45_6 rfl rfl).trans ?_
  refine (x_iconst f45_7 rfl).trans ?_
  refine (y_put0 (ji := 10) rfl f45_9 rfl rfl).trans ?_
  refine (g_t rfl).trans ?_
  refine (x_aload f45_12 rfl rfl).trans ?_
  refine (x_aload f45_13 rfl rfl).trans ?_
  refine (x_aload f45_14 rfl rfl).trans ?_
  refine (x_invokevirtual (G := grd (kd 23 = 3) (bnV (sem 48 0 [aA 23, aA t, aA 16, aU, aU] [] (up (up s 23 9 ((-9))) 23 10 ((-9)))) fun s1 => sem 45 18 [aA 23, aA t, aA 16] [] s1)) f45_15 rfl rfl).trans ?_
  refine (g_t rfl).trans ?_
  refine bV_h fun s1 qs1 => ?_
  have rs1 := RefC.sem qs1 rfl (RefC.upd (RefC.upd hR (rcb_f (c := 3) (j := 9) rfl (by decide) (by decide))) (rcb_f (c := 3) (j := 10) rfl (by decide) (by decide)))
  exact x_return f45_18 rfl
set_option maxRecDepth 10000 in
theorem g46_0 {t : Int} (ht : t = 32 ∨ t = 37) {s : SG} (hR : RefC s) (l3 : Int) : sem 46 0 [aA 23, aA t, aA 16, aI l3] [] s = bnV (sem 48 0 [aA 23, aA t, aA 16, aU, aU] [] (up (up s 23 9 l3) 23 10 ((-9)))) fun s1 => some (aU, s1) := by
  refine (x_aload f46_0 rfl rfl).trans ?_
  refine (x_iload f46_1 rfl rfl).trans ?_
  refine (y_put0 (ji := 9) rfl f46_2 rfl rfl).trans ?_
  refine (g_t rfl).trans ?_
  refine (x_aload f46_5 rfl rfl).trans ?_
  refine (x_iconst f46_6 rfl).trans ?_
  refine (y_put0 (ji := 10) rfl f46_8 rfl rfl).trans ?_
  refine (g_t rfl).trans ?_
  refine (x_aload f46_11 rfl rfl).trans ?_
  refine (x_aload f46_12 rfl rfl).trans ?_
  refine (x_aload f46_13 rfl rfl).trans ?_
  refine (x_invokevirtual (G := grd (kd 23 = 3) (bnV (sem 48 0 [aA 23, aA t, aA 16, aU, aU] [] (up (up s 23 9 l3) 23 10 ((-9)))) fun s1 => sem 46 17 [aA 23, aA t, aA 16, aI l3] [] s1)) f46_14 rfl rfl).trans ?_
  refine (g_t rfl).trans ?_
  refine bV_h fun s1 qs1 => ?_
  have rs1 := RefC.sem qs1 rfl (RefC.upd (RefC.upd hR (rcb_f (c := 3) (j := 9) rfl (by decide) (by decide))) (rcb_f (c := 3) (j := 10) rfl (by decide) (by decide)))
  exact x_return f46_17 rfl
set_option maxRecDepth 10000 in
theorem g47_0 {t : Int} (ht : t = 32 ∨ t = 37) {s : SG} (hR : RefC s) (l3 l4 l5 : Int) : sem 47 0 [aA 23, aA t, aA 16, aI l3, aI l4, aI l5] [] s = bnV (sem 48 0 [aA 23, aA t, aA 16, aU, aU] [] (up (up (up (up s 23 9 ((-9))) 23 10 l3) 23 11 l4) 23 12 l5)) fun s1 => some (aU, s1) := by
  refine (x_aload f47_0 rfl rfl).trans ?_
  refine (x_iconst f47_1 rfl).trans ?_
  refine (y_put0 (ji := 9) rfl f47_3 rfl rfl).trans ?_
  refine (g_t rfl).trans ?_
  refine (x_aload f47_6 rfl rfl).trans ?_
  refine (x_iload f47_7 rfl rfl).trans ?_
  refine (y_put0 (ji := 10) rfl f47_8 rfl rfl).trans ?_
  refine (g_t rfl).trans ?_
  refine (x_aload f47_11 rfl rfl).trans ?_
  refine (x_iload f47_12 rfl rfl).trans ?_
  refine (y_put0 (ji := 11) rfl f47_14 rfl rfl).trans ?_
  refine (g_t rfl).trans ?_
  refine (x_aload f47_17 rfl rfl).trans ?_
  refine (x_iload f47_18 rfl rfl).trans ?_
  refine (y_put0 (ji := 12) rfl f47_20 rfl rfl).trans ?_
  refine (g_t rfl).trans ?_
  refine (x_aload f47_23 rfl rfl).trans ?_
  refine (x_aload f47_24 rfl rfl).trans ?_
  refine (x_aload f47_25 rfl rfl).trans ?_
  refine (x_invokevirtual (G := grd (kd 23 = 3) (bnV (sem 48 0 [aA 23, aA t, aA 16, aU, aU] [] (up (up (up (up s 23 9 ((-9))) 23 10 l3) 23 11 l4) 23 12 l5)) fun s1 => sem 47 29 [aA 23, aA t, aA 16, aI l3, aI l4, aI l5] [] s1)) f47_26 rfl rfl).trans ?_
  refine (g_t rfl).trans ?_
  refine bV_h fun s1 qs1 => ?_
  have rs1 := RefC.sem qs1 rfl (RefC.upd (RefC.upd (RefC.upd (RefC.upd hR (rcb_f (c := 3) (j := 9) rfl (by decide) (by decide))) (rcb_f (c := 3) (j := 10) rfl (by decide) (by decide))) (rcb_f (c := 3) (j := 11) rfl (by decide) (by decide))) (rcb_f (c := 3) (j := 12) rfl (by decide) (by decide)))
  exact x_return f47_29 rfl
set_option maxRecDepth 10000 in
theorem g48_0 {t : Int} (ht : t = 32 ∨ t = 37) {s : SG} (hR : RefC s) : sem 48 0 [aA 23, aA t, aA 16, aU, aU] [] s = sem 48 23 [aA 23, aA t, aA 16, aI 0, aU] [] (up (up (up s 23 6 (s t 4)) 23 7 (s 16 7)) 23 8 0) := by
  refine (x_aload f48_0 rfl rfl).trans ?_
  refine (x_aload f48_1 rfl rfl).trans ?_
  refine (y_get0 (ji := 4) rfl f48_2 rfl rfl).trans ?_
  refine (g_t ((kd_t ht).1)).trans ?_
  refine (y_put0 (ji := 6) rfl f48_5 rfl rfl).trans ?_
  refine (g_t rfl).trans ?_
  refine (x_aload f48_8 rfl rfl).trans ?_
  refine (x_aload f48_9 rfl rfl).trans ?_
  refine (y_get0 (ji := 7) rfl f48_10 rfl rfl).trans ?_
  refine (g_t rfl).trans ?_
  rw [show (up s 23 6 (s t 4)) 16 7 = s 16 7 from by rw [up_ne (by decide)]]
  refine (y_put0 (ji := 7) rfl f48_13 rfl rfl).trans ?_
  refine (g_t rfl).trans ?_
  refine (x_aload f48_16 rfl rfl).trans ?_
  refine (x_iconst f48_17 rfl).trans ?_
  refine (y_put0 (ji := 8) rfl f48_18 rfl rfl).trans ?_
  refine (g_t rfl).trans ?_
  refine (x_iconst f48_21 rfl).trans ?_
  refine (x_istore (l2 := [aA 23, aA t, aA 16, aI 0, aU]) f48_22 rfl rfl).trans ?_
  rfl
set_option maxRecDepth 10000 in
theorem g48_23 {t : Int} (ht : t = 32 ∨ t = 37) {s : SG} (hR : RefC s) (l3 : Int) : sem 48 23 [aA 23, aA t, aA 16, aI l3, aU] [] s = if l3 < (s 23 6) then if l3 < 3 then bnI (sem 21 0 [aA 16, aI l3] [] s) fun a2 s1 => grd ((0 : Int) ≤ l3 ∧ l3 < 3) (sem 48 23 [aA 23, aA t, aA 16, aI (w32 (l3 + 1)), aU] [] (up (up s1 28 l3 a2) 29 l3 0)) else sem 48 62 [aA 23, aA t, aA 16, aI 0, aU] [] s else sem 48 62 [aA 23, aA t, aA 16, aI 0, aU] [] s := by
  refine (x_iload f48_23 rfl rfl).trans ?_
  refine (x_aload f48_24 rfl rfl).trans ?_
  refine (y_get0 (ji := 6) rfl f48_25 rfl rfl).trans ?_
  refine (g_t rfl).trans ?_
  refine (x_icmp_ge (tg := 60) f48_28 rfl rfl).trans (i_c ?_ ?_)
  · refine (x_iload f48_31 rfl rfl).trans ?_
    refine (x_iconst f48_32 rfl).trans ?_
    refine (x_icmp_ge (tg := 60) f48_33 rfl rfl).trans (i_c ?_ ?_)
    · refine (x_aload f48_36 rfl rfl).trans ?_
      refine (y_get2 (ji := 4) rfl f48_37 rfl rfl).trans ?_
      refine (g_t rfl).trans ?_
      refine (g_t (by rw [show s 23 4 = 28 from hR.2.2.2.2.2.2.2.2.2.2.2.2.2.2.2.2.2.2.2.2.2.2.2.2.2.2.2.2.2.1]; decide)).trans ?_
      rw [show s 23 4 = 28 from hR.2.2.2.2.2.2.2.2.2.2.2.2.2.2.2.2.2.2.2.2.2.2.2.2.2.2.2.2.2.1]
      refine (x_iload f48_40 rfl rfl).trans ?_
      refine (x_aload f48_41 rfl rfl).trans ?_
      refine (x_iload f48_42 rfl rfl).trans ?_
      refine (x_invokevirtual (G := grd (kd 16 = 1) (bnI (sem 21 0 [aA 16, aI l3] [] s) fun a2 s1 => sem 48 46 [aA 23, aA t, aA 16, aI l3, aU] [aI a2, aI l3, aA 28] s1)) f48_43 rfl rfl).trans ?_
      refine (g_t rfl).trans ?_
      refine bI_h fun a2 s1 qs1 => ?_
      have rs1 := RefC.sem qs1 rfl hR
      refine (x_iastore f48_46 rfl).trans ?_
      refine (g_t rfl).trans ?_
      refine g_kl (n := 3) rfl fun hg3 => ?_
      refine (x_aload f48_47 rfl rfl).trans ?_
      refine (y_get2 (ji := 5) rfl f48_48 rfl rfl).trans ?_
      refine (g_t rfl).trans ?_
      refine (g_t (by rw [show (up s1 28 l3 a2) 23 5 = 29 from (by rw [up_ne (by decide)]; exact rs1.2.2.2.2.2.2.2.2.2.2.2.2.2.2.2.2.2.2.2.2.2.2.2.2.2.2.2.2.2.2.1)]; decide)).trans ?_
      rw [show (up s1 28 l3 a2) 23 5 = 29 from (by rw [up_ne (by decide)]; exact rs1.2.2.2.2.2.2.2.2.2.2.2.2.2.2.2.2.2.2.2.2.2.2.2.2.2.2.2.2.2.2.1)]
      refine (x_iload f48_51 rfl rfl).trans ?_
      refine (x_iconst f48_52 rfl).trans ?_
      refine (x_iastore f48_53 rfl).trans ?_
      refine (g_t rfl).trans ?_
      refine (g_kt (n := 3) rfl hg3).trans ?_
      refine (x_iinc (l2 := [aA 23, aA t, aA 16, aI (w32 (l3 + 1)), aU]) f48_54 rfl rfl rfl).trans ?_
      refine (x_goto (tg := 23) f48_57 rfl rfl).trans ?_
      rfl
    · refine (x_kil (l2 := [aA 23, aA t, aA 16, aU, aU]) f48_60 rfl).trans ?_
      refine (x_iconst f48_60 rfl).trans ?_
      refine (x_istore (l2 := [aA 23, aA t, aA 16, aI 0, aU]) f48_61 rfl rfl).trans ?_
      rfl
  · refine (x_kil (l2 := [aA 23, aA t, aA 16, aU, aU]) f48_60 rfl).trans ?_
    refine (x_iconst f48_60 rfl).trans ?_
    refine (x_istore (l2 := [aA 23, aA t, aA 16, aI 0, aU]) f48_61 rfl rfl).trans ?_
    rfl
set_option maxRecDepth 10000 in
theorem g48_62 {t : Int} (ht : t = 32 ∨ t = 37) {s : SG} (hR : RefC s) (l3 : Int) : sem 48 62 [aA 23, aA t, aA 16, aI l3, aU] [] s = if l3 < 6 then bnV (sem 49 0 [aA 23, aA 16, aI l3, aU] [] s) fun s1 => bnV (sem 50 0 [aA 23, aA 16, aI l3, aU, aU] [] s1) fun s2 => bnV (sem 52 0 [aA 23, aI l3] [] s2) fun s3 => sem 48 88 [aA 23, aA t, aA 16, aI l3, aI 0] [] s3 else some (aU, s) := by
  refine (x_iload f48_62 rfl rfl).trans ?_
  refine (x_iconst f48_63 rfl).trans ?_
  refine (x_icmp_ge (tg := 118) f48_65 rfl rfl).trans (i_c ?_ ?_)
  · refine (x_aload f48_68 rfl rfl).trans ?_
    refine (x_aload f48_69 rfl rfl).trans ?_
    refine (x_iload f48_70 rfl rfl).trans ?_
    refine (x_invokevirtual (G := grd (kd 23 = 3) (bnV (sem 49 0 [aA 23, aA 16, aI l3, aU] [] s) fun s1 => sem 48 74 [aA 23, aA t, aA 16, aI l3, aU] [] s1)) f48_71 rfl rfl).trans ?_
    refine (g_t rfl).trans ?_
    refine bV_h fun s1 qs1 => ?_
    have rs1 := RefC.sem qs1 rfl hR
    refine (x_aload f48_74 rfl rfl).trans ?_
    refine (x_aload f48_75 rfl rfl).trans ?_
    refine (x_iload f48_76 rfl rfl).trans ?_
    refine (x_invokevirtual (G := grd (kd 23 = 3) (bnV (sem 50 0 [aA 23, aA 16, aI l3, aU, aU] [] s1) fun s2 => sem 48 80 [aA 23, aA t, aA 16, aI l3, aU] [] s2)) f48_77 rfl rfl).trans ?_
    refine (g_t rfl).trans ?_
    refine bV_h fun s2 qs2 => ?_
    have rs2 := RefC.sem qs2 rfl rs1
    refine (x_aload f48_80 rfl rfl).trans ?_
    refine (x_iload f48_81 rfl rfl).trans ?_
    refine (x_invokevirtual (G := grd (kd 23 = 3) (bnV (sem 52 0 [aA 23, aI l3] [] s2) fun s3 => sem 48 85 [aA 23, aA t, aA 16, aI l3, aU] [] s3)) f48_82 rfl rfl).trans ?_
    refine (g_t rfl).trans ?_
    refine bV_h fun s3 qs3 => ?_
    have rs3 := RefC.sem qs3 rfl rs2
    refine (x_iconst f48_85 rfl).trans ?_
    refine (x_istore (l2 := [aA 23, aA t, aA 16, aI l3, aI 0]) f48_86 rfl rfl).trans ?_
    rfl
  · exact x_return f48_118 rfl
set_option maxRecDepth 10000 in
theorem g48_88 {t : Int} (ht : t = 32 ∨ t = 37) {s : SG} (hR : RefC s) (l3 l4 : Int) : sem 48 88 [aA 23, aA t, aA 16, aI l3, aI l4] [] s = if l4 < (s 23 6) then bnV (sem 53 0 [aA 23, aA t, aA 16, aI l4, aI l3, aU, aU, aU] [] s) fun s1 => sem 48 88 [aA 23, aA t, aA 16, aI l3, aI (w32 (l4 + 1))] [] s1 else sem 48 62 [aA 23, aA t, aA 16, aI (w32 (l3 + 1)), aU] [] s := by
  refine (x_iload f48_88 rfl rfl).trans ?_
  refine (x_aload f48_90 rfl rfl).trans ?_
  refine (y_get0 (ji := 6) rfl f48_91 rfl rfl).trans ?_
  refine (g_t rfl).trans ?_
  refine (x_icmp_ge (tg := 112) f48_94 rfl rfl).trans (i_c ?_ ?_)
  · refine (x_aload f48_97 rfl rfl).trans ?_
    refine (x_aload f48_98 rfl rfl).trans ?_
    refine (x_aload f48_99 rfl rfl).trans ?_
    refine (x_iload f48_100 rfl rfl).trans ?_
    refine (x_iload f48_102 rfl rfl).trans ?_
    refine (x_invokevirtual (G := grd (kd 23 = 3) (bnV (sem 53 0 [aA 23, aA t, aA 16, aI l4, aI l3, aU, aU, aU] [] s) fun s1 => sem 48 106 [aA 23, aA t, aA 16, aI l3, aI l4] [] s1)) f48_103 rfl rfl).trans ?_
    refine (g_t rfl).trans ?_
    refine bV_h fun s1 qs1 => ?_
    have rs1 := RefC.sem qs1 rfl hR
    refine (x_iinc (l2 := [aA 23, aA t, aA 16, aI l3, aI (w32 (l4 + 1))]) f48_106 rfl rfl rfl).trans ?_
    refine (x_goto (tg := 88) f48_109 rfl rfl).trans ?_
    rfl
  · refine (x_iinc (l2 := [aA 23, aA t, aA 16, aI (w32 (l3 + 1)), aI l4]) f48_112 rfl rfl rfl).trans ?_
    refine (x_goto (tg := 62) f48_115 rfl rfl).trans ?_
    exact x_kil f48_62 rfl
set_option maxRecDepth 10000 in
theorem g49_0 {s : SG} (hR : RefC s) (l2 : Int) : sem 49 0 [aA 23, aA 16, aI l2, aU] [] s = sem 49 2 [aA 23, aA 16, aI l2, aI 0] [] s := by
  refine (x_iconst f49_0 rfl).trans ?_
  refine (x_istore (l2 := [aA 23, aA 16, aI l2, aI 0]) f49_1 rfl rfl).trans ?_
  rfl
set_option maxRecDepth 10000 in
theorem g49_2 {s : SG} (hR : RefC s) (l2 l3 : Int) : sem 49 2 [aA 23, aA 16, aI l2, aI l3] [] s = if l3 < (s 16 10) then if l3 < 6 then grd ((0 : Int) ≤ l3 ∧ l3 < 6) (if (s 20 l3) = l2 then bnV (sem 51 0 [aA 23, aI (s 21 l3), aI (s 22 l3), aU] [] s) fun s2 => sem 49 2 [aA 23, aA 16, aI l2, aI (w32 (l3 + 1))] [] s2 else sem 49 2 [aA 23, aA 16, aI l2, aI (w32 (l3 + 1))] [] s) else some (aU, s) else some (aU, s) := by
  refine (x_iload f49_2 rfl rfl).trans ?_
  refine (x_aload f49_3 rfl rfl).trans ?_
  refine (y_get0 (ji := 10) rfl f49_4 rfl rfl).trans ?_
  refine (g_t rfl).trans ?_
  refine (x_icmp_ge (tg := 48) f49_7 rfl rfl).trans (i_c ?_ ?_)
  · refine (x_iload f49_10 rfl rfl).trans ?_
    refine (x_iconst f49_11 rfl).trans ?_
    refine (x_icmp_ge (tg := 48) f49_13 rfl rfl).trans (i_c ?_ ?_)
    · refine (x_aload f49_16 rfl rfl).trans ?_
      refine (y_get2 (ji := 3) rfl f49_17 rfl rfl).trans ?_
      refine (g_t rfl).trans ?_
      refine (g_t (by rw [show s 16 3 = 20 from hR.2.2.2.2.2.2.2.2.2.2.2.2.2.2.2.2.2.2.2.2.2.2.1]; decide)).trans ?_
      rw [show s 16 3 = 20 from hR.2.2.2.2.2.2.2.2.2.2.2.2.2.2.2.2.2.2.2.2.2.2.1]
      refine (x_iload f49_20 rfl rfl).trans ?_
      refine (x_iaload f49_21 rfl).trans ?_
      refine (g_t rfl).trans ?_
      refine g_kl (n := 6) rfl fun hg1 => ?_
      refine (x_iload f49_22 rfl rfl).trans ?_
      refine (x_icmp_ne (tg := 42) f49_23 rfl rfl).trans (i_c ?_ ?_)
      · refine (x_aload f49_26 rfl rfl).trans ?_
        refine (x_aload f49_27 rfl rfl).trans ?_
        refine (y_get2 (ji := 4) rfl f49_28 rfl rfl).trans ?_
        refine (g_t rfl).trans ?_
        refine (g_t (by rw [show s 16 4 = 21 from hR.2.2.2.2.2.2.2.2.2.2.2.2.2.2.2.2.2.2.2.2.2.2.2.1]; decide)).trans ?_
        rw [show s 16 4 = 21 from hR.2.2.2.2.2.2.2.2.2.2.2.2.2.2.2.2.2.2.2.2.2.2.2.1]
        refine (x_iload f49_31 rfl rfl).trans ?_
        refine (x_iaload f49_32 rfl).trans ?_
        refine (g_t rfl).trans ?_
        refine (g_kt (n := 6) rfl hg1).trans ?_
        refine (x_aload f49_33 rfl rfl).trans ?_
        refine (y_get2 (ji := 5) rfl f49_34 rfl rfl).trans ?_
        refine (g_t rfl).trans ?_
        refine (g_t (by rw [show s 16 5 = 22 from hR.2.2.2.2.2.2.2.2.2.2.2.2.2.2.2.2.2.2.2.2.2.2.2.2.1]; decide)).trans ?_
        rw [show s 16 5 = 22 from hR.2.2.2.2.2.2.2.2.2.2.2.2.2.2.2.2.2.2.2.2.2.2.2.2.1]
        refine (x_iload f49_37 rfl rfl).trans ?_
        refine (x_iaload f49_38 rfl).trans ?_
        refine (g_t rfl).trans ?_
        refine (g_kt (n := 6) rfl hg1).trans ?_
        refine (x_invokevirtual (G := grd (kd 23 = 3) (bnV (sem 51 0 [aA 23, aI (s 21 l3), aI (s 22 l3), aU] [] s) fun s2 => sem 49 42 [aA 23, aA 16, aI l2, aI l3] [] s2)) f49_39 rfl rfl).trans ?_
        refine (g_t rfl).trans ?_
        refine bV_h fun s2 qs2 => ?_
        have rs2 := RefC.sem qs2 rfl hR
        refine (x_iinc (l2 := [aA 23, aA 16, aI l2, aI (w32 (l3 + 1))]) f49_42 rfl rfl rfl).trans ?_
        refine (x_goto (tg := 2) f49_45 rfl rfl).trans ?_
        rfl
      · refine (x_iinc (l2 := [aA 23, aA 16, aI l2, aI (w32 (l3 + 1))]) f49_42 rfl rfl rfl).trans ?_
        refine (x_goto (tg := 2) f49_45 rfl rfl).trans ?_
        rfl
    · refine (x_kil (l2 := [aU, aU, aU, aU]) f49_48 rfl).trans ?_
      exact x_return f49_48 rfl
  · refine (x_kil (l2 := [aU, aU, aU, aU]) f49_48 rfl).trans ?_
    exact x_return f49_48 rfl
set_option maxRecDepth 10000 in
theorem g50_0 {s : SG} (hR : RefC s) (l2 : Int) : sem 50 0 [aA 23, aA 16, aI l2, aU, aU] [] s = if (s 16 8) = 1 then if (0 : Int) < l2 then sem 50 14 [aA 23, aA 16, aI l2, aI 0, aU] [] s else sem 50 51 [aA 23, aA 16, aI l2, aU, aU] [] s else sem 50 51 [aA 23, aA 16, aI l2, aU, aU] [] s := by
  refine (x_aload f50_0 rfl rfl).trans ?_
  refine (y_get0 (ji := 8) rfl f50_1 rfl rfl).trans ?_
  refine (g_t rfl).trans ?_
  refine (x_iconst f50_4 rfl).trans ?_
  refine (x_icmp_ne (tg := 51) f50_5 rfl rfl).trans (i_c ?_ ?_)
  · refine (x_iload f50_8 rfl rfl).trans ?_
    refine (x_if_le (tg := 51) f50_9 rfl rfl).trans (i_c ?_ ?_)
    · refine (x_iconst f50_12 rfl).trans ?_
      refine (x_istore (l2 := [aA 23, aA 16, aI l2, aI 0, aU]) f50_13 rfl rfl).trans ?_
      rfl
    · rfl
  · rfl
set_option maxRecDepth 10000 in
theorem g50_14 {s : SG} (hR : RefC s) (l2 l3 : Int) : sem 50 14 [aA 23, aA 16, aI l2, aI l3, aU] [] s = if l3 < (s 23 6) then if l3 < 3 then grd ((0 : Int) ≤ l3 ∧ l3 < 3) (if (s 28 l3) = 0 then bnV (sem 51 0 [aA 23, aI l3, aI (s 16 9), aU] [] s) fun s2 => sem 50 14 [aA 23, aA 16, aI l2, aI (w32 (l3 + 1)), aU] [] s2 else sem 50 14 [aA 23, aA 16, aI l2, aI (w32 (l3 + 1)), aU] [] s) else sem 50 51 [aA 23, aA 16, aI l2, aU, aU] [] s else sem 50 51 [aA 23, aA 16, aI l2, aU, aU] [] s := by
  refine (x_iload f50_14 rfl rfl).trans ?_
  refine (x_aload f50_15 rfl rfl).trans ?_
  refine (y_get0 (ji := 6) rfl f50_16 rfl rfl).trans ?_
  refine (g_t rfl).trans ?_
  refine (x_icmp_ge (tg := 51) f50_19 rfl rfl).trans (i_c ?_ ?_)
  · refine (x_iload f50_22 rfl rfl).trans ?_
    refine (x_iconst f50_23 rfl).trans ?_
    refine (x_icmp_ge (tg := 51) f50_24 rfl rfl).trans (i_c ?_ ?_)
    · refine (x_aload f50_27 rfl rfl).trans ?_
      refine (y_get2 (ji := 4) rfl f50_28 rfl rfl).trans ?_
      refine (g_t rfl).trans ?_
      refine (g_t (by rw [show s 23 4 = 28 from hR.2.2.2.2.2.2.2.2.2.2.2.2.2.2.2.2.2.2.2.2.2.2.2.2.2.2.2.2.2.1]; decide)).trans ?_
      rw [show s 23 4 = 28 from hR.2.2.2.2.2.2.2.2.2.2.2.2.2.2.2.2.2.2.2.2.2.2.2.2.2.2.2.2.2.1]
      refine (x_iload f50_31 rfl rfl).trans ?_
      refine (x_iaload f50_32 rfl).trans ?_
      refine (g_t rfl).trans ?_
      refine g_kl (n := 3) rfl fun hg1 => ?_
      refine (x_if_ne (tg := 45) f50_33 rfl rfl).trans (i_c ?_ ?_)
      · refine (x_aload f50_36 rfl rfl).trans ?_
        refine (x_iload f50_37 rfl rfl).trans ?_
        refine (x_aload f50_38 rfl rfl).trans ?_
        refine (y_get0 (ji := 9) rfl f50_39 rfl rfl).trans ?_
        refine (g_t rfl).trans ?_
        refine (x_invokevirtual (G := grd (kd 23 = 3) (bnV (sem 51 0 [aA 23, aI l3, aI (s 16 9), aU] [] s) fun s2 => sem 50 45 [aA 23, aA 16, aI l2, aI l3, aU] [] s2)) f50_42 rfl rfl).trans ?_
        refine (g_t rfl).trans ?_
        refine bV_h fun s2 qs2 => ?_
        have rs2 := RefC.sem qs2 rfl hR
        refine (x_iinc (l2 := [aA 23, aA 16, aI l2, aI (w32 (l3 + 1)), aU]) f50_45 rfl rfl rfl).trans ?_
        refine (x_goto (tg := 14) f50_48 rfl rfl).trans ?_
        rfl
      · refine (x_iinc (l2 := [aA 23, aA 16, aI l2, aI (w32 (l3 + 1)), aU]) f50_45 rfl rfl rfl).trans ?_
        refine (x_goto (tg := 14) f50_48 rfl rfl).trans ?_
        rfl
    · exact x_kil f50_51 rfl
  · exact x_kil f50_51 rfl
set_option maxRecDepth 10000 in
theorem g50_51 {s : SG} (hR : RefC s) (l2 : Int) : sem 50 51 [aA 23, aA 16, aI l2, aU, aU] [] s = if (s 16 8) = 2 then if l2 = (s 16 9) then sem 50 75 [aA 23, aU, aU, aI (s 23 7), aI 0] [] s else some (aU, s) else some (aU, s) := by
  refine (x_aload f50_51 rfl rfl).trans ?_
  refine (y_get0 (ji := 8) rfl f50_52 rfl rfl).trans ?_
  refine (g_t rfl).trans ?_
  refine (x_iconst f50_55 rfl).trans ?_
  refine (x_icmp_ne (tg := 106) f50_56 rfl rfl).trans (i_c ?_ ?_)
  · refine (x_iload f50_59 rfl rfl).trans ?_
    refine (x_aload f50_60 rfl rfl).trans ?_
    refine (y_get0 (ji := 9) rfl f50_61 rfl rfl).trans ?_
    refine (g_t rfl).trans ?_
    refine (x_icmp_ne (tg := 106) f50_64 rfl rfl).trans (i_c ?_ ?_)
    · refine (x_aload f50_67 rfl rfl).trans ?_
      refine (y_get0 (ji := 7) rfl f50_68 rfl rfl).trans ?_
      refine (g_t rfl).trans ?_
      refine (x_istore (l2 := [aA 23, aA 16, aI l2, aI (s 23 7), aU]) f50_71 rfl rfl).trans ?_
      refine (x_iconst f50_72 rfl).trans ?_
      refine (x_istore (l2 := [aA 23, aA 16, aI l2, aI (s 23 7), aI 0]) f50_73 rfl rfl).trans ?_
      exact x_kil f50_75 rfl
    · refine (x_kil (l2 := [aU, aU, aU, aU, aU]) f50_106 rfl).trans ?_
      exact x_return f50_106 rfl
  · refine (x_kil (l2 := [aU, aU, aU, aU, aU]) f50_106 rfl).trans ?_
    exact x_return f50_106 rfl
set_option maxRecDepth 10000 in
theorem g50_75 {s : SG} (hR : RefC s) (l3 l4 : Int) : sem 50 75 [aA 23, aU, aU, aI l3, aI l4] [] s = if l4 < l3 then if (0 : Int) < (s 23 6) then grd ((s 23 6) ≠ 0) (bnV (sem 51 0 [aA 23, aI (remA l4 (s 23 6)), aI 1, aU] [] s) fun s1 => sem 50 75 [aA 23, aU, aU, aI l3, aI (w32 (l4 + 1))] [] s1) else some (aU, s) else some (aU, s) := by
  refine (x_iload f50_75 rfl rfl).trans ?_
  refine (x_iload f50_77 rfl rfl).trans ?_
  refine (x_icmp_ge (tg := 106) f50_78 rfl rfl).trans (i_c ?_ ?_)
  · refine (x_aload f50_81 rfl rfl).trans ?_
    refine (y_get0 (ji := 6) rfl f50_82 rfl rfl).trans ?_
    refine (g_t rfl).trans ?_
    refine (x_if_le (tg := 106) f50_85 rfl rfl).trans (i_c ?_ ?_)
    · refine (x_aload f50_88 rfl rfl).trans ?_
      refine (x_iload f50_89 rfl rfl).trans ?_
      refine (x_aload f50_91 rfl rfl).trans ?_
      refine (y_get0 (ji := 6) rfl f50_92 rfl rfl).trans ?_
      refine (g_t rfl).trans ?_
      refine (x_irem f50_95 rfl).trans ?_
      refine g_c ?_
      refine (x_iconst f50_96 rfl).trans ?_
      refine (x_invokevirtual (G := grd (kd 23 = 3) (bnV (sem 51 0 [aA 23, aI (remA l4 (s 23 6)), aI 1, aU] [] s) fun s1 => sem 50 100 [aA 23, aU, aU, aI l3, aI l4] [] s1)) f50_97 rfl rfl).trans ?_
      refine (g_t rfl).trans ?_
      refine bV_h fun s1 qs1 => ?_
      have rs1 := RefC.sem qs1 rfl hR
      refine (x_iinc (l2 := [aA 23, aU, aU, aI l3, aI (w32 (l4 + 1))]) f50_100 rfl rfl rfl).trans ?_
      refine (x_goto (tg := 75) f50_103 rfl rfl).trans ?_
      rfl
    · refine (x_kil (l2 := [aU, aU, aU, aU, aU]) f50_106 rfl).trans ?_
      exact x_return f50_106 rfl
  · refine (x_kil (l2 := [aU, aU, aU, aU, aU]) f50_106 rfl).trans ?_
    exact x_return f50_106 rfl
set_option maxRecDepth 10000 in
theorem g51_0 {s : SG} (hR : RefC s) (l1 l2 : Int) : sem 51 0 [aA 23, aI l1, aI l2, aU] [] s = bnI (sem 139 0 [aI l1] [] s) fun a2 s1 => if a2 = 0 then some (aU, s1) else grd ((0 : Int) ≤ l1 ∧ l1 < 3) (some (aU, up (up s1 28 l1 (w32 ((s1 28 l1) + (min l2 (s1 23 7))))) 23 7 (w32 ((s1 23 7) - (min l2 (s1 23 7)))))) := by
  refine (x_iload f51_0 rfl rfl).trans ?_
  refine (x_invokestatic (G := bnI (sem 139 0 [aI l1] [] s) fun a2 s1 => sem 51 4 [aA 23, aI l1, aI l2, aU] [aI a2] s1) f51_1 rfl rfl).trans ?_
  refine bI_h fun a2 s1 qs1 => ?_
  have rs1 := RefC.sem qs1 rfl hR
  refine (x_if_eq (tg := 36) f51_4 rfl rfl).trans (i_c ?_ ?_)
  · refine (x_kil (l2 := [aU, aU, aU, aU]) f51_36 rfl).trans ?_
    exact x_return f51_36 rfl
  · refine (x_iload f51_7 rfl rfl).trans ?_
    refine (x_aload f51_8 rfl rfl).trans ?_
    refine (y_get0 (ji := 7) rfl f51_9 rfl rfl).trans ?_
    refine (g_t rfl).trans ?_
    refine (x_fsub f51_12 rfl rfl).trans ?_
    refine (x_istore (l2 := [aA 23, aI l1, aI l2, aI (min l2 (s1 23 7))]) f51_15 rfl rfl).trans ?_
    refine (x_aload f51_16 rfl rfl).trans ?_
    refine (y_get2 (ji := 4) rfl f51_17 rfl rfl).trans ?_
    refine (g_t rfl).trans ?_
    refine (g_t (by rw [show s1 23 4 = 28 from rs1.2.2.2.2.2.2.2.2.2.2.2.2.2.2.2.2.2.2.2.2.2.2.2.2.2.2.2.2.2.1]; decide)).trans ?_
    rw [show s1 23 4 = 28 from rs1.2.2.2.2.2.2.2.2.2.2.2.2.2.2.2.2.2.2.2.2.2.2.2.2.2.2.2.2.2.1]
    refine (x_iload f51_20 rfl rfl).trans ?_
    refine (x_dup2 f51_21 rfl rfl).trans ?_
    refine (x_iaload f51_22 rfl).trans ?_
    refine (g_t rfl).trans ?_
    refine g_kl (n := 3) rfl fun hg3 => ?_
    refine (x_iload f51_23 rfl rfl).trans ?_
    refine (x_iadd f51_24 rfl).trans ?_
    refine (x_iastore f51_25 rfl).trans ?_
    refine (g_t rfl).trans ?_
    refine (g_kt (n := 3) rfl hg3).trans ?_
    refine (x_aload f51_26 rfl rfl).trans ?_
    refine (x_dup f51_27 rfl rfl).trans ?_
    refine (y_get0 (ji := 7) rfl f51_28 rfl rfl).trans ?_
    refine (g_t rfl).trans ?_
    rw [show (up s1 28 l1 (w32 ((s1 28 l1) + (min l2 (s1 23 7))))) 23 7 = s1 23 7 from by rw [up_ne (by decide)]]
    refine (x_iload f51_31 rfl rfl).trans ?_
    refine (x_isub f51_32 rfl).trans ?_
    refine (y_put0 (ji := 7) rfl f51_33 rfl rfl).trans ?_
    refine (g_t rfl).trans ?_
    refine (x_kil (l2 := [aU, aU, aU, aU]) f51_36 rfl).trans ?_
    exact x_return f51_36 rfl
set_option maxRecDepth 10000 in
theorem g52_0 {s : SG} (hR : RefC s) (l1 : Int) : sem 52 0 [aA 23, aI l1] [] s = if l1 = (s 23 11) then bnI (sem 139 0 [aI (s 23 10)] [] s) fun a2 s1 => if a2 = 0 then some (aU, s1) else grd ((0 : Int) ≤ (s1 23 10) ∧ (s1 23 10) < 3) (some (aU, up s1 28 (s1 23 10) (w32 ((s1 28 (s1 23 10)) + (s1 23 12))))) else some (aU, s) := by
  refine (x_iload f52_0 rfl rfl).trans ?_
  refine (x_aload f52_1 rfl rfl).trans ?_
  refine (y_get0 (ji := 11) rfl f52_2 rfl rfl).trans ?_
  refine (g_t rfl).trans ?_
  refine (x_icmp_ne (tg := 34) f52_5 rfl rfl).trans (i_c ?_ ?_)
  · refine (x_aload f52_8 rfl rfl).trans ?_
    refine (y_get0 (ji := 10) rfl f52_9 rfl rfl).trans ?_
    refine (g_t rfl).trans ?_
    refine (x_invokestatic (G := bnI (sem 139 0 [aI (s 23 10)] [] s) fun a2 s1 => sem 52 15 [aA 23, aI l1] [aI a2] s1) f52_12 rfl rfl).trans ?_
    refine bI_h fun a2 s1 qs1 => ?_
    have rs1 := RefC.sem qs1 rfl hR
    refine (x_if_eq (tg := 34) f52_15 rfl rfl).trans (i_c ?_ ?_)
    · refine (x_kil (l2 := [aU, aU]) f52_34 rfl).trans ?_
      exact x_return f52_34 rfl
    · refine (x_aload f52_18 rfl rfl).trans ?_
      refine (y_get2 (ji := 4) rfl f52_19 rfl rfl).trans ?_
      refine (g_t rfl).trans ?_
      refine (g_t (by rw [show s1 23 4 = 28 from rs1.2.2.2.2.2.2.2.2.2.2.2.2.2.2.2.2.2.2.2.2.2.2.2.2.2.2.2.2.2.1]; decide)).trans ?_
      rw [show s1 23 4 = 28 from rs1.2.2.2.2.2.2.2.2.2.2.2.2.2.2.2.2.2.2.2.2.2.2.2.2.2.2.2.2.2.1]
      refine (x_aload f52_22 rfl rfl).trans ?_
      refine (y_get0 (ji := 10) rfl f52_23 rfl rfl).trans ?_
      refine (g_t rfl).trans ?_
      refine (x_dup2 f52_26 rfl rfl).trans ?_
      refine (x_iaload f52_27 rfl).trans ?_
      refine (g_t rfl).trans ?_
      refine g_kl (n := 3) rfl fun hg3 => ?_
      refine (x_aload f52_28 rfl rfl).trans ?_
      refine (y_get0 (ji := 12) rfl f52_29 rfl rfl).trans ?_
      refine (g_t rfl).trans ?_
      refine (x_iadd f52_32 rfl).trans ?_
      refine (x_iastore f52_33 rfl).trans ?_
      refine (g_t rfl).trans ?_
      refine (g_kt (n := 3) rfl hg3).trans ?_
      refine (x_kil (l2 := [aU, aU]) f52_34 rfl).trans ?_
      exact x_return f52_34 rfl
  · refine (x_kil (l2 := [aU, aU]) f52_34 rfl).trans ?_
    exact x_return f52_34 rfl
set_option maxRecDepth 10000 in
theorem g53_0 {t : Int} (ht : t = 32 ∨ t = 37) {s : SG} (hR : RefC s) (l3 l4 : Int) : sem 53 0 [aA 23, aA t, aA 16, aI l3, aI l4, aU, aU, aU] [] s = bnI (sem 139 0 [aI l3] [] s) fun a2 s1 => if a2 = 0 then some (aU, s1) else bnI (sem 84 0 [aA t, aI l3, aI (s1 16 6), aU] [] s1) fun a4 s3 => bnI (sem 29 0 [aA 16, aI l3, aI a4, aU] [] s3) fun a6 s5 => bnI (sem 54 0 [aA 23, aA t, aI l3, aI l4, aU, aU] [] s5) fun a8 s7 => if l3 = (s7 23 9) then sem 53 54 [aA 23, aA t, aU, aI l3, aI l4, aI (w32 ((w32 (a6 + a8)) + 1)), aU, aU] [] s7 else bnI (sem 23 0 [aA 16, aI l3, aI l4] [] s7) fun a10 s9 => if a10 = 0 then sem 53 54 [aA 23, aA t, aU, aI l3, aI l4, aI (w32 (a6 + a8)), aU, aU] [] s9 else sem 53 54 [aA 23, aA t, aU, aI l3, aI l4, aI (w32 ((w32 (a6 + a8)) + 1)), aU, aU] [] s9 := by
  refine (x_iload f53_0 rfl rfl).trans ?_
  refine (x_invokestatic (G := bnI (sem 139 0 [aI l3] [] s) fun a2 s1 => sem 53 4 [aA 23, aA t, aA 16, aI l3, aI l4, aU, aU, aU] [aI a2] s1) f53_1 rfl rfl).trans ?_
  refine bI_h fun a2 s1 qs1 => ?_
  have rs1 := RefC.sem qs1 rfl hR
  refine (x_if_ne (tg := 8) f53_4 rfl rfl).trans (i_c ?_ ?_)
  · exact x_return f53_7 rfl
  · refine (x_aload f53_8 rfl rfl).trans ?_
    refine (x_iload f53_9 rfl rfl).trans ?_
    refine (x_aload f53_10 rfl rfl).trans ?_
    refine (x_iload f53_11 rfl rfl).trans ?_
    refine (x_aload f53_12 rfl rfl).trans ?_
    refine (y_get0 (ji := 6) rfl f53_13 rfl rfl).trans ?_
    refine (g_t rfl).trans ?_
    refine (x_invokevirtual (G := grd (kd t = 6) (bnI (sem 84 0 [aA t, aI l3, aI (s1 16 6), aU] [] s1) fun a4 s3 => sem 53 19 [aA 23, aA t, aA 16, aI l3, aI l4, aU, aU, aU] [aI a4, aI l3, aA 16] s3)) f53_16 rfl rfl).trans ?_
    refine (g_t ((kd_t ht).1)).trans ?_
    refine bI_h fun a4 s3 qs3 => ?_
    have rs3 := RefC.sem qs3 rfl rs1
    refine (x_invokevirtual (G := grd (kd 16 = 1) (bnI (sem 29 0 [aA 16, aI l3, aI a4, aU] [] s3) fun a6 s5 => sem 53 22 [aA 23, aA t, aA 16, aI l3, aI l4, aU, aU, aU] [aI a6] s5)) f53_19 rfl rfl).trans ?_
    refine (g_t rfl).trans ?_
    refine bI_h fun a6 s5 qs5 => ?_
    have rs5 := RefC.sem qs5 rfl rs3
    refine (x_aload f53_22 rfl rfl).trans ?_
    refine (x_aload f53_23 rfl rfl).trans ?_
    refine (x_iload f53_24 rfl rfl).trans ?_
    refine (x_iload f53_25 rfl rfl).trans ?_
    refine (x_invokevirtual (G := grd (kd 23 = 3) (bnI (sem 54 0 [aA 23, aA t, aI l3, aI l4, aU, aU] [] s5) fun a8 s7 => sem 53 30 [aA 23, aA t, aA 16, aI l3, aI l4, aU, aU, aU] [aI a8, aI a6] s7)) f53_27 rfl rfl).trans ?_
    refine (g_t rfl).trans ?_
    refine bI_h fun a8 s7 qs7 => ?_
    have rs7 := RefC.sem qs7 rfl rs5
    refine (x_iadd f53_30 rfl).trans ?_
    refine (x_istore (l2 := [aA 23, aA t, aA 16, aI l3, aI l4, aI (w32 (a6 + a8)), aU, aU]) f53_31 rfl rfl).trans ?_
    refine (x_iload f53_33 rfl rfl).trans ?_
    refine (x_aload f53_34 rfl rfl).trans ?_
    refine (y_get0 (ji := 9) rfl f53_35 rfl rfl).trans ?_
    refine (g_t rfl).trans ?_
    refine (x_icmp_eq (tg := 51) f53_38 rfl rfl).trans (i_c ?_ ?_)
    · refine (x_kil (l2 := [aA 23, aA t, aU, aI l3, aI l4, aI (w32 (a6 + a8)), aU, aU]) f53_51 rfl).trans ?_
      refine (x_iinc (l2 := [aA 23, aA t, aU, aI l3, aI l4, aI (w32 ((w32 (a6 + a8)) + 1)), aU, aU]) f53_51 rfl rfl rfl).trans ?_
      rfl
    · refine (x_aload f53_41 rfl rfl).trans ?_
      refine (x_iload f53_42 rfl rfl).trans ?_
      refine (x_iload f53_43 rfl rfl).trans ?_
      refine (x_invokevirtual (G := grd (kd 16 = 1) (bnI (sem 23 0 [aA 16, aI l3, aI l4] [] s7) fun a10 s9 => sem 53 48 [aA 23, aA t, aA 16, aI l3, aI l4, aI (w32 (a6 + a8)), aU, aU] [aI a10] s9)) f53_45 rfl rfl).trans ?_
      refine (g_t rfl).trans ?_
      refine bI_h fun a10 s9 qs9 => ?_
      have rs9 := RefC.sem qs9 rfl rs7
      refine (x_if_eq (tg := 54) f53_48 rfl rfl).trans (i_c ?_ ?_)
      · exact x_kil f53_54 rfl
      · refine (x_kil (l2 := [aA 23, aA t, aU, aI l3, aI l4, aI (w32 (a6 + a8)), aU, aU]) f53_51 rfl).trans ?_
        refine (x_iinc (l2 := [aA 23, aA t, aU, aI l3, aI l4, aI (w32 ((w32 (a6 + a8)) + 1)), aU, aU]) f53_51 rfl rfl rfl).trans ?_
        rfl
set_option maxRecDepth 10000 in
theorem g53_54 {t : Int} (ht : t = 32 ∨ t = 37) {s : SG} (hR : RefC s) (l3 l4 l5 : Int) : sem 53 54 [aA 23, aA t, aU, aI l3, aI l4, aI l5, aU, aU] [] s = grd ((0 : Int) ≤ l3 ∧ l3 < 3) (bnI (sem 55 0 [aI l3, aI l4, aU] [] (up (up s 28 l3 (w32 ((s 28 l3) - (min l5 (s 28 l3))))) 29 l3 (w32 ((s 29 l3) + (min l5 (s 28 l3)))))) fun a3 s2 => grd ((0 : Int) ≤ a3 ∧ a3 < 18) (if l4 = 5 then some (aU, up (up (up (up (up s2 24 a3 (s2 28 l3)) 25 a3 (s2 29 l3)) 26 a3 l5) 27 a3 (w32 (l5 - (min l5 (s 28 l3))))) 23 8 (w32 ((s2 23 8) + (w32 (l5 - (min l5 (s 28 l3))))))) else bnI (sem 86 0 [aA t, aI l3] [] (up (up (up (up s2 24 a3 (s2 28 l3)) 25 a3 (s2 29 l3)) 26 a3 l5) 27 a3 (w32 (l5 - (min l5 (s 28 l3)))))) fun a6 s5 => if a6 = ((-9)) then some (aU, up s5 23 8 (w32 ((s5 23 8) + (w32 (l5 - (min l5 (s 28 l3))))))) else some (aU, s5))) := by
  refine (x_iload f53_54 rfl rfl).trans ?_
  refine (x_aload f53_56 rfl rfl).trans ?_
  refine (y_get2 (ji := 4) rfl f53_57 rfl rfl).trans ?_
  refine (g_t rfl).trans ?_
  refine (g_t (by rw [show s 23 4 = 28 from hR.2.2.2.2.2.2.2.2.2.2.2.2.2.2.2.2.2.2.2.2.2.2.2.2.2.2.2.2.2.1]; decide)).trans ?_
  rw [show s 23 4 = 28 from hR.2.2.2.2.2.2.2.2.2.2.2.2.2.2.2.2.2.2.2.2.2.2.2.2.2.2.2.2.2.1]
  refine (x_iload f53_60 rfl rfl).trans ?_
  refine (x_iaload f53_61 rfl).trans ?_
  refine (g_t rfl).trans ?_
  refine g_kl (n := 3) rfl fun hg1 => ?_
  refine (x_fsub f53_62 rfl rfl).trans ?_
  refine (x_istore (l2 := [aA 23, aA t, aU, aI l3, aI l4, aI l5, aI (min l5 (s 28 l3)), aU]) f53_65 rfl rfl).trans ?_
  refine (x_aload f53_67 rfl rfl).trans ?_
  refine (y_get2 (ji := 4) rfl f53_68 rfl rfl).trans ?_
  refine (g_t rfl).trans ?_
  refine (g_t (by rw [show s 23 4 = 28 from hR.2.2.2.2.2.2.2.2.2.2.2.2.2.2.2.2.2.2.2.2.2.2.2.2.2.2.2.2.2.1]; decide)).trans ?_
  rw [show s 23 4 = 28 from hR.2.2.2.2.2.2.2.2.2.2.2.2.2.2.2.2.2.2.2.2.2.2.2.2.2.2.2.2.2.1]
  refine (x_iload f53_71 rfl rfl).trans ?_
  refine (x_dup2 f53_72 rfl rfl).trans ?_
  refine (x_iaload f53_73 rfl).trans ?_
  refine (g_t rfl).trans ?_
  refine (g_kt (n := 3) rfl hg1).trans ?_
  refine (x_iload f53_74 rfl rfl).trans ?_
  refine (x_isub f53_76 rfl).trans ?_
  refine (x_iastore f53_77 rfl).trans ?_
  refine (g_t rfl).trans ?_
  refine (g_kt (n := 3) rfl hg1).trans ?_
  refine (x_aload f53_78 rfl rfl).trans ?_
  refine (y_get2 (ji := 5) rfl f53_79 rfl rfl).trans ?_
  refine (g_t rfl).trans ?_
  refine (g_t (by rw [show (up s 28 l3 (w32 ((s 28 l3) - (min l5 (s 28 l3))))) 23 5 = 29 from (by rw [up_ne (by decide)]; exact hR.2.2.2.2.2.2.2.2.2.2.2.2.2.2.2.2.2.2.2.2.2.2.2.2.2.2.2.2.2.2.1)]; decide)).trans ?_
  rw [show (up s 28 l3 (w32 ((s 28 l3) - (min l5 (s 28 l3))))) 23 5 = 29 from (by rw [up_ne (by decide)]; exact hR.2.2.2.2.2.2.2.2.2.2.2.2.2.2.2.2.2.2.2.2.2.2.2.2.2.2.2.2.2.2.1)]
  refine (x_iload f53_82 rfl rfl).trans ?_
  refine (x_dup2 f53_83 rfl rfl).trans ?_
  refine (x_iaload f53_84 rfl).trans ?_
  refine (g_t rfl).trans ?_
  refine (g_kt (n := 3) rfl hg1).trans ?_
  rw [show (up s 28 l3 (w32 ((s 28 l3) - (min l5 (s 28 l3))))) 29 l3 = s 29 l3 from by rw [up_ne (by decide)]]
  refine (x_iload f53_85 rfl rfl).trans ?_
  refine (x_iadd f53_87 rfl).trans ?_
  refine (x_iastore f53_88 rfl).trans ?_
  refine (g_t rfl).trans ?_
  refine (g_kt (n := 3) rfl hg1).trans ?_
  refine (x_iload f53_89 rfl rfl).trans ?_
  refine (x_iload f53_90 rfl rfl).trans ?_
  refine (x_invokestatic (G := bnI (sem 55 0 [aI l3, aI l4, aU] [] (up (up s 28 l3 (w32 ((s 28 l3) - (min l5 (s 28 l3))))) 29 l3 (w32 ((s 29 l3) + (min l5 (s 28 l3)))))) fun a3 s2 => sem 53 95 [aA 23, aA t, aU, aI l3, aI l4, aI l5, aI (min l5 (s 28 l3)), aU] [aI a3] s2) f53_92 rfl rfl).trans ?_
  refine bI_h fun a3 s2 qs2 => ?_
  have rs2 := RefC.sem qs2 rfl (RefC.upd (RefC.upd hR (rcb_a (by decide))) (rcb_a (by decide)))
  refine (x_istore (l2 := [aA 23, aA t, aU, aI l3, aI l4, aI l5, aI (min l5 (s 28 l3)), aI a3]) f53_95 rfl rfl).trans ?_
  refine (x_aload f53_97 rfl rfl).trans ?_
  refine (y_get2 (ji := 0) rfl f53_98 rfl rfl).trans ?_
  refine (g_t rfl).trans ?_
  refine (g_t (by rw [show s2 23 0 = 24 from rs2.2.2.2.2.2.2.2.2.2.2.2.2.2.2.2.2.2.2.2.2.2.2.2.2.2.1]; decide)).trans ?_
  rw [show s2 23 0 = 24 from rs2.2.2.2.2.2.2.2.2.2.2.2.2.2.2.2.2.2.2.2.2.2.2.2.2.2.1]
  refine (x_iload f53_101 rfl rfl).trans ?_
  refine (x_aload f53_103 rfl rfl).trans ?_
  refine (y_get2 (ji := 4) rfl f53_104 rfl rfl).trans ?_
  refine (g_t rfl).trans ?_
  refine (g_t (by rw [show s2 23 4 = 28 from rs2.2.2.2.2.2.2.2.2.2.2.2.2.2.2.2.2.2.2.2.2.2.2.2.2.2.2.2.2.2.1]; decide)).trans ?_
  rw [show s2 23 4 = 28 from rs2.2.2.2.2.2.2.2.2.2.2.2.2.2.2.2.2.2.2.2.2.2.2.2.2.2.2.2.2.2.1]
  refine (x_iload f53_107 rfl rfl).trans ?_
  refine (x_iaload f53_108 rfl).trans ?_
  refine (g_t rfl).trans ?_
  refine (g_kt (n := 3) rfl hg1).trans ?_
  refine (x_iastore f53_109 rfl).trans ?_
  refine (g_t rfl).trans ?_
  refine g_kl (n := 18) rfl fun hg4 => ?_
  refine (x_aload f53_110 rfl rfl).trans ?_
  refine (y_get2 (ji := 1) rfl f53_111 rfl rfl).trans ?_
  refine (g_t rfl).trans ?_
  refine (g_t (by rw [show (up s2 24 a3 (s2 28 l3)) 23 1 = 25 from (by rw [up_ne (by decide)]; exact rs2.2.2.2.2.2.2.2.2.2.2.2.2.2.2.2.2.2.2.2.2.2.2.2.2.2.2.1)]; decide)).trans ?_
  rw [show (up s2 24 a3 (s2 28 l3)) 23 1 = 25 from (by rw [up_ne (by decide)]; exact rs2.2.2.2.2.2.2.2.2.2.2.2.2.2.2.2.2.2.2.2.2.2.2.2.2.2.2.1)]
  refine (x_iload f53_114 rfl rfl).trans ?_
  refine (x_aload f53_116 rfl rfl).trans ?_
  refine (y_get2 (ji := 5) rfl f53_117 rfl rfl).trans ?_
  refine (g_t rfl).trans ?_
  refine (g_t (by rw [show (up s2 24 a3 (s2 28 l3)) 23 5 = 29 from (by rw [up_ne (by decide)]; exact rs2.2.2.2.2.2.2.2.2.2.2.2.2.2.2.2.2.2.2.2.2.2.2.2.2.2.2.2.2.2.2.1)]; decide)).trans ?_
  rw [show (up s2 24 a3 (s2 28 l3)) 23 5 = 29 from (by rw [up_ne (by decide)]; exact rs2.2.2.2.2.2.2.2.2.2.2.2.2.2.2.2.2.2.2.2.2.2.2.2.2.2.2.2.2.2.2.1)]
  refine (x_iload f53_120 rfl rfl).trans ?_
  refine (x_iaload f53_121 rfl).trans ?_
  refine (g_t rfl).trans ?_
  refine (g_kt (n := 3) rfl hg1).trans ?_
  rw [show (up s2 24 a3 (s2 28 l3)) 29 l3 = s2 29 l3 from by rw [up_ne (by decide)]]
  refine (x_iastore f53_122 rfl).trans ?_
  refine (g_t rfl).trans ?_
  refine (g_kt (n := 18) rfl hg4).trans ?_
  refine (x_aload f53_123 rfl rfl).trans ?_
  refine (y_get2 (ji := 2) rfl f53_124 rfl rfl).trans ?_
  refine (g_t rfl).trans ?_
  refine (g_t (by rw [show (up (up s2 24 a3 (s2 28 l3)) 25 a3 (s2 29 l3)) 23 2 = 26 from (by rw [up_ne (by decide), up_ne (by decide)]; exact rs2.2.2.2.2.2.2.2.2.2.2.2.2.2.2.2.2.2.2.2.2.2.2.2.2.2.2.2.1)]; decide)).trans ?_
  rw [show (up (up s2 24 a3 (s2 28 l3)) 25 a3 (s2 29 l3)) 23 2 = 26 from (by rw [up_ne (by decide), up_ne (by decide)]; exact rs2.2.2.2.2.2.2.2.2.2.2.2.2.2.2.2.2.2.2.2.2.2.2.2.2.2.2.2.1)]
  refine (x_iload f53_127 rfl rfl).trans ?_
  refine (x_iload f53_129 rfl rfl).trans ?_
  refine (x_iastore f53_131 rfl).trans ?_
  refine (g_t rfl).trans ?_
  refine (g_kt (n := 18) rfl hg4).trans ?_
  refine (x_aload f53_132 rfl rfl).trans ?_
  refine (y_get2 (ji := 3) rfl f53_133 rfl rfl).trans ?_
  refine (g_t rfl).trans ?_
  refine (g_t (by rw [show (up (up (up s2 24 a3 (s2 28 l3)) 25 a3 (s2 29 l3)) 26 a3 l5) 23 3 = 27 from (by rw [up_ne (by decide), up_ne (by decide), up_ne (by decide)]; exact rs2.2.2.2.2.2.2.2.2.2.2.2.2.2.2.2.2.2.2.2.2.2.2.2.2.2.2.2.2.1)]; decide)).trans ?_
  rw [show (up (up (up s2 24 a3 (s2 28 l3)) 25 a3 (s2 29 l3)) 26 a3 l5) 23 3 = 27 from (by rw [up_ne (by decide), up_ne (by decide), up_ne (by decide)]; exact rs2.2.2.2.2.2.2.2.2.2.2.2.2.2.2.2.2.2.2.2.2.2.2.2.2.2.2.2.2.1)]
  refine (x_iload f53_136 rfl rfl).trans ?_
  refine (x_iload f53_138 rfl rfl).trans ?_
  refine (x_iload f53_140 rfl rfl).trans ?_
  refine (x_isub f53_142 rfl).trans ?_
  refine (x_iastore f53_143 rfl).trans ?_
  refine (g_t rfl).trans ?_
  refine (g_kt (n := 18) rfl hg4).trans ?_
  refine (x_iload f53_144 rfl rfl).trans ?_
  refine (x_iconst f53_146 rfl).trans ?_
  refine (x_icmp_eq (tg := 160) f53_147 rfl rfl).trans (i_c ?_ ?_)
  · refine (x_kil (l2 := [aA 23, aU, aU, aU, aU, aI l5, aI (min l5 (s 28 l3)), aU]) f53_160 rfl).trans ?_
    refine (x_aload f53_160 rfl rfl).trans ?_
    refine (x_dup f53_161 rfl rfl).trans ?_
    refine (y_get0 (ji := 8) rfl f53_162 rfl rfl).trans ?_
    refine (g_t rfl).trans ?_
    rw [show (up (up (up (up s2 24 a3 (s2 28 l3)) 25 a3 (s2 29 l3)) 26 a3 l5) 27 a3 (w32 (l5 - (min l5 (s 28 l3))))) 23 8 = s2 23 8 from by rw [up_ne (by decide), up_ne (by decide), up_ne (by decide), up_ne (by decide)]]
    refine (x_iload f53_165 rfl rfl).trans ?_
    refine (x_iload f53_167 rfl rfl).trans ?_
    refine (x_isub f53_169 rfl).trans ?_
    refine (x_iadd f53_170 rfl).trans ?_
    refine (y_put0 (ji := 8) rfl f53_171 rfl rfl).trans ?_
    refine (g_t rfl).trans ?_
    refine (x_kil (l2 := [aU, aU, aU, aU, aU, aU, aU, aU]) f53_174 rfl).trans ?_
    exact x_return f53_174 rfl
  · refine (x_aload f53_150 rfl rfl).trans ?_
    refine (x_iload f53_151 rfl rfl).trans ?_
    refine (x_invokevirtual (G := grd (kd t = 6) (bnI (sem 86 0 [aA t, aI l3] [] (up (up (up (up s2 24 a3 (s2 28 l3)) 25 a3 (s2 29 l3)) 26 a3 l5) 27 a3 (w32 (l5 - (min l5 (s 28 l3)))))) fun a6 s5 => sem 53 155 [aA 23, aA t, aU, aI l3, aI l4, aI l5, aI (min l5 (s 28 l3)), aI a3] [aI a6] s5)) f53_152 rfl rfl).trans ?_
    refine (g_t ((kd_t ht).1)).trans ?_
    refine bI_h fun a6 s5 qs5 => ?_
    have rs5 := RefC.sem qs5 rfl (RefC.upd (RefC.upd (RefC.upd (RefC.upd rs2 (rcb_a (by decide))) (rcb_a (by decide))) (rcb_a (by decide))) (rcb_a (by decide)))
    refine (x_iconst f53_155 rfl).trans ?_
    refine (x_icmp_ne (tg := 174) f53_157 rfl rfl).trans (i_c ?_ ?_)
    · refine (x_kil (l2 := [aA 23, aU, aU, aU, aU, aI l5, aI (min l5 (s 28 l3)), aU]) f53_160 rfl).trans ?_
      refine (x_aload f53_160 rfl rfl).trans ?_
      refine (x_dup f53_161 rfl rfl).trans ?_
      refine (y_get0 (ji := 8) rfl f53_162 rfl rfl).trans ?_
      refine (g_t rfl).trans ?_
      refine (x_iload f53_165 rfl rfl).trans ?_
      refine (x_iload f53_167 rfl rfl).trans ?_
      refine (x_isub f53_169 rfl).trans ?_
      refine (x_iadd f53_170 rfl).trans ?_
      refine (y_put0 (ji := 8) rfl f53_171 rfl rfl).trans ?_
      refine (g_t rfl).trans ?_
      refine (x_kil (l2 := [aU, aU, aU, aU, aU, aU, aU, aU]) f53_174 rfl).trans ?_
      exact x_return f53_174 rfl
    · refine (x_kil (l2 := [aU, aU, aU, aU, aU, aU, aU, aU]) f53_174 rfl).trans ?_
      exact x_return f53_174 rfl
set_option maxRecDepth 10000 in
theorem g54_0 {t : Int} (ht : t = 32 ∨ t = 37) {s : SG} (hR : RefC s) (l2 l3 : Int) : sem 54 0 [aA 23, aA t, aI l2, aI l3, aU, aU] [] s = sem 54 6 [aA 23, aA t, aI l2, aI l3, aI 0, aI 0] [] s := by
  refine (x_iconst f54_0 rfl).trans ?_
  refine (x_istore (l2 := [aA 23, aA t, aI l2, aI l3, aI 0, aU]) f54_1 rfl rfl).trans ?_
  refine (x_iconst f54_3 rfl).trans ?_
  refine (x_istore (l2 := [aA 23, aA t, aI l2, aI l3, aI 0, aI 0]) f54_4 rfl rfl).trans ?_
  rfl
set_option maxRecDepth 10000 in
theorem g54_6 {t : Int} (ht : t = 32 ∨ t = 37) {s : SG} (hR : RefC s) (l2 l3 l4 l5 : Int) : sem 54 6 [aA 23, aA t, aI l2, aI l3, aI l4, aI l5] [] s = if l5 < (s 23 6) then if (0 : Int) < l3 then bnI (sem 86 0 [aA t, aI l5] [] s) fun a2 s1 => if a2 = l2 then bnI (sem 55 0 [aI l5, aI (w32 (l3 - 1)), aU] [] s1) fun a4 s3 => grd ((0 : Int) ≤ a4 ∧ a4 < 18) (sem 54 6 [aA 23, aA t, aI l2, aI l3, aI (w32 (l4 + (s3 27 a4))), aI (w32 (l5 + 1))] [] s3) else sem 54 6 [aA 23, aA t, aI l2, aI l3, aI l4, aI (w32 (l5 + 1))] [] s1 else some (aI l4, s) else some (aI l4, s) := by
  refine (x_iload f54_6 rfl rfl).trans ?_
  refine (x_aload f54_8 rfl rfl).trans ?_
  refine (y_get0 (ji := 6) rfl f54_9 rfl rfl).trans ?_
  refine (g_t rfl).trans ?_
  refine (x_icmp_ge (tg := 53) f54_12 rfl rfl).trans (i_c ?_ ?_)
  · refine (x_iload f54_15 rfl rfl).trans ?_
    refine (x_if_le (tg := 53) f54_16 rfl rfl).trans (i_c ?_ ?_)
    · refine (x_aload f54_19 rfl rfl).trans ?_
      refine (x_iload f54_20 rfl rfl).trans ?_
      refine (x_invokevirtual (G := grd (kd t = 6) (bnI (sem 86 0 [aA t, aI l5] [] s) fun a2 s1 => sem 54 25 [aA 23, aA t, aI l2, aI l3, aI l4, aI l5] [aI a2] s1)) f54_22 rfl rfl).trans ?_
      refine (g_t ((kd_t ht).1)).trans ?_
      refine bI_h fun a2 s1 qs1 => ?_
      have rs1 := RefC.sem qs1 rfl hR
      refine (x_iload f54_25 rfl rfl).trans ?_
      refine (x_icmp_ne (tg := 47) f54_26 rfl rfl).trans (i_c ?_ ?_)
      · refine (x_iload f54_29 rfl rfl).trans ?_
        refine (x_aload f54_31 rfl rfl).trans ?_
        refine (y_get2 (ji := 3) rfl f54_32 rfl rfl).trans ?_
        refine (g_t rfl).trans ?_
        refine (g_t (by rw [show s1 23 3 = 27 from rs1.2.2.2.2.2.2.2.2.2.2.2.2.2.2.2.2.2.2.2.2.2.2.2.2.2.2.2.2.1]; decide)).trans ?_
        rw [show s1 23 3 = 27 from rs1.2.2.2.2.2.2.2.2.2.2.2.2.2.2.2.2.2.2.2.2.2.2.2.2.2.2.2.2.1]
        refine (x_iload f54_35 rfl rfl).trans ?_
        refine (x_iload f54_37 rfl rfl).trans ?_
        refine (x_iconst f54_38 rfl).trans ?_
        refine (x_isub f54_39 rfl).trans ?_
        refine (x_invokestatic (G := bnI (sem 55 0 [aI l5, aI (w32 (l3 - 1)), aU] [] s1) fun a4 s3 => sem 54 43 [aA 23, aA t, aI l2, aI l3, aI l4, aI l5] [aI a4, aA 27, aI l4] s3) f54_40 rfl rfl).trans ?_
        refine bI_h fun a4 s3 qs3 => ?_
        have rs3 := RefC.sem qs3 rfl rs1
        refine (x_iaload f54_43 rfl).trans ?_
        refine (g_t rfl).trans ?_
        refine g_kl (n := 18) rfl fun hg5 => ?_
        refine (x_iadd f54_44 rfl).trans ?_
        refine (x_istore (l2 := [aA 23, aA t, aI l2, aI l3, aI (w32 (l4 + (s3 27 a4))), aI l5]) f54_45 rfl rfl).trans ?_
        refine (x_iinc (l2 := [aA 23, aA t, aI l2, aI l3, aI (w32 (l4 + (s3 27 a4))), aI (w32 (l5 + 1))]) f54_47 rfl rfl rfl).trans ?_
        refine (x_goto (tg := 6) f54_50 rfl rfl).trans ?_
        rfl
      · refine (x_iinc (l2 := [aA 23, aA t, aI l2, aI l3, aI l4, aI (w32 (l5 + 1))]) f54_47 rfl rfl rfl).trans ?_
        refine (x_goto (tg := 6) f54_50 rfl rfl).trans ?_
        rfl
    · refine (x_kil (l2 := [aU, aU, aU, aU, aI l4, aU]) f54_53 rfl).trans ?_
      refine (x_iload f54_53 rfl rfl).trans ?_
      exact x_ireturn f54_55 rfl
  · refine (x_kil (l2 := [aU, aU, aU, aU, aI l4, aU]) f54_53 rfl).trans ?_
    refine (x_iload f54_53 rfl rfl).trans ?_
    exact x_ireturn f54_55 rfl
set_option maxRecDepth 10000 in
theorem g56_0 {s : SG} (hR : RefC s) (l1 l2 l3 : Int) : sem 56 0 [aA 23, aI l1, aI l2, aI l3, aU] [] s = bnI (sem 55 0 [aI l1, aI l2, aU] [] s) fun a2 s1 => if l3 = 0 then grd ((0 : Int) ≤ a2 ∧ a2 < 18) (some (aI (s1 24 a2), s1)) else if l3 = 1 then grd ((0 : Int) ≤ a2 ∧ a2 < 18) (some (aI (s1 25 a2), s1)) else if l3 = 2 then grd ((0 : Int) ≤ a2 ∧ a2 < 18) (some (aI (s1 26 a2), s1)) else grd ((0 : Int) ≤ a2 ∧ a2 < 18) (some (aI (s1 27 a2), s1)) := by
  refine (x_iload f56_0 rfl rfl).trans ?_
  refine (x_iload f56_1 rfl rfl).trans ?_
  refine (x_invokestatic (G := bnI (sem 55 0 [aI l1, aI l2, aU] [] s) fun a2 s1 => sem 56 5 [aA 23, aI l1, aI l2, aI l3, aU] [aI a2] s1) f56_2 rfl rfl).trans ?_
  refine bI_h fun a2 s1 qs1 => ?_
  have rs1 := RefC.sem qs1 rfl hR
  refine (x_istore (l2 := [aA 23, aI l1, aI l2, aI l3, aI a2]) f56_5 rfl rfl).trans ?_
  refine (x_iload f56_7 rfl rfl).trans ?_
  refine (x_tsw f56_8 rfl).trans ?_
  refine Eq.trans (b := sem 56 (if l3 = 0 then 36 else if l3 = 1 then 44 else if l3 = 2 then 52 else 60) [aA 23, aI l1, aI l2, aI l3, aI a2] [] s1) rfl ?_
  refine x_ite.trans (i_c ?_ ?_)
  · refine (x_aload f56_36 rfl rfl).trans ?_
    refine (y_get2 (ji := 0) rfl f56_37 rfl rfl).trans ?_
    refine (g_t rfl).trans ?_
    refine (g_t (by rw [show s1 23 0 = 24 from rs1.2.2.2.2.2.2.2.2.2.2.2.2.2.2.2.2.2.2.2.2.2.2.2.2.2.1]; decide)).trans ?_
    rw [show s1 23 0 = 24 from rs1.2.2.2.2.2.2.2.2.2.2.2.2.2.2.2.2.2.2.2.2.2.2.2.2.2.1]
    refine (x_iload f56_40 rfl rfl).trans ?_
    refine (x_iaload f56_42 rfl).trans ?_
    refine (g_t rfl).trans ?_
    refine g_kl (n := 18) rfl fun hg3 => ?_
    exact x_ireturn f56_43 rfl
  refine x_ite.trans (i_c ?_ ?_)
  · refine (x_aload f56_44 rfl rfl).trans ?_
    refine (y_get2 (ji := 1) rfl f56_45 rfl rfl).trans ?_
    refine (g_t rfl).trans ?_
    refine (g_t (by rw [show s1 23 1 = 25 from rs1.2.2.2.2.2.2.2.2.2.2.2.2.2.2.2.2.2.2.2.2.2.2.2.2.2.2.1]; decide)).trans ?_
    rw [show s1 23 1 = 25 from rs1.2.2.2.2.2.2.2.2.2.2.2.2.2.2.2.2.2.2.2.2.2.2.2.2.2.2.1]
    refine (x_iload f56_48 rfl rfl).trans ?_
    refine (x_iaload f56_50 rfl).trans ?_
    refine (g_t rfl).trans ?_
    refine g_kl (n := 18) rfl fun hg4 => ?_
    exact x_ireturn f56_51 rfl
  refine x_ite.trans (i_c ?_ ?_)
  · refine (x_aload f56_52 rfl rfl).trans ?_
    refine (y_get2 (ji := 2) rfl f56_53 rfl rfl).trans ?_
    refine (g_t rfl).trans ?_
    refine (g_t (by rw [show s1 23 2 = 26 from rs1.2.2.2.2.2.2.2.2.2.2.2.2.2.2.2.2.2.2.2.2.2.2.2.2.2.2.2.1]; decide)).trans ?_
    rw [show s1 23 2 = 26 from rs1.2.2.2.2.2.2.2.2.2.2.2.2.2.2.2.2.2.2.2.2.2.2.2.2.2.2.2.1]
    refine (x_iload f56_56 rfl rfl).trans ?_
    refine (x_iaload f56_58 rfl).trans ?_
    refine (g_t rfl).trans ?_
    refine g_kl (n := 18) rfl fun hg5 => ?_
    exact x_ireturn f56_59 rfl
  refine (x_aload f56_60 rfl rfl).trans ?_
  refine (y_get2 (ji := 3) rfl f56_61 rfl rfl).trans ?_
  refine (g_t rfl).trans ?_
  refine (g_t (by rw [show s1 23 3 = 27 from rs1.2.2.2.2.2.2.2.2.2.2.2.2.2.2.2.2.2.2.2.2.2.2.2.2.2.2.2.2.1]; decide)).trans ?_
  rw [show s1 23 3 = 27 from rs1.2.2.2.2.2.2.2.2.2.2.2.2.2.2.2.2.2.2.2.2.2.2.2.2.2.2.2.2.1]
  refine (x_iload f56_64 rfl rfl).trans ?_
  refine (x_iaload f56_66 rfl).trans ?_
  refine (g_t rfl).trans ?_
  refine g_kl (n := 18) rfl fun hg6 => ?_
  exact x_ireturn f56_67 rfl
set_option maxRecDepth 10000 in
theorem g57_0 {s : SG} (hR : RefC s) (l1 l2 : Int) : sem 57 0 [aA 23, aI l1, aI l2] [] s = bnI (sem 55 0 [aI l1, aI l2, aU] [] s) fun a2 s1 => grd ((0 : Int) ≤ a2 ∧ a2 < 18) (some (aI (s1 25 a2), s1)) := by
  refine (x_aload f57_0 rfl rfl).trans ?_
  refine (y_get2 (ji := 1) rfl f57_1 rfl rfl).trans ?_
  refine (g_t rfl).trans ?_
  refine (g_t (by rw [show s 23 1 = 25 from hR.2.2.2.2.2.2.2.2.2.2.2.2.2.2.2.2.2.2.2.2.2.2.2.2.2.2.1]; decide)).trans ?_
  rw [show s 23 1 = 25 from hR.2.2.2.2.2.2.2.2.2.2.2.2.2.2.2.2.2.2.2.2.2.2.2.2.2.2.1]
  refine (x_iload f57_4 rfl rfl).trans ?_
  refine (x_iload f57_5 rfl rfl).trans ?_
  refine (x_invokestatic (G := bnI (sem 55 0 [aI l1, aI l2, aU] [] s) fun a2 s1 => sem 57 9 [aA 23, aI l1, aI l2] [aI a2, aA 25] s1) f57_6 rfl rfl).trans ?_
  refine bI_h fun a2 s1 qs1 => ?_
  have rs1 := RefC.sem qs1 rfl hR
  refine (x_iaload f57_9 rfl).trans ?_
  refine (g_t rfl).trans ?_
  refine g_kl (n := 18) rfl fun hg3 => ?_
  exact x_ireturn f57_10 rfl
set_option maxRecDepth 10000 in
theorem g58_0 {s : SG} (hR : RefC s) (l1 : Int) : sem 58 0 [aA 23, aI l1, aU] [] s = sem 58 2 [aA 23, aI l1, aI 0] [] s := by
  refine (x_iconst f58_0 rfl).trans ?_
  refine (x_istore (l2 := [aA 23, aI l1, aI 0]) f58_1 rfl rfl).trans ?_
  rfl
set_option maxRecDepth 10000 in
theorem g58_2 {s : SG} (hR : RefC s) (l1 l2 : Int) : sem 58 2 [aA 23, aI l1, aI l2] [] s = if l2 < 6 then bnI (sem 55 0 [aI l1, aI l2, aU] [] s) fun a2 s1 => grd ((0 : Int) ≤ a2 ∧ a2 < 18) (if (0 : Int) < (s1 27 a2) then some (aI l2, s1) else sem 58 2 [aA 23, aI l1, aI (w32 (l2 + 1))] [] s1) else some (aI ((-9)), s) := by
  refine (x_iload f58_2 rfl rfl).trans ?_
  refine (x_iconst f58_3 rfl).trans ?_
  refine (x_icmp_ge (tg := 29) f58_5 rfl rfl).trans (i_c ?_ ?_)
  · refine (x_aload f58_8 rfl rfl).trans ?_
    refine (y_get2 (ji := 3) rfl f58_9 rfl rfl).trans ?_
    refine (g_t rfl).trans ?_
    refine (g_t (by rw [show s 23 3 = 27 from hR.2.2.2.2.2.2.2.2.2.2.2.2.2.2.2.2.2.2.2.2.2.2.2.2.2.2.2.2.1]; decide)).trans ?_
    rw [show s 23 3 = 27 from hR.2.2.2.2.2.2.2.2.2.2.2.2.2.2.2.2.2.2.2.2.2.2.2.2.2.2.2.2.1]
    refine (x_iload f58_12 rfl rfl).trans ?_
    refine (x_iload f58_13 rfl rfl).trans ?_
    refine (x_invokestatic (G := bnI (sem 55 0 [aI l1, aI l2, aU] [] s) fun a2 s1 => sem 58 17 [aA 23, aI l1, aI l2] [aI a2, aA 27] s1) f58_14 rfl rfl).trans ?_
    refine bI_h fun a2 s1 qs1 => ?_
    have rs1 := RefC.sem qs1 rfl hR
    refine (x_iaload f58_17 rfl).trans ?_
    refine (g_t rfl).trans ?_
    refine g_kl (n := 18) rfl fun hg3 => ?_
    refine (x_if_le (tg := 23) f58_18 rfl rfl).trans (i_c ?_ ?_)
    · refine (x_iload f58_21 rfl rfl).trans ?_
      exact x_ireturn f58_22 rfl
    · refine (x_iinc (l2 := [aA 23, aI l1, aI (w32 (l2 + 1))]) f58_23 rfl rfl rfl).trans ?_
      refine (x_goto (tg := 2) f58_26 rfl rfl).trans ?_
      rfl
  · refine (x_iconst f58_29 rfl).trans ?_
    exact x_ireturn f58_31 rfl
set_option maxRecDepth 10000 in
theorem g59_0 {s : SG} (hR : RefC s) : sem 59 0 [aA 23, aU, aU] [] s = sem 59 4 [aA 23, aI 0, aI 0] [] s := by
  refine (x_iconst f59_0 rfl).trans ?_
  refine (x_istore (l2 := [aA 23, aI 0, aU]) f59_1 rfl rfl).trans ?_
  refine (x_iconst f59_2 rfl).trans ?_
  refine (x_istore (l2 := [aA 23, aI 0, aI 0]) f59_3 rfl rfl).trans ?_
  rfl
set_option maxRecDepth 10000 in
theorem g59_4 {s : SG} (hR : RefC s) (l1 l2 : Int) : sem 59 4 [aA 23, aI l1, aI l2] [] s = if l2 < (s 23 6) then if l2 < 3 then grd ((0 : Int) ≤ l2 ∧ l2 < 3) (sem 59 4 [aA 23, aI (w32 (l1 + (s 29 l2))), aI (w32 (l2 + 1))] [] s) else some (aI l1, s) else some (aI l1, s) := by
  refine (x_iload f59_4 rfl rfl).trans ?_
  refine (x_aload f59_5 rfl rfl).trans ?_
  refine (y_get0 (ji := 6) rfl f59_6 rfl rfl).trans ?_
  refine (g_t rfl).trans ?_
  refine (x_icmp_ge (tg := 32) f59_9 rfl rfl).trans (i_c ?_ ?_)
  · refine (x_iload f59_12 rfl rfl).trans ?_
    refine (x_iconst f59_13 rfl).trans ?_
    refine (x_icmp_ge (tg := 32) f59_14 rfl rfl).trans (i_c ?_ ?_)
    · refine (x_iload f59_17 rfl rfl).trans ?_
      refine (x_aload f59_18 rfl rfl).trans ?_
      refine (y_get2 (ji := 5) rfl f59_19 rfl rfl).trans ?_
      refine (g_t rfl).trans ?_
      refine (g_t (by rw [show s 23 5 = 29 from hR.2.2.2.2.2.2.2.2.2.2.2.2.2.2.2.2.2.2.2.2.2.2.2.2.2.2.2.2.2.2.1]; decide)).trans ?_
      rw [show s 23 5 = 29 from hR.2.2.2.2.2.2.2.2.2.2.2.2.2.2.2.2.2.2.2.2.2.2.2.2.2.2.2.2.2.2.1]
      refine (x_iload f59_22 rfl rfl).trans ?_
      refine (x_iaload f59_23 rfl).trans ?_
      refine (g_t rfl).trans ?_
      refine g_kl (n := 3) rfl fun hg1 => ?_
      refine (x_iadd f59_24 rfl).trans ?_
      refine (x_istore (l2 := [aA 23, aI (w32 (l1 + (s 29 l2))), aI l2]) f59_25 rfl rfl).trans ?_
      refine (x_iinc (l2 := [aA 23, aI (w32 (l1 + (s 29 l2))), aI (w32 (l2 + 1))]) f59_26 rfl rfl rfl).trans ?_
      refine (x_goto (tg := 4) f59_29 rfl rfl).trans ?_
      rfl
    · refine (x_kil (l2 := [aU, aI l1, aU]) f59_32 rfl).trans ?_
      refine (x_iload f59_32 rfl rfl).trans ?_
      exact x_ireturn f59_33 rfl
  · refine (x_kil (l2 := [aU, aI l1, aU]) f59_32 rfl).trans ?_
    refine (x_iload f59_32 rfl rfl).trans ?_
    exact x_ireturn f59_33 rfl
set_option maxRecDepth 10000 in
theorem g60_0 {s : SG} (hR : RefC s) : sem 60 0 [aA 23, aU, aU] [] s = sem 60 4 [aA 23, aI 0, aI 0] [] s := by
  refine (x_iconst f60_0 rfl).trans ?_
  refine (x_istore (l2 := [aA 23, aI 0, aU]) f60_1 rfl rfl).trans ?_
  refine (x_iconst f60_2 rfl).trans ?_
  refine (x_istore (l2 := [aA 23, aI 0, aI 0]) f60_3 rfl rfl).trans ?_
  rfl
set_option maxRecDepth 10000 in
theorem g60_4 {s : SG} (hR : RefC s) (l1 l2 : Int) : sem 60 4 [aA 23, aI l1, aI l2] [] s = if l2 < (s 23 6) then if l2 < 3 then grd ((0 : Int) ≤ l2 ∧ l2 < 3) (sem 60 4 [aA 23, aI (w32 (l1 + (s 28 l2))), aI (w32 (l2 + 1))] [] s) else some (aI l1, s) else some (aI l1, s) := by
  refine (x_iload f60_4 rfl rfl).trans ?_
  refine (x_aload f60_5 rfl rfl).trans ?_
  refine (y_get0 (ji := 6) rfl f60_6 rfl rfl).trans ?_
  refine (g_t rfl).trans ?_
  refine (x_icmp_ge (tg := 32) f60_9 rfl rfl).trans (i_c ?_ ?_)
  · refine (x_iload f60_12 rfl rfl).trans ?_
    refine (x_iconst f60_13 rfl).trans ?_
    refine (x_icmp_ge (tg := 32) f60_14 rfl rfl).trans (i_c ?_ ?_)
    · refine (x_iload f60_17 rfl rfl).trans ?_
      refine (x_aload f60_18 rfl rfl).trans ?_
      refine (y_get2 (ji := 4) rfl f60_19 rfl rfl).trans ?_
      refine (g_t rfl).trans ?_
      refine (g_t (by rw [show s 23 4 = 28 from hR.2.2.2.2.2.2.2.2.2.2.2.2.2.2.2.2.2.2.2.2.2.2.2.2.2.2.2.2.2.1]; decide)).trans ?_
      rw [show s 23 4 = 28 from hR.2.2.2.2.2.2.2.2.2.2.2.2.2.2.2.2.2.2.2.2.2.2.2.2.2.2.2.2.2.1]
      refine (x_iload f60_22 rfl rfl).trans ?_
      refine (x_iaload f60_23 rfl).trans ?_
      refine (g_t rfl).trans ?_
      refine g_kl (n := 3) rfl fun hg1 => ?_
      refine (x_iadd f60_24 rfl).trans ?_
      refine (x_istore (l2 := [aA 23, aI (w32 (l1 + (s 28 l2))), aI l2]) f60_25 rfl rfl).trans ?_
      refine (x_iinc (l2 := [aA 23, aI (w32 (l1 + (s 28 l2))), aI (w32 (l2 + 1))]) f60_26 rfl rfl rfl).trans ?_
      refine (x_goto (tg := 4) f60_29 rfl rfl).trans ?_
      rfl
    · refine (x_kil (l2 := [aU, aI l1, aU]) f60_32 rfl).trans ?_
      refine (x_iload f60_32 rfl rfl).trans ?_
      exact x_ireturn f60_33 rfl
  · refine (x_kil (l2 := [aU, aI l1, aU]) f60_32 rfl).trans ?_
    refine (x_iload f60_32 rfl rfl).trans ?_
    exact x_ireturn f60_33 rfl
set_option maxRecDepth 10000 in
theorem g61_0 {s : SG} (hR : RefC s) : sem 61 0 [aA 23] [] s = some (aI (s 23 7), s) := by
  refine (x_aload f61_0 rfl rfl).trans ?_
  refine (y_get0 (ji := 7) rfl f61_1 rfl rfl).trans ?_
  refine (g_t rfl).trans ?_
  exact x_ireturn f61_4 rfl
set_option maxRecDepth 10000 in
theorem g62_0 {s : SG} (hR : RefC s) : sem 62 0 [aA 23] [] s = some (aI (s 23 8), s) := by
  refine (x_aload f62_0 rfl rfl).trans ?_
  refine (y_get0 (ji := 8) rfl f62_1 rfl rfl).trans ?_
  refine (g_t rfl).trans ?_
  exact x_ireturn f62_4 rfl
set_option maxRecDepth 10000 in
theorem g63_0 {t : Int} (ht : t = 32 ∨ t = 37) {s : SG} (hR : RefC s) : sem 63 0 [aA 23, aA t, aA 16, aU, aU] [] s = bnI (sem 60 0 [aA 23, aU, aU] [] s) fun a2 s1 => bnI (sem 27 0 [aA 16, aU, aU] [] s1) fun a4 s3 => bnI (sem 59 0 [aA 23, aU, aU] [] s3) fun a6 s5 => some (aI (w32 ((w32 ((w32 (a6 * (s5 t 6))) + (w32 ((w32 (a2 + (s1 23 7))) * (s5 t 7))))) - (w32 ((w32 (a4 + (s3 16 7))) * (s3 t 5))))), s5) := by
  refine (x_aload f63_0 rfl rfl).trans ?_
  refine (x_invokevirtual (G := grd (kd 23 = 3) (bnI (sem 60 0 [aA 23, aU, aU] [] s) fun a2 s1 => sem 63 4 [aA 23, aA t, aA 16, aU, aU] [aI a2] s1)) f63_1 rfl rfl).trans ?_
  refine (g_t rfl).trans ?_
  refine bI_h fun a2 s1 qs1 => ?_
  have rs1 := RefC.sem qs1 rfl hR
  refine (x_aload f63_4 rfl rfl).trans ?_
  refine (y_get0 (ji := 7) rfl f63_5 rfl rfl).trans ?_
  refine (g_t rfl).trans ?_
  refine (x_iadd f63_8 rfl).trans ?_
  refine (x_istore (l2 := [aA 23, aA t, aA 16, aI (w32 (a2 + (s1 23 7))), aU]) f63_9 rfl rfl).trans ?_
  refine (x_aload f63_10 rfl rfl).trans ?_
  refine (x_invokevirtual (G := grd (kd 16 = 1) (bnI (sem 27 0 [aA 16, aU, aU] [] s1) fun a4 s3 => sem 63 14 [aA 23, aA t, aA 16, aI (w32 (a2 + (s1 23 7))), aU] [aI a4] s3)) f63_11 rfl rfl).trans ?_
  refine (g_t rfl).trans ?_
  refine bI_h fun a4 s3 qs3 => ?_
  have rs3 := RefC.sem qs3 rfl rs1
  refine (x_aload f63_14 rfl rfl).trans ?_
  refine (y_get0 (ji := 7) rfl f63_15 rfl rfl).trans ?_
  refine (g_t rfl).trans ?_
  refine (x_iadd f63_18 rfl).trans ?_
  refine (x_aload f63_19 rfl rfl).trans ?_
  refine (y_get0 (ji := 5) rfl f63_20 rfl rfl).trans ?_
  refine (g_t ((kd_t ht).1)).trans ?_
  refine (x_imul f63_23 rfl).trans ?_
  refine (x_istore (l2 := [aA 23, aA t, aA 16, aI (w32 (a2 + (s1 23 7))), aI (w32 ((w32 (a4 + (s3 16 7))) * (s3 t 5)))]) f63_24 rfl rfl).trans ?_
  refine (x_aload f63_26 rfl rfl).trans ?_
  refine (x_invokevirtual (G := grd (kd 23 = 3) (bnI (sem 59 0 [aA 23, aU, aU] [] s3) fun a6 s5 => sem 63 30 [aA 23, aA t, aA 16, aI (w32 (a2 + (s1 23 7))), aI (w32 ((w32 (a4 + (s3 16 7))) * (s3 t 5)))] [aI a6] s5)) f63_27 rfl rfl).trans ?_
  refine (g_t rfl).trans ?_
  refine bI_h fun a6 s5 qs5 => ?_
  have rs5 := RefC.sem qs5 rfl rs3
  refine (x_aload f63_30 rfl rfl).trans ?_
  refine (y_get0 (ji := 6) rfl f63_31 rfl rfl).trans ?_
  refine (g_t ((kd_t ht).1)).trans ?_
  refine (x_imul f63_34 rfl).trans ?_
  refine (x_iload f63_35 rfl rfl).trans ?_
  refine (x_aload f63_36 rfl rfl).trans ?_
  refine (y_get0 (ji := 7) rfl f63_37 rfl rfl).trans ?_
  refine (g_t ((kd_t ht).1)).trans ?_
  refine (x_imul f63_40 rfl).trans ?_
  refine (x_iadd f63_41 rfl).trans ?_
  refine (x_iload f63_42 rfl rfl).trans ?_
  refine (x_isub f63_44 rfl).trans ?_
  exact x_ireturn f63_45 rfl
set_option maxRecDepth 10000 in
theorem g65_0 {s : SG} (hR : RefC s) : sem 65 0 [aA 10] [] s = some (aI (s 10 2), s) := by
  refine (x_aload f65_0 rfl rfl).trans ?_
  refine (y_get0 (ji := 2) rfl f65_1 rfl rfl).trans ?_
  refine (g_t rfl).trans ?_
  exact x_ireturn f65_4 rfl
set_option maxRecDepth 10000 in
theorem g66_0 {s : SG} (hR : RefC s) (l1 l2 : Int) : sem 66 0 [aA 10, aI l1, aI l2] [] s = if (s 10 2) < 8 then grd ((0 : Int) ≤ (s 10 2) ∧ (s 10 2) < 8) (some (aI 1, up (up (up s 11 (s 10 2) l1) 12 (s 10 2) l2) 10 2 (w32 ((s 10 2) + 1)))) else some (aI 0, s) := by
  refine (x_aload f66_0 rfl rfl).trans ?_
  refine (y_get0 (ji := 2) rfl f66_1 rfl rfl).trans ?_
  refine (g_t rfl).trans ?_
  refine (x_iconst f66_4 rfl).trans ?_
  refine (x_icmp_lt (tg := 11) f66_6 rfl rfl).trans (i_c ?_ ?_)
  · refine (x_aload f66_11 rfl rfl).trans ?_
    refine (y_get2 (ji := 0) rfl f66_12 rfl rfl).trans ?_
    refine (g_t rfl).trans ?_
    refine (g_t (by rw [show s 10 0 = 11 from hR.2.2.2.2.2.2.2.2.2.2.2.2.2.2.2.1]; decide)).trans ?_
    rw [show s 10 0 = 11 from hR.2.2.2.2.2.2.2.2.2.2.2.2.2.2.2.1]
    refine (x_aload f66_15 rfl rfl).trans ?_
    refine (y_get0 (ji := 2) rfl f66_16 rfl rfl).trans ?_
    refine (g_t rfl).trans ?_
    refine (x_iload f66_19 rfl rfl).trans ?_
    refine (x_iastore f66_20 rfl).trans ?_
    refine (g_t rfl).trans ?_
    refine g_kl (n := 8) rfl fun hg1 => ?_
    refine (x_aload f66_21 rfl rfl).trans ?_
    refine (y_get2 (ji := 1) rfl f66_22 rfl rfl).trans ?_
    refine (g_t rfl).trans ?_
    refine (g_t (by rw [show (up s 11 (s 10 2) l1) 10 1 = 12 from (by rw [up_ne (by decide)]; exact hR.2.2.2.2.2.2.2.2.2.2.2.2.2.2.2.2.1)]; decide)).trans ?_
    rw [show (up s 11 (s 10 2) l1) 10 1 = 12 from (by rw [up_ne (by decide)]; exact hR.2.2.2.2.2.2.2.2.2.2.2.2.2.2.2.2.1)]
    refine (x_aload f66_25 rfl rfl).trans ?_
    refine (y_get0 (ji := 2) rfl f66_26 rfl rfl).trans ?_
    refine (g_t rfl).trans ?_
    rw [show (up s 11 (s 10 2) l1) 10 2 = s 10 2 from by rw [up_ne (by decide)]]
    refine (x_iload f66_29 rfl rfl).trans ?_
    refine (x_iastore f66_30 rfl).trans ?_
    refine (g_t rfl).trans ?_
    refine (g_kt (n := 8) rfl hg1).trans ?_
    refine (x_aload f66_31 rfl rfl).trans ?_
    refine (x_dup f66_32 rfl rfl).trans ?_
    refine (y_get0 (ji := 2) rfl f66_33 rfl rfl).trans ?_
    refine (g_t rfl).trans ?_
    rw [show (up (up s 11 (s 10 2) l1) 12 (s 10 2) l2) 10 2 = s 10 2 from by rw [up_ne (by decide), up_ne (by decide)]]
    refine (x_iconst f66_36 rfl).trans ?_
    refine (x_iadd f66_37 rfl).trans ?_
    refine (y_put0 (ji := 2) rfl f66_38 rfl rfl).trans ?_
    refine (g_t rfl).trans ?_
    refine (x_iconst f66_41 rfl).trans ?_
    exact x_zreturn1 f66_42 rfl
  · refine (x_iconst f66_9 rfl).trans ?_
    exact x_zreturn0 f66_10 rfl
set_option maxRecDepth 10000 in
theorem g67_0 {s : SG} (hR : RefC s) : sem 67 0 [aA 10, aU] [] s = some (aI (s 10 2), up s 10 2 0) := by
  refine (x_aload f67_0 rfl rfl).trans ?_
  refine (y_get0 (ji := 2) rfl f67_1 rfl rfl).trans ?_
  refine (g_t rfl).trans ?_
  refine (x_istore (l2 := [aA 10, aI (s 10 2)]) f67_4 rfl rfl).trans ?_
  refine (x_aload f67_5 rfl rfl).trans ?_
  refine (x_iconst f67_6 rfl).trans ?_
  refine (y_put0 (ji := 2) rfl f67_7 rfl rfl).trans ?_
  refine (g_t rfl).trans ?_
  refine (x_iload f67_10 rfl rfl).trans ?_
  exact x_ireturn f67_11 rfl
set_option maxRecDepth 10000 in
theorem g68_0 {t : Int} (ht : t = 32 ∨ t = 37) {s : SG} (hR : RefC s) (l2 : Int) : sem 68 0 [aA 10, aA t, aI l2, aU, aU, aU, aU, aU] [] s = bnI (sem 83 0 [aA t, aI l2] [] s) fun a2 s1 => sem 68 10 [aA 10, aA t, aI l2, aL a2, aU, aI 0, aU, aU] [] s1 := by
  refine (x_aload f68_0 rfl rfl).trans ?_
  refine (x_iload f68_1 rfl rfl).trans ?_
  refine (x_invokevirtual (G := grd (kd t = 6) (bnI (sem 83 0 [aA t, aI l2] [] s) fun a2 s1 => sem 68 5 [aA 10, aA t, aI l2, aU, aU, aU, aU, aU] [aI a2] s1)) f68_2 rfl rfl).trans ?_
  refine (g_t ((kd_t ht).1)).trans ?_
  refine bI_h fun a2 s1 qs1 => ?_
  have rs1 := RefC.sem qs1 rfl hR
  refine (x_i2l f68_5 rfl).trans ?_
  refine (x_lstore (l2 := [aA 10, aA t, aI l2, aL a2, aU, aU, aU, aU]) f68_6 rfl rfl).trans ?_
  refine (x_iconst f68_7 rfl).trans ?_
  refine (x_istore (l2 := [aA 10, aA t, aI l2, aL a2, aU, aI 0, aU, aU]) f68_8 rfl rfl).trans ?_
  rfl
set_option maxRecDepth 10000 in
theorem g68_10 {t : Int} (ht : t = 32 ∨ t = 37) {s : SG} (hR : RefC s) (l2 l3 l5 : Int) : sem 68 10 [aA 10, aA t, aI l2, aL l3, aU, aI l5, aU, aU] [] s = if l5 < (s 10 2) then if l5 < 8 then grd ((0 : Int) ≤ l5 ∧ l5 < 8) (bnI (sem 84 0 [aA t, aI (s 11 l5), aI l2, aU] [] s) fun a3 s2 => bnI (sem 85 0 [aA t, aI (s2 11 l5), aI l2, aU] [] s2) fun a5 s4 => sem 68 10 [aA 10, aA t, aI l2, aL (w64 (l3 * (if (w32 ((s 12 l5) - a3)) = 1 then a5 else if (w32 ((s 12 l5) - a3)) = 0 then w32 (10 - a5) else 0))), aU, aI (w32 (l5 + 1)), aU, aU] [] s4) else some (aL l3, s) else some (aL l3, s) := by
  refine (x_iload f68_10 rfl rfl).trans ?_
  refine (x_aload f68_12 rfl rfl).trans ?_
  refine (y_get0 (ji := 2) rfl f68_13 rfl rfl).trans ?_
  refine (g_t rfl).trans ?_
  refine (x_icmp_ge (tg := 98) f68_16 rfl rfl).trans (i_c ?_ ?_)
  · refine (x_iload f68_19 rfl rfl).trans ?_
    refine (x_iconst f68_21 rfl).trans ?_
    refine (x_icmp_ge (tg := 98) f68_23 rfl rfl).trans (i_c ?_ ?_)
    · refine (x_aload f68_26 rfl rfl).trans ?_
      refine (y_get2 (ji := 1) rfl f68_27 rfl rfl).trans ?_
      refine (g_t rfl).trans ?_
      refine (g_t (by rw [show s 10 1 = 12 from hR.2.2.2.2.2.2.2.2.2.2.2.2.2.2.2.2.1]; decide)).trans ?_
      rw [show s 10 1 = 12 from hR.2.2.2.2.2.2.2.2.2.2.2.2.2.2.2.2.1]
      refine (x_iload f68_30 rfl rfl).trans ?_
      refine (x_iaload f68_32 rfl).trans ?_
      refine (g_t rfl).trans ?_
      refine g_kl (n := 8) rfl fun hg1 => ?_
      refine (x_aload f68_33 rfl rfl).trans ?_
      refine (x_aload f68_34 rfl rfl).trans ?_
      refine (y_get2 (ji := 0) rfl f68_35 rfl rfl).trans ?_
      refine (g_t rfl).trans ?_
      refine (g_t (by rw [show s 10 0 = 11 from hR.2.2.2.2.2.2.2.2.2.2.2.2.2.2.2.1]; decide)).trans ?_
      rw [show s 10 0 = 11 from hR.2.2.2.2.2.2.2.2.2.2.2.2.2.2.2.1]
      refine (x_iload f68_38 rfl rfl).trans ?_
      refine (x_iaload f68_40 rfl).trans ?_
      refine (g_t rfl).trans ?_
      refine (g_kt (n := 8) rfl hg1).trans ?_
      refine (x_iload f68_41 rfl rfl).trans ?_
      refine (x_invokevirtual (G := grd (kd t = 6) (bnI (sem 84 0 [aA t, aI (s 11 l5), aI l2, aU] [] s) fun a3 s2 => sem 68 45 [aA 10, aA t, aI l2, aL l3, aU, aI l5, aU, aU] [aI a3, aI (s 12 l5)] s2)) f68_42 rfl rfl).trans ?_
      refine (g_t ((kd_t ht).1)).trans ?_
      refine bI_h fun a3 s2 qs2 => ?_
      have rs2 := RefC.sem qs2 rfl hR
      refine (x_isub f68_45 rfl).trans ?_
      refine (x_istore (l2 := [aA 10, aA t, aI l2, aL l3, aU, aI l5, aI (w32 ((s 12 l5) - a3)), aU]) f68_46 rfl rfl).trans ?_
      refine (x_aload f68_48 rfl rfl).trans ?_
      refine (x_aload f68_49 rfl rfl).trans ?_
      refine (y_get2 (ji := 0) rfl f68_50 rfl rfl).trans ?_
      refine (g_t rfl).trans ?_
      refine (g_t (by rw [show s2 10 0 = 11 from rs2.2.2.2.2.2.2.2.2.2.2.2.2.2.2.2.1]; decide)).trans ?_
      rw [show s2 10 0 = 11 from rs2.2.2.2.2.2.2.2.2.2.2.2.2.2.2.2.1]
      refine (x_iload f68_53 rfl rfl).trans ?_
      refine (x_iaload f68_55 rfl).trans ?_
      refine (g_t rfl).trans ?_
      refine (g_kt (n := 8) rfl hg1).trans ?_
      refine (x_iload f68_56 rfl rfl).trans ?_
      refine (x_invokevirtual (G := grd (kd t = 6) (bnI (sem 85 0 [aA t, aI (s2 11 l5), aI l2, aU] [] s2) fun a5 s4 => sem 68 60 [aA 10, aA t, aI l2, aL l3, aU, aI l5, aI (w32 ((s 12 l5) - a3)), aU] [aI a5] s4)) f68_57 rfl rfl).trans ?_
      refine (g_t ((kd_t ht).1)).trans ?_
      refine bI_h fun a5 s4 qs4 => ?_
      have rs4 := RefC.sem qs4 rfl rs2
      refine (x_istore (l2 := [aA 10, aA t, aI l2, aL l3, aU, aI l5, aI (w32 ((s 12 l5) - a3)), aI a5]) f68_60 rfl rfl).trans ?_
      refine (x_lload f68_62 rfl rfl).trans ?_
      refine (x_iload f68_63 rfl rfl).trans ?_
      refine (x_iconst f68_65 rfl).trans ?_
      refine (x_icmp_ne (tg := 75) f68_66 rfl rfl).trans ?_
      refine Eq.trans (b := if (w32 ((s 12 l5) - a3)) = 1 then sem 68 90 [aA 10, aA t, aI l2, aU, aU, aI l5, aU, aU] [aL a5, aL l3] s4 else sem 68 90 [aA 10, aA t, aI l2, aU, aU, aI l5, aU, aU] [aL (if (w32 ((s 12 l5) - a3)) = 0 then w32 (10 - a5) else 0), aL l3] s4) (i_c ?_ ?_) ?_
      · refine (x_iload f68_69 rfl rfl).trans ?_
        refine (x_i2l f68_71 rfl).trans ?_
        refine (x_goto (tg := 90) f68_72 rfl rfl).trans ?_
        exact x_kil f68_90 rfl
      · refine (x_iload f68_75 rfl rfl).trans ?_
        refine (x_if_ne (tg := 89) f68_77 rfl rfl).trans ?_
        refine Eq.trans (b := if (w32 ((s 12 l5) - a3)) = 0 then sem 68 90 [aA 10, aA t, aI l2, aU, aU, aI l5, aU, aU] [aL (w32 (10 - a5)), aL l3] s4 else sem 68 90 [aA 10, aA t, aI l2, aU, aU, aI l5, aU, aU] [aL 0, aL l3] s4) (i_c ?_ ?_) ?_
        · refine (x_iconst f68_80 rfl).trans ?_
          refine (x_iload f68_82 rfl rfl).trans ?_
          refine (x_isub f68_84 rfl).trans ?_
          refine (x_i2l f68_85 rfl).trans ?_
          refine (x_goto (tg := 90) f68_86 rfl rfl).trans ?_
          exact x_kil f68_90 rfl
        · refine (x_lconst f68_89 rfl).trans ?_
          exact x_kil f68_90 rfl
        refine m_L.trans ?_
        rfl
      refine m_L.trans ?_
      refine (x_lmul f68_90 rfl).trans ?_
      refine (x_lstore (l2 := [aA 10, aA t, aI l2, aL (w64 (l3 * (if (w32 ((s 12 l5) - a3)) = 1 then a5 else if (w32 ((s 12 l5) - a3)) = 0 then w32 (10 - a5) else 0))), aU, aI l5, aU, aU]) f68_91 rfl rfl).trans ?_
      refine (x_iinc (l2 := [aA 10, aA t, aI l2, aL (w64 (l3 * (if (w32 ((s 12 l5) - a3)) = 1 then a5 else if (w32 ((s 12 l5) - a3)) = 0 then w32 (10 - a5) else 0))), aU, aI (w32 (l5 + 1)), aU, aU]) f68_92 rfl rfl rfl).trans ?_
      refine (x_goto (tg := 10) f68_95 rfl rfl).trans ?_
      rfl
    · refine (x_kil (l2 := [aU, aU, aU, aL l3, aU, aU, aU, aU]) f68_98 rfl).trans ?_
      refine (x_lload f68_98 rfl rfl).trans ?_
      exact x_lreturn f68_99 rfl
  · refine (x_kil (l2 := [aU, aU, aU, aL l3, aU, aU, aU, aU]) f68_98 rfl).trans ?_
    refine (x_lload f68_98 rfl rfl).trans ?_
    exact x_lreturn f68_99 rfl
set_option maxRecDepth 10000 in
theorem g69_0 {t : Int} (ht : t = 32 ∨ t = 37) {s : SG} (hR : RefC s) : sem 69 0 [aA 10, aA t, aU, aU, aU] [] s = sem 69 5 [aA 10, aA t, aL 0, aU, aI 0] [] s := by
  refine (x_lconst f69_0 rfl).trans ?_
  refine (x_lstore (l2 := [aA 10, aA t, aL 0, aU, aU]) f69_1 rfl rfl).trans ?_
  refine (x_iconst f69_2 rfl).trans ?_
  refine (x_istore (l2 := [aA 10, aA t, aL 0, aU, aI 0]) f69_3 rfl rfl).trans ?_
  rfl
set_option maxRecDepth 10000 in
theorem g69_5 {t : Int} (ht : t = 32 ∨ t = 37) {s : SG} (hR : RefC s) (l2 l4 : Int) : sem 69 5 [aA 10, aA t, aL l2, aU, aI l4] [] s = if l4 < 3 then bnL (sem 68 0 [aA 10, aA t, aI l4, aU, aU, aU, aU, aU] [] s) fun a2 s1 => sem 69 5 [aA 10, aA t, aL (w64 (l2 + a2)), aU, aI (w32 (l4 + 1))] [] s1 else some (aL l2, s) := by
  refine (x_iload f69_5 rfl rfl).trans ?_
  refine (x_iconst f69_7 rfl).trans ?_
  refine (x_icmp_ge (tg := 27) f69_8 rfl rfl).trans (i_c ?_ ?_)
  · refine (x_lload f69_11 rfl rfl).trans ?_
    refine (x_aload f69_12 rfl rfl).trans ?_
    refine (x_aload f69_13 rfl rfl).trans ?_
    refine (x_iload f69_14 rfl rfl).trans ?_
    refine (x_invokevirtual (G := grd (kd 10 = 4) (bnL (sem 68 0 [aA 10, aA t, aI l4, aU, aU, aU, aU, aU] [] s) fun a2 s1 => sem 69 19 [aA 10, aA t, aL l2, aU, aI l4] [aL a2, aL l2] s1)) f69_16 rfl rfl).trans ?_
    refine (g_t rfl).trans ?_
    refine bL_h fun a2 s1 qs1 => ?_
    have rs1 := RefC.sem qs1 rfl hR
    refine (x_ladd f69_19 rfl).trans ?_
    refine (x_lstore (l2 := [aA 10, aA t, aL (w64 (l2 + a2)), aU, aI l4]) f69_20 rfl rfl).trans ?_
    refine (x_iinc (l2 := [aA 10, aA t, aL (w64 (l2 + a2)), aU, aI (w32 (l4 + 1))]) f69_21 rfl rfl rfl).trans ?_
    refine (x_goto (tg := 5) f69_24 rfl rfl).trans ?_
    rfl
  · refine (x_lload f69_27 rfl rfl).trans ?_
    exact x_lreturn f69_28 rfl
set_option maxRecDepth 10000 in
theorem g70_0 {t : Int} (ht : t = 32 ∨ t = 37) {s : SG} (hR : RefC s) : sem 70 0 [aA 10, aA t, aU, aU] [] s = sem 70 4 [aA 10, aA t, aI 0, aI 1] [] s := by
  refine (x_iconst f70_0 rfl).trans ?_
  refine (x_istore (l2 := [aA 10, aA t, aI 0, aU]) f70_1 rfl rfl).trans ?_
  refine (x_iconst f70_2 rfl).trans ?_
  refine (x_istore (l2 := [aA 10, aA t, aI 0, aI 1]) f70_3 rfl rfl).trans ?_
  rfl
set_option maxRecDepth 10000 in
theorem g70_4 {t : Int} (ht : t = 32 ∨ t = 37) {s : SG} (hR : RefC s) (l2 l3 : Int) : sem 70 4 [aA 10, aA t, aI l2, aI l3] [] s = if l3 < 3 then bnL (sem 68 0 [aA 10, aA t, aI l3, aU, aU, aU, aU, aU] [] s) fun a2 s1 => bnL (sem 68 0 [aA 10, aA t, aI l2, aU, aU, aU, aU, aU] [] s1) fun a4 s3 => if (0 : Int) < (cmpL a2 a4) then sem 70 4 [aA 10, aA t, aI l3, aI (w32 (l3 + 1))] [] s3 else sem 70 4 [aA 10, aA t, aI l2, aI (w32 (l3 + 1))] [] s3 else some (aI l2, s) := by
  refine (x_iload f70_4 rfl rfl).trans ?_
  refine (x_iconst f70_5 rfl).trans ?_
  refine (x_icmp_ge (tg := 33) f70_6 rfl rfl).trans (i_c ?_ ?_)
  · refine (x_aload f70_9 rfl rfl).trans ?_
    refine (x_aload f70_10 rfl rfl).trans ?_
    refine (x_iload f70_11 rfl rfl).trans ?_
    refine (x_invokevirtual (G := grd (kd 10 = 4) (bnL (sem 68 0 [aA 10, aA t, aI l3, aU, aU, aU, aU, aU] [] s) fun a2 s1 => sem 70 15 [aA 10, aA t, aI l2, aI l3] [aL a2] s1)) f70_12 rfl rfl).trans ?_
    refine (g_t rfl).trans ?_
    refine bL_h fun a2 s1 qs1 => ?_
    have rs1 := RefC.sem qs1 rfl hR
    refine (x_aload f70_15 rfl rfl).trans ?_
    refine (x_aload f70_16 rfl rfl).trans ?_
    refine (x_iload f70_17 rfl rfl).trans ?_
    refine (x_invokevirtual (G := grd (kd 10 = 4) (bnL (sem 68 0 [aA 10, aA t, aI l2, aU, aU, aU, aU, aU] [] s1) fun a4 s3 => sem 70 21 [aA 10, aA t, aI l2, aI l3] [aL a4, aL a2] s3)) f70_18 rfl rfl).trans ?_
    refine (g_t rfl).trans ?_
    refine bL_h fun a4 s3 qs3 => ?_
    have rs3 := RefC.sem qs3 rfl rs1
    refine (x_lcmp f70_21 rfl).trans ?_
    refine (x_if_le (tg := 27) f70_22 rfl rfl).trans (i_c ?_ ?_)
    · refine (x_iload f70_25 rfl rfl).trans ?_
      refine (x_istore (l2 := [aA 10, aA t, aI l3, aI l3]) f70_26 rfl rfl).trans ?_
      refine (x_iinc (l2 := [aA 10, aA t, aI l3, aI (w32 (l3 + 1))]) f70_27 rfl rfl rfl).trans ?_
      refine (x_goto (tg := 4) f70_30 rfl rfl).trans ?_
      rfl
    · refine (x_iinc (l2 := [aA 10, aA t, aI l2, aI (w32 (l3 + 1))]) f70_27 rfl rfl rfl).trans ?_
      refine (x_goto (tg := 4) f70_30 rfl rfl).trans ?_
      rfl
  · refine (x_iload f70_33 rfl rfl).trans ?_
    exact x_ireturn f70_34 rfl
set_option maxRecDepth 10000 in
theorem g71_0 {t : Int} (ht : t = 32 ∨ t = 37) {s : SG} (hR : RefC s) : sem 71 0 [aA 10, aA t, aU, aU] [] s = sem 71 4 [aA 10, aA t, aI 0, aI 1] [] s := by
  refine (x_iconst f71_0 rfl).trans ?_
  refine (x_istore (l2 := [aA 10, aA t, aI 0, aU]) f71_1 rfl rfl).trans ?_
  refine (x_iconst f71_2 rfl).trans ?_
  refine (x_istore (l2 := [aA 10, aA t, aI 0, aI 1]) f71_3 rfl rfl).trans ?_
  rfl
set_option maxRecDepth 10000 in
theorem g71_4 {t : Int} (ht : t = 32 ∨ t = 37) {s : SG} (hR : RefC s) (l2 l3 : Int) : sem 71 4 [aA 10, aA t, aI l2, aI l3] [] s = if l3 < (s t 4) then bnI (sem 72 0 [aA 10, aA t, aI l3, aU, aU] [] s) fun a2 s1 => bnI (sem 72 0 [aA 10, aA t, aI l2, aU, aU] [] s1) fun a4 s3 => if a4 < a2 then sem 71 4 [aA 10, aA t, aI l3, aI (w32 (l3 + 1))] [] s3 else sem 71 4 [aA 10, aA t, aI l2, aI (w32 (l3 + 1))] [] s3 else some (aI l2, s) := by
  refine (x_iload f71_4 rfl rfl).trans ?_
  refine (x_aload f71_5 rfl rfl).trans ?_
  refine (y_get0 (ji := 4) rfl f71_6 rfl rfl).trans ?_
  refine (g_t ((kd_t ht).1)).trans ?_
  refine (x_icmp_ge (tg := 35) f71_9 rfl rfl).trans (i_c ?_ ?_)
  · refine (x_aload f71_12 rfl rfl).trans ?_
    refine (x_aload f71_13 rfl rfl).trans ?_
    refine (x_iload f71_14 rfl rfl).trans ?_
    refine (x_invokevirtual (G := grd (kd 10 = 4) (bnI (sem 72 0 [aA 10, aA t, aI l3, aU, aU] [] s) fun a2 s1 => sem 71 18 [aA 10, aA t, aI l2, aI l3] [aI a2] s1)) f71_15 rfl rfl).trans ?_
    refine (g_t rfl).trans ?_
    refine bI_h fun a2 s1 qs1 => ?_
    have rs1 := RefC.sem qs1 rfl hR
    refine (x_aload f71_18 rfl rfl).trans ?_
    refine (x_aload f71_19 rfl rfl).trans ?_
    refine (x_iload f71_20 rfl rfl).trans ?_
    refine (x_invokevirtual (G := grd (kd 10 = 4) (bnI (sem 72 0 [aA 10, aA t, aI l2, aU, aU] [] s1) fun a4 s3 => sem 71 24 [aA 10, aA t, aI l2, aI l3] [aI a4, aI a2] s3)) f71_21 rfl rfl).trans ?_
    refine (g_t rfl).trans ?_
    refine bI_h fun a4 s3 qs3 => ?_
    have rs3 := RefC.sem qs3 rfl rs1
    refine (x_icmp_le (tg := 29) f71_24 rfl rfl).trans (i_c ?_ ?_)
    · refine (x_iload f71_27 rfl rfl).trans ?_
      refine (x_istore (l2 := [aA 10, aA t, aI l3, aI l3]) f71_28 rfl rfl).trans ?_
      refine (x_iinc (l2 := [aA 10, aA t, aI l3, aI (w32 (l3 + 1))]) f71_29 rfl rfl rfl).trans ?_
      refine (x_goto (tg := 4) f71_32 rfl rfl).trans ?_
      rfl
    · refine (x_iinc (l2 := [aA 10, aA t, aI l2, aI (w32 (l3 + 1))]) f71_29 rfl rfl rfl).trans ?_
      refine (x_goto (tg := 4) f71_32 rfl rfl).trans ?_
      rfl
  · refine (x_iload f71_35 rfl rfl).trans ?_
    exact x_ireturn f71_36 rfl
set_option maxRecDepth 10000 in
theorem g72_0 {t : Int} (ht : t = 32 ∨ t = 37) {s : SG} (hR : RefC s) (l2 : Int) : sem 72 0 [aA 10, aA t, aI l2, aU, aU] [] s = sem 72 5 [aA 10, aA t, aI l2, aI 0, aI 0] [] s := by
  refine (x_iconst f72_0 rfl).trans ?_
  refine (x_istore (l2 := [aA 10, aA t, aI l2, aI 0, aU]) f72_1 rfl rfl).trans ?_
  refine (x_iconst f72_2 rfl).trans ?_
  refine (x_istore (l2 := [aA 10, aA t, aI l2, aI 0, aI 0]) f72_3 rfl rfl).trans ?_
  rfl
set_option maxRecDepth 10000 in
theorem g72_5 {t : Int} (ht : t = 32 ∨ t = 37) {s : SG} (hR : RefC s) (l2 l3 l4 : Int) : sem 72 5 [aA 10, aA t, aI l2, aI l3, aI l4] [] s = if l4 < 3 then bnL (sem 68 0 [aA 10, aA t, aI l4, aU, aU, aU, aU, aU] [] s) fun a2 s1 => if (0 : Int) < (cmpL a2 0) then bnI (sem 73 0 [aA 10, aA t, aI l2, aI l4, aU] [] s1) fun a4 s3 => if a4 = 0 then sem 72 5 [aA 10, aA t, aI l2, aI (w32 (l3 + 1)), aI (w32 (l4 + 1))] [] s3 else sem 72 5 [aA 10, aA t, aI l2, aI l3, aI (w32 (l4 + 1))] [] s3 else sem 72 5 [aA 10, aA t, aI l2, aI l3, aI (w32 (l4 + 1))] [] s1 else some (aI l3, s) := by
  refine (x_iload f72_5 rfl rfl).trans ?_
  refine (x_iconst f72_7 rfl).trans ?_
  refine (x_icmp_ge (tg := 43) f72_8 rfl rfl).trans (i_c ?_ ?_)
  · refine (x_aload f72_11 rfl rfl).trans ?_
    refine (x_aload f72_12 rfl rfl).trans ?_
    refine (x_iload f72_13 rfl rfl).trans ?_
    refine (x_invokevirtual (G := grd (kd 10 = 4) (bnL (sem 68 0 [aA 10, aA t, aI l4, aU, aU, aU, aU, aU] [] s) fun a2 s1 => sem 72 18 [aA 10, aA t, aI l2, aI l3, aI l4] [aL a2] s1)) f72_15 rfl rfl).trans ?_
    refine (g_t rfl).trans ?_
    refine bL_h fun a2 s1 qs1 => ?_
    have rs1 := RefC.sem qs1 rfl hR
    refine (x_lconst f72_18 rfl).trans ?_
    refine (x_lcmp f72_19 rfl).trans ?_
    refine (x_if_le (tg := 37) f72_20 rfl rfl).trans (i_c ?_ ?_)
    · refine (x_aload f72_23 rfl rfl).trans ?_
      refine (x_aload f72_24 rfl rfl).trans ?_
      refine (x_iload f72_25 rfl rfl).trans ?_
      refine (x_iload f72_26 rfl rfl).trans ?_
      refine (x_invokevirtual (G := grd (kd 10 = 4) (bnI (sem 73 0 [aA 10, aA t, aI l2, aI l4, aU] [] s1) fun a4 s3 => sem 72 31 [aA 10, aA t, aI l2, aI l3, aI l4] [aI a4] s3)) f72_28 rfl rfl).trans ?_
      refine (g_t rfl).trans ?_
      refine bI_h fun a4 s3 qs3 => ?_
      have rs3 := RefC.sem qs3 rfl rs1
      refine (x_if_ne (tg := 37) f72_31 rfl rfl).trans (i_c ?_ ?_)
      · refine (x_iinc (l2 := [aA 10, aA t, aI l2, aI (w32 (l3 + 1)), aI l4]) f72_34 rfl rfl rfl).trans ?_
        refine (x_iinc (l2 := [aA 10, aA t, aI l2, aI (w32 (l3 + 1)), aI (w32 (l4 + 1))]) f72_37 rfl rfl rfl).trans ?_
        refine (x_goto (tg := 5) f72_40 rfl rfl).trans ?_
        rfl
      · refine (x_iinc (l2 := [aA 10, aA t, aI l2, aI l3, aI (w32 (l4 + 1))]) f72_37 rfl rfl rfl).trans ?_
        refine (x_goto (tg := 5) f72_40 rfl rfl).trans ?_
        rfl
    · refine (x_iinc (l2 := [aA 10, aA t, aI l2, aI l3, aI (w32 (l4 + 1))]) f72_37 rfl rfl rfl).trans ?_
      refine (x_goto (tg := 5) f72_40 rfl rfl).trans ?_
      rfl
  · refine (x_iload f72_43 rfl rfl).trans ?_
    exact x_ireturn f72_44 rfl
set_option maxRecDepth 10000 in
theorem g73_0 {t : Int} (ht : t = 32 ∨ t = 37) {s : SG} (hR : RefC s) (l2 l3 : Int) : sem 73 0 [aA 10, aA t, aI l2, aI l3, aU] [] s = sem 73 3 [aA 10, aA t, aI l2, aI l3, aI 0] [] s := by
  refine (x_iconst f73_0 rfl).trans ?_
  refine (x_istore (l2 := [aA 10, aA t, aI l2, aI l3, aI 0]) f73_1 rfl rfl).trans ?_
  rfl
set_option maxRecDepth 10000 in
theorem g73_3 {t : Int} (ht : t = 32 ∨ t = 37) {s : SG} (hR : RefC s) (l2 l3 l4 : Int) : sem 73 3 [aA 10, aA t, aI l2, aI l3, aI l4] [] s = if l4 < l3 then bnL (sem 68 0 [aA 10, aA t, aI l4, aU, aU, aU, aU, aU] [] s) fun a2 s1 => if (0 : Int) < (cmpL a2 0) then bnI (sem 84 0 [aA t, aI l2, aI l4, aU] [] s1) fun a4 s3 => bnI (sem 84 0 [aA t, aI l2, aI l3, aU] [] s3) fun a6 s5 => if a4 = a6 then bnI (sem 85 0 [aA t, aI l2, aI l4, aU] [] s5) fun a8 s7 => bnI (sem 85 0 [aA t, aI l2, aI l3, aU] [] s7) fun a10 s9 => if a8 = a10 then some (aI 1, s9) else sem 73 3 [aA 10, aA t, aI l2, aI l3, aI (w32 (l4 + 1))] [] s9 else sem 73 3 [aA 10, aA t, aI l2, aI l3, aI (w32 (l4 + 1))] [] s5 else sem 73 3 [aA 10, aA t, aI l2, aI l3, aI (w32 (l4 + 1))] [] s1 else some (aI 0, s) := by
  refine (x_iload f73_3 rfl rfl).trans ?_
  refine (x_iload f73_5 rfl rfl).trans ?_
  refine (x_icmp_ge (tg := 61) f73_6 rfl rfl).trans (i_c ?_ ?_)
  · refine (x_aload f73_9 rfl rfl).trans ?_
    refine (x_aload f73_10 rfl rfl).trans ?_
    refine (x_iload f73_11 rfl rfl).trans ?_
    refine (x_invokevirtual (G := grd (kd 10 = 4) (bnL (sem 68 0 [aA 10, aA t, aI l4, aU, aU, aU, aU, aU] [] s) fun a2 s1 => sem 73 16 [aA 10, aA t, aI l2, aI l3, aI l4] [aL a2] s1)) f73_13 rfl rfl).trans ?_
    refine (g_t rfl).trans ?_
    refine bL_h fun a2 s1 qs1 => ?_
    have rs1 := RefC.sem qs1 rfl hR
    refine (x_lconst f73_16 rfl).trans ?_
    refine (x_lcmp f73_17 rfl).trans ?_
    refine (x_if_le (tg := 55) f73_18 rfl rfl).trans (i_c ?_ ?_)
    · refine (x_aload f73_21 rfl rfl).trans ?_
      refine (x_iload f73_22 rfl rfl).trans ?_
      refine (x_iload f73_23 rfl rfl).trans ?_
      refine (x_invokevirtual (G := grd (kd t = 6) (bnI (sem 84 0 [aA t, aI l2, aI l4, aU] [] s1) fun a4 s3 => sem 73 28 [aA 10, aA t, aI l2, aI l3, aI l4] [aI a4] s3)) f73_25 rfl rfl).trans ?_
      refine (g_t ((kd_t ht).1)).trans ?_
      refine bI_h fun a4 s3 qs3 => ?_
      have rs3 := RefC.sem qs3 rfl rs1
      refine (x_aload f73_28 rfl rfl).trans ?_
      refine (x_iload f73_29 rfl rfl).trans ?_
      refine (x_iload f73_30 rfl rfl).trans ?_
      refine (x_invokevirtual (G := grd (kd t = 6) (bnI (sem 84 0 [aA t, aI l2, aI l3, aU] [] s3) fun a6 s5 => sem 73 34 [aA 10, aA t, aI l2, aI l3, aI l4] [aI a6, aI a4] s5)) f73_31 rfl rfl).trans ?_
      refine (g_t ((kd_t ht).1)).trans ?_
      refine bI_h fun a6 s5 qs5 => ?_
      have rs5 := RefC.sem qs5 rfl rs3
      refine (x_icmp_ne (tg := 55) f73_34 rfl rfl).trans (i_c ?_ ?_)
      · refine (x_aload f73_37 rfl rfl).trans ?_
        refine (x_iload f73_38 rfl rfl).trans ?_
        refine (x_iload f73_39 rfl rfl).trans ?_
        refine (x_invokevirtual (G := grd (kd t = 6) (bnI (sem 85 0 [aA t, aI l2, aI l4, aU] [] s5) fun a8 s7 => sem 73 44 [aA 10, aA t, aI l2, aI l3, aI l4] [aI a8] s7)) f73_41 rfl rfl).trans ?_
        refine (g_t ((kd_t ht).1)).trans ?_
        refine bI_h fun a8 s7 qs7 => ?_
        have rs7 := RefC.sem qs7 rfl rs5
        refine (x_aload f73_44 rfl rfl).trans ?_
        refine (x_iload f73_45 rfl rfl).trans ?_
        refine (x_iload f73_46 rfl rfl).trans ?_
        refine (x_invokevirtual (G := grd (kd t = 6) (bnI (sem 85 0 [aA t, aI l2, aI l3, aU] [] s7) fun a10 s9 => sem 73 50 [aA 10, aA t, aI l2, aI l3, aI l4] [aI a10, aI a8] s9)) f73_47 rfl rfl).trans ?_
        refine (g_t ((kd_t ht).1)).trans ?_
        refine bI_h fun a10 s9 qs9 => ?_
        have rs9 := RefC.sem qs9 rfl rs7
        refine (x_icmp_ne (tg := 55) f73_50 rfl rfl).trans (i_c ?_ ?_)
        · refine (x_iconst f73_53 rfl).trans ?_
          exact x_zreturn1 f73_54 rfl
        · refine (x_iinc (l2 := [aA 10, aA t, aI l2, aI l3, aI (w32 (l4 + 1))]) f73_55 rfl rfl rfl).trans ?_
          refine (x_goto (tg := 3) f73_58 rfl rfl).trans ?_
          rfl
      · refine (x_iinc (l2 := [aA 10, aA t, aI l2, aI l3, aI (w32 (l4 + 1))]) f73_55 rfl rfl rfl).trans ?_
        refine (x_goto (tg := 3) f73_58 rfl rfl).trans ?_
        rfl
    · refine (x_iinc (l2 := [aA 10, aA t, aI l2, aI l3, aI (w32 (l4 + 1))]) f73_55 rfl rfl rfl).trans ?_
      refine (x_goto (tg := 3) f73_58 rfl rfl).trans ?_
      rfl
  · refine (x_iconst f73_61 rfl).trans ?_
    exact x_zreturn0 f73_62 rfl
set_option maxRecDepth 10000 in
theorem g75_0 {s : SG} (hR : RefC s) : sem 75 0 [aA 1] [] s = some (aI (s 1 1), s) := by
  refine (x_aload f75_0 rfl rfl).trans ?_
  refine (y_get0 (ji := 1) rfl f75_1 rfl rfl).trans ?_
  refine (g_t rfl).trans ?_
  exact x_ireturn f75_4 rfl
set_option maxRecDepth 10000 in
theorem g76_0 {s : SG} (hR : RefC s) (l1 : Int) : sem 76 0 [aA 1, aI l1] [] s = if (64 : Int) < (w32 ((s 1 1) + l1)) then some (aI 0, s) else some (aI 1, s) := by
  refine (x_aload f76_0 rfl rfl).trans ?_
  refine (y_get0 (ji := 1) rfl f76_1 rfl rfl).trans ?_
  refine (g_t rfl).trans ?_
  refine (x_iload f76_4 rfl rfl).trans ?_
  refine (x_iadd f76_5 rfl).trans ?_
  refine (x_iconst f76_6 rfl).trans ?_
  refine (x_icmp_gt (tg := 15) f76_8 rfl rfl).trans (i_c ?_ ?_)
  · refine (x_iconst f76_15 rfl).trans ?_
    refine (x_kil (l2 := [aU, aU]) f76_16 rfl).trans ?_
    exact x_zreturn0 f76_16 rfl
  · refine (x_iconst f76_11 rfl).trans ?_
    refine (x_goto (tg := 16) f76_12 rfl rfl).trans ?_
    refine (x_kil (l2 := [aU, aU]) f76_16 rfl).trans ?_
    exact x_zreturn1 f76_16 rfl
set_option maxRecDepth 10000 in
theorem g77_0 {s : SG} (hR : RefC s) (l1 l2 : Int) : sem 77 0 [aA 1, aI l1, aL l2, aU, aU] [] s = sem 77 5 [aA 1, aU, aL l2, aU, aI (w32 (l1 - 1))] [] s := by
  refine (x_iload f77_0 rfl rfl).trans ?_
  refine (x_iconst f77_1 rfl).trans ?_
  refine (x_isub f77_2 rfl).trans ?_
  refine (x_istore (l2 := [aA 1, aI l1, aL l2, aU, aI (w32 (l1 - 1))]) f77_3 rfl rfl).trans ?_
  exact x_kil f77_5 rfl
set_option maxRecDepth 10000 in
theorem g77_5 {s : SG} (hR : RefC s) (l2 l4 : Int) : sem 77 5 [aA 1, aU, aL l2, aU, aI l4] [] s = if l4 < 0 then some (aU, s) else if (s 1 1) < 64 then grd ((0 : Int) ≤ (s 1 1) ∧ (s 1 1) < 64) (sem 77 5 [aA 1, aU, aL l2, aU, aI (w32 (l4 + (-1)))] [] (up (up s 2 (s 1 1) (iandA (w32 (lushrA l2 (w32 (8 * l4)))) 255)) 1 1 (w32 ((s 1 1) + 1)))) else some (aU, s) := by
  refine (x_iload f77_5 rfl rfl).trans ?_
  refine (x_if_lt (tg := 56) f77_7 rfl rfl).trans (i_c ?_ ?_)
  · refine (x_kil (l2 := [aU, aU, aU, aU, aU]) f77_56 rfl).trans ?_
    exact x_return f77_56 rfl
  · refine (x_aload f77_10 rfl rfl).trans ?_
    refine (y_get0 (ji := 1) rfl f77_11 rfl rfl).trans ?_
    refine (g_t rfl).trans ?_
    refine (x_iconst f77_14 rfl).trans ?_
    refine (x_icmp_ge (tg := 56) f77_16 rfl rfl).trans (i_c ?_ ?_)
    · refine (x_aload f77_19 rfl rfl).trans ?_
      refine (y_get2 (ji := 0) rfl f77_20 rfl rfl).trans ?_
      refine (g_t rfl).trans ?_
      refine (g_t (by rw [show s 1 0 = 2 from hR.2.2.2.2.2.2.2.2.2.1]; decide)).trans ?_
      rw [show s 1 0 = 2 from hR.2.2.2.2.2.2.2.2.2.1]
      refine (x_aload f77_23 rfl rfl).trans ?_
      refine (y_get0 (ji := 1) rfl f77_24 rfl rfl).trans ?_
      refine (g_t rfl).trans ?_
      refine (x_lload f77_27 rfl rfl).trans ?_
      refine (x_iconst f77_28 rfl).trans ?_
      refine (x_iload f77_30 rfl rfl).trans ?_
      refine (x_imul f77_32 rfl).trans ?_
      refine (x_lushr f77_33 rfl).trans ?_
      refine (x_l2i f77_34 rfl).trans ?_
      refine (x_iconst f77_35 rfl).trans ?_
      refine (x_iand f77_38 rfl).trans ?_
      refine (x_iastore f77_39 rfl).trans ?_
      refine (g_t rfl).trans ?_
      refine g_kl (n := 64) rfl fun hg1 => ?_
      refine (x_aload f77_40 rfl rfl).trans ?_
      refine (x_dup f77_41 rfl rfl).trans ?_
      refine (y_get0 (ji := 1) rfl f77_42 rfl rfl).trans ?_
      refine (g_t rfl).trans ?_
      rw [show (up s 2 (s 1 1) (iandA (w32 (lushrA l2 (w32 (8 * l4)))) 255)) 1 1 = s 1 1 from by rw [up_ne (by decide)]]
      refine (x_iconst f77_45 rfl).trans ?_
      refine (x_iadd f77_46 rfl).trans ?_
      refine (y_put0 (ji := 1) rfl f77_47 rfl rfl).trans ?_
      refine (g_t rfl).trans ?_
      refine (x_iinc (l2 := [aA 1, aU, aL l2, aU, aI (w32 (l4 + (-1)))]) f77_50 rfl rfl rfl).trans ?_
      refine (x_goto (tg := 5) f77_53 rfl rfl).trans ?_
      rfl
    · refine (x_kil (l2 := [aU, aU, aU, aU, aU]) f77_56 rfl).trans ?_
      exact x_return f77_56 rfl
set_option maxRecDepth 10000 in
theorem g78_0 {s : SG} (hR : RefC s) : sem 78 0 [aA 1, aU] [] s = some (aI (s 1 1), up s 1 1 0) := by
  refine (x_aload f78_0 rfl rfl).trans ?_
  refine (y_get0 (ji := 1) rfl f78_1 rfl rfl).trans ?_
  refine (g_t rfl).trans ?_
  refine (x_istore (l2 := [aA 1, aI (s 1 1)]) f78_4 rfl rfl).trans ?_
  refine (x_aload f78_5 rfl rfl).trans ?_
  refine (x_iconst f78_6 rfl).trans ?_
  refine (y_put0 (ji := 1) rfl f78_7 rfl rfl).trans ?_
  refine (g_t rfl).trans ?_
  refine (x_iload f78_10 rfl rfl).trans ?_
  exact x_ireturn f78_11 rfl
set_option maxRecDepth 10000 in
theorem g79_0 {s : SG} (hR : RefC s) (l1 : Int) : sem 79 0 [aA 1, aI l1] [] s = if l1 < 0 then some (aI ((-1)), s) else if l1 < (s 1 1) then grd ((0 : Int) ≤ l1 ∧ l1 < 64) (some (aI (s 2 l1), s)) else some (aI ((-1)), s) := by
  refine (x_iload f79_0 rfl rfl).trans ?_
  refine (x_if_lt (tg := 21) f79_1 rfl rfl).trans (i_c ?_ ?_)
  · refine (x_kil (l2 := [aU, aU]) f79_21 rfl).trans ?_
    refine (x_iconst f79_21 rfl).trans ?_
    exact x_ireturn f79_22 rfl
  · refine (x_iload f79_4 rfl rfl).trans ?_
    refine (x_aload f79_5 rfl rfl).trans ?_
    refine (y_get0 (ji := 1) rfl f79_6 rfl rfl).trans ?_
    refine (g_t rfl).trans ?_
    refine (x_icmp_ge (tg := 21) f79_9 rfl rfl).trans (i_c ?_ ?_)
    · refine (x_aload f79_12 rfl rfl).trans ?_
      refine (y_get2 (ji := 0) rfl f79_13 rfl rfl).trans ?_
      refine (g_t rfl).trans ?_
      refine (g_t (by rw [show s 1 0 = 2 from hR.2.2.2.2.2.2.2.2.2.1]; decide)).trans ?_
      rw [show s 1 0 = 2 from hR.2.2.2.2.2.2.2.2.2.1]
      refine (x_iload f79_16 rfl rfl).trans ?_
      refine (x_iaload f79_17 rfl).trans ?_
      refine (g_t rfl).trans ?_
      refine g_kl (n := 64) rfl fun hg1 => ?_
      refine (x_goto (tg := 22) f79_18 rfl rfl).trans ?_
      refine (x_kil (l2 := [aU, aU]) f79_22 rfl).trans ?_
      exact x_ireturn f79_22 rfl
    · refine (x_kil (l2 := [aU, aU]) f79_21 rfl).trans ?_
      refine (x_iconst f79_21 rfl).trans ?_
      exact x_ireturn f79_22 rfl
set_option maxRecDepth 10000 in
theorem g81_0 {t : Int} (ht : t = 32 ∨ t = 37) {s : SG} (hR : RefC s) : sem 81 0 [aA t] [] s = bnV (sem 222 0 [aA (t + 1), aI 1, aU, aU] [] (up (up (up (up s t 4 1) t 5 10) t 6 20) t 7 5)) fun s1 => bnV (sem 222 0 [aA (t + 2), aI 1, aU, aU] [] s1) fun s2 => bnV (sem 222 0 [aA (t + 3), aI 5, aU, aU] [] s2) fun s3 => bnV (sem 222 0 [aA (t + 4), aI ((-9)), aU, aU] [] s3) fun s4 => some (aU, s4) := by
  refine (x_aload f81_0 rfl rfl).trans ?_
  refine (x_iconst f81_1 rfl).trans ?_
  refine (y_put0 (ji := 4) rfl f81_2 rfl rfl).trans ?_
  refine (g_t ((kd_t ht).1)).trans ?_
  refine (x_aload f81_5 rfl rfl).trans ?_
  refine (x_iconst f81_6 rfl).trans ?_
  refine (y_put0 (ji := 5) rfl f81_8 rfl rfl).trans ?_
  refine (g_t ((kd_t ht).1)).trans ?_
  refine (x_aload f81_11 rfl rfl).trans ?_
  refine (x_iconst f81_12 rfl).trans ?_
  refine (y_put0 (ji := 6) rfl f81_14 rfl rfl).trans ?_
  refine (g_t ((kd_t ht).1)).trans ?_
  refine (x_aload f81_17 rfl rfl).trans ?_
  refine (x_iconst f81_18 rfl).trans ?_
  refine (y_put0 (ji := 7) rfl f81_19 rfl rfl).trans ?_
  refine (g_t ((kd_t ht).1)).trans ?_
  refine (x_aload f81_22 rfl rfl).trans ?_
  refine (y_get2 (ji := 0) rfl f81_23 rfl rfl).trans ?_
  refine (g_t ((kd_t ht).1)).trans ?_
  refine (g_t (by rw [show (up (up (up (up s t 4 1) t 5 10) t 6 20) t 7 5) t 0 = t + 1 from (by rw [up_ni (by decide), up_ni (by decide), up_ni (by decide), up_ni (by decide)]; exact ((ref_t hR ht).1))]; omega)).trans ?_
  rw [show (up (up (up (up s t 4 1) t 5 10) t 6 20) t 7 5) t 0 = t + 1 from (by rw [up_ni (by decide), up_ni (by decide), up_ni (by decide), up_ni (by decide)]; exact ((ref_t hR ht).1))]
  refine (x_iconst f81_26 rfl).trans ?_
  refine (x_invokestatic (G := bnV (sem 222 0 [aA (t + 1), aI 1, aU, aU] [] (up (up (up (up s t 4 1) t 5 10) t 6 20) t 7 5)) fun s1 => sem 81 30 [aA t] [] s1) f81_27 rfl rfl).trans ?_
  refine bV_h fun s1 qs1 => ?_
  have rs1 := RefC.sem qs1 rfl (RefC.upd (RefC.upd (RefC.upd (RefC.upd hR (rcb_f (c := 6) (j := 4) ((kd_t ht).1) (by decide) (by decide))) (rcb_f (c := 6) (j := 5) ((kd_t ht).1) (by decide) (by decide))) (rcb_f (c := 6) (j := 6) ((kd_t ht).1) (by decide) (by decide))) (rcb_f (c := 6) (j := 7) ((kd_t ht).1) (by decide) (by decide)))
  refine (x_aload f81_30 rfl rfl).trans ?_
  refine (y_get2 (ji := 1) rfl f81_31 rfl rfl).trans ?_
  refine (g_t ((kd_t ht).1)).trans ?_
  refine (g_t (by rw [show s1 t 1 = t + 2 from ((ref_t rs1 ht).2.1)]; omega)).trans ?_
  rw [show s1 t 1 = t + 2 from ((ref_t rs1 ht).2.1)]
  refine (x_iconst f81_34 rfl).trans ?_
  refine (x_invokestatic (G := bnV (sem 222 0 [aA (t + 2), aI 1, aU, aU] [] s1) fun s2 => sem 81 38 [aA t] [] s2) f81_35 rfl rfl).trans ?_
  refine bV_h fun s2 qs2 => ?_
  have rs2 := RefC.sem qs2 rfl rs1
  refine (x_aload f81_38 rfl rfl).trans ?_
  refine (y_get2 (ji := 2) rfl f81_39 rfl rfl).trans ?_
  refine (g_t ((kd_t ht).1)).trans ?_
  refine (g_t (by rw [show s2 t 2 = t + 3 from ((ref_t rs2 ht).2.2.1)]; omega)).trans ?_
  rw [show s2 t 2 = t + 3 from ((ref_t rs2 ht).2.2.1)]
  refine (x_iconst f81_42 rfl).trans ?_
  refine (x_invokestatic (G := bnV (sem 222 0 [aA (t + 3), aI 5, aU, aU] [] s2) fun s3 => sem 81 46 [aA t] [] s3) f81_43 rfl rfl).trans ?_
  refine bV_h fun s3 qs3 => ?_
  have rs3 := RefC.sem qs3 rfl rs2
  refine (x_aload f81_46 rfl rfl).trans ?_
  refine (y_get2 (ji := 3) rfl f81_47 rfl rfl).trans ?_
  refine (g_t ((kd_t ht).1)).trans ?_
  refine (g_t (by rw [show s3 t 3 = t + 4 from ((ref_t rs3 ht).2.2.2)]; omega)).trans ?_
  rw [show s3 t 3 = t + 4 from ((ref_t rs3 ht).2.2.2)]
  refine (x_iconst f81_50 rfl).trans ?_
  refine (x_invokestatic (G := bnV (sem 222 0 [aA (t + 4), aI ((-9)), aU, aU] [] s3) fun s4 => sem 81 55 [aA t] [] s4) f81_52 rfl rfl).trans ?_
  refine bV_h fun s4 qs4 => ?_
  have rs4 := RefC.sem qs4 rfl rs3
  exact x_return f81_55 rfl
set_option maxRecDepth 10000 in
theorem g82_0 {t : Int} (ht : t = 32 ∨ t = 37) {s : SG} (hR : RefC s) (l1 : Int) : sem 82 0 [aA t, aI l1] [] s = if l1 < 0 then some (aI 0, s) else if l1 < (s t 4) then if l1 < 3 then some (aI 1, s) else some (aI 0, s) else some (aI 0, s) := by
  refine (x_iload f82_0 rfl rfl).trans ?_
  refine (x_if_lt (tg := 21) f82_1 rfl rfl).trans (i_c ?_ ?_)
  · refine (x_kil (l2 := [aU, aU]) f82_21 rfl).trans ?_
    refine (x_iconst f82_21 rfl).trans ?_
    exact x_zreturn0 f82_22 rfl
  · refine (x_iload f82_4 rfl rfl).trans ?_
    refine (x_aload f82_5 rfl rfl).trans ?_
    refine (y_get0 (ji := 4) rfl f82_6 rfl rfl).trans ?_
    refine (g_t ((kd_t ht).1)).trans ?_
    refine (x_icmp_ge (tg := 21) f82_9 rfl rfl).trans (i_c ?_ ?_)
    · refine (x_iload f82_12 rfl rfl).trans ?_
      refine (x_iconst f82_13 rfl).trans ?_
      refine (x_icmp_ge (tg := 21) f82_14 rfl rfl).trans (i_c ?_ ?_)
      · refine (x_iconst f82_17 rfl).trans ?_
        refine (x_goto (tg := 22) f82_18 rfl rfl).trans ?_
        refine (x_kil (l2 := [aU, aU]) f82_22 rfl).trans ?_
        exact x_zreturn1 f82_22 rfl
      · refine (x_kil (l2 := [aU, aU]) f82_21 rfl).trans ?_
        refine (x_iconst f82_21 rfl).trans ?_
        exact x_zreturn0 f82_22 rfl
    · refine (x_kil (l2 := [aU, aU]) f82_21 rfl).trans ?_
      refine (x_iconst f82_21 rfl).trans ?_
      exact x_zreturn0 f82_22 rfl
set_option maxRecDepth 10000 in
theorem g83_0 {t : Int} (ht : t = 32 ∨ t = 37) {s : SG} (hR : RefC s) (l1 : Int) : sem 83 0 [aA t, aI l1] [] s = bnI (sem 140 0 [aI l1] [] s) fun a2 s1 => if a2 = 0 then some (aI 0, s1) else grd ((0 : Int) ≤ l1 ∧ l1 < 3) (some (aI (s1 (t + 1) l1), s1)) := by
  refine (x_iload f83_0 rfl rfl).trans ?_
  refine (x_invokestatic (G := bnI (sem 140 0 [aI l1] [] s) fun a2 s1 => sem 83 4 [aA t, aI l1] [aI a2] s1) f83_1 rfl rfl).trans ?_
  refine bI_h fun a2 s1 qs1 => ?_
  have rs1 := RefC.sem qs1 rfl hR
  refine (x_if_eq (tg := 16) f83_4 rfl rfl).trans (i_c ?_ ?_)
  · refine (x_iconst f83_16 rfl).trans ?_
    refine (x_kil (l2 := [aU, aU]) f83_17 rfl).trans ?_
    exact x_ireturn f83_17 rfl
  · refine (x_aload f83_7 rfl rfl).trans ?_
    refine (y_get2 (ji := 0) rfl f83_8 rfl rfl).trans ?_
    refine (g_t ((kd_t ht).1)).trans ?_
    refine (g_t (by rw [show s1 t 0 = t + 1 from ((ref_t rs1 ht).1)]; omega)).trans ?_
    rw [show s1 t 0 = t + 1 from ((ref_t rs1 ht).1)]
    refine (x_iload f83_11 rfl rfl).trans ?_
    refine (x_iaload f83_12 rfl).trans ?_
    refine (g_t ((kd_t ht).2.1)).trans ?_
    refine g_kl (n := 3) ((kd_t ht).2.2.1) fun hg3 => ?_
    refine (x_goto (tg := 17) f83_13 rfl rfl).trans ?_
    refine (x_kil (l2 := [aU, aU]) f83_17 rfl).trans ?_
    exact x_ireturn f83_17 rfl
set_option maxRecDepth 10000 in
theorem g84_0 {t : Int} (ht : t = 32 ∨ t = 37) {s : SG} (hR : RefC s) (l1 l2 : Int) : sem 84 0 [aA t, aI l1, aI l2, aU] [] s = if (w32 ((w32 (l1 * 3)) + l2)) < 0 then some (aI 0, s) else if (w32 ((w32 (l1 * 3)) + l2)) < 9 then grd ((0 : Int) ≤ (w32 ((w32 (l1 * 3)) + l2)) ∧ (w32 ((w32 (l1 * 3)) + l2)) < 9) (some (aI (s (t + 2) (w32 ((w32 (l1 * 3)) + l2))), s)) else some (aI 0, s) := by
  refine (x_iload f84_0 rfl rfl).trans ?_
  refine (x_iconst f84_1 rfl).trans ?_
  refine (x_imul f84_2 rfl).trans ?_
  refine (x_iload f84_3 rfl rfl).trans ?_
  refine (x_iadd f84_4 rfl).trans ?_
  refine (x_istore (l2 := [aA t, aI l1, aI l2, aI (w32 ((w32 (l1 * 3)) + l2))]) f84_5 rfl rfl).trans ?_
  refine (x_iload f84_6 rfl rfl).trans ?_
  refine (x_if_lt (tg := 28) f84_7 rfl rfl).trans (i_c ?_ ?_)
  · refine (x_kil (l2 := [aU, aU, aU, aU]) f84_28 rfl).trans ?_
    refine (x_iconst f84_28 rfl).trans ?_
    exact x_ireturn f84_29 rfl
  · refine (x_iload f84_10 rfl rfl).trans ?_
    refine (x_aload f84_11 rfl rfl).trans ?_
    refine (y_get2 (ji := 1) rfl f84_12 rfl rfl).trans ?_
    refine (g_t ((kd_t ht).1)).trans ?_
    refine (g_t (by rw [show s t 1 = t + 2 from ((ref_t hR ht).2.1)]; omega)).trans ?_
    rw [show s t 1 = t + 2 from ((ref_t hR ht).2.1)]
    refine (x_arraylength f84_15 rfl).trans ?_
    refine (g_t (by rw [show kd (t + 2) = 101 from ((kd_t ht).2.2.2.1)]; decide)).trans ?_
    rw [show kl (t + 2) = 9 from ((kd_t ht).2.2.2.2.1)]
    refine (x_icmp_ge (tg := 28) f84_16 rfl rfl).trans (i_c ?_ ?_)
    · refine (x_aload f84_19 rfl rfl).trans ?_
      refine (y_get2 (ji := 1) rfl f84_20 rfl rfl).trans ?_
      refine (g_t ((kd_t ht).1)).trans ?_
      refine (g_t (by rw [show s t 1 = t + 2 from ((ref_t hR ht).2.1)]; omega)).trans ?_
      rw [show s t 1 = t + 2 from ((ref_t hR ht).2.1)]
      refine (x_iload f84_23 rfl rfl).trans ?_
      refine (x_iaload f84_24 rfl).trans ?_
      refine (g_t ((kd_t ht).2.2.2.1)).trans ?_
      refine g_kl (n := 9) ((kd_t ht).2.2.2.2.1) fun hg1 => ?_
      refine (x_goto (tg := 29) f84_25 rfl rfl).trans ?_
      refine (x_kil (l2 := [aU, aU, aU, aU]) f84_29 rfl).trans ?_
      exact x_ireturn f84_29 rfl
    · refine (x_kil (l2 := [aU, aU, aU, aU]) f84_28 rfl).trans ?_
      refine (x_iconst f84_28 rfl).trans ?_
      exact x_ireturn f84_29 rfl
set_option maxRecDepth 10000 in
theorem g85_0 {t : Int} (ht : t = 32 ∨ t = 37) {s : SG} (hR : RefC s) (l1 l2 : Int) : sem 85 0 [aA t, aI l1, aI l2, aU] [] s = if (w32 ((w32 (l1 * 3)) + l2)) < 0 then some (aI 0, s) else if (w32 ((w32 (l1 * 3)) + l2)) < 9 then grd ((0 : Int) ≤ (w32 ((w32 (l1 * 3)) + l2)) ∧ (w32 ((w32 (l1 * 3)) + l2)) < 9) (some (aI (s (t + 3) (w32 ((w32 (l1 * 3)) + l2))), s)) else some (aI 0, s) := by
  refine (x_iload f85_0 rfl rfl).trans ?_
  refine (x_iconst f85_1 rfl).trans ?_
  refine (x_imul f85_2 rfl).trans ?_
  refine (x_iload f85_3 rfl rfl).trans ?_
  refine (x_iadd f85_4 rfl).trans ?_
  refine (x_istore (l2 := [aA t, aI l1, aI l2, aI (w32 ((w32 (l1 * 3)) + l2))]) f85_5 rfl rfl).trans ?_
  refine (x_iload f85_6 rfl rfl).trans ?_
  refine (x_if_lt (tg := 28) f85_7 rfl rfl).trans (i_c ?_ ?_)
  · refine (x_kil (l2 := [aU, aU, aU, aU]) f85_28 rfl).trans ?_
    refine (x_iconst f85_28 rfl).trans ?_
    exact x_ireturn f85_29 rfl
  · refine (x_iload f85_10 rfl rfl).trans ?_
    refine (x_aload f85_11 rfl rfl).trans ?_
    refine (y_get2 (ji := 2) rfl f85_12 rfl rfl).trans ?_
    refine (g_t ((kd_t ht).1)).trans ?_
    refine (g_t (by rw [show s t 2 = t + 3 from ((ref_t hR ht).2.2.1)]; omega)).trans ?_
    rw [show s t 2 = t + 3 from ((ref_t hR ht).2.2.1)]
    refine (x_arraylength f85_15 rfl).trans ?_
    refine (g_t (by rw [show kd (t + 3) = 101 from ((kd_t ht).2.2.2.2.2.1)]; decide)).trans ?_
    rw [show kl (t + 3) = 9 from ((kd_t ht).2.2.2.2.2.2.1)]
    refine (x_icmp_ge (tg := 28) f85_16 rfl rfl).trans (i_c ?_ ?_)
    · refine (x_aload f85_19 rfl rfl).trans ?_
      refine (y_get2 (ji := 2) rfl f85_20 rfl rfl).trans ?_
      refine (g_t ((kd_t ht).1)).trans ?_
      refine (g_t (by rw [show s t 2 = t + 3 from ((ref_t hR ht).2.2.1)]; omega)).trans ?_
      rw [show s t 2 = t + 3 from ((ref_t hR ht).2.2.1)]
      refine (x_iload f85_23 rfl rfl).trans ?_
      refine (x_iaload f85_24 rfl).trans ?_
      refine (g_t ((kd_t ht).2.2.2.2.2.1)).trans ?_
      refine g_kl (n := 9) ((kd_t ht).2.2.2.2.2.2.1) fun hg1 => ?_
      refine (x_goto (tg := 29) f85_25 rfl rfl).trans ?_
      refine (x_kil (l2 := [aU, aU, aU, aU]) f85_29 rfl).trans ?_
      exact x_ireturn f85_29 rfl
    · refine (x_kil (l2 := [aU, aU, aU, aU]) f85_28 rfl).trans ?_
      refine (x_iconst f85_28 rfl).trans ?_
      exact x_ireturn f85_29 rfl
