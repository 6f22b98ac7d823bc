set_option maxRecDepth 10000 in
theorem g1_0 {t : Int} (ht : t = 32 ∨ t = 37) {s : SG} (hR : RefC s) : sem 1 0 [aA 5, aA t, aU, aU] [] s = bnV (sem 223 0 [aA 7, aL 0, aU, aU, aU] [] s) fun s1 => sem 1 15 [aA 5, aA t, aI 0, aU] [] (up s1 5 4 0) := by
  refine (x_aload f1_0 rfl rfl).trans ?_
  refine (y_get2 (ji := 1) rfl f1_1 rfl rfl).trans ?_
  refine (g_t rfl).trans ?_
  refine (g_t (by rw [show s 5 1 = 7 from hR.2.2.2.2.2.2.2.2.2.2.2.2.1]; decide)).trans ?_
  rw [show s 5 1 = 7 from hR.2.2.2.2.2.2.2.2.2.2.2.2.1]
  refine (x_lconst f1_4 rfl).trans ?_
  refine (x_invokestatic (G := bnV (sem 223 0 [aA 7, aL 0, aU, aU, aU] [] s) fun s1 => sem 1 8 [aA 5, aA t, aU, aU] [] s1) f1_5 rfl rfl).trans ?_
  refine bV_h fun s1 qs1 => ?_
  have rs1 := RefC.sem qs1 rfl hR
  refine (x_aload f1_8 rfl rfl).trans ?_
  refine (x_lconst f1_9 rfl).trans ?_
  refine (y_put1 (ji := 4) rfl f1_10 rfl rfl).trans ?_
  refine (g_t rfl).trans ?_
  refine (x_iconst f1_13 rfl).trans ?_
  refine (x_istore (l2 := [aA 5, aA t, aI 0, aU]) f1_14 rfl rfl).trans ?_
  rfl
set_option maxRecDepth 10000 in
theorem g1_15 {t : Int} (ht : t = 32 ∨ t = 37) {s : SG} (hR : RefC s) (l2 : Int) : sem 1 15 [aA 5, aA t, aI l2, aU] [] s = if l2 < 3 then bnI (sem 84 0 [aA t, aI l2] [] s) fun a2 s1 => sem 1 15 [aA 5, aA t, aI (w32 (l2 + 1)), aU] [] (up s1 5 4 (w64 ((s 5 4) + (w64 (1000000 * a2))))) else sem 1 47 [aA 5, aA t, aI 0, aU] [] s := by
  refine (x_iload f1_15 rfl rfl).trans ?_
  refine (x_iconst f1_16 rfl).trans ?_
  refine (x_icmp_ge (tg := 45) f1_17 rfl rfl).trans (i_c ?_ ?_)
  · refine (x_aload f1_20 rfl rfl).trans ?_
    refine (x_dup f1_21 rfl rfl).trans ?_
    refine (y_get1 (ji := 4) rfl f1_22 rfl rfl).trans ?_
    refine (g_t rfl).trans ?_
    refine (x_lconst f1_25 rfl).trans ?_
    refine (x_aload f1_28 rfl rfl).trans ?_
    refine (x_iload f1_29 rfl rfl).trans ?_
    refine (x_invokevirtual (G := grd (kd t = 6) (bnI (sem 84 0 [aA t, aI l2] [] s) fun a2 s1 => sem 1 33 [aA 5, aA t, aI l2, aU] [aI a2, aL 1000000, aL (s 5 4), aA 5] s1)) f1_30 rfl rfl).trans ?_
    refine (g_t ((kd_t ht).1)).trans ?_
    refine bI_h fun a2 s1 qs1 => ?_
    have rs1 := RefC.sem qs1 rfl hR
    refine (x_i2l f1_33 rfl).trans ?_
    refine (x_lmul f1_34 rfl).trans ?_
    refine (x_ladd f1_35 rfl).trans ?_
    refine (y_put1 (ji := 4) rfl f1_36 rfl rfl).trans ?_
    refine (g_t rfl).trans ?_
    refine (x_iinc (l2 := [aA 5, aA t, aI (w32 (l2 + 1)), aU]) f1_39 rfl rfl rfl).trans ?_
    refine (x_goto (tg := 15) f1_42 rfl rfl).trans ?_
    rfl
  · refine (x_iconst f1_45 rfl).trans ?_
    refine (x_istore (l2 := [aA 5, aA t, aI 0, aU]) f1_46 rfl rfl).trans ?_
    rfl
set_option maxRecDepth 10000 in
theorem g1_47 {t : Int} (ht : t = 32 ∨ t = 37) {s : SG} (hR : RefC s) (l2 : Int) : sem 1 47 [aA 5, aA t, aI l2, aU] [] s = if l2 < (s t 4) then if l2 < 3 then sem 1 62 [aA 5, aA t, aI l2, aI 0] [] s else some (aU, s) else some (aU, s) := by
  refine (x_iload f1_47 rfl rfl).trans ?_
  refine (x_aload f1_48 rfl rfl).trans ?_
  refine (y_get0 (ji := 4) rfl f1_49 rfl rfl).trans ?_
  refine (g_t ((kd_t ht).1)).trans ?_
  refine (x_icmp_ge (tg := 106) f1_52 rfl rfl).trans (i_c ?_ ?_)
  · refine (x_iload f1_55 rfl rfl).trans ?_
    refine (x_iconst f1_56 rfl).trans ?_
    refine (x_icmp_ge (tg := 106) f1_57 rfl rfl).trans (i_c ?_ ?_)
    · refine (x_iconst f1_60 rfl).trans ?_
      refine (x_istore (l2 := [aA 5, aA t, aI l2, aI 0]) f1_61 rfl rfl).trans ?_
      rfl
    · refine (x_kil (l2 := [aU, aU, aU, aU]) f1_106 rfl).trans ?_
      exact x_return f1_106 rfl
  · refine (x_kil (l2 := [aU, aU, aU, aU]) f1_106 rfl).trans ?_
    exact x_return f1_106 rfl
set_option maxRecDepth 10000 in
theorem g1_62 {t : Int} (ht : t = 32 ∨ t = 37) {s : SG} (hR : RefC s) (l2 l3 : Int) : sem 1 62 [aA 5, aA t, aI l2, aI l3] [] s = if l3 < 3 then bnI (sem 85 0 [aA t, aI l2, aI l3, aU] [] s) fun a2 s1 => bnI (sem 86 0 [aA t, aI l2, aI l3, aU] [] s1) fun a4 s3 => bnI (sem 84 0 [aA t, aI l3] [] s3) fun a6 s5 => bnV (sem 2 0 [aA 5, aI l2, aI a2, aI a4, aI a6, aU, aU] [] s5) fun s7 => sem 1 62 [aA 5, aA t, aI l2, aI (w32 (l3 + 1))] [] s7 else bnV (sem 4 0 [aA 5, aI l2, aU, aU] [] s) fun s8 => sem 1 47 [aA 5, aA t, aI (w32 (l2 + 1)), aU] [] s8 := by
  refine (x_iload f1_62 rfl rfl).trans ?_
  refine (x_iconst f1_63 rfl).trans ?_
  refine (x_icmp_ge (tg := 95) f1_64 rfl rfl).trans (i_c ?_ ?_)
  · refine (x_aload f1_67 rfl rfl).trans ?_
    refine (x_iload f1_68 rfl rfl).trans ?_
    refine (x_aload f1_69 rfl rfl).trans ?_
    refine (x_iload f1_70 rfl rfl).trans ?_
    refine (x_iload f1_71 rfl rfl).trans ?_
    refine (x_invokevirtual (G := grd (kd t = 6) (bnI (sem 85 0 [aA t, aI l2, aI l3, aU] [] s) fun a2 s1 => sem 1 75 [aA 5, aA t, aI l2, aI l3] [aI a2, aI l2, aA 5] s1)) f1_72 rfl rfl).trans ?_
    refine (g_t ((kd_t ht).1)).trans ?_
    refine bI_h fun a2 s1 qs1 => ?_
    have rs1 := RefC.sem qs1 rfl hR
    refine (x_aload f1_75 rfl rfl).trans ?_
    refine (x_iload f1_76 rfl rfl).trans ?_
    refine (x_iload f1_77 rfl rfl).trans ?_
    refine (x_invokevirtual (G := grd (kd t = 6) (bnI (sem 86 0 [aA t, aI l2, aI l3, aU] [] s1) fun a4 s3 => sem 1 81 [aA 5, aA t, aI l2, aI l3] [aI a4, aI a2, aI l2, aA 5] s3)) f1_78 rfl rfl).trans ?_
    refine (g_t ((kd_t ht).1)).trans ?_
    refine bI_h fun a4 s3 qs3 => ?_
    have rs3 := RefC.sem qs3 rfl rs1
    refine (x_aload f1_81 rfl rfl).trans ?_
    refine (x_iload f1_82 rfl rfl).trans ?_
    refine (x_invokevirtual (G := grd (kd t = 6) (bnI (sem 84 0 [aA t, aI l3] [] s3) fun a6 s5 => sem 1 86 [aA 5, aA t, aI l2, aI l3] [aI a6, aI a4, aI a2, aI l2, aA 5] s5)) f1_83 rfl rfl).trans ?_
    refine (g_t ((kd_t ht).1)).trans ?_
    refine bI_h fun a6 s5 qs5 => ?_
    have rs5 := RefC.sem qs5 rfl rs3
    refine (x_invokevirtual (G := grd (kd 5 = 0) (bnV (sem 2 0 [aA 5, aI l2, aI a2, aI a4, aI a6, aU, aU] [] s5) fun s7 => sem 1 89 [aA 5, aA t, aI l2, aI l3] [] s7)) f1_86 rfl rfl).trans ?_
    refine (g_t rfl).trans ?_
    refine bV_h fun s7 qs7 => ?_
    have rs7 := RefC.sem qs7 rfl rs5
    refine (x_iinc (l2 := [aA 5, aA t, aI l2, aI (w32 (l3 + 1))]) f1_89 rfl rfl rfl).trans ?_
    refine (x_goto (tg := 62) f1_92 rfl rfl).trans ?_
    rfl
  · refine (x_aload f1_95 rfl rfl).trans ?_
    refine (x_iload f1_96 rfl rfl).trans ?_
    refine (x_invokevirtual (G := grd (kd 5 = 0) (bnV (sem 4 0 [aA 5, aI l2, aU, aU] [] s) fun s8 => sem 1 100 [aA 5, aA t, aI l2, aI l3] [] s8)) f1_97 rfl rfl).trans ?_
    refine (g_t rfl).trans ?_
    refine bV_h fun s8 qs8 => ?_
    have rs8 := RefC.sem qs8 rfl hR
    refine (x_iinc (l2 := [aA 5, aA t, aI (w32 (l2 + 1)), aI l3]) f1_100 rfl rfl rfl).trans ?_
    refine (x_goto (tg := 47) f1_103 rfl rfl).trans ?_
    exact x_kil f1_47 rfl
set_option maxRecDepth 10000 in
theorem g2_0 {s : SG} (hR : RefC s) (l1 l2 l3 l4 : Int) : sem 2 0 [aA 5, aI l1, aI l2, aI l3, aI l4, aU, aU] [] s = bnV (sem 3 0 [aA 5, aI l3, aU, aU] [] s) fun s1 => sem 2 8 [aA 5, aI l1, aI l2, aU, aI l4, aI 0, aU] [] s1 := by
  refine (x_aload f2_0 rfl rfl).trans ?_
  refine (x_iload f2_1 rfl rfl).trans ?_
  refine (x_invokevirtual (G := grd (kd 5 = 0) (bnV (sem 3 0 [aA 5, aI l3, aU, aU] [] s) fun s1 => sem 2 5 [aA 5, aI l1, aI l2, aI l3, aI l4, aU, aU] [] s1)) f2_2 rfl rfl).trans ?_
  refine (g_t rfl).trans ?_
  refine bV_h fun s1 qs1 => ?_
  have rs1 := RefC.sem qs1 rfl hR
  refine (x_iconst f2_5 rfl).trans ?_
  refine (x_istore (l2 := [aA 5, aI l1, aI l2, aI l3, aI l4, aI 0, aU]) f2_6 rfl rfl).trans ?_
  exact x_kil f2_8 rfl
set_option maxRecDepth 10000 in
theorem g2_8 {s : SG} (hR : RefC s) (l1 l2 l4 l5 : Int) : sem 2 8 [aA 5, aI l1, aI l2, aU, aI l4, aI l5, aU] [] s = if (6 : Int) < l5 then some (aU, s) else if (w32 ((w32 (6 * l2)) + l5)) < 1 then sem 2 8 [aA 5, aI l1, aI l2, aU, aI l4, aI (w32 (l5 + 1)), aU] [] s else if (60 : Int) < (w32 ((w32 (6 * l2)) + l5)) then sem 2 8 [aA 5, aI l1, aI l2, aU, aI l4, aI (w32 (l5 + 1)), aU] [] s else grd ((0 : Int) ≤ (w32 ((w32 ((w32 (l1 * 61)) + (w32 ((w32 (6 * l2)) + l5)))) - 1)) ∧ (w32 ((w32 ((w32 (l1 * 61)) + (w32 ((w32 (6 * l2)) + l5)))) - 1)) < 183) (grd ((0 : Int) ≤ l5 ∧ l5 < 7) (sem 2 8 [aA 5, aI l1, aI l2, aU, aI l4, aI (w32 (l5 + 1)), aU] [] (up s 7 (w32 ((w32 ((w32 (l1 * 61)) + (w32 ((w32 (6 * l2)) + l5)))) - 1)) (w64 ((s 7 (w32 ((w32 ((w32 (l1 * 61)) + (w32 ((w32 (6 * l2)) + l5)))) - 1))) + (w64 ((s 8 l5) * l4))))))) := by
  refine (x_iload f2_8 rfl rfl).trans ?_
  refine (x_iconst f2_10 rfl).trans ?_
  refine (x_icmp_gt (tg := 71) f2_12 rfl rfl).trans (i_c ?_ ?_)
  · exact x_return f2_71 rfl
  · refine (x_iconst f2_15 rfl).trans ?_
    refine (x_iload f2_17 rfl rfl).trans ?_
    refine (x_imul f2_18 rfl).trans ?_
    refine (x_iload f2_19 rfl rfl).trans ?_
    refine (x_iadd f2_21 rfl).trans ?_
    refine (x_istore (l2 := [aA 5, aI l1, aI l2, aU, aI l4, aI l5, aI (w32 ((w32 (6 * l2)) + l5))]) f2_22 rfl rfl).trans ?_
    refine (x_iload f2_24 rfl rfl).trans ?_
    refine (x_iconst f2_26 rfl).trans ?_
    refine (x_icmp_lt (tg := 65) f2_27 rfl rfl).trans (i_c ?_ ?_)
    · refine (x_kil (l2 := [aA 5, aI l1, aI l2, aU, aI l4, aI l5, aU]) f2_65 rfl).trans ?_
      refine (x_iinc (l2 := [aA 5, aI l1, aI l2, aU, aI l4, aI (w32 (l5 + 1)), aU]) f2_65 rfl rfl rfl).trans ?_
      refine (x_goto (tg := 8) f2_68 rfl rfl).trans ?_
      rfl
    · refine (x_iload f2_30 rfl rfl).trans ?_
      refine (x_iconst f2_32 rfl).trans ?_
      refine (x_icmp_gt (tg := 65) f2_34 rfl rfl).trans (i_c ?_ ?_)
      · refine (x_kil (l2 := [aA 5, aI l1, aI l2, aU, aI l4, aI l5, aU]) f2_65 rfl).trans ?_
        refine (x_iinc (l2 := [aA 5, aI l1, aI l2, aU, aI l4, aI (w32 (l5 + 1)), aU]) f2_65 rfl rfl rfl).trans ?_
        refine (x_goto (tg := 8) f2_68 rfl rfl).trans ?_
        rfl
      · refine (x_aload f2_37 rfl rfl).trans ?_
        refine (y_get2 (ji := 1) rfl f2_38 rfl rfl).trans ?_
        refine (g_t rfl).trans ?_
        refine (g_t (by rw [show s 5 1 = 7 from hR.2.2.2.2.2.2.2.2.2.2.2.2.1]; decide)).trans ?_
        rw [show s 5 1 = 7 from hR.2.2.2.2.2.2.2.2.2.2.2.2.1]
        refine (x_iload f2_41 rfl rfl).trans ?_
        refine (x_iconst f2_42 rfl).trans ?_
        refine (x_imul f2_44 rfl).trans ?_
        refine (x_iload f2_45 rfl rfl).trans ?_
        refine (x_iadd f2_47 rfl).trans ?_
        refine (x_iconst f2_48 rfl).trans ?_
        refine (x_isub f2_49 rfl).trans ?_
        refine (x_dup2 f2_50 rfl rfl).trans ?_
        refine (x_laload f2_51 rfl).trans ?_
        refine (g_t rfl).trans ?_
        refine g_kl (n := 183) rfl fun hg1 => ?_
        refine (x_aload f2_52 rfl rfl).trans ?_
        refine (y_get2 (ji := 2) rfl f2_53 rfl rfl).trans ?_
        refine (g_t rfl).trans ?_
        refine (g_t (by rw [show s 5 2 = 8 from hR.2.2.2.2.2.2.2.2.2.2.2.2.2.1]; decide)).trans ?_
        rw [show s 5 2 = 8 from hR.2.2.2.2.2.2.2.2.2.2.2.2.2.1]
        refine (x_iload f2_56 rfl rfl).trans ?_
        refine (x_laload f2_58 rfl).trans ?_
        refine (g_t rfl).trans ?_
        refine g_kl (n := 7) rfl fun hg2 => ?_
        refine (x_iload f2_59 rfl rfl).trans ?_
        refine (x_i2l f2_61 rfl).trans ?_
        refine (x_lmul f2_62 rfl).trans ?_
        refine (x_ladd f2_63 rfl).trans ?_
        refine (x_lastore f2_64 rfl).trans ?_
        refine (g_t rfl).trans ?_
        refine (g_kt (n := 183) rfl hg1).trans ?_
        refine (x_kil (l2 := [aA 5, aI l1, aI l2, aU, aI l4, aI l5, aU]) f2_65 rfl).trans ?_
        refine (x_iinc (l2 := [aA 5, aI l1, aI l2, aU, aI l4, aI (w32 (l5 + 1)), aU]) f2_65 rfl rfl rfl).trans ?_
        refine (x_goto (tg := 8) f2_68 rfl rfl).trans ?_
        rfl
set_option maxRecDepth 10000 in
theorem g3_0 {s : SG} (hR : RefC s) (l1 : Int) : sem 3 0 [aA 5, aI l1, aU, aU] [] s = bnV (sem 223 0 [aA 8, aL 0, aU, aU, aU] [] s) fun s1 => sem 3 17 [aA 5, aI l1, aI 1, aU] [] (up s1 8 0 1) := by
  refine (x_aload f3_0 rfl rfl).trans ?_
  refine (y_get2 (ji := 2) rfl f3_1 rfl rfl).trans ?_
  refine (g_t rfl).trans ?_
  refine (g_t (by rw [show s 5 2 = 8 from hR.2.2.2.2.2.2.2.2.2.2.2.2.2.1]; decide)).trans ?_
  rw [show s 5 2 = 8 from hR.2.2.2.2.2.2.2.2.2.2.2.2.2.1]
  refine (x_lconst f3_4 rfl).trans ?_
  refine (x_invokestatic (G := bnV (sem 223 0 [aA 8, aL 0, aU, aU, aU] [] s) fun s1 => sem 3 8 [aA 5, aI l1, aU, aU] [] s1) f3_5 rfl rfl).trans ?_
  refine bV_h fun s1 qs1 => ?_
  have rs1 := RefC.sem qs1 rfl hR
  refine (x_aload f3_8 rfl rfl).trans ?_
  refine (y_get2 (ji := 2) rfl f3_9 rfl rfl).trans ?_
  refine (g_t rfl).trans ?_
  refine (g_t (by rw [show s1 5 2 = 8 from rs1.2.2.2.2.2.2.2.2.2.2.2.2.2.1]; decide)).trans ?_
  rw [show s1 5 2 = 8 from rs1.2.2.2.2.2.2.2.2.2.2.2.2.2.1]
  refine (x_iconst f3_12 rfl).trans ?_
  refine (x_lconst f3_13 rfl).trans ?_
  refine (x_lastore f3_14 rfl).trans ?_
  refine (g_t rfl).trans ?_
  refine (g_kt (n := 7) rfl (by decide)).trans ?_
  refine (x_iconst f3_15 rfl).trans ?_
  refine (x_istore (l2 := [aA 5, aI l1, aI 1, aU]) f3_16 rfl rfl).trans ?_
  rfl
set_option maxRecDepth 10000 in
theorem g3_17 {s : SG} (hR : RefC s) (l1 l2 : Int) : sem 3 17 [aA 5, aI l1, aI l2, aU] [] s = if (6 : Int) < l2 then some (aU, s) else sem 3 25 [aA 5, aI l1, aI l2, aI l2] [] s := by
  refine (x_iload f3_17 rfl rfl).trans ?_
  refine (x_iconst f3_18 rfl).trans ?_
  refine (x_icmp_gt (tg := 86) f3_20 rfl rfl).trans (i_c ?_ ?_)
  · exact x_return f3_86 rfl
  · refine (x_iload f3_23 rfl rfl).trans ?_
    refine (x_istore (l2 := [aA 5, aI l1, aI l2, aI l2]) f3_24 rfl rfl).trans ?_
    rfl
set_option maxRecDepth 10000 in
theorem g3_25 {s : SG} (hR : RefC s) (l1 l2 l3 : Int) : sem 3 25 [aA 5, aI l1, aI l2, aI l3] [] s = if l3 < 1 then sem 3 17 [aA 5, aI l1, aI (w32 (l2 + 1)), aU] [] (up s 8 0 (w64 ((s 8 0) * (w32 (10 - l1))))) else grd ((0 : Int) ≤ l3 ∧ l3 < 7) (grd ((0 : Int) ≤ (w32 (l3 - 1)) ∧ (w32 (l3 - 1)) < 7) (sem 3 25 [aA 5, aI l1, aI l2, aI (w32 (l3 + (-1)))] [] (up s 8 l3 (w64 ((w64 ((s 8 l3) * (w32 (10 - l1)))) + (w64 ((s 8 (w32 (l3 - 1))) * l1))))))) := by
  refine (x_iload f3_25 rfl rfl).trans ?_
  refine (x_iconst f3_26 rfl).trans ?_
  refine (x_icmp_lt (tg := 66) f3_27 rfl rfl).trans (i_c ?_ ?_)
  · refine (x_aload f3_66 rfl rfl).trans ?_
    refine (y_get2 (ji := 2) rfl f3_67 rfl rfl).trans ?_
    refine (g_t rfl).trans ?_
    refine (g_t (by rw [show s 5 2 = 8 from hR.2.2.2.2.2.2.2.2.2.2.2.2.2.1]; decide)).trans ?_
    rw [show s 5 2 = 8 from hR.2.2.2.2.2.2.2.2.2.2.2.2.2.1]
    refine (x_iconst f3_70 rfl).trans ?_
    refine (x_dup2 f3_71 rfl rfl).trans ?_
    refine (x_laload f3_72 rfl).trans ?_
    refine (g_t rfl).trans ?_
    refine (g_kt (n := 7) rfl (by decide)).trans ?_
    refine (x_iconst f3_73 rfl).trans ?_
    refine (x_iload f3_75 rfl rfl).trans ?_
    refine (x_isub f3_76 rfl).trans ?_
    refine (x_i2l f3_77 rfl).trans ?_
    refine (x_lmul f3_78 rfl).trans ?_
    refine (x_lastore f3_79 rfl).trans ?_
    refine (g_t rfl).trans ?_
    refine (g_kt (n := 7) rfl (by decide)).trans ?_
    refine (x_iinc (l2 := [aA 5, aI l1, aI (w32 (l2 + 1)), aI l3]) f3_80 rfl rfl rfl).trans ?_
    refine (x_goto (tg := 17) f3_83 rfl rfl).trans ?_
    exact x_kil f3_17 rfl
  · refine (x_aload f3_30 rfl rfl).trans ?_
    refine (y_get2 (ji := 2) rfl f3_31 rfl rfl).trans ?_
    refine (g_t rfl).trans ?_
    refine (g_t (by rw [show s 5 2 = 8 from hR.2.2.2.2.2.2.2.2.2.2.2.2.2.1]; decide)).trans ?_
    rw [show s 5 2 = 8 from hR.2.2.2.2.2.2.2.2.2.2.2.2.2.1]
    refine (x_iload f3_34 rfl rfl).trans ?_
    refine (x_aload f3_35 rfl rfl).trans ?_
    refine (y_get2 (ji := 2) rfl f3_36 rfl rfl).trans ?_
    refine (g_t rfl).trans ?_
    refine (g_t (by rw [show s 5 2 = 8 from hR.2.2.2.2.2.2.2.2.2.2.2.2.2.1]; decide)).trans ?_
    rw [show s 5 2 = 8 from hR.2.2.2.2.2.2.2.2.2.2.2.2.2.1]
    refine (x_iload f3_39 rfl rfl).trans ?_
    refine (x_laload f3_40 rfl).trans ?_
    refine (g_t rfl).trans ?_
    refine g_kl (n := 7) rfl fun hg1 => ?_
    refine (x_iconst f3_41 rfl).trans ?_
    refine (x_iload f3_43 rfl rfl).trans ?_
    refine (x_isub f3_44 rfl).trans ?_
    refine (x_i2l f3_45 rfl).trans ?_
    refine (x_lmul f3_46 rfl).trans ?_
    refine (x_aload f3_47 rfl rfl).trans ?_
    refine (y_get2 (ji := 2) rfl f3_48 rfl rfl).trans ?_
    refine (g_t rfl).trans ?_
    refine (g_t (by rw [show s 5 2 = 8 from hR.2.2.2.2.2.2.2.2.2.2.2.2.2.1]; decide)).trans ?_
    rw [show s 5 2 = 8 from hR.2.2.2.2.2.2.2.2.2.2.2.2.2.1]
    refine (x_iload f3_51 rfl rfl).trans ?_
    refine (x_iconst f3_52 rfl).trans ?_
    refine (x_isub f3_53 rfl).trans ?_
    refine (x_laload f3_54 rfl).trans ?_
    refine (g_t rfl).trans ?_
    refine g_kl (n := 7) rfl fun hg2 => ?_
    refine (x_iload f3_55 rfl rfl).trans ?_
    refine (x_i2l f3_56 rfl).trans ?_
    refine (x_lmul f3_57 rfl).trans ?_
    refine (x_ladd f3_58 rfl).trans ?_
    refine (x_lastore f3_59 rfl).trans ?_
    refine (g_t rfl).trans ?_
    refine (g_kt (n := 7) rfl hg1).trans ?_
    refine (x_iinc (l2 := [aA 5, aI l1, aI l2, aI (w32 (l3 + (-1)))]) f3_60 rfl rfl rfl).trans ?_
    refine (x_goto (tg := 25) f3_63 rfl rfl).trans ?_
    rfl
set_option maxRecDepth 10000 in
theorem g4_0 {s : SG} (hR : RefC s) (l1 : Int) : sem 4 0 [aA 5, aI l1, aU, aU] [] s = sem 4 8 [aA 5, aU, aI (w32 (l1 * 61)), aI 59] [] s := by
  refine (x_iload f4_0 rfl rfl).trans ?_
  refine (x_iconst f4_1 rfl).trans ?_
  refine (x_imul f4_3 rfl).trans ?_
  refine (x_istore (l2 := [aA 5, aI l1, aI (w32 (l1 * 61)), aU]) f4_4 rfl rfl).trans ?_
  refine (x_iconst f4_5 rfl).trans ?_
  refine (x_istore (l2 := [aA 5, aI l1, aI (w32 (l1 * 61)), aI 59]) f4_7 rfl rfl).trans ?_
  exact x_kil f4_8 rfl
set_option maxRecDepth 10000 in
theorem g4_8 {s : SG} (hR : RefC s) (l2 l3 : Int) : sem 4 8 [aA 5, aU, aI l2, aI l3] [] s = if l3 < 0 then grd ((0 : Int) ≤ l2 ∧ l2 < 183) (sem 4 48 [aA 5, aU, aI l2, aI 1] [] (up s 6 l2 0)) else grd ((0 : Int) ≤ (w32 (l2 + l3)) ∧ (w32 (l2 + l3)) < 183) (grd ((0 : Int) ≤ (w32 ((w32 (l2 + l3)) + 1)) ∧ (w32 ((w32 (l2 + l3)) + 1)) < 183) (sem 4 8 [aA 5, aU, aI l2, aI (w32 (l3 + (-1)))] [] (up s 7 (w32 (l2 + l3)) (w64 ((s 7 (w32 (l2 + l3))) + (s 7 (w32 ((w32 (l2 + l3)) + 1)))))))) := by
  refine (x_iload f4_8 rfl rfl).trans ?_
  refine (x_if_lt (tg := 39) f4_9 rfl rfl).trans (i_c ?_ ?_)
  · refine (x_aload f4_39 rfl rfl).trans ?_
    refine (y_get2 (ji := 0) rfl f4_40 rfl rfl).trans ?_
    refine (g_t rfl).trans ?_
    refine (g_t (by rw [show s 5 0 = 6 from hR.2.2.2.2.2.2.2.2.2.2.2.1]; decide)).trans ?_
    rw [show s 5 0 = 6 from hR.2.2.2.2.2.2.2.2.2.2.2.1]
    refine (x_iload f4_43 rfl rfl).trans ?_
    refine (x_lconst f4_44 rfl).trans ?_
    refine (x_lastore f4_45 rfl).trans ?_
    refine (g_t rfl).trans ?_
    refine g_kl (n := 183) rfl fun hg1 => ?_
    refine (x_iconst f4_46 rfl).trans ?_
    refine (x_istore (l2 := [aA 5, aU, aI l2, aI 1]) f4_47 rfl rfl).trans ?_
    rfl
  · refine (x_aload f4_12 rfl rfl).trans ?_
    refine (y_get2 (ji := 1) rfl f4_13 rfl rfl).trans ?_
    refine (g_t rfl).trans ?_
    refine (g_t (by rw [show s 5 1 = 7 from hR.2.2.2.2.2.2.2.2.2.2.2.2.1]; decide)).trans ?_
    rw [show s 5 1 = 7 from hR.2.2.2.2.2.2.2.2.2.2.2.2.1]
    refine (x_iload f4_16 rfl rfl).trans ?_
    refine (x_iload f4_17 rfl rfl).trans ?_
    refine (x_iadd f4_18 rfl).trans ?_
    refine (x_dup2 f4_19 rfl rfl).trans ?_
    refine (x_laload f4_20 rfl).trans ?_
    refine (g_t rfl).trans ?_
    refine g_kl (n := 183) rfl fun hg2 => ?_
    refine (x_aload f4_21 rfl rfl).trans ?_
    refine (y_get2 (ji := 1) rfl f4_22 rfl rfl).trans ?_
    refine (g_t rfl).trans ?_
    refine (g_t (by rw [show s 5 1 = 7 from hR.2.2.2.2.2.2.2.2.2.2.2.2.1]; decide)).trans ?_
    rw [show s 5 1 = 7 from hR.2.2.2.2.2.2.2.2.2.2.2.2.1]
    refine (x_iload f4_25 rfl rfl).trans ?_
    refine (x_iload f4_26 rfl rfl).trans ?_
    refine (x_iadd f4_27 rfl).trans ?_
    refine (x_iconst f4_28 rfl).trans ?_
    refine (x_iadd f4_29 rfl).trans ?_
    refine (x_laload f4_30 rfl).trans ?_
    refine (g_t rfl).trans ?_
    refine g_kl (n := 183) rfl fun hg3 => ?_
    refine (x_ladd f4_31 rfl).trans ?_
    refine (x_lastore f4_32 rfl).trans ?_
    refine (g_t rfl).trans ?_
    refine (g_kt (n := 183) rfl hg2).trans ?_
    refine (x_iinc (l2 := [aA 5, aU, aI l2, aI (w32 (l3 + (-1)))]) f4_33 rfl rfl rfl).trans ?_
    refine (x_goto (tg := 8) f4_36 rfl rfl).trans ?_
    rfl
set_option maxRecDepth 10000 in
theorem g4_48 {s : SG} (hR : RefC s) (l2 l3 : Int) : sem 4 48 [aA 5, aU, aI l2, aI l3] [] s = if (60 : Int) < l3 then some (aU, s) else grd ((0 : Int) ≤ (w32 ((w32 (l2 + l3)) - 1)) ∧ (w32 ((w32 (l2 + l3)) - 1)) < 183) (grd ((0 : Int) ≤ (w32 (l2 + l3)) ∧ (w32 (l2 + l3)) < 183) (sem 4 48 [aA 5, aU, aI l2, aI (w32 (l3 + 1))] [] (up s 6 (w32 (l2 + l3)) (w64 ((s 6 (w32 ((w32 (l2 + l3)) - 1))) + (s 7 (w32 ((w32 (l2 + l3)) - 1)))))))) := by
  refine (x_iload f4_48 rfl rfl).trans ?_
  refine (x_iconst f4_49 rfl).trans ?_
  refine (x_icmp_gt (tg := 89) f4_51 rfl rfl).trans (i_c ?_ ?_)
  · exact x_return f4_89 rfl
  · refine (x_aload f4_54 rfl rfl).trans ?_
    refine (y_get2 (ji := 0) rfl f4_55 rfl rfl).trans ?_
    refine (g_t rfl).trans ?_
    refine (g_t (by rw [show s 5 0 = 6 from hR.2.2.2.2.2.2.2.2.2.2.2.1]; decide)).trans ?_
    rw [show s 5 0 = 6 from hR.2.2.2.2.2.2.2.2.2.2.2.1]
    refine (x_iload f4_58 rfl rfl).trans ?_
    refine (x_iload f4_59 rfl rfl).trans ?_
    refine (x_iadd f4_60 rfl).trans ?_
    refine (x_aload f4_61 rfl rfl).trans ?_
    refine (y_get2 (ji := 0) rfl f4_62 rfl rfl).trans ?_
    refine (g_t rfl).trans ?_
    refine (g_t (by rw [show s 5 0 = 6 from hR.2.2.2.2.2.2.2.2.2.2.2.1]; decide)).trans ?_
    rw [show s 5 0 = 6 from hR.2.2.2.2.2.2.2.2.2.2.2.1]
    refine (x_iload f4_65 rfl rfl).trans ?_
    refine (x_iload f4_66 rfl rfl).trans ?_
    refine (x_iadd f4_67 rfl).trans ?_
    refine (x_iconst f4_68 rfl).trans ?_
    refine (x_isub f4_69 rfl).trans ?_
    refine (x_laload f4_70 rfl).trans ?_
    refine (g_t rfl).trans ?_
    refine g_kl (n := 183) rfl fun hg1 => ?_
    refine (x_aload f4_71 rfl rfl).trans ?_
    refine (y_get2 (ji := 1) rfl f4_72 rfl rfl).trans ?_
    refine (g_t rfl).trans ?_
    refine (g_t (by rw [show s 5 1 = 7 from hR.2.2.2.2.2.2.2.2.2.2.2.2.1]; decide)).trans ?_
    rw [show s 5 1 = 7 from hR.2.2.2.2.2.2.2.2.2.2.2.2.1]
    refine (x_iload f4_75 rfl rfl).trans ?_
    refine (x_iload f4_76 rfl rfl).trans ?_
    refine (x_iadd f4_77 rfl).trans ?_
    refine (x_iconst f4_78 rfl).trans ?_
    refine (x_isub f4_79 rfl).trans ?_
    refine (x_laload f4_80 rfl).trans ?_
    refine (g_t rfl).trans ?_
    refine (g_kt (n := 183) rfl hg1).trans ?_
    refine (x_ladd f4_81 rfl).trans ?_
    refine (x_lastore f4_82 rfl).trans ?_
    refine (g_t rfl).trans ?_
    refine g_kl (n := 183) rfl fun hg2 => ?_
    refine (x_iinc (l2 := [aA 5, aU, aI l2, aI (w32 (l3 + 1))]) f4_83 rfl rfl rfl).trans ?_
    refine (x_goto (tg := 48) f4_86 rfl rfl).trans ?_
    rfl
set_option maxRecDepth 10000 in
theorem g5_0 {s : SG} (hR : RefC s) : sem 5 0 [aA 5] [] s = some (aL (s 5 4), s) := by
  refine (x_aload f5_0 rfl rfl).trans ?_
  refine (y_get1 (ji := 4) rfl f5_1 rfl rfl).trans ?_
  refine (g_t rfl).trans ?_
  exact x_lreturn f5_4 rfl
set_option maxRecDepth 10000 in
theorem g6_0 {s : SG} (hR : RefC s) (l1 l2 : Int) : sem 6 0 [aA 5, aI l1, aI l2] [] s = if l1 < 0 then some (aI 0, s) else if l1 < 3 then bnI (sem 143 0 [aI l2] [] s) fun a2 s1 => if a2 = 0 then some (aI 0, s1) else some (aI 1, s1) else some (aI 0, s) := by
  refine (x_iload f6_0 rfl rfl).trans ?_
  refine (x_if_lt (tg := 20) f6_1 rfl rfl).trans (i_c ?_ ?_)
  · refine (x_kil (l2 := [aU, aU, aU]) f6_20 rfl).trans ?_
    refine (x_iconst f6_20 rfl).trans ?_
    exact x_zreturn0 f6_21 rfl
  · refine (x_iload f6_4 rfl rfl).trans ?_
    refine (x_iconst f6_5 rfl).trans ?_
    refine (x_icmp_ge (tg := 20) f6_6 rfl rfl).trans (i_c ?_ ?_)
    · refine (x_iload f6_9 rfl rfl).trans ?_
      refine (x_invokestatic (G := bnI (sem 143 0 [aI l2] [] s) fun a2 s1 => sem 6 13 [aA 5, aI l1, aI l2] [aI a2] s1) f6_10 rfl rfl).trans ?_
      refine bI_h fun a2 s1 qs1 => ?_
      have rs1 := RefC.sem qs1 rfl hR
      refine (x_if_eq (tg := 20) f6_13 rfl rfl).trans (i_c ?_ ?_)
      · refine (x_kil (l2 := [aU, aU, aU]) f6_20 rfl).trans ?_
        refine (x_iconst f6_20 rfl).trans ?_
        exact x_zreturn0 f6_21 rfl
      · refine (x_iconst f6_16 rfl).trans ?_
        refine (x_goto (tg := 21) f6_17 rfl rfl).trans ?_
        refine (x_kil (l2 := [aU, aU, aU]) f6_21 rfl).trans ?_
        exact x_zreturn1 f6_21 rfl
    · refine (x_kil (l2 := [aU, aU, aU]) f6_20 rfl).trans ?_
      refine (x_iconst f6_20 rfl).trans ?_
      exact x_zreturn0 f6_21 rfl
set_option maxRecDepth 10000 in
theorem g7_0 {s : SG} (hR : RefC s) (l1 l2 : Int) : sem 7 0 [aA 5, aI l1, aI l2] [] s = bnI (sem 6 0 [aA 5, aI l1, aI l2] [] s) fun a2 s1 => if a2 = 0 then some (aL 0, s1) else grd ((0 : Int) ≤ (w32 ((w32 (l1 * 61)) + l2)) ∧ (w32 ((w32 (l1 * 61)) + l2)) < 183) (some (aL (s1 6 (w32 ((w32 (l1 * 61)) + l2))), s1)) := by
  refine (x_aload f7_0 rfl rfl).trans ?_
  refine (x_iload f7_1 rfl rfl).trans ?_
  refine (x_iload f7_2 rfl rfl).trans ?_
  refine (x_invokevirtual (G := grd (kd 5 = 0) (bnI (sem 6 0 [aA 5, aI l1, aI l2] [] s) fun a2 s1 => sem 7 6 [aA 5, aI l1, aI l2] [aI a2] s1)) f7_3 rfl rfl).trans ?_
  refine (g_t rfl).trans ?_
  refine bI_h fun a2 s1 qs1 => ?_
  have rs1 := RefC.sem qs1 rfl hR
  refine (x_if_eq (tg := 23) f7_6 rfl rfl).trans (i_c ?_ ?_)
  · refine (x_lconst f7_23 rfl).trans ?_
    refine (x_kil (l2 := [aU, aU, aU]) f7_24 rfl).trans ?_
    exact x_lreturn f7_24 rfl
  · refine (x_aload f7_9 rfl rfl).trans ?_
    refine (y_get2 (ji := 0) rfl f7_10 rfl rfl).trans ?_
    refine (g_t rfl).trans ?_
    refine (g_t (by rw [show s1 5 0 = 6 from rs1.2.2.2.2.2.2.2.2.2.2.2.1]; decide)).trans ?_
    rw [show s1 5 0 = 6 from rs1.2.2.2.2.2.2.2.2.2.2.2.1]
    refine (x_iload f7_13 rfl rfl).trans ?_
    refine (x_iconst f7_14 rfl).trans ?_
    refine (x_imul f7_16 rfl).trans ?_
    refine (x_iload f7_17 rfl rfl).trans ?_
    refine (x_iadd f7_18 rfl).trans ?_
    refine (x_laload f7_19 rfl).trans ?_
    refine (g_t rfl).trans ?_
    refine g_kl (n := 183) rfl fun hg3 => ?_
    refine (x_goto (tg := 24) f7_20 rfl rfl).trans ?_
    refine (x_kil (l2 := [aU, aU, aU]) f7_24 rfl).trans ?_
    exact x_lreturn f7_24 rfl
set_option maxRecDepth 10000 in
theorem g8_0 {s : SG} (hR : RefC s) (l1 l2 : Int) : sem 8 0 [aA 5, aI l1, aI l2] [] s = bnI (sem 6 0 [aA 5, aI l1, aI l2] [] s) fun a2 s1 => if a2 = 0 then some (aL 0, s1) else grd ((0 : Int) ≤ (w32 ((w32 (l1 * 61)) + l2)) ∧ (w32 ((w32 (l1 * 61)) + l2)) < 183) (some (aL (s1 7 (w32 ((w32 (l1 * 61)) + l2))), s1)) := by
  refine (x_aload f8_0 rfl rfl).trans ?_
  refine (x_iload f8_1 rfl rfl).trans ?_
  refine (x_iload f8_2 rfl rfl).trans ?_
  refine (x_invokevirtual (G := grd (kd 5 = 0) (bnI (sem 6 0 [aA 5, aI l1, aI l2] [] s) fun a2 s1 => sem 8 6 [aA 5, aI l1, aI l2] [aI a2] s1)) f8_3 rfl rfl).trans ?_
  refine (g_t rfl).trans ?_
  refine bI_h fun a2 s1 qs1 => ?_
  have rs1 := RefC.sem qs1 rfl hR
  refine (x_if_eq (tg := 23) f8_6 rfl rfl).trans (i_c ?_ ?_)
  · refine (x_lconst f8_23 rfl).trans ?_
    refine (x_kil (l2 := [aU, aU, aU]) f8_24 rfl).trans ?_
    exact x_lreturn f8_24 rfl
  · refine (x_aload f8_9 rfl rfl).trans ?_
    refine (y_get2 (ji := 1) rfl f8_10 rfl rfl).trans ?_
    refine (g_t rfl).trans ?_
    refine (g_t (by rw [show s1 5 1 = 7 from rs1.2.2.2.2.2.2.2.2.2.2.2.2.1]; decide)).trans ?_
    rw [show s1 5 1 = 7 from rs1.2.2.2.2.2.2.2.2.2.2.2.2.1]
    refine (x_iload f8_13 rfl rfl).trans ?_
    refine (x_iconst f8_14 rfl).trans ?_
    refine (x_imul f8_16 rfl).trans ?_
    refine (x_iload f8_17 rfl rfl).trans ?_
    refine (x_iadd f8_18 rfl).trans ?_
    refine (x_laload f8_19 rfl).trans ?_
    refine (g_t rfl).trans ?_
    refine g_kl (n := 183) rfl fun hg3 => ?_
    refine (x_goto (tg := 24) f8_20 rfl rfl).trans ?_
    refine (x_kil (l2 := [aU, aU, aU]) f8_24 rfl).trans ?_
    exact x_lreturn f8_24 rfl
set_option maxRecDepth 10000 in
theorem g9_0 {t : Int} (ht : t = 32 ∨ t = 37) {s : SG} (hR : RefC s) (l2 l3 : Int) : sem 9 0 [aA 5, aA t, aI l2, aI l3] [] s = bnV (sem 13 0 [aA 5] [] s) fun s1 => bnV (sem 14 0 [aA 5, aA t, aI l2, aI ((-9)), aU] [] s1) fun s2 => if l3 < 0 then some (aI 0, s2) else if l3 < 3 then grd ((0 : Int) ≤ l3 ∧ l3 < 3) (some (aI (s2 9 l3), s2)) else some (aI 0, s2) := by
  refine (x_aload f9_0 rfl rfl).trans ?_
  refine (x_invokevirtual (G := grd (kd 5 = 0) (bnV (sem 13 0 [aA 5] [] s) fun s1 => sem 9 4 [aA 5, aA t, aI l2, aI l3] [] s1)) f9_1 rfl rfl).trans ?_
  refine (g_t rfl).trans ?_
  refine bV_h fun s1 qs1 => ?_
  have rs1 := RefC.sem qs1 rfl hR
  refine (x_aload f9_4 rfl rfl).trans ?_
  refine (x_aload f9_5 rfl rfl).trans ?_
  refine (x_iload f9_6 rfl rfl).trans ?_
  refine (x_iconst f9_7 rfl).trans ?_
  refine (x_invokevirtual (G := grd (kd 5 = 0) (bnV (sem 14 0 [aA 5, aA t, aI l2, aI ((-9)), aU] [] s1) fun s2 => sem 9 12 [aA 5, aA t, aI l2, aI l3] [] s2)) f9_9 rfl rfl).trans ?_
  refine (g_t rfl).trans ?_
  refine bV_h fun s2 qs2 => ?_
  have rs2 := RefC.sem qs2 rfl rs1
  refine (x_iload f9_12 rfl rfl).trans ?_
  refine (x_if_lt (tg := 30) f9_13 rfl rfl).trans (i_c ?_ ?_)
  · refine (x_kil (l2 := [aU, aU, aU, aU]) f9_30 rfl).trans ?_
    refine (x_iconst f9_30 rfl).trans ?_
    exact x_ireturn f9_31 rfl
  · refine (x_iload f9_16 rfl rfl).trans ?_
    refine (x_iconst f9_17 rfl).trans ?_
    refine (x_icmp_ge (tg := 30) f9_18 rfl rfl).trans (i_c ?_ ?_)
    · refine (x_aload f9_21 rfl rfl).trans ?_
      refine (y_get2 (ji := 3) rfl f9_22 rfl rfl).trans ?_
      refine (g_t rfl).trans ?_
      refine (g_t (by rw [show s2 5 3 = 9 from rs2.2.2.2.2.2.2.2.2.2.2.2.2.2.2.1]; decide)).trans ?_
      rw [show s2 5 3 = 9 from rs2.2.2.2.2.2.2.2.2.2.2.2.2.2.2.1]
      refine (x_iload f9_25 rfl rfl).trans ?_
      refine (x_iaload f9_26 rfl).trans ?_
      refine (g_t rfl).trans ?_
      refine g_kl (n := 3) rfl fun hg3 => ?_
      refine (x_goto (tg := 31) f9_27 rfl rfl).trans ?_
      refine (x_kil (l2 := [aU, aU, aU, aU]) f9_31 rfl).trans ?_
      exact x_ireturn f9_31 rfl
    · refine (x_kil (l2 := [aU, aU, aU, aU]) f9_30 rfl).trans ?_
      refine (x_iconst f9_30 rfl).trans ?_
      exact x_ireturn f9_31 rfl
set_option maxRecDepth 10000 in
theorem g10_0 {t : Int} (ht : t = 32 ∨ t = 37) {s : SG} (hR : RefC s) (l2 : Int) : sem 10 0 [aA 5, aA t, aI l2] [] s = bnV (sem 13 0 [aA 5] [] s) fun s1 => bnV (sem 14 0 [aA 5, aA t, aI l2, aI ((-9)), aU] [] s1) fun s2 => bnL (sem 16 0 [aA 5, aA t, aI l2, aU, aU, aU, aU] [] s2) fun a4 s3 => some (aL a4, s3) := by
  refine (x_aload f10_0 rfl rfl).trans ?_
  refine (x_invokevirtual (G := grd (kd 5 = 0) (bnV (sem 13 0 [aA 5] [] s) fun s1 => sem 10 4 [aA 5, aA t, aI l2] [] s1)) f10_1 rfl rfl).trans ?_
  refine (g_t rfl).trans ?_
  refine bV_h fun s1 qs1 => ?_
  have rs1 := RefC.sem qs1 rfl hR
  refine (x_aload f10_4 rfl rfl).trans ?_
  refine (x_aload f10_5 rfl rfl).trans ?_
  refine (x_iload f10_6 rfl rfl).trans ?_
  refine (x_iconst f10_7 rfl).trans ?_
  refine (x_invokevirtual (G := grd (kd 5 = 0) (bnV (sem 14 0 [aA 5, aA t, aI l2, aI ((-9)), aU] [] s1) fun s2 => sem 10 12 [aA 5, aA t, aI l2] [] s2)) f10_9 rfl rfl).trans ?_
  refine (g_t rfl).trans ?_
  refine bV_h fun s2 qs2 => ?_
  have rs2 := RefC.sem qs2 rfl rs1
  refine (x_aload f10_12 rfl rfl).trans ?_
  refine (x_aload f10_13 rfl rfl).trans ?_
  refine (x_iload f10_14 rfl rfl).trans ?_
  refine (x_invokevirtual (G := grd (kd 5 = 0) (bnL (sem 16 0 [aA 5, aA t, aI l2, aU, aU, aU, aU] [] s2) fun a4 s3 => sem 10 18 [aA 5, aA t, aI l2] [aL a4] s3)) f10_15 rfl rfl).trans ?_
  refine (g_t rfl).trans ?_
  refine bL_h fun a4 s3 qs3 => ?_
  have rs3 := RefC.sem qs3 rfl rs2
  exact x_lreturn f10_18 rfl
set_option maxRecDepth 10000 in
theorem g11_0 {t : Int} (ht : t = 32 ∨ t = 37) {s : SG} (hR : RefC s) (l2 l3 l4 : Int) : sem 11 0 [aA 5, aA t, aI l2, aI l3, aI l4] [] s = bnV (sem 13 0 [aA 5] [] s) fun s1 => if l3 < 0 then bnV (sem 14 0 [aA 5, aA t, aI (w32 (l2 - l4)), aI l3, aU] [] s1) fun s2 => bnL (sem 16 0 [aA 5, aA t, aI l2, aU, aU, aU, aU] [] s2) fun a4 s3 => some (aL a4, s3) else if l3 < 3 then grd ((0 : Int) ≤ l3 ∧ l3 < 3) (bnV (sem 14 0 [aA 5, aA t, aI (w32 (l2 - l4)), aI l3, aU] [] (up s1 9 l3 l4)) fun s6 => bnL (sem 16 0 [aA 5, aA t, aI l2, aU, aU, aU, aU] [] s6) fun a8 s7 => some (aL a8, s7)) else bnV (sem 14 0 [aA 5, aA t, aI (w32 (l2 - l4)), aI l3, aU] [] s1) fun s9 => bnL (sem 16 0 [aA 5, aA t, aI l2, aU, aU, aU, aU] [] s9) fun a11 s10 => some (aL a11, s10) := by
  refine (x_aload f11_0 rfl rfl).trans ?_
  refine (x_invokevirtual (G := grd (kd 5 = 0) (bnV (sem 13 0 [aA 5] [] s) fun s1 => sem 11 4 [aA 5, aA t, aI l2, aI l3, aI l4] [] s1)) f11_1 rfl rfl).trans ?_
  refine (g_t rfl).trans ?_
  refine bV_h fun s1 qs1 => ?_
  have rs1 := RefC.sem qs1 rfl hR
  refine (x_iload f11_4 rfl rfl).trans ?_
  refine (x_if_lt (tg := 21) f11_5 rfl rfl).trans (i_c ?_ ?_)
  · refine (x_aload f11_21 rfl rfl).trans ?_
    refine (x_aload f11_22 rfl rfl).trans ?_
    refine (x_iload f11_23 rfl rfl).trans ?_
    refine (x_iload f11_24 rfl rfl).trans ?_
    refine (x_isub f11_26 rfl).trans ?_
    refine (x_iload f11_27 rfl rfl).trans ?_
    refine (x_invokevirtual (G := grd (kd 5 = 0) (bnV (sem 14 0 [aA 5, aA t, aI (w32 (l2 - l4)), aI l3, aU] [] s1) fun s2 => sem 11 31 [aA 5, aA t, aI l2, aI l3, aI l4] [] s2)) f11_28 rfl rfl).trans ?_
    refine (g_t rfl).trans ?_
    refine bV_h fun s2 qs2 => ?_
    have rs2 := RefC.sem qs2 rfl rs1
    refine (x_aload f11_31 rfl rfl).trans ?_
    refine (x_aload f11_32 rfl rfl).trans ?_
    refine (x_iload f11_33 rfl rfl).trans ?_
    refine (x_invokevirtual (G := grd (kd 5 = 0) (bnL (sem 16 0 [aA 5, aA t, aI l2, aU, aU, aU, aU] [] s2) fun a4 s3 => sem 11 37 [aA 5, aA t, aI l2, aI l3, aI l4] [aL a4] s3)) f11_34 rfl rfl).trans ?_
    refine (g_t rfl).trans ?_
    refine bL_h fun a4 s3 qs3 => ?_
    have rs3 := RefC.sem qs3 rfl rs2
    exact x_lreturn f11_37 rfl
  · refine (x_iload f11_8 rfl rfl).trans ?_
    refine (x_iconst f11_9 rfl).trans ?_
    refine (x_icmp_ge (tg := 21) f11_10 rfl rfl).trans (i_c ?_ ?_)
    · refine (x_aload f11_13 rfl rfl).trans ?_
      refine (y_get2 (ji := 3) rfl f11_14 rfl rfl).trans ?_
      refine (g_t rfl).trans ?_
      refine (g_t (by rw [show s1 5 3 = 9 from rs1.2.2.2.2.2.2.2.2.2.2.2.2.2.2.1]; decide)).trans ?_
      rw [show s1 5 3 = 9 from rs1.2.2.2.2.2.2.2.2.2.2.2.2.2.2.1]
      refine (x_iload f11_17 rfl rfl).trans ?_
      refine (x_iload f11_18 rfl rfl).trans ?_
      refine (x_iastore f11_20 rfl).trans ?_
      refine (g_t rfl).trans ?_
      refine g_kl (n := 3) rfl fun hg5 => ?_
      refine (x_aload f11_21 rfl rfl).trans ?_
      refine (x_aload f11_22 rfl rfl).trans ?_
      refine (x_iload f11_23 rfl rfl).trans ?_
      refine (x_iload f11_24 rfl rfl).trans ?_
      refine (x_isub f11_26 rfl).trans ?_
      refine (x_iload f11_27 rfl rfl).trans ?_
      refine (x_invokevirtual (G := grd (kd 5 = 0) (bnV (sem 14 0 [aA 5, aA t, aI (w32 (l2 - l4)), aI l3, aU] [] (up s1 9 l3 l4)) fun s6 => sem 11 31 [aA 5, aA t, aI l2, aI l3, aI l4] [] s6)) f11_28 rfl rfl).trans ?_
      refine (g_t rfl).trans ?_
      refine bV_h fun s6 qs6 => ?_
      have rs6 := RefC.sem qs6 rfl (RefC.upd rs1 (rcb_a (by decide)))
      refine (x_aload f11_31 rfl rfl).trans ?_
      refine (x_aload f11_32 rfl rfl).trans ?_
      refine (x_iload f11_33 rfl rfl).trans ?_
      refine (x_invokevirtual (G := grd (kd 5 = 0) (bnL (sem 16 0 [aA 5, aA t, aI l2, aU, aU, aU, aU] [] s6) fun a8 s7 => sem 11 37 [aA 5, aA t, aI l2, aI l3, aI l4] [aL a8] s7)) f11_34 rfl rfl).trans ?_
      refine (g_t rfl).trans ?_
      refine bL_h fun a8 s7 qs7 => ?_
      have rs7 := RefC.sem qs7 rfl rs6
      exact x_lreturn f11_37 rfl
    · refine (x_aload f11_21 rfl rfl).trans ?_
      refine (x_aload f11_22 rfl rfl).trans ?_
      refine (x_iload f11_23 rfl rfl).trans ?_
      refine (x_iload f11_24 rfl rfl).trans ?_
      refine (x_isub f11_26 rfl).trans ?_
      refine (x_iload f11_27 rfl rfl).trans ?_
      refine (x_invokevirtual (G := grd (kd 5 = 0) (bnV (sem 14 0 [aA 5, aA t, aI (w32 (l2 - l4)), aI l3, aU] [] s1) fun s9 => sem 11 31 [aA 5, aA t, aI l2, aI l3, aI l4] [] s9)) f11_28 rfl rfl).trans ?_
      refine (g_t rfl).trans ?_
      refine bV_h fun s9 qs9 => ?_
      have rs9 := RefC.sem qs9 rfl rs1
      refine (x_aload f11_31 rfl rfl).trans ?_
      refine (x_aload f11_32 rfl rfl).trans ?_
      refine (x_iload f11_33 rfl rfl).trans ?_
      refine (x_invokevirtual (G := grd (kd 5 = 0) (bnL (sem 16 0 [aA 5, aA t, aI l2, aU, aU, aU, aU] [] s9) fun a11 s10 => sem 11 37 [aA 5, aA t, aI l2, aI l3, aI l4] [aL a11] s10)) f11_34 rfl rfl).trans ?_
      refine (g_t rfl).trans ?_
      refine bL_h fun a11 s10 qs10 => ?_
      have rs10 := RefC.sem qs10 rfl rs9
      exact x_lreturn f11_37 rfl
set_option maxRecDepth 10000 in
theorem g12_0 {t : Int} (ht : t = 32 ∨ t = 37) {s : SG} (hR : RefC s) : sem 12 0 [aA 5, aA t, aU, aU, aU, aU, aU, aU] [] s = bnV (sem 13 0 [aA 5] [] s) fun s1 => bnL (sem 16 0 [aA 5, aA t, aI 0, aU, aU, aU, aU] [] s1) fun a3 s2 => sem 12 16 [aA 5, aA t, aI 0, aL a3, aU, aI 1, aU, aU] [] s2 := by
  refine (x_aload f12_0 rfl rfl).trans ?_
  refine (x_invokevirtual (G := grd (kd 5 = 0) (bnV (sem 13 0 [aA 5] [] s) fun s1 => sem 12 4 [aA 5, aA t, aU, aU, aU, aU, aU, aU] [] s1)) f12_1 rfl rfl).trans ?_
  refine (g_t rfl).trans ?_
  refine bV_h fun s1 qs1 => ?_
  have rs1 := RefC.sem qs1 rfl hR
  refine (x_iconst f12_4 rfl).trans ?_
  refine (x_istore (l2 := [aA 5, aA t, aI 0, aU, aU, aU, aU, aU]) f12_5 rfl rfl).trans ?_
  refine (x_aload f12_6 rfl rfl).trans ?_
  refine (x_aload f12_7 rfl rfl).trans ?_
  refine (x_iconst f12_8 rfl).trans ?_
  refine (x_invokevirtual (G := grd (kd 5 = 0) (bnL (sem 16 0 [aA 5, aA t, aI 0, aU, aU, aU, aU] [] s1) fun a3 s2 => sem 12 12 [aA 5, aA t, aI 0, aU, aU, aU, aU, aU] [aL a3] s2)) f12_9 rfl rfl).trans ?_
  refine (g_t rfl).trans ?_
  refine bL_h fun a3 s2 qs2 => ?_
  have rs2 := RefC.sem qs2 rfl rs1
  refine (x_lstore (l2 := [aA 5, aA t, aI 0, aL a3, aU, aU, aU, aU]) f12_12 rfl rfl).trans ?_
  refine (x_iconst f12_13 rfl).trans ?_
  refine (x_istore (l2 := [aA 5, aA t, aI 0, aL a3, aU, aI 1, aU, aU]) f12_14 rfl rfl).trans ?_
  rfl
set_option maxRecDepth 10000 in
theorem g12_16 {t : Int} (ht : t = 32 ∨ t = 37) {s : SG} (hR : RefC s) (l2 l3 l5 : Int) : sem 12 16 [aA 5, aA t, aI l2, aL l3, aU, aI l5, aU, aU] [] s = if (60 : Int) < l5 then some (aI l2, s) else bnV (sem 15 0 [aA 5, aA t, aI ((-9)), aU, aU] [] s) fun s1 => bnL (sem 16 0 [aA 5, aA t, aI l5, aU, aU, aU, aU] [] s1) fun a3 s2 => if (0 : Int) < (cmpL a3 l3) then sem 12 16 [aA 5, aA t, aI l5, aL a3, aU, aI (w32 (l5 + 1)), aU, aU] [] s2 else sem 12 16 [aA 5, aA t, aI l2, aL l3, aU, aI (w32 (l5 + 1)), aU, aU] [] s2 := by
  refine (x_iload f12_16 rfl rfl).trans ?_
  refine (x_iconst f12_18 rfl).trans ?_
  refine (x_icmp_gt (tg := 58) f12_20 rfl rfl).trans (i_c ?_ ?_)
  · refine (x_iload f12_58 rfl rfl).trans ?_
    exact x_ireturn f12_59 rfl
  · refine (x_aload f12_23 rfl rfl).trans ?_
    refine (x_aload f12_24 rfl rfl).trans ?_
    refine (x_iconst f12_25 rfl).trans ?_
    refine (x_invokevirtual (G := grd (kd 5 = 0) (bnV (sem 15 0 [aA 5, aA t, aI ((-9)), aU, aU] [] s) fun s1 => sem 12 30 [aA 5, aA t, aI l2, aL l3, aU, aI l5, aU, aU] [] s1)) f12_27 rfl rfl).trans ?_
    refine (g_t rfl).trans ?_
    refine bV_h fun s1 qs1 => ?_
    have rs1 := RefC.sem qs1 rfl hR
    refine (x_aload f12_30 rfl rfl).trans ?_
    refine (x_aload f12_31 rfl rfl).trans ?_
    refine (x_iload f12_32 rfl rfl).trans ?_
    refine (x_invokevirtual (G := grd (kd 5 = 0) (bnL (sem 16 0 [aA 5, aA t, aI l5, aU, aU, aU, aU] [] s1) fun a3 s2 => sem 12 37 [aA 5, aA t, aI l2, aL l3, aU, aI l5, aU, aU] [aL a3] s2)) f12_34 rfl rfl).trans ?_
    refine (g_t rfl).trans ?_
    refine bL_h fun a3 s2 qs2 => ?_
    have rs2 := RefC.sem qs2 rfl rs1
    refine (x_lstore (l2 := [aA 5, aA t, aI l2, aL l3, aU, aI l5, aL a3, aU]) f12_37 rfl rfl).trans ?_
    refine (x_lload f12_39 rfl rfl).trans ?_
    refine (x_lload f12_41 rfl rfl).trans ?_
    refine (x_lcmp f12_42 rfl).trans ?_
    refine (x_if_le (tg := 52) f12_43 rfl rfl).trans (i_c ?_ ?_)
    · refine (x_lload f12_46 rfl rfl).trans ?_
      refine (x_lstore (l2 := [aA 5, aA t, aI l2, aL a3, aU, aI l5, aL a3, aU]) f12_48 rfl rfl).trans ?_
      refine (x_iload f12_49 rfl rfl).trans ?_
      refine (x_istore (l2 := [aA 5, aA t, aI l5, aL a3, aU, aI l5, aL a3, aU]) f12_51 rfl rfl).trans ?_
      refine (x_kil (l2 := [aA 5, aA t, aI l5, aL a3, aU, aI l5, aU, aU]) f12_52 rfl).trans ?_
      refine (x_iinc (l2 := [aA 5, aA t, aI l5, aL a3, aU, aI (w32 (l5 + 1)), aU, aU]) f12_52 rfl rfl rfl).trans ?_
      refine (x_goto (tg := 16) f12_55 rfl rfl).trans ?_
      rfl
    · refine (x_kil (l2 := [aA 5, aA t, aI l2, aL l3, aU, aI l5, aU, aU]) f12_52 rfl).trans ?_
      refine (x_iinc (l2 := [aA 5, aA t, aI l2, aL l3, aU, aI (w32 (l5 + 1)), aU, aU]) f12_52 rfl rfl rfl).trans ?_
      refine (x_goto (tg := 16) f12_55 rfl rfl).trans ?_
      rfl
set_option maxRecDepth 10000 in
theorem g13_0 {s : SG} (hR : RefC s) : sem 13 0 [aA 5] [] s = bnV (sem 222 0 [aA 9, aI 0, aU, aU] [] s) fun s1 => some (aU, s1) := by
  refine (x_aload f13_0 rfl rfl).trans ?_
  refine (y_get2 (ji := 3) rfl f13_1 rfl rfl).trans ?_
  refine (g_t rfl).trans ?_
  refine (g_t (by rw [show s 5 3 = 9 from hR.2.2.2.2.2.2.2.2.2.2.2.2.2.2.1]; decide)).trans ?_
  rw [show s 5 3 = 9 from hR.2.2.2.2.2.2.2.2.2.2.2.2.2.2.1]
  refine (x_iconst f13_4 rfl).trans ?_
  refine (x_invokestatic (G := bnV (sem 222 0 [aA 9, aI 0, aU, aU] [] s) fun s1 => sem 13 8 [aA 5] [] s1) f13_5 rfl rfl).trans ?_
  refine bV_h fun s1 qs1 => ?_
  have rs1 := RefC.sem qs1 rfl hR
  exact x_return f13_8 rfl
set_option maxRecDepth 10000 in
theorem g14_0 {t : Int} (ht : t = 32 ∨ t = 37) {s : SG} (hR : RefC s) (l2 l3 : Int) : sem 14 0 [aA 5, aA t, aI l2, aI l3, aU] [] s = sem 14 3 [aA 5, aA t, aI l2, aI l3, aI 0] [] s := by
  refine (x_iconst f14_0 rfl).trans ?_
  refine (x_istore (l2 := [aA 5, aA t, aI l2, aI l3, aI 0]) f14_1 rfl rfl).trans ?_
  rfl
set_option maxRecDepth 10000 in
theorem g14_3 {t : Int} (ht : t = 32 ∨ t = 37) {s : SG} (hR : RefC s) (l2 l3 l4 : Int) : sem 14 3 [aA 5, aA t, aI l2, aI l3, aI l4] [] s = if l4 < l2 then bnV (sem 15 0 [aA 5, aA t, aI l3, aU, aU] [] s) fun s1 => sem 14 3 [aA 5, aA t, aI l2, aI l3, aI (w32 (l4 + 1))] [] s1 else some (aU, s) := by
  refine (x_iload f14_3 rfl rfl).trans ?_
  refine (x_iload f14_5 rfl rfl).trans ?_
  refine (x_icmp_ge (tg := 21) f14_6 rfl rfl).trans (i_c ?_ ?_)
  · refine (x_aload f14_9 rfl rfl).trans ?_
    refine (x_aload f14_10 rfl rfl).trans ?_
    refine (x_iload f14_11 rfl rfl).trans ?_
    refine (x_invokevirtual (G := grd (kd 5 = 0) (bnV (sem 15 0 [aA 5, aA t, aI l3, aU, aU] [] s) fun s1 => sem 14 15 [aA 5, aA t, aI l2, aI l3, aI l4] [] s1)) f14_12 rfl rfl).trans ?_
    refine (g_t rfl).trans ?_
    refine bV_h fun s1 qs1 => ?_
    have rs1 := RefC.sem qs1 rfl hR
    refine (x_iinc (l2 := [aA 5, aA t, aI l2, aI l3, aI (w32 (l4 + 1))]) f14_15 rfl rfl rfl).trans ?_
    refine (x_goto (tg := 3) f14_18 rfl rfl).trans ?_
    rfl
  · exact x_return f14_21 rfl
set_option maxRecDepth 10000 in
theorem g15_0 {t : Int} (ht : t = 32 ∨ t = 37) {s : SG} (hR : RefC s) (l2 : Int) : sem 15 0 [aA 5, aA t, aI l2, aU, aU] [] s = sem 15 6 [aA 5, aA t, aI l2, aI ((-9)), aI 0] [] s := by
  refine (x_iconst f15_0 rfl).trans ?_
  refine (x_istore (l2 := [aA 5, aA t, aI l2, aI ((-9)), aU]) f15_2 rfl rfl).trans ?_
  refine (x_iconst f15_3 rfl).trans ?_
  refine (x_istore (l2 := [aA 5, aA t, aI l2, aI ((-9)), aI 0]) f15_4 rfl rfl).trans ?_
  rfl
set_option maxRecDepth 10000 in
theorem g15_6 {t : Int} (ht : t = 32 ∨ t = 37) {s : SG} (hR : RefC s) (l2 l3 l4 : Int) : sem 15 6 [aA 5, aA t, aI l2, aI l3, aI l4] [] s = if l4 < (s t 4) then if l4 < 3 then if l4 = l2 then sem 15 6 [aA 5, aA t, aI l2, aI l3, aI (w32 (l4 + 1))] [] s else if l3 = ((-9)) then sem 15 6 [aA 5, aA t, aI l2, aI l4, aI (w32 (l4 + 1))] [] s else grd ((0 : Int) ≤ l4 ∧ l4 < 3) (bnL (sem 8 0 [aA 5, aI l4, aI (s 9 l4)] [] s) fun a3 s2 => grd ((0 : Int) ≤ l3 ∧ l3 < 3) (bnL (sem 8 0 [aA 5, aI l3, aI (s2 9 l3)] [] s2) fun a6 s5 => if (0 : Int) < (cmpL a3 a6) then sem 15 6 [aA 5, aA t, aI l2, aI l4, aI (w32 (l4 + 1))] [] s5 else sem 15 6 [aA 5, aA t, aI l2, aI l3, aI (w32 (l4 + 1))] [] s5)) else if l3 = ((-9)) then some (aU, s) else grd ((0 : Int) ≤ l3 ∧ l3 < 3) (some (aU, up s 9 l3 (w32 ((s 9 l3) + 1)))) else if l3 = ((-9)) then some (aU, s) else grd ((0 : Int) ≤ l3 ∧ l3 < 3) (some (aU, up s 9 l3 (w32 ((s 9 l3) + 1)))) := by
  refine (x_iload f15_6 rfl rfl).trans ?_
  refine (x_aload f15_8 rfl rfl).trans ?_
  refine (y_get0 (ji := 4) rfl f15_9 rfl rfl).trans ?_
  refine (g_t ((kd_t ht).1)).trans ?_
  refine (x_icmp_ge (tg := 70) f15_12 rfl rfl).trans (i_c ?_ ?_)
  · refine (x_iload f15_15 rfl rfl).trans ?_
    refine (x_iconst f15_17 rfl).trans ?_
    refine (x_icmp_ge (tg := 70) f15_18 rfl rfl).trans (i_c ?_ ?_)
    · refine (x_iload f15_21 rfl rfl).trans ?_
      refine (x_iload f15_23 rfl rfl).trans ?_
      refine (x_icmp_eq (tg := 64) f15_24 rfl rfl).trans (i_c ?_ ?_)
      · refine (x_iinc (l2 := [aA 5, aA t, aI l2, aI l3, aI (w32 (l4 + 1))]) f15_64 rfl rfl rfl).trans ?_
        refine (x_goto (tg := 6) f15_67 rfl rfl).trans ?_
        rfl
      · refine (x_iload f15_27 rfl rfl).trans ?_
        refine (x_iconst f15_28 rfl).trans ?_
        refine (x_icmp_eq (tg := 61) f15_30 rfl rfl).trans (i_c ?_ ?_)
        · refine (x_kil (l2 := [aA 5, aA t, aI l2, aU, aI l4]) f15_61 rfl).trans ?_
          refine (x_iload f15_61 rfl rfl).trans ?_
          refine (x_istore (l2 := [aA 5, aA t, aI l2, aI l4, aI l4]) f15_63 rfl rfl).trans ?_
          refine (x_iinc (l2 := [aA 5, aA t, aI l2, aI l4, aI (w32 (l4 + 1))]) f15_64 rfl rfl rfl).trans ?_
          refine (x_goto (tg := 6) f15_67 rfl rfl).trans ?_
          rfl
        · refine (x_aload f15_33 rfl rfl).trans ?_
          refine (x_iload f15_34 rfl rfl).trans ?_
          refine (x_aload f15_36 rfl rfl).trans ?_
          refine (y_get2 (ji := 3) rfl f15_37 rfl rfl).trans ?_
          refine (g_t rfl).trans ?_
          refine (g_t (by rw [show s 5 3 = 9 from hR.2.2.2.2.2.2.2.2.2.2.2.2.2.2.1]; decide)).trans ?_
          rw [show s 5 3 = 9 from hR.2.2.2.2.2.2.2.2.2.2.2.2.2.2.1]
          refine (x_iload f15_40 rfl rfl).trans ?_
          refine (x_iaload f15_42 rfl).trans ?_
          refine (g_t rfl).trans ?_
          refine g_kl (n := 3) rfl fun hg1 => ?_
          refine (x_invokevirtual (G := grd (kd 5 = 0) (bnL (sem 8 0 [aA 5, aI l4, aI (s 9 l4)] [] s) fun a3 s2 => sem 15 46 [aA 5, aA t, aI l2, aI l3, aI l4] [aL a3] s2)) f15_43 rfl rfl).trans ?_
          refine (g_t rfl).trans ?_
          refine bL_h fun a3 s2 qs2 => ?_
          have rs2 := RefC.sem qs2 rfl hR
          refine (x_aload f15_46 rfl rfl).trans ?_
          refine (x_iload f15_47 rfl rfl).trans ?_
          refine (x_aload f15_48 rfl rfl).trans ?_
          refine (y_get2 (ji := 3) rfl f15_49 rfl rfl).trans ?_
          refine (g_t rfl).trans ?_
          refine (g_t (by rw [show s2 5 3 = 9 from rs2.2.2.2.2.2.2.2.2.2.2.2.2.2.2.1]; decide)).trans ?_
          rw [show s2 5 3 = 9 from rs2.2.2.2.2.2.2.2.2.2.2.2.2.2.2.1]
          refine (x_iload f15_52 rfl rfl).trans ?_
          refine (x_iaload f15_53 rfl).trans ?_
          refine (g_t rfl).trans ?_
          refine g_kl (n := 3) rfl fun hg4 => ?_
          refine (x_invokevirtual (G := grd (kd 5 = 0) (bnL (sem 8 0 [aA 5, aI l3, aI (s2 9 l3)] [] s2) fun a6 s5 => sem 15 57 [aA 5, aA t, aI l2, aI l3, aI l4] [aL a6, aL a3] s5)) f15_54 rfl rfl).trans ?_
          refine (g_t rfl).trans ?_
          refine bL_h fun a6 s5 qs5 => ?_
          have rs5 := RefC.sem qs5 rfl rs2
          refine (x_lcmp f15_57 rfl).trans ?_
          refine (x_if_le (tg := 64) f15_58 rfl rfl).trans (i_c ?_ ?_)
          · refine (x_kil (l2 := [aA 5, aA t, aI l2, aU, aI l4]) f15_61 rfl).trans ?_
            refine (x_iload f15_61 rfl rfl).trans ?_
            refine (x_istore (l2 := [aA 5, aA t, aI l2, aI l4, aI l4]) f15_63 rfl rfl).trans ?_
            refine (x_iinc (l2 := [aA 5, aA t, aI l2, aI l4, aI (w32 (l4 + 1))]) f15_64 rfl rfl rfl).trans ?_
            refine (x_goto (tg := 6) f15_67 rfl rfl).trans ?_
            rfl
          · refine (x_iinc (l2 := [aA 5, aA t, aI l2, aI l3, aI (w32 (l4 + 1))]) f15_64 rfl rfl rfl).trans ?_
            refine (x_goto (tg := 6) f15_67 rfl rfl).trans ?_
            rfl
    · refine (x_kil (l2 := [aA 5, aU, aU, aI l3, aU]) f15_70 rfl).trans ?_
      refine (x_iload f15_70 rfl rfl).trans ?_
      refine (x_iconst f15_71 rfl).trans ?_
      refine (x_icmp_eq (tg := 86) f15_73 rfl rfl).trans (i_c ?_ ?_)
      · refine (x_kil (l2 := [aU, aU, aU, aU, aU]) f15_86 rfl).trans ?_
        exact x_return f15_86 rfl
      · refine (x_aload f15_76 rfl rfl).trans ?_
        refine (y_get2 (ji := 3) rfl f15_77 rfl rfl).trans ?_
        refine (g_t rfl).trans ?_
        refine (g_t (by rw [show s 5 3 = 9 from hR.2.2.2.2.2.2.2.2.2.2.2.2.2.2.1]; decide)).trans ?_
        rw [show s 5 3 = 9 from hR.2.2.2.2.2.2.2.2.2.2.2.2.2.2.1]
        refine (x_iload f15_80 rfl rfl).trans ?_
        refine (x_dup2 f15_81 rfl rfl).trans ?_
        refine (x_iaload f15_82 rfl).trans ?_
        refine (g_t rfl).trans ?_
        refine g_kl (n := 3) rfl fun hg7 => ?_
        refine (x_iconst f15_83 rfl).trans ?_
        refine (x_iadd f15_84 rfl).trans ?_
        refine (x_iastore f15_85 rfl).trans ?_
        refine (g_t rfl).trans ?_
        refine (g_kt (n := 3) rfl hg7).trans ?_
        refine (x_kil (l2 := [aU, aU, aU, aU, aU]) f15_86 rfl).trans ?_
        exact x_return f15_86 rfl
  · refine (x_kil (l2 := [aA 5, aU, aU, aI l3, aU]) f15_70 rfl).trans ?_
    refine (x_iload f15_70 rfl rfl).trans ?_
    refine (x_iconst f15_71 rfl).trans ?_
    refine (x_icmp_eq (tg := 86) f15_73 rfl rfl).trans (i_c ?_ ?_)
    · refine (x_kil (l2 := [aU, aU, aU, aU, aU]) f15_86 rfl).trans ?_
      exact x_return f15_86 rfl
    · refine (x_aload f15_76 rfl rfl).trans ?_
      refine (y_get2 (ji := 3) rfl f15_77 rfl rfl).trans ?_
      refine (g_t rfl).trans ?_
      refine (g_t (by rw [show s 5 3 = 9 from hR.2.2.2.2.2.2.2.2.2.2.2.2.2.2.1]; decide)).trans ?_
      rw [show s 5 3 = 9 from hR.2.2.2.2.2.2.2.2.2.2.2.2.2.2.1]
      refine (x_iload f15_80 rfl rfl).trans ?_
      refine (x_dup2 f15_81 rfl rfl).trans ?_
      refine (x_iaload f15_82 rfl).trans ?_
      refine (g_t rfl).trans ?_
      refine g_kl (n := 3) rfl fun hg8 => ?_
      refine (x_iconst f15_83 rfl).trans ?_
      refine (x_iadd f15_84 rfl).trans ?_
      refine (x_iastore f15_85 rfl).trans ?_
      refine (g_t rfl).trans ?_
      refine (g_kt (n := 3) rfl hg8).trans ?_
      refine (x_kil (l2 := [aU, aU, aU, aU, aU]) f15_86 rfl).trans ?_
      exact x_return f15_86 rfl
set_option maxRecDepth 10000 in
theorem g16_0 {t : Int} (ht : t = 32 ∨ t = 37) {s : SG} (hR : RefC s) (l2 : Int) : sem 16 0 [aA 5, aA t, aI l2, aU, aU, aU, aU] [] s = sem 16 5 [aA 5, aA t, aI l2, aL 0, aU, aI 0, aU] [] s := by
  refine (x_lconst f16_0 rfl).trans ?_
  refine (x_lstore (l2 := [aA 5, aA t, aI l2, aL 0, aU, aU, aU]) f16_1 rfl rfl).trans ?_
  refine (x_iconst f16_2 rfl).trans ?_
  refine (x_istore (l2 := [aA 5, aA t, aI l2, aL 0, aU, aI 0, aU]) f16_3 rfl rfl).trans ?_
  rfl
set_option maxRecDepth 10000 in
theorem g16_5 {t : Int} (ht : t = 32 ∨ t = 37) {s : SG} (hR : RefC s) (l2 l3 l5 : Int) : sem 16 5 [aA 5, aA t, aI l2, aL l3, aU, aI l5, aU] [] s = if l5 < (s t 4) then if l5 < 3 then grd ((0 : Int) ≤ l5 ∧ l5 < 3) (bnL (sem 7 0 [aA 5, aI l5, aI (s 9 l5)] [] s) fun a3 s2 => sem 16 5 [aA 5, aA t, aI l2, aL (w64 (l3 + a3)), aU, aI (w32 (l5 + 1)), aU] [] s2) else sem 16 42 [aA 5, aA t, aI l2, aL l3, aU, aU, aU] [] s else sem 16 42 [aA 5, aA t, aI l2, aL l3, aU, aU, aU] [] s := by
  refine (x_iload f16_5 rfl rfl).trans ?_
  refine (x_aload f16_7 rfl rfl).trans ?_
  refine (y_get0 (ji := 4) rfl f16_8 rfl rfl).trans ?_
  refine (g_t ((kd_t ht).1)).trans ?_
  refine (x_icmp_ge (tg := 42) f16_11 rfl rfl).trans (i_c ?_ ?_)
  · refine (x_iload f16_14 rfl rfl).trans ?_
    refine (x_iconst f16_16 rfl).trans ?_
    refine (x_icmp_ge (tg := 42) f16_17 rfl rfl).trans (i_c ?_ ?_)
    · refine (x_lload f16_20 rfl rfl).trans ?_
      refine (x_aload f16_21 rfl rfl).trans ?_
      refine (x_iload f16_22 rfl rfl).trans ?_
      refine (x_aload f16_24 rfl rfl).trans ?_
      refine (y_get2 (ji := 3) rfl f16_25 rfl rfl).trans ?_
      refine (g_t rfl).trans ?_
      refine (g_t (by rw [show s 5 3 = 9 from hR.2.2.2.2.2.2.2.2.2.2.2.2.2.2.1]; decide)).trans ?_
      rw [show s 5 3 = 9 from hR.2.2.2.2.2.2.2.2.2.2.2.2.2.2.1]
      refine (x_iload f16_28 rfl rfl).trans ?_
      refine (x_iaload f16_30 rfl).trans ?_
      refine (g_t rfl).trans ?_
      refine g_kl (n := 3) rfl fun hg1 => ?_
      refine (x_invokevirtual (G := grd (kd 5 = 0) (bnL (sem 7 0 [aA 5, aI l5, aI (s 9 l5)] [] s) fun a3 s2 => sem 16 34 [aA 5, aA t, aI l2, aL l3, aU, aI l5, aU] [aL a3, aL l3] s2)) f16_31 rfl rfl).trans ?_
      refine (g_t rfl).trans ?_
      refine bL_h fun a3 s2 qs2 => ?_
      have rs2 := RefC.sem qs2 rfl hR
      refine (x_ladd f16_34 rfl).trans ?_
      refine (x_lstore (l2 := [aA 5, aA t, aI l2, aL (w64 (l3 + a3)), aU, aI l5, aU]) f16_35 rfl rfl).trans ?_
      refine (x_iinc (l2 := [aA 5, aA t, aI l2, aL (w64 (l3 + a3)), aU, aI (w32 (l5 + 1)), aU]) f16_36 rfl rfl rfl).trans ?_
      refine (x_goto (tg := 5) f16_39 rfl rfl).trans ?_
      rfl
    · exact x_kil f16_42 rfl
  · exact x_kil f16_42 rfl
set_option maxRecDepth 10000 in
theorem g16_42 {t : Int} (ht : t = 32 ∨ t = 37) {s : SG} (hR : RefC s) (l2 l3 : Int) : sem 16 42 [aA 5, aA t, aI l2, aL l3, aU, aU, aU] [] s = some (aL (w64 ((w64 ((w64 (l3 * (s t 6))) + (w64 ((w64 ((w64 (l2 * (s 5 4))) - l3)) * (s t 7))))) - (w64 ((w64 (l2 * (s 5 4))) * (s t 5))))), s) := by
  refine (x_iload f16_42 rfl rfl).trans ?_
  refine (x_i2l f16_43 rfl).trans ?_
  refine (x_aload f16_44 rfl rfl).trans ?_
  refine (y_get1 (ji := 4) rfl f16_45 rfl rfl).trans ?_
  refine (g_t rfl).trans ?_
  refine (x_lmul f16_48 rfl).trans ?_
  refine (x_lload f16_49 rfl rfl).trans ?_
  refine (x_lsub f16_50 rfl).trans ?_
  refine (x_lstore (l2 := [aA 5, aA t, aI l2, aL l3, aU, aL (w64 ((w64 (l2 * (s 5 4))) - l3)), aU]) f16_51 rfl rfl).trans ?_
  refine (x_lload f16_53 rfl rfl).trans ?_
  refine (x_aload f16_54 rfl rfl).trans ?_
  refine (y_get0 (ji := 6) rfl f16_55 rfl rfl).trans ?_
  refine (g_t ((kd_t ht).1)).trans ?_
  refine (x_i2l f16_58 rfl).trans ?_
  refine (x_lmul f16_59 rfl).trans ?_
  refine (x_lload f16_60 rfl rfl).trans ?_
  refine (x_aload f16_62 rfl rfl).trans ?_
  refine (y_get0 (ji := 7) rfl f16_63 rfl rfl).trans ?_
  refine (g_t ((kd_t ht).1)).trans ?_
  refine (x_i2l f16_66 rfl).trans ?_
  refine (x_lmul f16_67 rfl).trans ?_
  refine (x_ladd f16_68 rfl).trans ?_
  refine (x_iload f16_69 rfl rfl).trans ?_
  refine (x_i2l f16_70 rfl).trans ?_
  refine (x_aload f16_71 rfl rfl).trans ?_
  refine (y_get1 (ji := 4) rfl f16_72 rfl rfl).trans ?_
  refine (g_t rfl).trans ?_
  refine (x_lmul f16_75 rfl).trans ?_
  refine (x_aload f16_76 rfl rfl).trans ?_
  refine (y_get0 (ji := 5) rfl f16_77 rfl rfl).trans ?_
  refine (g_t ((kd_t ht).1)).trans ?_
  refine (x_i2l f16_80 rfl).trans ?_
  refine (x_lmul f16_81 rfl).trans ?_
  refine (x_lsub f16_82 rfl).trans ?_
  exact x_lreturn f16_83 rfl
set_option maxRecDepth 10000 in
theorem g18_0 {k : Int} (hk : k = 16 ∨ k = 42 ∨ k = 49) {s : SG} (hR : RefC s) : sem 18 0 [aA k] [] s = bnV (sem 222 0 [aA (k + 1), aI 0, aU, aU] [] s) fun s1 => bnV (sem 222 0 [aA (k + 2), aI 5, aU, aU] [] s1) fun s2 => bnV (sem 222 0 [aA (k + 3), aI 0, aU, aU] [] s2) fun s3 => some (aU, up (up (up (up (up s3 k 6 0) k 7 0) k 8 0) k 9 0) k 10 0) := by
  refine (x_aload f18_0 rfl rfl).trans ?_
  refine (y_get2 (ji := 0) rfl f18_1 rfl rfl).trans ?_
  refine (g_t ((kd_k hk).1)).trans ?_
  refine (g_t (by rw [show s k 0 = k + 1 from ((ref_k hR hk).1)]; omega)).trans ?_
  rw [show s k 0 = k + 1 from ((ref_k hR hk).1)]
  refine (x_iconst f18_4 rfl).trans ?_
  refine (x_invokestatic (G := bnV (sem 222 0 [aA (k + 1), aI 0, aU, aU] [] s) fun s1 => sem 18 8 [aA k] [] s1) f18_5 rfl rfl).trans ?_
  refine bV_h fun s1 qs1 => ?_
  have rs1 := RefC.sem qs1 rfl hR
  refine (x_aload f18_8 rfl rfl).trans ?_
  refine (y_get2 (ji := 1) rfl f18_9 rfl rfl).trans ?_
  refine (g_t ((kd_k hk).1)).trans ?_
  refine (g_t (by rw [show s1 k 1 = k + 2 from ((ref_k rs1 hk).2.1)]; omega)).trans ?_
  rw [show s1 k 1 = k + 2 from ((ref_k rs1 hk).2.1)]
  refine (x_iconst f18_12 rfl).trans ?_
  refine (x_invokestatic (G := bnV (sem 222 0 [aA (k + 2), aI 5, aU, aU] [] s1) fun s2 => sem 18 16 [aA k] [] s2) f18_13 rfl rfl).trans ?_
  refine bV_h fun s2 qs2 => ?_
  have rs2 := RefC.sem qs2 rfl rs1
  refine (x_aload f18_16 rfl rfl).trans ?_
  refine (y_get2 (ji := 2) rfl f18_17 rfl rfl).trans ?_
  refine (g_t ((kd_k hk).1)).trans ?_
  refine (g_t (by rw [show s2 k 2 = k + 3 from ((ref_k rs2 hk).2.2.1)]; omega)).trans ?_
  rw [show s2 k 2 = k + 3 from ((ref_k rs2 hk).2.2.1)]
  refine (x_iconst f18_20 rfl).trans ?_
  refine (x_invokestatic (G := bnV (sem 222 0 [aA (k + 3), aI 0, aU, aU] [] s2) fun s3 => sem 18 24 [aA k] [] s3) f18_21 rfl rfl).trans ?_
  refine bV_h fun s3 qs3 => ?_
  have rs3 := RefC.sem qs3 rfl rs2
  refine (x_aload f18_24 rfl rfl).trans ?_
  refine (x_iconst f18_25 rfl).trans ?_
  refine (y_put0 (ji := 6) rfl f18_26 rfl rfl).trans ?_
  refine (g_t ((kd_k hk).1)).trans ?_
  refine (x_aload f18_29 rfl rfl).trans ?_
  refine (x_iconst f18_30 rfl).trans ?_
  refine (y_put0 (ji := 7) rfl f18_31 rfl rfl).trans ?_
  refine (g_t ((kd_k hk).1)).trans ?_
  refine (x_aload f18_34 rfl rfl).trans ?_
  refine (x_iconst f18_35 rfl).trans ?_
  refine (y_put0 (ji := 8) rfl f18_36 rfl rfl).trans ?_
  refine (g_t ((kd_k hk).1)).trans ?_
  refine (x_aload f18_39 rfl rfl).trans ?_
  refine (x_iconst f18_40 rfl).trans ?_
  refine (y_put0 (ji := 9) rfl f18_41 rfl rfl).trans ?_
  refine (g_t ((kd_k hk).1)).trans ?_
  refine (x_aload f18_44 rfl rfl).trans ?_
  refine (x_iconst f18_45 rfl).trans ?_
  refine (y_put0 (ji := 10) rfl f18_46 rfl rfl).trans ?_
  refine (g_t ((kd_k hk).1)).trans ?_
  exact x_return f18_49 rfl
set_option maxRecDepth 10000 in
theorem g19_0 {k : Int} (hk : k = 16 ∨ k = 42 ∨ k = 49) {k2 : Int} (hk2 : k2 = 16 ∨ k2 = 42 ∨ k2 = 49) {s : SG} (hR : RefC s) : sem 19 0 [aA k, aA k2] [] s = some (aU, up (up (up (up (up (cpy (cpy (cpy (cpy (cpy (cpy s (k2 + 1) 0 (k + 1) 0 3) (k2 + 2) 0 (k + 2) 0 3) (k2 + 3) 0 (k + 3) 0 3) (k2 + 4) 0 (k + 4) 0 6) (k2 + 5) 0 (k + 5) 0 6) (k2 + 6) 0 (k + 6) 0 6) k 6 (s k2 6)) k 7 (s k2 7)) k 8 (s k2 8)) k 9 (s k2 9)) k 10 (s k2 10)) := by
  refine (x_aload f19_0 rfl rfl).trans ?_
  refine (y_get2 (ji := 0) rfl f19_1 rfl rfl).trans ?_
  refine (g_t ((kd_k hk2).1)).trans ?_
  refine (g_t (by rw [show s k2 0 = k2 + 1 from ((ref_k hR hk2).1)]; omega)).trans ?_
  rw [show s k2 0 = k2 + 1 from ((ref_k hR hk2).1)]
  refine (x_iconst f19_4 rfl).trans ?_
  refine (x_aload f19_5 rfl rfl).trans ?_
  refine (y_get2 (ji := 0) rfl f19_6 rfl rfl).trans ?_
  refine (g_t ((kd_k hk).1)).trans ?_
  refine (g_t (by rw [show s k 0 = k + 1 from ((ref_k hR hk).1)]; omega)).trans ?_
  rw [show s k 0 = k + 1 from ((ref_k hR hk).1)]
  refine (x_iconst f19_9 rfl).trans ?_
  refine (x_iconst f19_10 rfl).trans ?_
  refine (x_copy f19_11 rfl rfl).trans ?_
  refine (g_t ⟨((kd_k hk2).2.1), ((kd_k hk).2.1)⟩).trans ?_
  refine (g_t (by rw [show kl (k2 + 1) = 3 from ((kd_k hk2).2.2.1), show kl (k + 1) = 3 from ((kd_k hk).2.2.1)]; decide)).trans ?_
  refine (x_aload f19_14 rfl rfl).trans ?_
  refine (y_get2 (ji := 1) rfl f19_15 rfl rfl).trans ?_
  refine (g_t ((kd_k hk2).1)).trans ?_
  refine (g_t (by rw [show (cpy s (k2 + 1) 0 (k + 1) 0 3) k2 1 = k2 + 2 from (by rw [cpy_ne (by omega)]; exact ((ref_k hR hk2).2.1))]; omega)).trans ?_
  rw [show (cpy s (k2 + 1) 0 (k + 1) 0 3) k2 1 = k2 + 2 from (by rw [cpy_ne (by omega)]; exact ((ref_k hR hk2).2.1))]
  refine (x_iconst f19_18 rfl).trans ?_
  refine (x_aload f19_19 rfl rfl).trans ?_
  refine (y_get2 (ji := 1) rfl f19_20 rfl rfl).trans ?_
  refine (g_t ((kd_k hk).1)).trans ?_
  refine (g_t (by rw [show (cpy s (k2 + 1) 0 (k + 1) 0 3) k 1 = k + 2 from (by rw [cpy_ne (by omega)]; exact ((ref_k hR hk).2.1))]; omega)).trans ?_
  rw [show (cpy s (k2 + 1) 0 (k + 1) 0 3) k 1 = k + 2 from (by rw [cpy_ne (by omega)]; exact ((ref_k hR hk).2.1))]
  refine (x_iconst f19_23 rfl).trans ?_
  refine (x_iconst f19_24 rfl).trans ?_
  refine (x_copy f19_25 rfl rfl).trans ?_
  refine (g_t ⟨((kd_k hk2).2.2.2.1), ((kd_k hk).2.2.2.1)⟩).trans ?_
  refine (g_t (by rw [show kl (k2 + 2) = 3 from ((kd_k hk2).2.2.2.2.1), show kl (k + 2) = 3 from ((kd_k hk).2.2.2.2.1)]; decide)).trans ?_
  refine (x_aload f19_28 rfl rfl).trans ?_
  refine (y_get2 (ji := 2) rfl f19_29 rfl rfl).trans ?_
  refine (g_t ((kd_k hk2).1)).trans ?_
  refine (g_t (by rw [show (cpy (cpy s (k2 + 1) 0 (k + 1) 0 3) (k2 + 2) 0 (k + 2) 0 3) k2 2 = k2 + 3 from (by rw [cpy_ne (by omega), cpy_ne (by omega)]; exact ((ref_k hR hk2).2.2.1))]; omega)).trans ?_
  rw [show (cpy (cpy s (k2 + 1) 0 (k + 1) 0 3) (k2 + 2) 0 (k + 2) 0 3) k2 2 = k2 + 3 from (by rw [cpy_ne (by omega), cpy_ne (by omega)]; exact ((ref_k hR hk2).2.2.1))]
  refine (x_iconst f19_32 rfl).trans ?_
  refine (x_aload f19_33 rfl rfl).trans ?_
  refine (y_get2 (ji := 2) rfl f19_34 rfl rfl).trans ?_
  refine (g_t ((kd_k hk).1)).trans ?_
  refine (g_t (by rw [show (cpy (cpy s (k2 + 1) 0 (k + 1) 0 3) (k2 + 2) 0 (k + 2) 0 3) k 2 = k + 3 from (by rw [cpy_ne (by omega), cpy_ne (by omega)]; exact ((ref_k hR hk).2.2.1))]; omega)).trans ?_
  rw [show (cpy (cpy s (k2 + 1) 0 (k + 1) 0 3) (k2 + 2) 0 (k + 2) 0 3) k 2 = k + 3 from (by rw [cpy_ne (by omega), cpy_ne (by omega)]; exact ((ref_k hR hk).2.2.1))]
  refine (x_iconst f19_37 rfl).trans ?_
  refine (x_iconst f19_38 rfl).trans ?_
  refine (x_copy f19_39 rfl rfl).trans ?_
  refine (g_t ⟨((kd_k hk2).2.2.2.2.2.1), ((kd_k hk).2.2.2.2.2.1)⟩).trans ?_
  refine (g_t (by rw [show kl (k2 + 3) = 3 from ((kd_k hk2).2.2.2.2.2.2.1), show kl (k + 3) = 3 from ((kd_k hk).2.2.2.2.2.2.1)]; decide)).trans ?_
  refine (x_aload f19_42 rfl rfl).trans ?_
  refine (y_get2 (ji := 3) rfl f19_43 rfl rfl).trans ?_
  refine (g_t ((kd_k hk2).1)).trans ?_
  refine (g_t (by rw [show (cpy (cpy (cpy s (k2 + 1) 0 (k + 1) 0 3) (k2 + 2) 0 (k + 2) 0 3) (k2 + 3) 0 (k + 3) 0 3) k2 3 = k2 + 4 from (by rw [cpy_ne (by omega), cpy_ne (by omega), cpy_ne (by omega)]; exact ((ref_k hR hk2).2.2.2.1))]; omega)).trans ?_
  rw [show (cpy (cpy (cpy s (k2 + 1) 0 (k + 1) 0 3) (k2 + 2) 0 (k + 2) 0 3) (k2 + 3) 0 (k + 3) 0 3) k2 3 = k2 + 4 from (by rw [cpy_ne (by omega), cpy_ne (by omega), cpy_ne (by omega)]; exact ((ref_k hR hk2).2.2.2.1))]
  refine (x_iconst f19_46 rfl).trans ?_
  refine (x_aload f19_47 rfl rfl).trans ?_
  refine (y_get2 (ji := 3) rfl f19_48 rfl rfl).trans ?_
  refine (g_t ((kd_k hk).1)).trans ?_
  refine (g_t (by rw [show (cpy (cpy (cpy s (k2 + 1) 0 (k + 1) 0 3) (k2 + 2) 0 (k + 2) 0 3) (k2 + 3) 0 (k + 3) 0 3) k 3 = k + 4 from (by rw [cpy_ne (by omega), cpy_ne (by omega), cpy_ne (by omega)]; exact ((ref_k hR hk).2.2.2.1))]; omega)).trans ?_
  rw [show (cpy (cpy (cpy s (k2 + 1) 0 (k + 1) 0 3) (k2 + 2) 0 (k + 2) 0 3) (k2 + 3) 0 (k + 3) 0 3) k 3 = k + 4 from (by rw [cpy_ne (by omega), cpy_ne (by omega), cpy_ne (by omega)]; exact ((ref_k hR hk).2.2.2.1))]
  refine (x_iconst f19_51 rfl).trans ?_
  refine (x_iconst f19_52 rfl).trans ?_
  refine (x_copy f19_54 rfl rfl).trans ?_
  refine (g_t ⟨((kd_k hk2).2.2.2.2.2.2.2.1), ((kd_k hk).2.2.2.2.2.2.2.1)⟩).trans ?_
  refine (g_t (by rw [show kl (k2 + 4) = 6 from ((kd_k hk2).2.2.2.2.2.2.2.2.1), show kl (k + 4) = 6 from ((kd_k hk).2.2.2.2.2.2.2.2.1)]; decide)).trans ?_
  refine (x_aload f19_57 rfl rfl).trans ?_
  refine (y_get2 (ji := 4) rfl f19_58 rfl rfl).trans ?_
  refine (g_t ((kd_k hk2).1)).trans ?_
  refine (g_t (by rw [show (cpy (cpy (cpy (cpy s (k2 + 1) 0 (k + 1) 0 3) (k2 + 2) 0 (k + 2) 0 3) (k2 + 3) 0 (k + 3) 0 3) (k2 + 4) 0 (k + 4) 0 6) k2 4 = k2 + 5 from (by rw [cpy_ne (by omega), cpy_ne (by omega), cpy_ne (by omega), cpy_ne (by omega)]; exact ((ref_k hR hk2).2.2.2.2.1))]; omega)).trans ?_
  rw [show (cpy (cpy (cpy (cpy s (k2 + 1) 0 (k + 1) 0 3) (k2 + 2) 0 (k + 2) 0 3) (k2 + 3) 0 (k + 3) 0 3) (k2 + 4) 0 (k + 4) 0 6) k2 4 = k2 + 5 from (by rw [cpy_ne (by omega), cpy_ne (by omega), cpy_ne (by omega), cpy_ne (by omega)]; exact ((ref_k hR hk2).2.2.2.2.1))]
  refine (x_iconst f19_61 rfl).trans ?_
  refine (x_aload f19_62 rfl rfl).trans ?_
  refine (y_get2 (ji := 4) rfl f19_63 rfl rfl).trans ?_
  refine (g_t ((kd_k hk).1)).trans ?_
  refine (g_t (by rw [show (cpy (cpy (cpy (cpy s (k2 + 1) 0 (k + 1) 0 3) (k2 + 2) 0 (k + 2) 0 3) (k2 + 3) 0 (k + 3) 0 3) (k2 + 4) 0 (k + 4) 0 6) k 4 = k + 5 from (by rw [cpy_ne (by omega), cpy_ne (by omega), cpy_ne (by omega), cpy_ne (by omega)]; exact ((ref_k hR hk).2.2.2.2.1))]; omega)).trans ?_
  rw [show (cpy (cpy (cpy (cpy s (k2 + 1) 0 (k + 1) 0 3) (k2 + 2) 0 (k + 2) 0 3) (k2 + 3) 0 (k + 3) 0 3) (k2 + 4) 0 (k + 4) 0 6) k 4 = k + 5 from (by rw [cpy_ne (by omega), cpy_ne (by omega), cpy_ne (by omega), cpy_ne (by omega)]; exact ((ref_k hR hk).2.2.2.2.1))]
  refine (x_iconst f19_66 rfl).trans ?_
  refine (x_iconst f19_67 rfl).trans ?_
  refine (x_copy f19_69 rfl rfl).trans ?_
  refine (g_t ⟨((kd_k hk2).2.2.2.2.2.2.2.2.2.1), ((kd_k hk).2.2.2.2.2.2.2.2.2.1)⟩).trans ?_
  refine (g_t (by rw [show kl (k2 + 5) = 6 from ((kd_k hk2).2.2.2.2.2.2.2.2.2.2.1), show kl (k + 5) = 6 from ((kd_k hk).2.2.2.2.2.2.2.2.2.2.1)]; decide)).trans ?_
  refine (x_aload f19_72 rfl rfl).trans ?_
  refine (y_get2 (ji := 5) rfl f19_73 rfl rfl).trans ?_
  refine (g_t ((kd_k hk2).1)).trans ?_
  refine (g_t (by rw [show (cpy (cpy (cpy (cpy (cpy s (k2 + 1) 0 (k + 1) 0 3) (k2 + 2) 0 (k + 2) 0 3) (k2 + 3) 0 (k + 3) 0 3) (k2 + 4) 0 (k + 4) 0 6) (k2 + 5) 0 (k + 5) 0 6) k2 5 = k2 + 6 from (by rw [cpy_ne (by omega), cpy_ne (by omega), cpy_ne (by omega), cpy_ne (by omega), cpy_ne (by omega)]; exact ((ref_k hR hk2).2.2.2.2.2))]; omega)).trans ?_
  rw [show (cpy (cpy (cpy (cpy (cpy s (k2 + 1) 0 (k + 1) 0 3) (k2 + 2) 0 (k + 2) 0 3) (k2 + 3) 0 (k + 3) 0 3) (k2 + 4) 0 (k + 4) 0 6) (k2 + 5) 0 (k + 5) 0 6) k2 5 = k2 + 6 from (by rw [cpy_ne (by omega), cpy_ne (by omega), cpy_ne (by omega), cpy_ne (by omega), cpy_ne (by omega)]; exact ((ref_k hR hk2).2.2.2.2.2))]
  refine (x_iconst f19_76 rfl).trans ?_
  refine (x_aload f19_77 rfl rfl).trans ?_
  refine (y_get2 (ji := 5) rfl f19_78 rfl rfl).trans ?_
  refine (g_t ((kd_k hk).1)).trans ?_
  refine (g_t (by rw [show (cpy (cpy (cpy (cpy (cpy s (k2 + 1) 0 (k + 1) 0 3) (k2 + 2) 0 (k + 2) 0 3) (k2 + 3) 0 (k + 3) 0 3) (k2 + 4) 0 (k + 4) 0 6) (k2 + 5) 0 (k + 5) 0 6) k 5 = k + 6 from (by rw [cpy_ne (by omega), cpy_ne (by omega), cpy_ne (by omega), cpy_ne (by omega), cpy_ne (by omega)]; exact ((ref_k hR hk).2.2.2.2.2))]; omega)).trans ?_
  rw [show (cpy (cpy (cpy (cpy (cpy s (k2 + 1) 0 (k + 1) 0 3) (k2 + 2) 0 (k + 2) 0 3) (k2 + 3) 0 (k + 3) 0 3) (k2 + 4) 0 (k + 4) 0 6) (k2 + 5) 0 (k + 5) 0 6) k 5 = k + 6 from (by rw [cpy_ne (by omega), cpy_ne (by omega), cpy_ne (by omega), cpy_ne (by omega), cpy_ne (by omega)]; exact ((ref_k hR hk).2.2.2.2.2))]
  refine (x_iconst f19_81 rfl).trans ?_
  refine (x_iconst f19_82 rfl).trans ?_
  refine (x_copy f19_84 rfl rfl).trans ?_
  refine (g_t ⟨((kd_k hk2).2.2.2.2.2.2.2.2.2.2.2.1), ((kd_k hk).2.2.2.2.2.2.2.2.2.2.2.1)⟩).trans ?_
  refine (g_t (by rw [show kl (k2 + 6) = 6 from ((kd_k hk2).2.2.2.2.2.2.2.2.2.2.2.2), show kl (k + 6) = 6 from ((kd_k hk).2.2.2.2.2.2.2.2.2.2.2.2)]; decide)).trans ?_
  refine (x_aload f19_87 rfl rfl).trans ?_
  refine (x_aload f19_88 rfl rfl).trans ?_
  refine (y_get0 (ji := 6) rfl f19_89 rfl rfl).trans ?_
  refine (g_t ((kd_k hk2).1)).trans ?_
  rw [show (cpy (cpy (cpy (cpy (cpy (cpy s (k2 + 1) 0 (k + 1) 0 3) (k2 + 2) 0 (k + 2) 0 3) (k2 + 3) 0 (k + 3) 0 3) (k2 + 4) 0 (k + 4) 0 6) (k2 + 5) 0 (k + 5) 0 6) (k2 + 6) 0 (k + 6) 0 6) k2 6 = s k2 6 from by rw [cpy_ne (by omega), cpy_ne (by omega), cpy_ne (by omega), cpy_ne (by omega), cpy_ne (by omega), cpy_ne (by omega)]]
  refine (y_put0 (ji := 6) rfl f19_92 rfl rfl).trans ?_
  refine (g_t ((kd_k hk).1)).trans ?_
  refine (x_aload f19_95 rfl rfl).trans ?_
  refine (x_aload f19_96 rfl rfl).trans ?_
  refine (y_get0 (ji := 7) rfl f19_97 rfl rfl).trans ?_
  refine (g_t ((kd_k hk2).1)).trans ?_
  rw [show (up (cpy (cpy (cpy (cpy (cpy (cpy s (k2 + 1) 0 (k + 1) 0 3) (k2 + 2) 0 (k + 2) 0 3) (k2 + 3) 0 (k + 3) 0 3) (k2 + 4) 0 (k + 4) 0 6) (k2 + 5) 0 (k + 5) 0 6) (k2 + 6) 0 (k + 6) 0 6) k 6 (s k2 6)) k2 7 = s k2 7 from by rw [up_ni (by decide), cpy_ne (by omega), cpy_ne (by omega), cpy_ne (by omega), cpy_ne (by omega), cpy_ne (by omega), cpy_ne (by omega)]]
  refine (y_put0 (ji := 7) rfl f19_100 rfl rfl).trans ?_
  refine (g_t ((kd_k hk).1)).trans ?_
  refine (x_aload f19_103 rfl rfl).trans ?_
  refine (x_aload f19_104 rfl rfl).trans ?_
  refine (y_get0 (ji := 8) rfl f19_105 rfl rfl).trans ?_
  refine (g_t ((kd_k hk2).1)).trans ?_
  rw [show (up (up (cpy (cpy (cpy (cpy (cpy (cpy s (k2 + 1) 0 (k + 1) 0 3) (k2 + 2) 0 (k + 2) 0 3) (k2 + 3) 0 (k + 3) 0 3) (k2 + 4) 0 (k + 4) 0 6) (k2 + 5) 0 (k + 5) 0 6) (k2 + 6) 0 (k + 6) 0 6) k 6 (s k2 6)) k 7 (s k2 7)) k2 8 = s k2 8 from by rw [up_ni (by decide), up_ni (by decide), cpy_ne (by omega), cpy_ne (by omega), cpy_ne (by omega), cpy_ne (by omega), cpy_ne (by omega), cpy_ne (by omega)]]
  refine (y_put0 (ji := 8) rfl f19_108 rfl rfl).trans ?_
  refine (g_t ((kd_k hk).1)).trans ?_
  refine (x_aload f19_111 rfl rfl).trans ?_
  refine (x_aload f19_112 rfl rfl).trans ?_
  refine (y_get0 (ji := 9) rfl f19_113 rfl rfl).trans ?_
  refine (g_t ((kd_k hk2).1)).trans ?_
  rw [show (up (up (up (cpy (cpy (cpy (cpy (cpy (cpy s (k2 + 1) 0 (k + 1) 0 3) (k2 + 2) 0 (k + 2) 0 3) (k2 + 3) 0 (k + 3) 0 3) (k2 + 4) 0 (k + 4) 0 6) (k2 + 5) 0 (k + 5) 0 6) (k2 + 6) 0 (k + 6) 0 6) k 6 (s k2 6)) k 7 (s k2 7)) k 8 (s k2 8)) k2 9 = s k2 9 from by rw [up_ni (by decide), up_ni (by decide), up_ni (by decide), cpy_ne (by omega), cpy_ne (by omega), cpy_ne (by omega), cpy_ne (by omega), cpy_ne (by omega), cpy_ne (by omega)]]
  refine (y_put0 (ji := 9) rfl f19_116 rfl rfl).trans ?_
  refine (g_t ((kd_k hk).1)).trans ?_
  refine (x_aload f19_119 rfl rfl).trans ?_
  refine (x_aload f19_120 rfl rfl).trans ?_
  refine (y_get0 (ji := 10) rfl f19_121 rfl rfl).trans ?_
  refine (g_t ((kd_k hk2).1)).trans ?_
  rw [show (up (up (up (up (cpy (cpy (cpy (cpy (cpy (cpy s (k2 + 1) 0 (k + 1) 0 3) (k2 + 2) 0 (k + 2) 0 3) (k2 + 3) 0 (k + 3) 0 3) (k2 + 4) 0 (k + 4) 0 6) (k2 + 5) 0 (k + 5) 0 6) (k2 + 6) 0 (k + 6) 0 6) k 6 (s k2 6)) k 7 (s k2 7)) k 8 (s k2 8)) k 9 (s k2 9)) k2 10 = s k2 10 from by rw [up_ni (by decide), up_ni (by decide), up_ni (by decide), up_ni (by decide), cpy_ne (by omega), cpy_ne (by omega), cpy_ne (by omega), cpy_ne (by omega), cpy_ne (by omega), cpy_ne (by omega)]]
  refine (y_put0 (ji := 10) rfl f19_124 rfl rfl).trans ?_
  refine (g_t ((kd_k hk).1)).trans ?_
  exact x_return f19_127 rfl
set_option maxRecDepth 10000 in
theorem g22_0 {k : Int} (hk : k = 16 ∨ k = 42 ∨ k = 49) {s : SG} (hR : RefC s) (l1 : Int) : sem 22 0 [aA k, aI l1] [] s = bnI (sem 21 0 [aI l1] [] s) fun a2 s1 => if a2 = 0 then some (aI 0, s1) else grd ((0 : Int) ≤ l1 ∧ l1 < 3) (some (aI (s1 (k + 1) l1), s1)) := by
  refine (x_iload f22_0 rfl rfl).trans ?_
  refine (x_invokestatic (G := bnI (sem 21 0 [aI l1] [] s) fun a2 s1 => sem 22 4 [aA k, aI l1] [aI a2] s1) f22_1 rfl rfl).trans ?_
  refine bI_h fun a2 s1 qs1 => ?_
  have rs1 := RefC.sem qs1 rfl hR
  refine (x_if_eq (tg := 16) f22_4 rfl rfl).trans (i_c ?_ ?_)
  · refine (x_iconst f22_16 rfl).trans ?_
    refine (x_kil (l2 := [aU, aU]) f22_17 rfl).trans ?_
    exact x_ireturn f22_17 rfl
  · refine (x_aload f22_7 rfl rfl).trans ?_
    refine (y_get2 (ji := 0) rfl f22_8 rfl rfl).trans ?_
    refine (g_t ((kd_k hk).1)).trans ?_
    refine (g_t (by rw [show s1 k 0 = k + 1 from ((ref_k rs1 hk).1)]; omega)).trans ?_
    rw [show s1 k 0 = k + 1 from ((ref_k rs1 hk).1)]
    refine (x_iload f22_11 rfl rfl).trans ?_
    refine (x_iaload f22_12 rfl).trans ?_
    refine (g_t ((kd_k hk).2.1)).trans ?_
    refine g_kl (n := 3) ((kd_k hk).2.2.1) fun hg3 => ?_
    refine (x_goto (tg := 17) f22_13 rfl rfl).trans ?_
    refine (x_kil (l2 := [aU, aU]) f22_17 rfl).trans ?_
    exact x_ireturn f22_17 rfl
set_option maxRecDepth 10000 in
theorem g23_0 {k : Int} (hk : k = 16 ∨ k = 42 ∨ k = 49) {s : SG} (hR : RefC s) (l1 : Int) : sem 23 0 [aA k, aI l1] [] s = bnI (sem 21 0 [aI l1] [] s) fun a2 s1 => if a2 = 0 then some (aI 0, s1) else grd ((0 : Int) ≤ l1 ∧ l1 < 3) (some (aI (s1 (k + 2) l1), s1)) := by
  refine (x_iload f23_0 rfl rfl).trans ?_
  refine (x_invokestatic (G := bnI (sem 21 0 [aI l1] [] s) fun a2 s1 => sem 23 4 [aA k, aI l1] [aI a2] s1) f23_1 rfl rfl).trans ?_
  refine bI_h fun a2 s1 qs1 => ?_
  have rs1 := RefC.sem qs1 rfl hR
  refine (x_if_eq (tg := 16) f23_4 rfl rfl).trans (i_c ?_ ?_)
  · refine (x_iconst f23_16 rfl).trans ?_
    refine (x_kil (l2 := [aU, aU]) f23_17 rfl).trans ?_
    exact x_ireturn f23_17 rfl
  · refine (x_aload f23_7 rfl rfl).trans ?_
    refine (y_get2 (ji := 1) rfl f23_8 rfl rfl).trans ?_
    refine (g_t ((kd_k hk).1)).trans ?_
    refine (g_t (by rw [show s1 k 1 = k + 2 from ((ref_k rs1 hk).2.1)]; omega)).trans ?_
    rw [show s1 k 1 = k + 2 from ((ref_k rs1 hk).2.1)]
    refine (x_iload f23_11 rfl rfl).trans ?_
    refine (x_iaload f23_12 rfl).trans ?_
    refine (g_t ((kd_k hk).2.2.2.1)).trans ?_
    refine g_kl (n := 3) ((kd_k hk).2.2.2.2.1) fun hg3 => ?_
    refine (x_goto (tg := 17) f23_13 rfl rfl).trans ?_
    refine (x_kil (l2 := [aU, aU]) f23_17 rfl).trans ?_
    exact x_ireturn f23_17 rfl
set_option maxRecDepth 10000 in
theorem g24_0 {k : Int} (hk : k = 16 ∨ k = 42 ∨ k = 49) {s : SG} (hR : RefC s) (l1 l2 : Int) : sem 24 0 [aA k, aI l1, aI l2] [] s = bnI (sem 21 0 [aI l1] [] s) fun a2 s1 => if a2 = 0 then some (aI 0, s1) else bnI (sem 141 0 [aI l2] [] s1) fun a4 s3 => if a4 = 0 then some (aI 0, s3) else grd ((0 : Int) ≤ l1 ∧ l1 < 3) (if (iandA (ishrA (s3 (k + 3) l1) l2) 1) = 1 then some (aI 1, s3) else some (aI 0, s3)) := by
  refine (x_iload f24_0 rfl rfl).trans ?_
  refine (x_invokestatic (G := bnI (sem 21 0 [aI l1] [] s) fun a2 s1 => sem 24 4 [aA k, aI l1, aI l2] [aI a2] s1) f24_1 rfl rfl).trans ?_
  refine bI_h fun a2 s1 qs1 => ?_
  have rs1 := RefC.sem qs1 rfl hR
  refine (x_if_eq (tg := 32) f24_4 rfl rfl).trans (i_c ?_ ?_)
  · refine (x_kil (l2 := [aU, aU, aU]) f24_32 rfl).trans ?_
    refine (x_iconst f24_32 rfl).trans ?_
    exact x_zreturn0 f24_33 rfl
  · refine (x_iload f24_7 rfl rfl).trans ?_
    refine (x_invokestatic (G := bnI (sem 141 0 [aI l2] [] s1) fun a4 s3 => sem 24 11 [aA k, aI l1, aI l2] [aI a4] s3) f24_8 rfl rfl).trans ?_
    refine bI_h fun a4 s3 qs3 => ?_
    have rs3 := RefC.sem qs3 rfl rs1
    refine (x_if_eq (tg := 32) f24_11 rfl rfl).trans (i_c ?_ ?_)
    · refine (x_kil (l2 := [aU, aU, aU]) f24_32 rfl).trans ?_
      refine (x_iconst f24_32 rfl).trans ?_
      exact x_zreturn0 f24_33 rfl
    · refine (x_aload f24_14 rfl rfl).trans ?_
      refine (y_get2 (ji := 2) rfl f24_15 rfl rfl).trans ?_
      refine (g_t ((kd_k hk).1)).trans ?_
      refine (g_t (by rw [show s3 k 2 = k + 3 from ((ref_k rs3 hk).2.2.1)]; omega)).trans ?_
      rw [show s3 k 2 = k + 3 from ((ref_k rs3 hk).2.2.1)]
      refine (x_iload f24_18 rfl rfl).trans ?_
      refine (x_iaload f24_19 rfl).trans ?_
      refine (g_t ((kd_k hk).2.2.2.2.2.1)).trans ?_
      refine g_kl (n := 3) ((kd_k hk).2.2.2.2.2.2.1) fun hg5 => ?_
      refine (x_iload f24_20 rfl rfl).trans ?_
      refine (x_ishr f24_21 rfl).trans ?_
      refine (x_iconst f24_22 rfl).trans ?_
      refine (x_iand f24_23 rfl).trans ?_
      refine (x_iconst f24_24 rfl).trans ?_
      refine (x_icmp_ne (tg := 32) f24_25 rfl rfl).trans (i_c ?_ ?_)
      · refine (x_iconst f24_28 rfl).trans ?_
        refine (x_goto (tg := 33) f24_29 rfl rfl).trans ?_
        refine (x_kil (l2 := [aU, aU, aU]) f24_33 rfl).trans ?_
        exact x_zreturn1 f24_33 rfl
      · refine (x_kil (l2 := [aU, aU, aU]) f24_32 rfl).trans ?_
        refine (x_iconst f24_32 rfl).trans ?_
        exact x_zreturn0 f24_33 rfl
set_option maxRecDepth 10000 in
theorem g25_0 {k : Int} (hk : k = 16 ∨ k = 42 ∨ k = 49) {s : SG} (hR : RefC s) (l1 l2 : Int) : sem 25 0 [aA k, aI l1, aI l2, aU] [] s = bnI (sem 22 0 [aA k, aI l1] [] s) fun a2 s1 => bnI (sem 21 0 [aI l1] [] s1) fun a4 s3 => if a4 = 0 then some (aI a2, s3) else grd ((0 : Int) ≤ l1 ∧ l1 < 3) (some (aI a2, up s3 (k + 1) l1 l2)) := by
  refine (x_aload f25_0 rfl rfl).trans ?_
  refine (x_iload f25_1 rfl rfl).trans ?_
  refine (x_invokevirtual (G := grd (kd k = 1) (bnI (sem 22 0 [aA k, aI l1] [] s) fun a2 s1 => sem 25 5 [aA k, aI l1, aI l2, aU] [aI a2] s1)) f25_2 rfl rfl).trans ?_
  refine (g_t ((kd_k hk).1)).trans ?_
  refine bI_h fun a2 s1 qs1 => ?_
  have rs1 := RefC.sem qs1 rfl hR
  refine (x_istore (l2 := [aA k, aI l1, aI l2, aI a2]) f25_5 rfl rfl).trans ?_
  refine (x_iload f25_6 rfl rfl).trans ?_
  refine (x_invokestatic (G := bnI (sem 21 0 [aI l1] [] s1) fun a4 s3 => sem 25 10 [aA k, aI l1, aI l2, aI a2] [aI a4] s3) f25_7 rfl rfl).trans ?_
  refine bI_h fun a4 s3 qs3 => ?_
  have rs3 := RefC.sem qs3 rfl rs1
  refine (x_if_eq (tg := 20) f25_10 rfl rfl).trans (i_c ?_ ?_)
  · refine (x_kil (l2 := [aU, aU, aU, aI a2]) f25_20 rfl).trans ?_
    refine (x_iload f25_20 rfl rfl).trans ?_
    exact x_ireturn f25_21 rfl
  · refine (x_aload f25_13 rfl rfl).trans ?_
    refine (y_get2 (ji := 0) rfl f25_14 rfl rfl).trans ?_
    refine (g_t ((kd_k hk).1)).trans ?_
    refine (g_t (by rw [show s3 k 0 = k + 1 from ((ref_k rs3 hk).1)]; omega)).trans ?_
    rw [show s3 k 0 = k + 1 from ((ref_k rs3 hk).1)]
    refine (x_iload f25_17 rfl rfl).trans ?_
    refine (x_iload f25_18 rfl rfl).trans ?_
    refine (x_iastore f25_19 rfl).trans ?_
    refine (g_t ((kd_k hk).2.1)).trans ?_
    refine g_kl (n := 3) ((kd_k hk).2.2.1) fun hg5 => ?_
    refine (x_kil (l2 := [aU, aU, aU, aI a2]) f25_20 rfl).trans ?_
    refine (x_iload f25_20 rfl rfl).trans ?_
    exact x_ireturn f25_21 rfl
set_option maxRecDepth 10000 in
theorem g26_0 {k : Int} (hk : k = 16 ∨ k = 42 ∨ k = 49) {s : SG} (hR : RefC s) (l1 l2 : Int) : sem 26 0 [aA k, aI l1, aI l2, aU] [] s = bnI (sem 21 0 [aI l1] [] s) fun a2 s1 => if a2 = 0 then some (aI 0, s1) else grd ((0 : Int) ≤ l1 ∧ l1 < 3) (some (aI (s1 (k + 3) l1), up s1 (k + 3) l1 l2)) := by
  refine (x_iload f26_0 rfl rfl).trans ?_
  refine (x_invokestatic (G := bnI (sem 21 0 [aI l1] [] s) fun a2 s1 => sem 26 4 [aA k, aI l1, aI l2, aU] [aI a2] s1) f26_1 rfl rfl).trans ?_
  refine bI_h fun a2 s1 qs1 => ?_
  have rs1 := RefC.sem qs1 rfl hR
  refine (x_if_ne (tg := 9) f26_4 rfl rfl).trans (i_c ?_ ?_)
  · refine (x_iconst f26_7 rfl).trans ?_
    exact x_ireturn f26_8 rfl
  · refine (x_aload f26_9 rfl rfl).trans ?_
    refine (y_get2 (ji := 2) rfl f26_10 rfl rfl).trans ?_
    refine (g_t ((kd_k hk).1)).trans ?_
    refine (g_t (by rw [show s1 k 2 = k + 3 from ((ref_k rs1 hk).2.2.1)]; omega)).trans ?_
    rw [show s1 k 2 = k + 3 from ((ref_k rs1 hk).2.2.1)]
    refine (x_iload f26_13 rfl rfl).trans ?_
    refine (x_iaload f26_14 rfl).trans ?_
    refine (g_t ((kd_k hk).2.2.2.2.2.1)).trans ?_
    refine g_kl (n := 3) ((kd_k hk).2.2.2.2.2.2.1) fun hg3 => ?_
    refine (x_istore (l2 := [aA k, aI l1, aI l2, aI (s1 (k + 3) l1)]) f26_15 rfl rfl).trans ?_
    refine (x_aload f26_16 rfl rfl).trans ?_
    refine (y_get2 (ji := 2) rfl f26_17 rfl rfl).trans ?_
    refine (g_t ((kd_k hk).1)).trans ?_
    refine (g_t (by rw [show s1 k 2 = k + 3 from ((ref_k rs1 hk).2.2.1)]; omega)).trans ?_
    rw [show s1 k 2 = k + 3 from ((ref_k rs1 hk).2.2.1)]
    refine (x_iload f26_20 rfl rfl).trans ?_
    refine (x_iload f26_21 rfl rfl).trans ?_
    refine (x_iastore f26_22 rfl).trans ?_
    refine (g_t ((kd_k hk).2.2.2.2.2.1)).trans ?_
    refine (g_kt (n := 3) ((kd_k hk).2.2.2.2.2.2.1) hg3).trans ?_
    refine (x_iload f26_23 rfl rfl).trans ?_
    exact x_ireturn f26_24 rfl
set_option maxRecDepth 10000 in
theorem g27_0 {k : Int} (hk : k = 16 ∨ k = 42 ∨ k = 49) {s : SG} (hR : RefC s) (l1 l2 l3 : Int) : sem 27 0 [aA k, aI l1, aI l2, aI l3] [] s = if (s k 10) < 6 then grd ((0 : Int) ≤ (s k 10) ∧ (s k 10) < 6) (some (aI 1, up (up (up (up s (k + 4) (s k 10) l1) (k + 5) (s k 10) l2) (k + 6) (s k 10) l3) k 10 (w32 ((s k 10) + 1)))) else some (aI 0, s) := by
  refine (x_aload f27_0 rfl rfl).trans ?_
  refine (y_get0 (ji := 10) rfl f27_1 rfl rfl).trans ?_
  refine (g_t ((kd_k hk).1)).trans ?_
  refine (x_iconst f27_4 rfl).trans ?_
  refine (x_icmp_lt (tg := 11) f27_6 rfl rfl).trans (i_c ?_ ?_)
  · refine (x_aload f27_11 rfl rfl).trans ?_
    refine (y_get2 (ji := 3) rfl f27_12 rfl rfl).trans ?_
    refine (g_t ((kd_k hk).1)).trans ?_
    refine (g_t (by rw [show s k 3 = k + 4 from ((ref_k hR hk).2.2.2.1)]; omega)).trans ?_
    rw [show s k 3 = k + 4 from ((ref_k hR hk).2.2.2.1)]
    refine (x_aload f27_15 rfl rfl).trans ?_
    refine (y_get0 (ji := 10) rfl f27_16 rfl rfl).trans ?_
    refine (g_t ((kd_k hk).1)).trans ?_
    refine (x_iload f27_19 rfl rfl).trans ?_
    refine (x_iastore f27_20 rfl).trans ?_
    refine (g_t ((kd_k hk).2.2.2.2.2.2.2.1)).trans ?_
    refine g_kl (n := 6) ((kd_k hk).2.2.2.2.2.2.2.2.1) fun hg1 => ?_
    refine (x_aload f27_21 rfl rfl).trans ?_
    refine (y_get2 (ji := 4) rfl f27_22 rfl rfl).trans ?_
    refine (g_t ((kd_k hk).1)).trans ?_
    refine (g_t (by rw [show (up s (k + 4) (s k 10) l1) k 4 = k + 5 from (by rw [up_ne (by omega)]; exact ((ref_k hR hk).2.2.2.2.1))]; omega)).trans ?_
    rw [show (up s (k + 4) (s k 10) l1) k 4 = k + 5 from (by rw [up_ne (by omega)]; exact ((ref_k hR hk).2.2.2.2.1))]
    refine (x_aload f27_25 rfl rfl).trans ?_
    refine (y_get0 (ji := 10) rfl f27_26 rfl rfl).trans ?_
    refine (g_t ((kd_k hk).1)).trans ?_
    rw [show (up s (k + 4) (s k 10) l1) k 10 = s k 10 from by rw [up_ne (by omega)]]
    refine (x_iload f27_29 rfl rfl).trans ?_
    refine (x_iastore f27_30 rfl).trans ?_
    refine (g_t ((kd_k hk).2.2.2.2.2.2.2.2.2.1)).trans ?_
    refine (g_kt (n := 6) ((kd_k hk).2.2.2.2.2.2.2.2.2.2.1) hg1).trans ?_
    refine (x_aload f27_31 rfl rfl).trans ?_
    refine (y_get2 (ji := 5) rfl f27_32 rfl rfl).trans ?_
    refine (g_t ((kd_k hk).1)).trans ?_
    refine (g_t (by rw [show (up (up s (k + 4) (s k 10) l1) (k + 5) (s k 10) l2) k 5 = k + 6 from (by rw [up_ne (by omega), up_ne (by omega)]; exact ((ref_k hR hk).2.2.2.2.2))]; omega)).trans ?_
    rw [show (up (up s (k + 4) (s k 10) l1) (k + 5) (s k 10) l2) k 5 = k + 6 from (by rw [up_ne (by omega), up_ne (by omega)]; exact ((ref_k hR hk).2.2.2.2.2))]
    refine (x_aload f27_35 rfl rfl).trans ?_
    refine (y_get0 (ji := 10) rfl f27_36 rfl rfl).trans ?_
    refine (g_t ((kd_k hk).1)).trans ?_
    rw [show (up (up s (k + 4) (s k 10) l1) (k + 5) (s k 10) l2) k 10 = s k 10 from by rw [up_ne (by omega), up_ne (by omega)]]
    refine (x_iload f27_39 rfl rfl).trans ?_
    refine (x_iastore f27_40 rfl).trans ?_
    refine (g_t ((kd_k hk).2.2.2.2.2.2.2.2.2.2.2.1)).trans ?_
    refine (g_kt (n := 6) ((kd_k hk).2.2.2.2.2.2.2.2.2.2.2.2) hg1).trans ?_
    refine (x_aload f27_41 rfl rfl).trans ?_
    refine (x_dup f27_42 rfl rfl).trans ?_
    refine (y_get0 (ji := 10) rfl f27_43 rfl rfl).trans ?_
    refine (g_t ((kd_k hk).1)).trans ?_
    rw [show (up (up (up s (k + 4) (s k 10) l1) (k + 5) (s k 10) l2) (k + 6) (s k 10) l3) k 10 = s k 10 from by rw [up_ne (by omega), up_ne (by omega), up_ne (by omega)]]
    refine (x_iconst f27_46 rfl).trans ?_
    refine (x_iadd f27_47 rfl).trans ?_
    refine (y_put0 (ji := 10) rfl f27_48 rfl rfl).trans ?_
    refine (g_t ((kd_k hk).1)).trans ?_
    refine (x_iconst f27_51 rfl).trans ?_
    exact x_zreturn1 f27_52 rfl
  · refine (x_iconst f27_9 rfl).trans ?_
    exact x_zreturn0 f27_10 rfl
set_option maxRecDepth 10000 in
theorem g28_0 {k : Int} (hk : k = 16 ∨ k = 42 ∨ k = 49) {s : SG} (hR : RefC s) : sem 28 0 [aA k, aU, aU] [] s = sem 28 4 [aA k, aI 0, aI 0] [] s := by
  refine (x_iconst f28_0 rfl).trans ?_
  refine (x_istore (l2 := [aA k, aI 0, aU]) f28_1 rfl rfl).trans ?_
  refine (x_iconst f28_2 rfl).trans ?_
  refine (x_istore (l2 := [aA k, aI 0, aI 0]) f28_3 rfl rfl).trans ?_
  rfl
set_option maxRecDepth 10000 in
theorem g28_4 {k : Int} (hk : k = 16 ∨ k = 42 ∨ k = 49) {s : SG} (hR : RefC s) (l1 l2 : Int) : sem 28 4 [aA k, aI l1, aI l2] [] s = if l2 < 3 then grd ((0 : Int) ≤ l2 ∧ l2 < 3) (sem 28 4 [aA k, aI (w32 (l1 + (s (k + 1) l2))), aI (w32 (l2 + 1))] [] s) else some (aI l1, s) := by
  refine (x_iload f28_4 rfl rfl).trans ?_
  refine (x_iconst f28_5 rfl).trans ?_
  refine (x_icmp_ge (tg := 24) f28_6 rfl rfl).trans (i_c ?_ ?_)
  · refine (x_iload f28_9 rfl rfl).trans ?_
    refine (x_aload f28_10 rfl rfl).trans ?_
    refine (y_get2 (ji := 0) rfl f28_11 rfl rfl).trans ?_
    refine (g_t ((kd_k hk).1)).trans ?_
    refine (g_t (by rw [show s k 0 = k + 1 from ((ref_k hR hk).1)]; omega)).trans ?_
    rw [show s k 0 = k + 1 from ((ref_k hR hk).1)]
    refine (x_iload f28_14 rfl rfl).trans ?_
    refine (x_iaload f28_15 rfl).trans ?_
    refine (g_t ((kd_k hk).2.1)).trans ?_
    refine g_kl (n := 3) ((kd_k hk).2.2.1) fun hg1 => ?_
    refine (x_iadd f28_16 rfl).trans ?_
    refine (x_istore (l2 := [aA k, aI (w32 (l1 + (s (k + 1) l2))), aI l2]) f28_17 rfl rfl).trans ?_
    refine (x_iinc (l2 := [aA k, aI (w32 (l1 + (s (k + 1) l2))), aI (w32 (l2 + 1))]) f28_18 rfl rfl rfl).trans ?_
    refine (x_goto (tg := 4) f28_21 rfl rfl).trans ?_
    rfl
  · refine (x_iload f28_24 rfl rfl).trans ?_
    exact x_ireturn f28_25 rfl
set_option maxRecDepth 10000 in
theorem g29_0 {k : Int} (hk : k = 16 ∨ k = 42 ∨ k = 49) {s : SG} (hR : RefC s) (l1 l2 : Int) : sem 29 0 [aA k, aI l1, aI l2, aU] [] s = bnI (sem 21 0 [aI l1] [] s) fun a2 s1 => if a2 = 0 then some (aI 0, s1) else grd ((0 : Int) ≤ l1 ∧ l1 < 3) (if (if l2 = 0 then max (w32 ((s1 (k + 2) l1) - 1)) 0 else min (w32 ((s1 (k + 2) l1) + 1)) 9 : Int) < (s1 (k + 2) l1) then some (aI 1, up s1 (k + 2) l1 (if l2 = 0 then max (w32 ((s1 (k + 2) l1) - 1)) 0 else min (w32 ((s1 (k + 2) l1) + 1)) 9)) else some (aI 0, up s1 (k + 2) l1 (if l2 = 0 then max (w32 ((s1 (k + 2) l1) - 1)) 0 else min (w32 ((s1 (k + 2) l1) + 1)) 9))) := by
  refine (x_iload f29_0 rfl rfl).trans ?_
  refine (x_invokestatic (G := bnI (sem 21 0 [aI l1] [] s) fun a2 s1 => sem 29 4 [aA k, aI l1, aI l2, aU] [aI a2] s1) f29_1 rfl rfl).trans ?_
  refine bI_h fun a2 s1 qs1 => ?_
  have rs1 := RefC.sem qs1 rfl hR
  refine (x_if_ne (tg := 9) f29_4 rfl rfl).trans (i_c ?_ ?_)
  · refine (x_iconst f29_7 rfl).trans ?_
    exact x_zreturn0 f29_8 rfl
  · refine (x_aload f29_9 rfl rfl).trans ?_
    refine (y_get2 (ji := 1) rfl f29_10 rfl rfl).trans ?_
    refine (g_t ((kd_k hk).1)).trans ?_
    refine (g_t (by rw [show s1 k 1 = k + 2 from ((ref_k rs1 hk).2.1)]; omega)).trans ?_
    rw [show s1 k 1 = k + 2 from ((ref_k rs1 hk).2.1)]
    refine (x_iload f29_13 rfl rfl).trans ?_
    refine (x_iaload f29_14 rfl).trans ?_
    refine (g_t ((kd_k hk).2.2.2.1)).trans ?_
    refine g_kl (n := 3) ((kd_k hk).2.2.2.2.1) fun hg3 => ?_
    refine (x_istore (l2 := [aA k, aI l1, aI l2, aI (s1 (k + 2) l1)]) f29_15 rfl rfl).trans ?_
    refine (x_aload f29_16 rfl rfl).trans ?_
    refine (y_get2 (ji := 1) rfl f29_17 rfl rfl).trans ?_
    refine (g_t ((kd_k hk).1)).trans ?_
    refine (g_t (by rw [show s1 k 1 = k + 2 from ((ref_k rs1 hk).2.1)]; omega)).trans ?_
    rw [show s1 k 1 = k + 2 from ((ref_k rs1 hk).2.1)]
    refine (x_iload f29_20 rfl rfl).trans ?_
    refine (x_iload f29_21 rfl rfl).trans ?_
    refine (x_if_eq (tg := 36) f29_22 rfl rfl).trans ?_
    refine Eq.trans (b := if l2 = 0 then sem 29 43 [aA k, aI l1, aU, aI (s1 (k + 2) l1)] [aI (max (w32 ((s1 (k + 2) l1) - 1)) 0), aI l1, aA (k + 2)] s1 else sem 29 43 [aA k, aI l1, aU, aI (s1 (k + 2) l1)] [aI (min (w32 ((s1 (k + 2) l1) + 1)) 9), aI l1, aA (k + 2)] s1) (i_c ?_ ?_) ?_
    · refine (x_iload f29_36 rfl rfl).trans ?_
      refine (x_iconst f29_37 rfl).trans ?_
      refine (x_isub f29_38 rfl).trans ?_
      refine (x_iconst f29_39 rfl).trans ?_
      refine (x_fadd f29_40 rfl rfl).trans ?_
      exact x_kil f29_43 rfl
    · refine (x_iload f29_25 rfl rfl).trans ?_
      refine (x_iconst f29_26 rfl).trans ?_
      refine (x_iadd f29_27 rfl).trans ?_
      refine (x_iconst f29_28 rfl).trans ?_
      refine (x_fsub f29_30 rfl rfl).trans ?_
      refine (x_goto (tg := 43) f29_33 rfl rfl).trans ?_
      exact x_kil f29_43 rfl
    refine m_I.trans ?_
    refine (x_iastore f29_43 rfl).trans ?_
    refine (g_t ((kd_k hk).2.2.2.1)).trans ?_
    refine (g_kt (n := 3) ((kd_k hk).2.2.2.2.1) hg3).trans ?_
    refine (x_aload f29_44 rfl rfl).trans ?_
    refine (y_get2 (ji := 1) rfl f29_45 rfl rfl).trans ?_
    refine (g_t ((kd_k hk).1)).trans ?_
    refine (g_t (by rw [show (up s1 (k + 2) l1 (if l2 = 0 then max (w32 ((s1 (k + 2) l1) - 1)) 0 else min (w32 ((s1 (k + 2) l1) + 1)) 9)) k 1 = k + 2 from (by rw [up_ne (by omega)]; exact ((ref_k rs1 hk).2.1))]; omega)).trans ?_
    rw [show (up s1 (k + 2) l1 (if l2 = 0 then max (w32 ((s1 (k + 2) l1) - 1)) 0 else min (w32 ((s1 (k + 2) l1) + 1)) 9)) k 1 = k + 2 from (by rw [up_ne (by omega)]; exact ((ref_k rs1 hk).2.1))]
    refine (x_iload f29_48 rfl rfl).trans ?_
    refine (x_iaload f29_49 rfl).trans ?_
    refine (g_t ((kd_k hk).2.2.2.1)).trans ?_
    refine (g_kt (n := 3) ((kd_k hk).2.2.2.2.1) hg3).trans ?_
    rw [show (up s1 (k + 2) l1 (if l2 = 0 then max (w32 ((s1 (k + 2) l1) - 1)) 0 else min (w32 ((s1 (k + 2) l1) + 1)) 9)) (k + 2) l1 = if l2 = 0 then max (w32 ((s1 (k + 2) l1) - 1)) 0 else min (w32 ((s1 (k + 2) l1) + 1)) 9 from by rw [up_at]]
    refine (x_iload f29_50 rfl rfl).trans ?_
    refine (x_icmp_ge (tg := 58) f29_51 rfl rfl).trans (i_c ?_ ?_)
    · refine (x_iconst f29_54 rfl).trans ?_
      refine (x_goto (tg := 59) f29_55 rfl rfl).trans ?_
      refine (x_kil (l2 := [aU, aU, aU, aU]) f29_59 rfl).trans ?_
      exact x_zreturn1 f29_59 rfl
    · refine (x_iconst f29_58 rfl).trans ?_
      refine (x_kil (l2 := [aU, aU, aU, aU]) f29_59 rfl).trans ?_
      exact x_zreturn0 f29_59 rfl
set_option maxRecDepth 10000 in
theorem g30_0 {k : Int} (hk : k = 16 ∨ k = 42 ∨ k = 49) {s : SG} (hR : RefC s) (l1 l2 : Int) : sem 30 0 [aA k, aI l1, aI l2, aU] [] s = bnI (sem 23 0 [aA k, aI l1] [] s) fun a2 s1 => if a2 < 3 then some (aI (max (w32 (l2 - 1)) 0), s1) else if (7 : Int) < a2 then some (aI (w32 (l2 + 1)), s1) else some (aI l2, s1) := by
  refine (x_aload f30_0 rfl rfl).trans ?_
  refine (x_iload f30_1 rfl rfl).trans ?_
  refine (x_invokevirtual (G := grd (kd k = 1) (bnI (sem 23 0 [aA k, aI l1] [] s) fun a2 s1 => sem 30 5 [aA k, aI l1, aI l2, aU] [aI a2] s1)) f30_2 rfl rfl).trans ?_
  refine (g_t ((kd_k hk).1)).trans ?_
  refine bI_h fun a2 s1 qs1 => ?_
  have rs1 := RefC.sem qs1 rfl hR
  refine (x_istore (l2 := [aA k, aI l1, aI l2, aI a2]) f30_5 rfl rfl).trans ?_
  refine (x_iload f30_6 rfl rfl).trans ?_
  refine (x_iconst f30_7 rfl).trans ?_
  refine (x_icmp_ge (tg := 19) f30_8 rfl rfl).trans (i_c ?_ ?_)
  · refine (x_iload f30_11 rfl rfl).trans ?_
    refine (x_iconst f30_12 rfl).trans ?_
    refine (x_isub f30_13 rfl).trans ?_
    refine (x_iconst f30_14 rfl).trans ?_
    refine (x_fadd f30_15 rfl rfl).trans ?_
    exact x_ireturn f30_18 rfl
  · refine (x_iload f30_19 rfl rfl).trans ?_
    refine (x_iconst f30_20 rfl).trans ?_
    refine (x_icmp_le (tg := 31) f30_22 rfl rfl).trans (i_c ?_ ?_)
    · refine (x_iload f30_25 rfl rfl).trans ?_
      refine (x_iconst f30_26 rfl).trans ?_
      refine (x_iadd f30_27 rfl).trans ?_
      refine (x_goto (tg := 32) f30_28 rfl rfl).trans ?_
      refine (x_kil (l2 := [aU, aU, aU, aU]) f30_32 rfl).trans ?_
      exact x_ireturn f30_32 rfl
    · refine (x_iload f30_31 rfl rfl).trans ?_
      refine (x_kil (l2 := [aU, aU, aU, aU]) f30_32 rfl).trans ?_
      exact x_ireturn f30_32 rfl
set_option maxRecDepth 10000 in
theorem g32_0 {s : SG} (hR : RefC s) : sem 32 0 [aA 3] [] s = some (aI (s 3 2), s) := by
  refine (x_aload f32_0 rfl rfl).trans ?_
  refine (y_get0 (ji := 2) rfl f32_1 rfl rfl).trans ?_
  refine (g_t rfl).trans ?_
  exact x_ireturn f32_4 rfl
set_option maxRecDepth 10000 in
theorem g33_0 {t : Int} (ht : t = 32 ∨ t = 37) {s : SG} (hR : RefC s) : sem 33 0 [aA 3, aA 1, aA t, aU] [] s = sem 33 12 [aA 3, aA 1, aA t, aI 0] [] (up (up s 3 1 0) 3 2 0) := by
  refine (x_aload f33_0 rfl rfl).trans ?_
  refine (x_iconst f33_1 rfl).trans ?_
  refine (y_put0 (ji := 1) rfl f33_2 rfl rfl).trans ?_
  refine (g_t rfl).trans ?_
  refine (x_aload f33_5 rfl rfl).trans ?_
  refine (x_iconst f33_6 rfl).trans ?_
  refine (y_put0 (ji := 2) rfl f33_7 rfl rfl).trans ?_
  refine (g_t rfl).trans ?_
  refine (x_iconst f33_10 rfl).trans ?_
  refine (x_istore (l2 := [aA 3, aA 1, aA t, aI 0]) f33_11 rfl rfl).trans ?_
  rfl
set_option maxRecDepth 10000 in
theorem g33_12 {t : Int} (ht : t = 32 ∨ t = 37) {s : SG} (hR : RefC s) (l3 : Int) : sem 33 12 [aA 3, aA 1, aA t, aI l3] [] s = if l3 < 18 then grd ((0 : Int) ≤ l3 ∧ l3 < 18) (sem 33 12 [aA 3, aA 1, aA t, aI (w32 (l3 + 1))] [] (up s 4 l3 0)) else bnV (sem 82 0 [aA t] [] s) fun s2 => bnI (sem 34 0 [aA 3, aA 1, aA t, aU] [] s2) fun a4 s3 => if a4 = 0 then some (aI (s3 3 1), s3) else sem 33 54 [aA 3, aA 1, aA t, aU] [] (up s3 3 2 1) := by
  refine (x_iload f33_12 rfl rfl).trans ?_
  refine (x_iconst f33_13 rfl).trans ?_
  refine (x_icmp_ge (tg := 31) f33_15 rfl rfl).trans (i_c ?_ ?_)
  · refine (x_aload f33_18 rfl rfl).trans ?_
    refine (y_get2 (ji := 0) rfl f33_19 rfl rfl).trans ?_
    refine (g_t rfl).trans ?_
    refine (g_t (by rw [show s 3 0 = 4 from hR.2.2.2.2.2.2.2.2.2.2.1]; decide)).trans ?_
    rw [show s 3 0 = 4 from hR.2.2.2.2.2.2.2.2.2.2.1]
    refine (x_iload f33_22 rfl rfl).trans ?_
    refine (x_iconst f33_23 rfl).trans ?_
    refine (x_bastore f33_24 rfl).trans ?_
    refine (g_t rfl).trans ?_
    refine g_kl (n := 18) rfl fun hg1 => ?_
    refine (g_t (by decide)).trans ?_
    refine (x_iinc (l2 := [aA 3, aA 1, aA t, aI (w32 (l3 + 1))]) f33_25 rfl rfl rfl).trans ?_
    refine (x_goto (tg := 12) f33_28 rfl rfl).trans ?_
    rfl
  · refine (x_aload f33_31 rfl rfl).trans ?_
    refine (x_invokevirtual (G := grd (kd t = 6) (bnV (sem 82 0 [aA t] [] s) fun s2 => sem 33 35 [aA 3, aA 1, aA t, aI l3] [] s2)) f33_32 rfl rfl).trans ?_
    refine (g_t ((kd_t ht).1)).trans ?_
    refine bV_h fun s2 qs2 => ?_
    have rs2 := RefC.sem qs2 rfl hR
    refine (x_aload f33_35 rfl rfl).trans ?_
    refine (x_aload f33_36 rfl rfl).trans ?_
    refine (x_aload f33_37 rfl rfl).trans ?_
    refine (x_invokevirtual (G := grd (kd 3 = 2) (bnI (sem 34 0 [aA 3, aA 1, aA t, aU] [] s2) fun a4 s3 => sem 33 41 [aA 3, aA 1, aA t, aI l3] [aI a4] s3)) f33_38 rfl rfl).trans ?_
    refine (g_t rfl).trans ?_
    refine bI_h fun a4 s3 qs3 => ?_
    have rs3 := RefC.sem qs3 rfl rs2
    refine (x_if_ne (tg := 49) f33_41 rfl rfl).trans (i_c ?_ ?_)
    · refine (x_aload f33_44 rfl rfl).trans ?_
      refine (y_get0 (ji := 1) rfl f33_45 rfl rfl).trans ?_
      refine (g_t rfl).trans ?_
      exact x_ireturn f33_48 rfl
    · refine (x_aload f33_49 rfl rfl).trans ?_
      refine (x_iconst f33_50 rfl).trans ?_
      refine (y_put0 (ji := 2) rfl f33_51 rfl rfl).trans ?_
      refine (g_t rfl).trans ?_
      exact x_kil f33_54 rfl
set_option maxRecDepth 10000 in
theorem g33_54 {t : Int} (ht : t = 32 ∨ t = 37) {s : SG} (hR : RefC s) : sem 33 54 [aA 3, aA 1, aA t, aU] [] s = if (18 : Int) < (s 3 2) then some (aI ((-9)), s) else bnI (sem 76 0 [aA 1] [] s) fun a2 s1 => if (s 3 1) < a2 then bnI (sem 35 0 [aA 3, aA 1, aA t] [] s1) fun a4 s3 => if a4 = 0 then some (aI (s3 3 1), s3) else sem 33 54 [aA 3, aA 1, aA t, aU] [] (up s3 3 2 (w32 ((s3 3 2) + 1))) else some (aI ((-9)), s1) := by
  refine (x_aload f33_54 rfl rfl).trans ?_
  refine (y_get0 (ji := 2) rfl f33_55 rfl rfl).trans ?_
  refine (g_t rfl).trans ?_
  refine (x_iconst f33_58 rfl).trans ?_
  refine (x_icmp_gt (tg := 101) f33_60 rfl rfl).trans (i_c ?_ ?_)
  · refine (x_kil (l2 := [aU, aU, aU, aU]) f33_101 rfl).trans ?_
    refine (x_iconst f33_101 rfl).trans ?_
    exact x_ireturn f33_103 rfl
  · refine (x_aload f33_63 rfl rfl).trans ?_
    refine (y_get0 (ji := 1) rfl f33_64 rfl rfl).trans ?_
    refine (g_t rfl).trans ?_
    refine (x_aload f33_67 rfl rfl).trans ?_
    refine (x_invokevirtual (G := grd (kd 1 = 5) (bnI (sem 76 0 [aA 1] [] s) fun a2 s1 => sem 33 71 [aA 3, aA 1, aA t, aU] [aI a2, aI (s 3 1)] s1)) f33_68 rfl rfl).trans ?_
    refine (g_t rfl).trans ?_
    refine bI_h fun a2 s1 qs1 => ?_
    have rs1 := RefC.sem qs1 rfl hR
    refine (x_icmp_ge (tg := 101) f33_71 rfl rfl).trans (i_c ?_ ?_)
    · refine (x_aload f33_74 rfl rfl).trans ?_
      refine (x_aload f33_75 rfl rfl).trans ?_
      refine (x_aload f33_76 rfl rfl).trans ?_
      refine (x_invokevirtual (G := grd (kd 3 = 2) (bnI (sem 35 0 [aA 3, aA 1, aA t] [] s1) fun a4 s3 => sem 33 80 [aA 3, aA 1, aA t, aU] [aI a4] s3)) f33_77 rfl rfl).trans ?_
      refine (g_t rfl).trans ?_
      refine bI_h fun a4 s3 qs3 => ?_
      have rs3 := RefC.sem qs3 rfl rs1
      refine (x_if_ne (tg := 88) f33_80 rfl rfl).trans (i_c ?_ ?_)
      · refine (x_aload f33_83 rfl rfl).trans ?_
        refine (y_get0 (ji := 1) rfl f33_84 rfl rfl).trans ?_
        refine (g_t rfl).trans ?_
        exact x_ireturn f33_87 rfl
      · refine (x_aload f33_88 rfl rfl).trans ?_
        refine (x_dup f33_89 rfl rfl).trans ?_
        refine (y_get0 (ji := 2) rfl f33_90 rfl rfl).trans ?_
        refine (g_t rfl).trans ?_
        refine (x_iconst f33_93 rfl).trans ?_
        refine (x_iadd f33_94 rfl).trans ?_
        refine (y_put0 (ji := 2) rfl f33_95 rfl rfl).trans ?_
        refine (g_t rfl).trans ?_
        refine (x_goto (tg := 54) f33_98 rfl rfl).trans ?_
        rfl
    · refine (x_kil (l2 := [aU, aU, aU, aU]) f33_101 rfl).trans ?_
      refine (x_iconst f33_101 rfl).trans ?_
      exact x_ireturn f33_103 rfl
set_option maxRecDepth 10000 in
theorem g34_0 {t : Int} (ht : t = 32 ∨ t = 37) {s : SG} (hR : RefC s) : sem 34 0 [aA 3, aA 1, aA t, aU] [] s = bnI (sem 80 0 [aA 1, aI (s 3 1)] [] s) fun a2 s1 => if a2 = 78 then bnI (sem 41 0 [aA 3, aA 1, aI 1, aI 3, aU] [] (up s1 3 1 (w32 ((s1 3 1) + 1)))) fun a4 s3 => if a4 = ((-9)) then some (aI 0, s3) else some (aI 1, up s3 t 4 a4) else some (aI 0, s1) := by
  refine (x_aload f34_0 rfl rfl).trans ?_
  refine (x_aload f34_1 rfl rfl).trans ?_
  refine (y_get0 (ji := 1) rfl f34_2 rfl rfl).trans ?_
  refine (g_t rfl).trans ?_
  refine (x_invokevirtual (G := grd (kd 1 = 5) (bnI (sem 80 0 [aA 1, aI (s 3 1)] [] s) fun a2 s1 => sem 34 8 [aA 3, aA 1, aA t, aU] [aI a2] s1)) f34_5 rfl rfl).trans ?_
  refine (g_t rfl).trans ?_
  refine bI_h fun a2 s1 qs1 => ?_
  have rs1 := RefC.sem qs1 rfl hR
  refine (x_iconst f34_8 rfl).trans ?_
  refine (x_icmp_eq (tg := 15) f34_10 rfl rfl).trans (i_c ?_ ?_)
  · refine (x_aload f34_15 rfl rfl).trans ?_
    refine (x_dup f34_16 rfl rfl).trans ?_
    refine (y_get0 (ji := 1) rfl f34_17 rfl rfl).trans ?_
    refine (g_t rfl).trans ?_
    refine (x_iconst f34_20 rfl).trans ?_
    refine (x_iadd f34_21 rfl).trans ?_
    refine (y_put0 (ji := 1) rfl f34_22 rfl rfl).trans ?_
    refine (g_t rfl).trans ?_
    refine (x_aload f34_25 rfl rfl).trans ?_
    refine (x_aload f34_26 rfl rfl).trans ?_
    refine (x_iconst f34_27 rfl).trans ?_
    refine (x_iconst f34_28 rfl).trans ?_
    refine (x_invokevirtual (G := grd (kd 3 = 2) (bnI (sem 41 0 [aA 3, aA 1, aI 1, aI 3, aU] [] (up s1 3 1 (w32 ((s1 3 1) + 1)))) fun a4 s3 => sem 34 32 [aA 3, aA 1, aA t, aU] [aI a4] s3)) f34_29 rfl rfl).trans ?_
    refine (g_t rfl).trans ?_
    refine bI_h fun a4 s3 qs3 => ?_
    have rs3 := RefC.sem qs3 rfl (RefC.upd rs1 (rcb_f (c := 2) (j := 1) rfl (by decide) (by decide)))
    refine (x_istore (l2 := [aA 3, aA 1, aA t, aI a4]) f34_32 rfl rfl).trans ?_
    refine (x_iload f34_33 rfl rfl).trans ?_
    refine (x_iconst f34_34 rfl).trans ?_
    refine (x_icmp_ne (tg := 41) f34_36 rfl rfl).trans (i_c ?_ ?_)
    · refine (x_iconst f34_39 rfl).trans ?_
      exact x_zreturn0 f34_40 rfl
    · refine (x_aload f34_41 rfl rfl).trans ?_
      refine (x_iload f34_42 rfl rfl).trans ?_
      refine (y_put0 (ji := 4) rfl f34_43 rfl rfl).trans ?_
      refine (g_t ((kd_t ht).1)).trans ?_
      refine (x_iconst f34_46 rfl).trans ?_
      exact x_zreturn1 f34_47 rfl
  · refine (x_iconst f34_13 rfl).trans ?_
    exact x_zreturn0 f34_14 rfl
set_option maxRecDepth 10000 in
theorem g35_0 {t : Int} (ht : t = 32 ∨ t = 37) {s : SG} (hR : RefC s) : sem 35 0 [aA 3, aA 1, aA t] [] s = bnI (sem 80 0 [aA 1, aI (s 3 1)] [] s) fun a2 s1 => if a2 = 67 then bnI (sem 39 0 [aA 3, aA 1, aA t, aI 15, aU, aU, aU] [] s1) fun a4 s3 => grd (a4 = 0 ∨ a4 = 1) (some (aI a4, s3)) else if a2 = 71 then bnI (sem 38 0 [aA 3, aA 1, aA t, aU, aU] [] s1) fun a6 s5 => grd (a6 = 0 ∨ a6 = 1) (some (aI a6, s5)) else if a2 = 75 then bnI (sem 36 0 [aA 3, aA 1, aA t, aU, aU] [] s1) fun a8 s7 => grd (a8 = 0 ∨ a8 = 1) (some (aI a8, s7)) else if a2 = 80 then bnI (sem 39 0 [aA 3, aA 1, aA t, aI 16, aU, aU, aU] [] s1) fun a10 s9 => grd (a10 = 0 ∨ a10 = 1) (some (aI a10, s9)) else if a2 = 82 then bnI (sem 39 0 [aA 3, aA 1, aA t, aI 17, aU, aU, aU] [] s1) fun a12 s11 => grd (a12 = 0 ∨ a12 = 1) (some (aI a12, s11)) else if a2 = 87 then bnI (sem 37 0 [aA 3, aA 1, aA t, aU, aU, aU, aU] [] s1) fun a14 s13 => grd (a14 = 0 ∨ a14 = 1) (some (aI a14, s13)) else some (aI 0, s1) := by
  refine (x_aload f35_0 rfl rfl).trans ?_
  refine (x_aload f35_1 rfl rfl).trans ?_
  refine (y_get0 (ji := 1) rfl f35_2 rfl rfl).trans ?_
  refine (g_t rfl).trans ?_
  refine (x_invokevirtual (G := grd (kd 1 = 5) (bnI (sem 80 0 [aA 1, aI (s 3 1)] [] s) fun a2 s1 => sem 35 8 [aA 3, aA 1, aA t] [aI a2] s1)) f35_5 rfl rfl).trans ?_
  refine (g_t rfl).trans ?_
  refine bI_h fun a2 s1 qs1 => ?_
  have rs1 := RefC.sem qs1 rfl hR
  refine (x_lsw f35_8 rfl).trans ?_
  refine Eq.trans (b := sem 35 (if a2 = 67 then 89 else if a2 = 71 then 82 else if a2 = 75 then 68 else if a2 = 80 then 98 else if a2 = 82 then 107 else if a2 = 87 then 75 else 116) [aA 3, aA 1, aA t] [] s1) rfl ?_
  refine x_ite.trans (i_c ?_ ?_)
  · refine (x_aload f35_89 rfl rfl).trans ?_
    refine (x_aload f35_90 rfl rfl).trans ?_
    refine (x_aload f35_91 rfl rfl).trans ?_
    refine (x_iconst f35_92 rfl).trans ?_
    refine (x_invokevirtual (G := grd (kd 3 = 2) (bnI (sem 39 0 [aA 3, aA 1, aA t, aI 15, aU, aU, aU] [] s1) fun a4 s3 => sem 35 97 [aA 3, aA 1, aA t] [aI a4] s3)) f35_94 rfl rfl).trans ?_
    refine (g_t rfl).trans ?_
    refine bI_h fun a4 s3 qs3 => ?_
    have rs3 := RefC.sem qs3 rfl rs1
    exact x_zreturn f35_97 rfl
  refine x_ite.trans (i_c ?_ ?_)
  · refine (x_aload f35_82 rfl rfl).trans ?_
    refine (x_aload f35_83 rfl rfl).trans ?_
    refine (x_aload f35_84 rfl rfl).trans ?_
    refine (x_invokevirtual (G := grd (kd 3 = 2) (bnI (sem 38 0 [aA 3, aA 1, aA t, aU, aU] [] s1) fun a6 s5 => sem 35 88 [aA 3, aA 1, aA t] [aI a6] s5)) f35_85 rfl rfl).trans ?_
    refine (g_t rfl).trans ?_
    refine bI_h fun a6 s5 qs5 => ?_
    have rs5 := RefC.sem qs5 rfl rs1
    exact x_zreturn f35_88 rfl
  refine x_ite.trans (i_c ?_ ?_)
  · refine (x_aload f35_68 rfl rfl).trans ?_
    refine (x_aload f35_69 rfl rfl).trans ?_
    refine (x_aload f35_70 rfl rfl).trans ?_
    refine (x_invokevirtual (G := grd (kd 3 = 2) (bnI (sem 36 0 [aA 3, aA 1, aA t, aU, aU] [] s1) fun a8 s7 => sem 35 74 [aA 3, aA 1, aA t] [aI a8] s7)) f35_71 rfl rfl).trans ?_
    refine (g_t rfl).trans ?_
    refine bI_h fun a8 s7 qs7 => ?_
    have rs7 := RefC.sem qs7 rfl rs1
    exact x_zreturn f35_74 rfl
  refine x_ite.trans (i_c ?_ ?_)
  · refine (x_aload f35_98 rfl rfl).trans ?_
    refine (x_aload f35_99 rfl rfl).trans ?_
    refine (x_aload f35_100 rfl rfl).trans ?_
    refine (x_iconst f35_101 rfl).trans ?_
    refine (x_invokevirtual (G := grd (kd 3 = 2) (bnI (sem 39 0 [aA 3, aA 1, aA t, aI 16, aU, aU, aU] [] s1) fun a10 s9 => sem 35 106 [aA 3, aA 1, aA t] [aI a10] s9)) f35_103 rfl rfl).trans ?_
    refine (g_t rfl).trans ?_
    refine bI_h fun a10 s9 qs9 => ?_
    have rs9 := RefC.sem qs9 rfl rs1
    exact x_zreturn f35_106 rfl
  refine x_ite.trans (i_c ?_ ?_)
  · refine (x_aload f35_107 rfl rfl).trans ?_
    refine (x_aload f35_108 rfl rfl).trans ?_
    refine (x_aload f35_109 rfl rfl).trans ?_
    refine (x_iconst f35_110 rfl).trans ?_
    refine (x_invokevirtual (G := grd (kd 3 = 2) (bnI (sem 39 0 [aA 3, aA 1, aA t, aI 17, aU, aU, aU] [] s1) fun a12 s11 => sem 35 115 [aA 3, aA 1, aA t] [aI a12] s11)) f35_112 rfl rfl).trans ?_
    refine (g_t rfl).trans ?_
    refine bI_h fun a12 s11 qs11 => ?_
    have rs11 := RefC.sem qs11 rfl rs1
    exact x_zreturn f35_115 rfl
  refine x_ite.trans (i_c ?_ ?_)
  · refine (x_aload f35_75 rfl rfl).trans ?_
    refine (x_aload f35_76 rfl rfl).trans ?_
    refine (x_aload f35_77 rfl rfl).trans ?_
    refine (x_invokevirtual (G := grd (kd 3 = 2) (bnI (sem 37 0 [aA 3, aA 1, aA t, aU, aU, aU, aU] [] s1) fun a14 s13 => sem 35 81 [aA 3, aA 1, aA t] [aI a14] s13)) f35_78 rfl rfl).trans ?_
    refine (g_t rfl).trans ?_
    refine bI_h fun a14 s13 qs13 => ?_
    have rs13 := RefC.sem qs13 rfl rs1
    exact x_zreturn f35_81 rfl
  refine (x_iconst f35_116 rfl).trans ?_
  exact x_zreturn0 f35_117 rfl
set_option maxRecDepth 10000 in
theorem g36_0 {t : Int} (ht : t = 32 ∨ t = 37) {s : SG} (hR : RefC s) : sem 36 0 [aA 3, aA 1, aA t, aU, aU] [] s = bnI (sem 44 0 [aA 3, aI 0, aI 3, aU] [] s) fun a2 s1 => if a2 = 0 then bnI (sem 42 0 [aA 3, aA 1, aI 2, aI 0, aU] [] (up s1 3 1 (w32 ((s1 3 1) + 1)))) fun a4 s3 => if a4 = ((-9)) then if ((-9) : Int) = ((-9)) then some (aI 0, s3) else bnV (sem 88 0 [aA t, aI a4, aI ((-9))] [] s3) fun s5 => some (aI 1, s5) else bnI (sem 41 0 [aA 3, aA 1, aI 1, aI 9, aU] [] s3) fun a7 s6 => if a7 = ((-9)) then some (aI 0, s6) else bnV (sem 88 0 [aA t, aI a4, aI a7] [] s6) fun s8 => some (aI 1, s8) else some (aI 0, s1) := by
  refine (x_aload f36_0 rfl rfl).trans ?_
  refine (x_iconst f36_1 rfl).trans ?_
  refine (x_iconst f36_2 rfl).trans ?_
  refine (x_invokevirtual (G := grd (kd 3 = 2) (bnI (sem 44 0 [aA 3, aI 0, aI 3, aU] [] s) fun a2 s1 => sem 36 6 [aA 3, aA 1, aA t, aU, aU] [aI a2] s1)) f36_3 rfl rfl).trans ?_
  refine (g_t rfl).trans ?_
  refine bI_h fun a2 s1 qs1 => ?_
  have rs1 := RefC.sem qs1 rfl hR
  refine (x_if_eq (tg := 11) f36_6 rfl rfl).trans (i_c ?_ ?_)
  · refine (x_aload f36_11 rfl rfl).trans ?_
    refine (x_dup f36_12 rfl rfl).trans ?_
    refine (y_get0 (ji := 1) rfl f36_13 rfl rfl).trans ?_
    refine (g_t rfl).trans ?_
    refine (x_iconst f36_16 rfl).trans ?_
    refine (x_iadd f36_17 rfl).trans ?_
    refine (y_put0 (ji := 1) rfl f36_18 rfl rfl).trans ?_
    refine (g_t rfl).trans ?_
    refine (x_aload f36_21 rfl rfl).trans ?_
    refine (x_aload f36_22 rfl rfl).trans ?_
    refine (x_iconst f36_23 rfl).trans ?_
    refine (x_iconst f36_24 rfl).trans ?_
    refine (x_invokevirtual (G := grd (kd 3 = 2) (bnI (sem 42 0 [aA 3, aA 1, aI 2, aI 0, aU] [] (up s1 3 1 (w32 ((s1 3 1) + 1)))) fun a4 s3 => sem 36 28 [aA 3, aA 1, aA t, aU, aU] [aI a4] s3)) f36_25 rfl rfl).trans ?_
    refine (g_t rfl).trans ?_
    refine bI_h fun a4 s3 qs3 => ?_
    have rs3 := RefC.sem qs3 rfl (RefC.upd rs1 (rcb_f (c := 2) (j := 1) rfl (by decide) (by decide)))
    refine (x_istore (l2 := [aA 3, aA 1, aA t, aI a4, aU]) f36_28 rfl rfl).trans ?_
    refine (x_iload f36_29 rfl rfl).trans ?_
    refine (x_iconst f36_30 rfl).trans ?_
    refine (x_icmp_ne (tg := 40) f36_32 rfl rfl).trans (i_c ?_ ?_)
    · refine (x_iconst f36_35 rfl).trans ?_
      refine (x_goto (tg := 48) f36_37 rfl rfl).trans ?_
      refine (x_kil (l2 := [aU, aU, aA t, aI a4, aU]) f36_48 rfl).trans ?_
      refine (x_istore (l2 := [aU, aU, aA t, aI a4, aI ((-9))]) f36_48 rfl rfl).trans ?_
      refine (x_iload f36_50 rfl rfl).trans ?_
      refine (x_iconst f36_52 rfl).trans ?_
      refine (x_icmp_ne (tg := 59) f36_54 rfl rfl).trans (i_c ?_ ?_)
      · refine (x_iconst f36_57 rfl).trans ?_
        exact x_zreturn0 f36_58 rfl
      · refine (x_aload f36_59 rfl rfl).trans ?_
        refine (x_iload f36_60 rfl rfl).trans ?_
        refine (x_iload f36_61 rfl rfl).trans ?_
        refine (x_invokevirtual (G := grd (kd t = 6) (bnV (sem 88 0 [aA t, aI a4, aI ((-9))] [] s3) fun s5 => sem 36 66 [aU, aU, aA t, aI a4, aI ((-9))] [] s5)) f36_63 rfl rfl).trans ?_
        refine (g_t ((kd_t ht).1)).trans ?_
        refine bV_h fun s5 qs5 => ?_
        have rs5 := RefC.sem qs5 rfl rs3
        refine (x_iconst f36_66 rfl).trans ?_
        exact x_zreturn1 f36_67 rfl
    · refine (x_aload f36_40 rfl rfl).trans ?_
      refine (x_aload f36_41 rfl rfl).trans ?_
      refine (x_iconst f36_42 rfl).trans ?_
      refine (x_iconst f36_43 rfl).trans ?_
      refine (x_invokevirtual (G := grd (kd 3 = 2) (bnI (sem 41 0 [aA 3, aA 1, aI 1, aI 9, aU] [] s3) fun a7 s6 => sem 36 48 [aA 3, aA 1, aA t, aI a4, aU] [aI a7] s6)) f36_45 rfl rfl).trans ?_
      refine (g_t rfl).trans ?_
      refine bI_h fun a7 s6 qs6 => ?_
      have rs6 := RefC.sem qs6 rfl rs3
      refine (x_kil (l2 := [aU, aU, aA t, aI a4, aU]) f36_48 rfl).trans ?_
      refine (x_istore (l2 := [aU, aU, aA t, aI a4, aI a7]) f36_48 rfl rfl).trans ?_
      refine (x_iload f36_50 rfl rfl).trans ?_
      refine (x_iconst f36_52 rfl).trans ?_
      refine (x_icmp_ne (tg := 59) f36_54 rfl rfl).trans (i_c ?_ ?_)
      · refine (x_iconst f36_57 rfl).trans ?_
        exact x_zreturn0 f36_58 rfl
      · refine (x_aload f36_59 rfl rfl).trans ?_
        refine (x_iload f36_60 rfl rfl).trans ?_
        refine (x_iload f36_61 rfl rfl).trans ?_
        refine (x_invokevirtual (G := grd (kd t = 6) (bnV (sem 88 0 [aA t, aI a4, aI a7] [] s6) fun s8 => sem 36 66 [aU, aU, aA t, aI a4, aI a7] [] s8)) f36_63 rfl rfl).trans ?_
        refine (g_t ((kd_t ht).1)).trans ?_
        refine bV_h fun s8 qs8 => ?_
        have rs8 := RefC.sem qs8 rfl rs6
        refine (x_iconst f36_66 rfl).trans ?_
        exact x_zreturn1 f36_67 rfl
  · refine (x_iconst f36_9 rfl).trans ?_
    exact x_zreturn0 f36_10 rfl
set_option maxRecDepth 10000 in
theorem g37_0 {t : Int} (ht : t = 32 ∨ t = 37) {s : SG} (hR : RefC s) : sem 37 0 [aA 3, aA 1, aA t, aU, aU, aU, aU] [] s = bnI (sem 44 0 [aA 3, aI 3, aI (w32 ((s t 4) * 3)), aU] [] s) fun a2 s1 => if a2 = 0 then bnI (sem 40 0 [aA 3, aA 1, aI 0, aI (w32 ((s1 t 4) - 1)), aU] [] (up s1 3 1 (w32 ((s1 3 1) + 1)))) fun a4 s3 => if a4 = ((-9)) then some (aI 0, s3) else bnI (sem 44 0 [aA 3, aI (w32 (3 + (w32 (a4 * 3)))), aI 3, aU] [] s3) fun a6 s5 => if a6 = 0 then bnI (sem 42 0 [aA 3, aA 1, aI 2, aI (w32 (3 + (w32 (a4 * 3)))), aU] [] (up s5 3 1 (w32 ((s5 3 1) + 1)))) fun a8 s7 => if a8 = ((-9)) then sem 37 102 [aA 3, aA 1, aA t, aI a4, aI a8, aU, aU] [aI ((-9))] s7 else bnI (sem 41 0 [aA 3, aA 1, aI 0, aI 3, aU] [] s7) fun a10 s9 => sem 37 102 [aA 3, aA 1, aA t, aI a4, aI a8, aU, aU] [aI a10] s9 else some (aI 0, s5) else some (aI 0, s1) := by
  refine (x_aload f37_0 rfl rfl).trans ?_
  refine (x_iconst f37_1 rfl).trans ?_
  refine (x_aload f37_2 rfl rfl).trans ?_
  refine (y_get0 (ji := 4) rfl f37_3 rfl rfl).trans ?_
  refine (g_t ((kd_t ht).1)).trans ?_
  refine (x_iconst f37_6 rfl).trans ?_
  refine (x_imul f37_7 rfl).trans ?_
  refine (x_invokevirtual (G := grd (kd 3 = 2) (bnI (sem 44 0 [aA 3, aI 3, aI (w32 ((s t 4) * 3)), aU] [] s) fun a2 s1 => sem 37 11 [aA 3, aA 1, aA t, aU, aU, aU, aU] [aI a2] s1)) f37_8 rfl rfl).trans ?_
  refine (g_t rfl).trans ?_
  refine bI_h fun a2 s1 qs1 => ?_
  have rs1 := RefC.sem qs1 rfl hR
  refine (x_if_eq (tg := 16) f37_11 rfl rfl).trans (i_c ?_ ?_)
  · refine (x_aload f37_16 rfl rfl).trans ?_
    refine (x_dup f37_17 rfl rfl).trans ?_
    refine (y_get0 (ji := 1) rfl f37_18 rfl rfl).trans ?_
    refine (g_t rfl).trans ?_
    refine (x_iconst f37_21 rfl).trans ?_
    refine (x_iadd f37_22 rfl).trans ?_
    refine (y_put0 (ji := 1) rfl f37_23 rfl rfl).trans ?_
    refine (g_t rfl).trans ?_
    refine (x_aload f37_26 rfl rfl).trans ?_
    refine (x_aload f37_27 rfl rfl).trans ?_
    refine (x_iconst f37_28 rfl).trans ?_
    refine (x_aload f37_29 rfl rfl).trans ?_
    refine (y_get0 (ji := 4) rfl f37_30 rfl rfl).trans ?_
    refine (g_t ((kd_t ht).1)).trans ?_
    rw [show (up s1 3 1 (w32 ((s1 3 1) + 1))) t 4 = s1 t 4 from by rw [up_ne (by omega)]]
    refine (x_iconst f37_33 rfl).trans ?_
    refine (x_isub f37_34 rfl).trans ?_
    refine (x_invokevirtual (G := grd (kd 3 = 2) (bnI (sem 40 0 [aA 3, aA 1, aI 0, aI (w32 ((s1 t 4) - 1)), aU] [] (up s1 3 1 (w32 ((s1 3 1) + 1)))) fun a4 s3 => sem 37 38 [aA 3, aA 1, aA t, aU, aU, aU, aU] [aI a4] s3)) f37_35 rfl rfl).trans ?_
    refine (g_t rfl).trans ?_
    refine bI_h fun a4 s3 qs3 => ?_
    have rs3 := RefC.sem qs3 rfl (RefC.upd rs1 (rcb_f (c := 2) (j := 1) rfl (by decide) (by decide)))
    refine (x_istore (l2 := [aA 3, aA 1, aA t, aI a4, aU, aU, aU]) f37_38 rfl rfl).trans ?_
    refine (x_iload f37_39 rfl rfl).trans ?_
    refine (x_iconst f37_40 rfl).trans ?_
    refine (x_icmp_eq (tg := 58) f37_42 rfl rfl).trans (i_c ?_ ?_)
    · refine (x_kil (l2 := [aU, aU, aU, aU, aU, aU, aU]) f37_58 rfl).trans ?_
      refine (x_iconst f37_58 rfl).trans ?_
      exact x_zreturn0 f37_59 rfl
    · refine (x_aload f37_45 rfl rfl).trans ?_
      refine (x_iconst f37_46 rfl).trans ?_
      refine (x_iload f37_47 rfl rfl).trans ?_
      refine (x_iconst f37_48 rfl).trans ?_
      refine (x_imul f37_49 rfl).trans ?_
      refine (x_iadd f37_50 rfl).trans ?_
      refine (x_iconst f37_51 rfl).trans ?_
      refine (x_invokevirtual (G := grd (kd 3 = 2) (bnI (sem 44 0 [aA 3, aI (w32 (3 + (w32 (a4 * 3)))), aI 3, aU] [] s3) fun a6 s5 => sem 37 55 [aA 3, aA 1, aA t, aI a4, aU, aU, aU] [aI a6] s5)) f37_52 rfl rfl).trans ?_
      refine (g_t rfl).trans ?_
      refine bI_h fun a6 s5 qs5 => ?_
      have rs5 := RefC.sem qs5 rfl rs3
      refine (x_if_eq (tg := 60) f37_55 rfl rfl).trans (i_c ?_ ?_)
      · refine (x_aload f37_60 rfl rfl).trans ?_
        refine (x_dup f37_61 rfl rfl).trans ?_
        refine (y_get0 (ji := 1) rfl f37_62 rfl rfl).trans ?_
        refine (g_t rfl).trans ?_
        refine (x_iconst f37_65 rfl).trans ?_
        refine (x_iadd f37_66 rfl).trans ?_
        refine (y_put0 (ji := 1) rfl f37_67 rfl rfl).trans ?_
        refine (g_t rfl).trans ?_
        refine (x_aload f37_70 rfl rfl).trans ?_
        refine (x_aload f37_71 rfl rfl).trans ?_
        refine (x_iconst f37_72 rfl).trans ?_
        refine (x_iconst f37_73 rfl).trans ?_
        refine (x_iload f37_74 rfl rfl).trans ?_
        refine (x_iconst f37_75 rfl).trans ?_
        refine (x_imul f37_76 rfl).trans ?_
        refine (x_iadd f37_77 rfl).trans ?_
        refine (x_invokevirtual (G := grd (kd 3 = 2) (bnI (sem 42 0 [aA 3, aA 1, aI 2, aI (w32 (3 + (w32 (a4 * 3)))), aU] [] (up s5 3 1 (w32 ((s5 3 1) + 1)))) fun a8 s7 => sem 37 81 [aA 3, aA 1, aA t, aI a4, aU, aU, aU] [aI a8] s7)) f37_78 rfl rfl).trans ?_
        refine (g_t rfl).trans ?_
        refine bI_h fun a8 s7 qs7 => ?_
        have rs7 := RefC.sem qs7 rfl (RefC.upd rs5 (rcb_f (c := 2) (j := 1) rfl (by decide) (by decide)))
        refine (x_istore (l2 := [aA 3, aA 1, aA t, aI a4, aI a8, aU, aU]) f37_81 rfl rfl).trans ?_
        refine (x_iload f37_83 rfl rfl).trans ?_
        refine (x_iconst f37_85 rfl).trans ?_
        refine (x_icmp_ne (tg := 95) f37_87 rfl rfl).trans (i_c ?_ ?_)
        · refine (x_iconst f37_90 rfl).trans ?_
          refine (x_goto (tg := 102) f37_92 rfl rfl).trans ?_
          rfl
        · refine (x_aload f37_95 rfl rfl).trans ?_
          refine (x_aload f37_96 rfl rfl).trans ?_
          refine (x_iconst f37_97 rfl).trans ?_
          refine (x_iconst f37_98 rfl).trans ?_
          refine (x_invokevirtual (G := grd (kd 3 = 2) (bnI (sem 41 0 [aA 3, aA 1, aI 0, aI 3, aU] [] s7) fun a10 s9 => sem 37 102 [aA 3, aA 1, aA t, aI a4, aI a8, aU, aU] [aI a10] s9)) f37_99 rfl rfl).trans ?_
          refine (g_t rfl).trans ?_
          refine bI_h fun a10 s9 qs9 => ?_
          have rs9 := RefC.sem qs9 rfl rs7
          rfl
      · refine (x_kil (l2 := [aU, aU, aU, aU, aU, aU, aU]) f37_58 rfl).trans ?_
        refine (x_iconst f37_58 rfl).trans ?_
        exact x_zreturn0 f37_59 rfl
  · refine (x_iconst f37_14 rfl).trans ?_
    exact x_zreturn0 f37_15 rfl
set_option maxRecDepth 10000 in
theorem g37_102 {t : Int} (ht : t = 32 ∨ t = 37) {s : SG} (hR : RefC s) (l3 l4 v0 : Int) : sem 37 102 [aA 3, aA 1, aA t, aI l3, aI l4, aU, aU] [aI v0] s = if v0 = ((-9)) then if ((-9) : Int) = ((-9)) then some (aI 0, s) else bnV (sem 89 0 [aA t, aI l3, aI l4, aI v0, aI ((-9)), aU] [] s) fun s1 => some (aI 1, s1) else bnI (sem 41 0 [aA 3, aA 1, aI 0, aI 9, aU] [] s) fun a3 s2 => if a3 = ((-9)) then some (aI 0, s2) else bnV (sem 89 0 [aA t, aI l3, aI l4, aI v0, aI a3, aU] [] s2) fun s4 => some (aI 1, s4) := by
  refine (x_istore (l2 := [aA 3, aA 1, aA t, aI l3, aI l4, aI v0, aU]) f37_102 rfl rfl).trans ?_
  refine (x_iload f37_104 rfl rfl).trans ?_
  refine (x_iconst f37_106 rfl).trans ?_
  refine (x_icmp_ne (tg := 116) f37_108 rfl rfl).trans (i_c ?_ ?_)
  · refine (x_iconst f37_111 rfl).trans ?_
    refine (x_goto (tg := 124) f37_113 rfl rfl).trans ?_
    refine (x_kil (l2 := [aU, aU, aA t, aI l3, aI l4, aI v0, aU]) f37_124 rfl).trans ?_
    refine (x_istore (l2 := [aU, aU, aA t, aI l3, aI l4, aI v0, aI ((-9))]) f37_124 rfl rfl).trans ?_
    refine (x_iload f37_126 rfl rfl).trans ?_
    refine (x_iconst f37_128 rfl).trans ?_
    refine (x_icmp_ne (tg := 135) f37_130 rfl rfl).trans (i_c ?_ ?_)
    · refine (x_iconst f37_133 rfl).trans ?_
      exact x_zreturn0 f37_134 rfl
    · refine (x_aload f37_135 rfl rfl).trans ?_
      refine (x_iload f37_136 rfl rfl).trans ?_
      refine (x_iload f37_137 rfl rfl).trans ?_
      refine (x_iload f37_139 rfl rfl).trans ?_
      refine (x_iload f37_141 rfl rfl).trans ?_
      refine (x_invokevirtual (G := grd (kd t = 6) (bnV (sem 89 0 [aA t, aI l3, aI l4, aI v0, aI ((-9)), aU] [] s) fun s1 => sem 37 146 [aU, aU, aA t, aI l3, aI l4, aI v0, aI ((-9))] [] s1)) f37_143 rfl rfl).trans ?_
      refine (g_t ((kd_t ht).1)).trans ?_
      refine bV_h fun s1 qs1 => ?_
      have rs1 := RefC.sem qs1 rfl hR
      refine (x_iconst f37_146 rfl).trans ?_
      exact x_zreturn1 f37_147 rfl
  · refine (x_aload f37_116 rfl rfl).trans ?_
    refine (x_aload f37_117 rfl rfl).trans ?_
    refine (x_iconst f37_118 rfl).trans ?_
    refine (x_iconst f37_119 rfl).trans ?_
    refine (x_invokevirtual (G := grd (kd 3 = 2) (bnI (sem 41 0 [aA 3, aA 1, aI 0, aI 9, aU] [] s) fun a3 s2 => sem 37 124 [aA 3, aA 1, aA t, aI l3, aI l4, aI v0, aU] [aI a3] s2)) f37_121 rfl rfl).trans ?_
    refine (g_t rfl).trans ?_
    refine bI_h fun a3 s2 qs2 => ?_
    have rs2 := RefC.sem qs2 rfl hR
    refine (x_kil (l2 := [aU, aU, aA t, aI l3, aI l4, aI v0, aU]) f37_124 rfl).trans ?_
    refine (x_istore (l2 := [aU, aU, aA t, aI l3, aI l4, aI v0, aI a3]) f37_124 rfl rfl).trans ?_
    refine (x_iload f37_126 rfl rfl).trans ?_
    refine (x_iconst f37_128 rfl).trans ?_
    refine (x_icmp_ne (tg := 135) f37_130 rfl rfl).trans (i_c ?_ ?_)
    · refine (x_iconst f37_133 rfl).trans ?_
      exact x_zreturn0 f37_134 rfl
    · refine (x_aload f37_135 rfl rfl).trans ?_
      refine (x_iload f37_136 rfl rfl).trans ?_
      refine (x_iload f37_137 rfl rfl).trans ?_
      refine (x_iload f37_139 rfl rfl).trans ?_
      refine (x_iload f37_141 rfl rfl).trans ?_
      refine (x_invokevirtual (G := grd (kd t = 6) (bnV (sem 89 0 [aA t, aI l3, aI l4, aI v0, aI a3, aU] [] s2) fun s4 => sem 37 146 [aU, aU, aA t, aI l3, aI l4, aI v0, aI a3] [] s4)) f37_143 rfl rfl).trans ?_
      refine (g_t ((kd_t ht).1)).trans ?_
      refine bV_h fun s4 qs4 => ?_
      have rs4 := RefC.sem qs4 rfl rs2
      refine (x_iconst f37_146 rfl).trans ?_
      exact x_zreturn1 f37_147 rfl
set_option maxRecDepth 10000 in
theorem g38_0 {t : Int} (ht : t = 32 ∨ t = 37) {s : SG} (hR : RefC s) : sem 38 0 [aA 3, aA 1, aA t, aU, aU] [] s = if (s t 4) = 1 then some (aI 0, s) else bnI (sem 44 0 [aA 3, aI 12, aI (s t 4), aU] [] s) fun a2 s1 => if a2 = 0 then bnI (sem 42 0 [aA 3, aA 1, aI (w32 ((s1 t 4) - 1)), aI 12, aU] [] (up s1 3 1 (w32 ((s1 3 1) + 1)))) fun a4 s3 => if a4 = ((-9)) then sem 38 70 [aA 3, aU, aA t, aI a4, aU] [aI ((-9))] s3 else bnI (sem 40 0 [aA 3, aA 1, aI 0, aI (w32 ((s3 t 4) - 1)), aU] [] s3) fun a6 s5 => sem 38 70 [aA 3, aU, aA t, aI a4, aU] [aI a6] s5 else some (aI 0, s1) := by
  refine (x_aload f38_0 rfl rfl).trans ?_
  refine (y_get0 (ji := 4) rfl f38_1 rfl rfl).trans ?_
  refine (g_t ((kd_t ht).1)).trans ?_
  refine (x_iconst f38_4 rfl).trans ?_
  refine (x_icmp_eq (tg := 21) f38_5 rfl rfl).trans (i_c ?_ ?_)
  · refine (x_kil (l2 := [aU, aU, aU, aU, aU]) f38_21 rfl).trans ?_
    refine (x_iconst f38_21 rfl).trans ?_
    exact x_zreturn0 f38_22 rfl
  · refine (x_aload f38_8 rfl rfl).trans ?_
    refine (x_iconst f38_9 rfl).trans ?_
    refine (x_aload f38_11 rfl rfl).trans ?_
    refine (y_get0 (ji := 4) rfl f38_12 rfl rfl).trans ?_
    refine (g_t ((kd_t ht).1)).trans ?_
    refine (x_invokevirtual (G := grd (kd 3 = 2) (bnI (sem 44 0 [aA 3, aI 12, aI (s t 4), aU] [] s) fun a2 s1 => sem 38 18 [aA 3, aA 1, aA t, aU, aU] [aI a2] s1)) f38_15 rfl rfl).trans ?_
    refine (g_t rfl).trans ?_
    refine bI_h fun a2 s1 qs1 => ?_
    have rs1 := RefC.sem qs1 rfl hR
    refine (x_if_eq (tg := 23) f38_18 rfl rfl).trans (i_c ?_ ?_)
    · refine (x_aload f38_23 rfl rfl).trans ?_
      refine (x_dup f38_24 rfl rfl).trans ?_
      refine (y_get0 (ji := 1) rfl f38_25 rfl rfl).trans ?_
      refine (g_t rfl).trans ?_
      refine (x_iconst f38_28 rfl).trans ?_
      refine (x_iadd f38_29 rfl).trans ?_
      refine (y_put0 (ji := 1) rfl f38_30 rfl rfl).trans ?_
      refine (g_t rfl).trans ?_
      refine (x_aload f38_33 rfl rfl).trans ?_
      refine (x_aload f38_34 rfl rfl).trans ?_
      refine (x_aload f38_35 rfl rfl).trans ?_
      refine (y_get0 (ji := 4) rfl f38_36 rfl rfl).trans ?_
      refine (g_t ((kd_t ht).1)).trans ?_
      rw [show (up s1 3 1 (w32 ((s1 3 1) + 1))) t 4 = s1 t 4 from by rw [up_ne (by omega)]]
      refine (x_iconst f38_39 rfl).trans ?_
      refine (x_isub f38_40 rfl).trans ?_
      refine (x_iconst f38_41 rfl).trans ?_
      refine (x_invokevirtual (G := grd (kd 3 = 2) (bnI (sem 42 0 [aA 3, aA 1, aI (w32 ((s1 t 4) - 1)), aI 12, aU] [] (up s1 3 1 (w32 ((s1 3 1) + 1)))) fun a4 s3 => sem 38 46 [aA 3, aA 1, aA t, aU, aU] [aI a4] s3)) f38_43 rfl rfl).trans ?_
      refine (g_t rfl).trans ?_
      refine bI_h fun a4 s3 qs3 => ?_
      have rs3 := RefC.sem qs3 rfl (RefC.upd rs1 (rcb_f (c := 2) (j := 1) rfl (by decide) (by decide)))
      refine (x_istore (l2 := [aA 3, aA 1, aA t, aI a4, aU]) f38_46 rfl rfl).trans ?_
      refine (x_iload f38_47 rfl rfl).trans ?_
      refine (x_iconst f38_48 rfl).trans ?_
      refine (x_icmp_ne (tg := 58) f38_50 rfl rfl).trans (i_c ?_ ?_)
      · refine (x_iconst f38_53 rfl).trans ?_
        refine (x_goto (tg := 70) f38_55 rfl rfl).trans ?_
        exact x_kil f38_70 rfl
      · refine (x_aload f38_58 rfl rfl).trans ?_
        refine (x_aload f38_59 rfl rfl).trans ?_
        refine (x_iconst f38_60 rfl).trans ?_
        refine (x_aload f38_61 rfl rfl).trans ?_
        refine (y_get0 (ji := 4) rfl f38_62 rfl rfl).trans ?_
        refine (g_t ((kd_t ht).1)).trans ?_
        refine (x_iconst f38_65 rfl).trans ?_
        refine (x_isub f38_66 rfl).trans ?_
        refine (x_invokevirtual (G := grd (kd 3 = 2) (bnI (sem 40 0 [aA 3, aA 1, aI 0, aI (w32 ((s3 t 4) - 1)), aU] [] s3) fun a6 s5 => sem 38 70 [aA 3, aA 1, aA t, aI a4, aU] [aI a6] s5)) f38_67 rfl rfl).trans ?_
        refine (g_t rfl).trans ?_
        refine bI_h fun a6 s5 qs5 => ?_
        have rs5 := RefC.sem qs5 rfl rs3
        exact x_kil f38_70 rfl
    · refine (x_kil (l2 := [aU, aU, aU, aU, aU]) f38_21 rfl).trans ?_
      refine (x_iconst f38_21 rfl).trans ?_
      exact x_zreturn0 f38_22 rfl
set_option maxRecDepth 10000 in
theorem g38_70 {t : Int} (ht : t = 32 ∨ t = 37) {s : SG} (hR : RefC s) (l3 v0 : Int) : sem 38 70 [aA 3, aU, aA t, aI l3, aU] [aI v0] s = if v0 = ((-9)) then some (aI 0, s) else if v0 = l3 then some (aI 0, s) else bnV (sem 90 0 [aA t, aI l3, aI v0] [] (up s 3 1 (w32 ((s 3 1) + 1)))) fun s1 => some (aI 1, s1) := by
  refine (x_istore (l2 := [aA 3, aU, aA t, aI l3, aI v0]) f38_70 rfl rfl).trans ?_
  refine (x_iload f38_72 rfl rfl).trans ?_
  refine (x_iconst f38_74 rfl).trans ?_
  refine (x_icmp_eq (tg := 85) f38_76 rfl rfl).trans (i_c ?_ ?_)
  · refine (x_kil (l2 := [aU, aU, aU, aU, aU]) f38_85 rfl).trans ?_
    refine (x_iconst f38_85 rfl).trans ?_
    exact x_zreturn0 f38_86 rfl
  · refine (x_iload f38_79 rfl rfl).trans ?_
    refine (x_iload f38_81 rfl rfl).trans ?_
    refine (x_icmp_ne (tg := 87) f38_82 rfl rfl).trans (i_c ?_ ?_)
    · refine (x_kil (l2 := [aU, aU, aU, aU, aU]) f38_85 rfl).trans ?_
      refine (x_iconst f38_85 rfl).trans ?_
      exact x_zreturn0 f38_86 rfl
    · refine (x_aload f38_87 rfl rfl).trans ?_
      refine (x_dup f38_88 rfl rfl).trans ?_
      refine (y_get0 (ji := 1) rfl f38_89 rfl rfl).trans ?_
      refine (g_t rfl).trans ?_
      refine (x_iconst f38_92 rfl).trans ?_
      refine (x_iadd f38_93 rfl).trans ?_
      refine (y_put0 (ji := 1) rfl f38_94 rfl rfl).trans ?_
      refine (g_t rfl).trans ?_
      refine (x_aload f38_97 rfl rfl).trans ?_
      refine (x_iload f38_98 rfl rfl).trans ?_
      refine (x_iload f38_99 rfl rfl).trans ?_
      refine (x_invokevirtual (G := grd (kd t = 6) (bnV (sem 90 0 [aA t, aI l3, aI v0] [] (up s 3 1 (w32 ((s 3 1) + 1)))) fun s1 => sem 38 104 [aA 3, aU, aA t, aI l3, aI v0] [] s1)) f38_101 rfl rfl).trans ?_
      refine (g_t ((kd_t ht).1)).trans ?_
      refine bV_h fun s1 qs1 => ?_
      have rs1 := RefC.sem qs1 rfl (RefC.upd hR (rcb_f (c := 2) (j := 1) rfl (by decide) (by decide)))
      refine (x_iconst f38_104 rfl).trans ?_
      exact x_zreturn1 f38_105 rfl
set_option maxRecDepth 10000 in
theorem g39_0 {t : Int} (ht : t = 32 ∨ t = 37) {s : SG} (hR : RefC s) (l3 : Int) : sem 39 0 [aA 3, aA 1, aA t, aI l3, aU, aU, aU] [] s = bnI (sem 43 0 [aA 3, aI l3] [] s) fun a2 s1 => if a2 = 0 then some (aI 0, s1) else bnI (sem 41 0 [aA 3, aA 1, aI 0, aI 9, aU] [] (up s1 3 1 (w32 ((s1 3 1) + 1)))) fun a4 s3 => if a4 = ((-9)) then sem 39 50 [aU, aU, aA t, aI l3, aI a4, aU, aU] [aI ((-9))] s3 else bnI (sem 41 0 [aA 3, aA 1, aI 0, aI 9, aU] [] s3) fun a6 s5 => sem 39 50 [aU, aU, aA t, aI l3, aI a4, aU, aU] [aI a6] s5 := by
  refine (x_aload f39_0 rfl rfl).trans ?_
  refine (x_iload f39_1 rfl rfl).trans ?_
  refine (x_invokevirtual (G := grd (kd 3 = 2) (bnI (sem 43 0 [aA 3, aI l3] [] s) fun a2 s1 => sem 39 5 [aA 3, aA 1, aA t, aI l3, aU, aU, aU] [aI a2] s1)) f39_2 rfl rfl).trans ?_
  refine (g_t rfl).trans ?_
  refine bI_h fun a2 s1 qs1 => ?_
  have rs1 := RefC.sem qs1 rfl hR
  refine (x_if_ne (tg := 10) f39_5 rfl rfl).trans (i_c ?_ ?_)
  · refine (x_iconst f39_8 rfl).trans ?_
    exact x_zreturn0 f39_9 rfl
  · refine (x_aload f39_10 rfl rfl).trans ?_
    refine (x_dup f39_11 rfl rfl).trans ?_
    refine (y_get0 (ji := 1) rfl f39_12 rfl rfl).trans ?_
    refine (g_t rfl).trans ?_
    refine (x_iconst f39_15 rfl).trans ?_
    refine (x_iadd f39_16 rfl).trans ?_
    refine (y_put0 (ji := 1) rfl f39_17 rfl rfl).trans ?_
    refine (g_t rfl).trans ?_
    refine (x_aload f39_20 rfl rfl).trans ?_
    refine (x_aload f39_21 rfl rfl).trans ?_
    refine (x_iconst f39_22 rfl).trans ?_
    refine (x_iconst f39_23 rfl).trans ?_
    refine (x_invokevirtual (G := grd (kd 3 = 2) (bnI (sem 41 0 [aA 3, aA 1, aI 0, aI 9, aU] [] (up s1 3 1 (w32 ((s1 3 1) + 1)))) fun a4 s3 => sem 39 28 [aA 3, aA 1, aA t, aI l3, aU, aU, aU] [aI a4] s3)) f39_25 rfl rfl).trans ?_
    refine (g_t rfl).trans ?_
    refine bI_h fun a4 s3 qs3 => ?_
    have rs3 := RefC.sem qs3 rfl (RefC.upd rs1 (rcb_f (c := 2) (j := 1) rfl (by decide) (by decide)))
    refine (x_istore (l2 := [aA 3, aA 1, aA t, aI l3, aI a4, aU, aU]) f39_28 rfl rfl).trans ?_
    refine (x_iload f39_30 rfl rfl).trans ?_
    refine (x_iconst f39_32 rfl).trans ?_
    refine (x_icmp_ne (tg := 42) f39_34 rfl rfl).trans (i_c ?_ ?_)
    · refine (x_iconst f39_37 rfl).trans ?_
      refine (x_goto (tg := 50) f39_39 rfl rfl).trans ?_
      exact x_kil f39_50 rfl
    · refine (x_aload f39_42 rfl rfl).trans ?_
      refine (x_aload f39_43 rfl rfl).trans ?_
      refine (x_iconst f39_44 rfl).trans ?_
      refine (x_iconst f39_45 rfl).trans ?_
      refine (x_invokevirtual (G := grd (kd 3 = 2) (bnI (sem 41 0 [aA 3, aA 1, aI 0, aI 9, aU] [] s3) fun a6 s5 => sem 39 50 [aA 3, aA 1, aA t, aI l3, aI a4, aU, aU] [aI a6] s5)) f39_47 rfl rfl).trans ?_
      refine (g_t rfl).trans ?_
      refine bI_h fun a6 s5 qs5 => ?_
      have rs5 := RefC.sem qs5 rfl rs3
      exact x_kil f39_50 rfl
set_option maxRecDepth 10000 in
theorem g39_50 {t : Int} (ht : t = 32 ∨ t = 37) {s : SG} (hR : RefC s) (l3 l4 v0 : Int) : sem 39 50 [aU, aU, aA t, aI l3, aI l4, aU, aU] [aI v0] s = if v0 = ((-9)) then some (aI 0, s) else if l3 = 15 then some (aI 1, up s t 5 (w32 ((w32 (l4 * 10)) + v0))) else if l3 = 16 then some (aI 1, up s t 6 (w32 ((w32 (l4 * 10)) + v0))) else some (aI 1, up s t 7 (w32 ((w32 (l4 * 10)) + v0))) := by
  refine (x_istore (l2 := [aU, aU, aA t, aI l3, aI l4, aI v0, aU]) f39_50 rfl rfl).trans ?_
  refine (x_iload f39_52 rfl rfl).trans ?_
  refine (x_iconst f39_54 rfl).trans ?_
  refine (x_icmp_ne (tg := 61) f39_56 rfl rfl).trans (i_c ?_ ?_)
  · refine (x_iconst f39_59 rfl).trans ?_
    exact x_zreturn0 f39_60 rfl
  · refine (x_iload f39_61 rfl rfl).trans ?_
    refine (x_iconst f39_63 rfl).trans ?_
    refine (x_imul f39_65 rfl).trans ?_
    refine (x_iload f39_66 rfl rfl).trans ?_
    refine (x_iadd f39_68 rfl).trans ?_
    refine (x_istore (l2 := [aU, aU, aA t, aI l3, aI l4, aI v0, aI (w32 ((w32 (l4 * 10)) + v0))]) f39_69 rfl rfl).trans ?_
    refine (x_iload f39_71 rfl rfl).trans ?_
    refine (x_iconst f39_72 rfl).trans ?_
    refine (x_icmp_ne (tg := 86) f39_74 rfl rfl).trans (i_c ?_ ?_)
    · refine (x_aload f39_77 rfl rfl).trans ?_
      refine (x_iload f39_78 rfl rfl).trans ?_
      refine (y_put0 (ji := 5) rfl f39_80 rfl rfl).trans ?_
      refine (g_t ((kd_t ht).1)).trans ?_
      refine (x_goto (tg := 107) f39_83 rfl rfl).trans ?_
      refine (x_kil (l2 := [aU, aU, aU, aU, aU, aU, aU]) f39_107 rfl).trans ?_
      refine (x_iconst f39_107 rfl).trans ?_
      exact x_zreturn1 f39_108 rfl
    · refine (x_iload f39_86 rfl rfl).trans ?_
      refine (x_iconst f39_87 rfl).trans ?_
      refine (x_icmp_ne (tg := 101) f39_89 rfl rfl).trans (i_c ?_ ?_)
      · refine (x_aload f39_92 rfl rfl).trans ?_
        refine (x_iload f39_93 rfl rfl).trans ?_
        refine (y_put0 (ji := 6) rfl f39_95 rfl rfl).trans ?_
        refine (g_t ((kd_t ht).1)).trans ?_
        refine (x_goto (tg := 107) f39_98 rfl rfl).trans ?_
        refine (x_kil (l2 := [aU, aU, aU, aU, aU, aU, aU]) f39_107 rfl).trans ?_
        refine (x_iconst f39_107 rfl).trans ?_
        exact x_zreturn1 f39_108 rfl
      · refine (x_aload f39_101 rfl rfl).trans ?_
        refine (x_iload f39_102 rfl rfl).trans ?_
        refine (y_put0 (ji := 7) rfl f39_104 rfl rfl).trans ?_
        refine (g_t ((kd_t ht).1)).trans ?_
        refine (x_kil (l2 := [aU, aU, aU, aU, aU, aU, aU]) f39_107 rfl).trans ?_
        refine (x_iconst f39_107 rfl).trans ?_
        exact x_zreturn1 f39_108 rfl
set_option maxRecDepth 10000 in
theorem g40_0 {s : SG} (hR : RefC s) (l2 l3 : Int) : sem 40 0 [aA 3, aA 1, aI l2, aI l3, aU] [] s = bnI (sem 80 0 [aA 1, aI (s 3 1)] [] s) fun a2 s1 => if (w32 (a2 - 48)) < l2 then some (aI ((-9)), s1) else if l3 < (w32 (a2 - 48)) then some (aI ((-9)), s1) else some (aI (w32 (a2 - 48)), s1) := by
  refine (x_aload f40_0 rfl rfl).trans ?_
  refine (x_aload f40_1 rfl rfl).trans ?_
  refine (y_get0 (ji := 1) rfl f40_2 rfl rfl).trans ?_
  refine (g_t rfl).trans ?_
  refine (x_invokevirtual (G := grd (kd 1 = 5) (bnI (sem 80 0 [aA 1, aI (s 3 1)] [] s) fun a2 s1 => sem 40 8 [aA 3, aA 1, aI l2, aI l3, aU] [aI a2] s1)) f40_5 rfl rfl).trans ?_
  refine (g_t rfl).trans ?_
  refine bI_h fun a2 s1 qs1 => ?_
  have rs1 := RefC.sem qs1 rfl hR
  refine (x_iconst f40_8 rfl).trans ?_
  refine (x_isub f40_10 rfl).trans ?_
  refine (x_istore (l2 := [aA 3, aA 1, aI l2, aI l3, aI (w32 (a2 - 48))]) f40_11 rfl rfl).trans ?_
  refine (x_iload f40_13 rfl rfl).trans ?_
  refine (x_iload f40_15 rfl rfl).trans ?_
  refine (x_icmp_lt (tg := 25) f40_16 rfl rfl).trans (i_c ?_ ?_)
  · refine (x_kil (l2 := [aU, aU, aU, aU, aU]) f40_25 rfl).trans ?_
    refine (x_iconst f40_25 rfl).trans ?_
    refine (x_goto (tg := 32) f40_27 rfl rfl).trans ?_
    exact x_ireturn f40_32 rfl
  · refine (x_iload f40_19 rfl rfl).trans ?_
    refine (x_iload f40_21 rfl rfl).trans ?_
    refine (x_icmp_le (tg := 30) f40_22 rfl rfl).trans (i_c ?_ ?_)
    · refine (x_kil (l2 := [aU, aU, aU, aU, aU]) f40_25 rfl).trans ?_
      refine (x_iconst f40_25 rfl).trans ?_
      refine (x_goto (tg := 32) f40_27 rfl rfl).trans ?_
      exact x_ireturn f40_32 rfl
    · refine (x_iload f40_30 rfl rfl).trans ?_
      refine (x_kil (l2 := [aU, aU, aU, aU, aU]) f40_32 rfl).trans ?_
      exact x_ireturn f40_32 rfl
set_option maxRecDepth 10000 in
theorem g41_0 {s : SG} (hR : RefC s) (l2 l3 : Int) : sem 41 0 [aA 3, aA 1, aI l2, aI l3, aU] [] s = bnI (sem 40 0 [aA 3, aA 1, aI l2, aI l3, aU] [] s) fun a2 s1 => if a2 = ((-9)) then some (aI a2, s1) else some (aI a2, up s1 3 1 (w32 ((s1 3 1) + 1))) := by
  refine (x_aload f41_0 rfl rfl).trans ?_
  refine (x_aload f41_1 rfl rfl).trans ?_
  refine (x_iload f41_2 rfl rfl).trans ?_
  refine (x_iload f41_3 rfl rfl).trans ?_
  refine (x_invokevirtual (G := grd (kd 3 = 2) (bnI (sem 40 0 [aA 3, aA 1, aI l2, aI l3, aU] [] s) fun a2 s1 => sem 41 7 [aA 3, aA 1, aI l2, aI l3, aU] [aI a2] s1)) f41_4 rfl rfl).trans ?_
  refine (g_t rfl).trans ?_
  refine bI_h fun a2 s1 qs1 => ?_
  have rs1 := RefC.sem qs1 rfl hR
  refine (x_istore (l2 := [aA 3, aA 1, aI l2, aI l3, aI a2]) f41_7 rfl rfl).trans ?_
  refine (x_iload f41_9 rfl rfl).trans ?_
  refine (x_iconst f41_11 rfl).trans ?_
  refine (x_icmp_eq (tg := 26) f41_13 rfl rfl).trans (i_c ?_ ?_)
  · refine (x_kil (l2 := [aU, aU, aU, aU, aI a2]) f41_26 rfl).trans ?_
    refine (x_iload f41_26 rfl rfl).trans ?_
    exact x_ireturn f41_28 rfl
  · refine (x_aload f41_16 rfl rfl).trans ?_
    refine (x_dup f41_17 rfl rfl).trans ?_
    refine (y_get0 (ji := 1) rfl f41_18 rfl rfl).trans ?_
    refine (g_t rfl).trans ?_
    refine (x_iconst f41_21 rfl).trans ?_
    refine (x_iadd f41_22 rfl).trans ?_
    refine (y_put0 (ji := 1) rfl f41_23 rfl rfl).trans ?_
    refine (g_t rfl).trans ?_
    refine (x_kil (l2 := [aU, aU, aU, aU, aI a2]) f41_26 rfl).trans ?_
    refine (x_iload f41_26 rfl rfl).trans ?_
    exact x_ireturn f41_28 rfl
set_option maxRecDepth 10000 in
theorem g42_0 {s : SG} (hR : RefC s) (l2 l3 : Int) : sem 42 0 [aA 3, aA 1, aI l2, aI l3, aU] [] s = bnI (sem 40 0 [aA 3, aA 1, aI 0, aI l2, aU] [] s) fun a2 s1 => if a2 = ((-9)) then some (aI ((-9)), s1) else bnI (sem 43 0 [aA 3, aI (w32 (l3 + a2))] [] s1) fun a4 s3 => if a4 = 0 then some (aI ((-9)), s3) else some (aI a2, up s3 3 1 (w32 ((s3 3 1) + 1))) := by
  refine (x_aload f42_0 rfl rfl).trans ?_
  refine (x_aload f42_1 rfl rfl).trans ?_
  refine (x_iconst f42_2 rfl).trans ?_
  refine (x_iload f42_3 rfl rfl).trans ?_
  refine (x_invokevirtual (G := grd (kd 3 = 2) (bnI (sem 40 0 [aA 3, aA 1, aI 0, aI l2, aU] [] s) fun a2 s1 => sem 42 7 [aA 3, aA 1, aI l2, aI l3, aU] [aI a2] s1)) f42_4 rfl rfl).trans ?_
  refine (g_t rfl).trans ?_
  refine bI_h fun a2 s1 qs1 => ?_
  have rs1 := RefC.sem qs1 rfl hR
  refine (x_istore (l2 := [aA 3, aA 1, aI l2, aI l3, aI a2]) f42_7 rfl rfl).trans ?_
  refine (x_iload f42_9 rfl rfl).trans ?_
  refine (x_iconst f42_11 rfl).trans ?_
  refine (x_icmp_eq (tg := 27) f42_13 rfl rfl).trans (i_c ?_ ?_)
  · refine (x_kil (l2 := [aU, aU, aU, aU, aU]) f42_27 rfl).trans ?_
    refine (x_iconst f42_27 rfl).trans ?_
    exact x_ireturn f42_29 rfl
  · refine (x_aload f42_16 rfl rfl).trans ?_
    refine (x_iload f42_17 rfl rfl).trans ?_
    refine (x_iload f42_18 rfl rfl).trans ?_
    refine (x_iadd f42_20 rfl).trans ?_
    refine (x_invokevirtual (G := grd (kd 3 = 2) (bnI (sem 43 0 [aA 3, aI (w32 (l3 + a2))] [] s1) fun a4 s3 => sem 42 24 [aA 3, aA 1, aI l2, aI l3, aI a2] [aI a4] s3)) f42_21 rfl rfl).trans ?_
    refine (g_t rfl).trans ?_
    refine bI_h fun a4 s3 qs3 => ?_
    have rs3 := RefC.sem qs3 rfl rs1
    refine (x_if_ne (tg := 30) f42_24 rfl rfl).trans (i_c ?_ ?_)
    · refine (x_kil (l2 := [aU, aU, aU, aU, aU]) f42_27 rfl).trans ?_
      refine (x_iconst f42_27 rfl).trans ?_
      exact x_ireturn f42_29 rfl
    · refine (x_aload f42_30 rfl rfl).trans ?_
      refine (x_dup f42_31 rfl rfl).trans ?_
      refine (y_get0 (ji := 1) rfl f42_32 rfl rfl).trans ?_
      refine (g_t rfl).trans ?_
      refine (x_iconst f42_35 rfl).trans ?_
      refine (x_iadd f42_36 rfl).trans ?_
      refine (y_put0 (ji := 1) rfl f42_37 rfl rfl).trans ?_
      refine (g_t rfl).trans ?_
      refine (x_iload f42_40 rfl rfl).trans ?_
      exact x_ireturn f42_42 rfl
set_option maxRecDepth 10000 in
theorem g43_0 {s : SG} (hR : RefC s) (l1 : Int) : sem 43 0 [aA 3, aI l1] [] s = if l1 < 0 then some (aI 0, s) else if l1 < 18 then grd ((0 : Int) ≤ l1 ∧ l1 < 18) (if (s 4 l1) = 0 then some (aI 1, up s 4 l1 1) else some (aI 0, s)) else some (aI 0, s) := by
  refine (x_iload f43_0 rfl rfl).trans ?_
  refine (x_if_lt (tg := 19) f43_1 rfl rfl).trans (i_c ?_ ?_)
  · refine (x_kil (l2 := [aU, aU]) f43_19 rfl).trans ?_
    refine (x_iconst f43_19 rfl).trans ?_
    exact x_zreturn0 f43_20 rfl
  · refine (x_iload f43_4 rfl rfl).trans ?_
    refine (x_iconst f43_5 rfl).trans ?_
    refine (x_icmp_ge (tg := 19) f43_7 rfl rfl).trans (i_c ?_ ?_)
    · refine (x_aload f43_10 rfl rfl).trans ?_
      refine (y_get2 (ji := 0) rfl f43_11 rfl rfl).trans ?_
      refine (g_t rfl).trans ?_
      refine (g_t (by rw [show s 3 0 = 4 from hR.2.2.2.2.2.2.2.2.2.2.1]; decide)).trans ?_
      rw [show s 3 0 = 4 from hR.2.2.2.2.2.2.2.2.2.2.1]
      refine (x_iload f43_14 rfl rfl).trans ?_
      refine (x_baload f43_15 rfl).trans ?_
      refine (g_t rfl).trans ?_
      refine g_kl (n := 18) rfl fun hg1 => ?_
      refine (x_if_eq (tg := 21) f43_16 rfl rfl).trans (i_c ?_ ?_)
      · refine (x_aload f43_21 rfl rfl).trans ?_
        refine (y_get2 (ji := 0) rfl f43_22 rfl rfl).trans ?_
        refine (g_t rfl).trans ?_
        refine (g_t (by rw [show s 3 0 = 4 from hR.2.2.2.2.2.2.2.2.2.2.1]; decide)).trans ?_
        rw [show s 3 0 = 4 from hR.2.2.2.2.2.2.2.2.2.2.1]
        refine (x_iload f43_25 rfl rfl).trans ?_
        refine (x_iconst f43_26 rfl).trans ?_
        refine (x_bastore f43_27 rfl).trans ?_
        refine (g_t rfl).trans ?_
        refine (g_kt (n := 18) rfl hg1).trans ?_
        refine (g_t (by decide)).trans ?_
        refine (x_iconst f43_28 rfl).trans ?_
        exact x_zreturn1 f43_29 rfl
      · refine (x_kil (l2 := [aU, aU]) f43_19 rfl).trans ?_
        refine (x_iconst f43_19 rfl).trans ?_
        exact x_zreturn0 f43_20 rfl
    · refine (x_kil (l2 := [aU, aU]) f43_19 rfl).trans ?_
      refine (x_iconst f43_19 rfl).trans ?_
      exact x_zreturn0 f43_20 rfl
set_option maxRecDepth 10000 in
theorem g44_0 {s : SG} (hR : RefC s) (l1 l2 : Int) : sem 44 0 [aA 3, aI l1, aI l2, aU] [] s = sem 44 6 [aA 3, aI l1, aI l2, aI (max l1 0)] [] s := by
  refine (x_iload f44_0 rfl rfl).trans ?_
  refine (x_iconst f44_1 rfl).trans ?_
  refine (x_fadd f44_2 rfl rfl).trans ?_
  refine (x_istore (l2 := [aA 3, aI l1, aI l2, aI (max l1 0)]) f44_5 rfl rfl).trans ?_
  rfl
set_option maxRecDepth 10000 in
theorem g44_6 {s : SG} (hR : RefC s) (l1 l2 l3 : Int) : sem 44 6 [aA 3, aI l1, aI l2, aI l3] [] s = if l3 < (w32 (l1 + l2)) then if l3 < 18 then grd ((0 : Int) ≤ l3 ∧ l3 < 18) (if (s 4 l3) = 0 then some (aI 0, s) else sem 44 6 [aA 3, aI l1, aI l2, aI (w32 (l3 + 1))] [] s) else some (aI 1, s) else some (aI 1, s) := by
  refine (x_iload f44_6 rfl rfl).trans ?_
  refine (x_iload f44_7 rfl rfl).trans ?_
  refine (x_iload f44_8 rfl rfl).trans ?_
  refine (x_iadd f44_9 rfl).trans ?_
  refine (x_icmp_ge (tg := 36) f44_10 rfl rfl).trans (i_c ?_ ?_)
  · refine (x_iload f44_13 rfl rfl).trans ?_
    refine (x_iconst f44_14 rfl).trans ?_
    refine (x_icmp_ge (tg := 36) f44_16 rfl rfl).trans (i_c ?_ ?_)
    · refine (x_aload f44_19 rfl rfl).trans ?_
      refine (y_get2 (ji := 0) rfl f44_20 rfl rfl).trans ?_
      refine (g_t rfl).trans ?_
      refine (g_t (by rw [show s 3 0 = 4 from hR.2.2.2.2.2.2.2.2.2.2.1]; decide)).trans ?_
      rw [show s 3 0 = 4 from hR.2.2.2.2.2.2.2.2.2.2.1]
      refine (x_iload f44_23 rfl rfl).trans ?_
      refine (x_baload f44_24 rfl).trans ?_
      refine (g_t rfl).trans ?_
      refine g_kl (n := 18) rfl fun hg1 => ?_
      refine (x_if_ne (tg := 30) f44_25 rfl rfl).trans (i_c ?_ ?_)
      · refine (x_iconst f44_28 rfl).trans ?_
        exact x_zreturn0 f44_29 rfl
      · refine (x_iinc (l2 := [aA 3, aI l1, aI l2, aI (w32 (l3 + 1))]) f44_30 rfl rfl rfl).trans ?_
        refine (x_goto (tg := 6) f44_33 rfl rfl).trans ?_
        rfl
    · refine (x_kil (l2 := [aU, aU, aU, aU]) f44_36 rfl).trans ?_
      refine (x_iconst f44_36 rfl).trans ?_
      exact x_zreturn1 f44_37 rfl
  · refine (x_kil (l2 := [aU, aU, aU, aU]) f44_36 rfl).trans ?_
    refine (x_iconst f44_36 rfl).trans ?_
    exact x_zreturn1 f44_37 rfl
set_option maxRecDepth 10000 in
theorem g46_0 {t : Int} (ht : t = 32 ∨ t = 37) {s : SG} (hR : RefC s) : sem 46 0 [aA 23, aA t, aA 16] [] s = bnV (sem 49 0 [aA 23, aA t, aA 16, aU, aU] [] (up (up s 23 9 ((-9))) 23 10 ((-9)))) fun s1 => some (aU, s1) := by
  refine (x_aload f46_0 rfl rfl).trans ?_
  refine (x_iconst f46_1 rfl).trans ?_
  refine (y_put0 (ji := 9) rfl f46_3 rfl rfl).trans ?_
  refine (g_t rfl).trans ?_
  refine (x_aload f46_6 rfl rfl).trans ?_
  refine (x_iconst f46_7 rfl).trans ?_
  refine (y_put0 (ji := 10) rfl f46_9 rfl rfl).trans ?_
  refine (g_t rfl).trans ?_
  refine (x_aload f46_12 rfl rfl).trans ?_
  refine (x_aload f46_13 rfl rfl).trans ?_
  refine (x_aload f46_14 rfl rfl).trans ?_
  refine (x_invokevirtual (G := grd (kd 23 = 3) (bnV (sem 49 0 [aA 23, aA t, aA 16, aU, aU] [] (up (up s 23 9 ((-9))) 23 10 ((-9)))) fun s1 => sem 46 18 [aA 23, aA t, aA 16] [] s1)) f46_15 rfl rfl).trans ?_
  refine (g_t rfl).trans ?_
  refine bV_h fun s1 qs1 => ?_
  have rs1 := RefC.sem qs1 rfl (RefC.upd (RefC.upd hR (rcb_f (c := 3) (j := 9) rfl (by decide) (by decide))) (rcb_f (c := 3) (j := 10) rfl (by decide) (by decide)))
  exact x_return f46_18 rfl
set_option maxRecDepth 10000 in
theorem g47_0 {t : Int} (ht : t = 32 ∨ t = 37) {s : SG} (hR : RefC s) (l3 : Int) : sem 47 0 [aA 23, aA t, aA 16, aI l3] [] s = bnV (sem 49 0 [aA 23, aA t, aA 16, aU, aU] [] (up (up s 23 9 l3) 23 10 ((-9)))) fun s1 => some (aU, s1) := by
  refine (x_aload f47_0 rfl rfl).trans ?_
  refine (x_iload f47_1 rfl rfl).trans ?_
  refine (y_put0 (ji := 9) rfl f47_2 rfl rfl).trans ?_
  refine (g_t rfl).trans ?_
  refine (x_aload f47_5 rfl rfl).trans ?_
  refine (x_iconst f47_6 rfl).trans ?_
  refine (y_put0 (ji := 10) rfl f47_8 rfl rfl).trans ?_
  refine (g_t rfl).trans ?_
  refine (x_aload f47_11 rfl rfl).trans ?_
  refine (x_aload f47_12 rfl rfl).trans ?_
  refine (x_aload f47_13 rfl rfl).trans ?_
  refine (x_invokevirtual (G := grd (kd 23 = 3) (bnV (sem 49 0 [aA 23, aA t, aA 16, aU, aU] [] (up (up s 23 9 l3) 23 10 ((-9)))) fun s1 => sem 47 17 [aA 23, aA t, aA 16, aI l3] [] s1)) f47_14 rfl rfl).trans ?_
  refine (g_t rfl).trans ?_
  refine bV_h fun s1 qs1 => ?_
  have rs1 := RefC.sem qs1 rfl (RefC.upd (RefC.upd hR (rcb_f (c := 3) (j := 9) rfl (by decide) (by decide))) (rcb_f (c := 3) (j := 10) rfl (by decide) (by decide)))
  exact x_return f47_17 rfl
set_option maxRecDepth 10000 in
theorem g48_0 {t : Int} (ht : t = 32 ∨ t = 37) {s : SG} (hR : RefC s) (l3 l4 l5 : Int) : sem 48 0 [aA 23, aA t, aA 16, aI l3, aI l4, aI l5] [] s = bnV (sem 49 0 [aA 23, aA t, aA 16, aU, aU] [] (up (up (up (up s 23 9 ((-9))) 23 10 l3) 23 11 l4) 23 12 l5)) fun s1 => some (aU, s1) := by
  refine (x_aload f48_0 rfl rfl).trans ?_
  refine (x_iconst f48_1 rfl).trans ?_
  refine (y_put0 (ji := 9) rfl f48_3 rfl rfl).trans ?_
  refine (g_t rfl).trans ?_
  refine (x_aload f48_6 rfl rfl).trans ?_
  refine (x_iload f48_7 rfl rfl).trans ?_
  refine (y_put0 (ji := 10) rfl f48_8 rfl rfl).trans ?_
  refine (g_t rfl).trans ?_
  refine (x_aload f48_11 rfl rfl).trans ?_
  refine (x_iload f48_12 rfl rfl).trans ?_
  refine (y_put0 (ji := 11) rfl f48_14 rfl rfl).trans ?_
  refine (g_t rfl).trans ?_
  refine (x_aload f48_17 rfl rfl).trans ?_
  refine (x_iload f48_18 rfl rfl).trans ?_
  refine (y_put0 (ji := 12) rfl f48_20 rfl rfl).trans ?_
  refine (g_t rfl).trans ?_
  refine (x_aload f48_23 rfl rfl).trans ?_
  refine (x_aload f48_24 rfl rfl).trans ?_
  refine (x_aload f48_25 rfl rfl).trans ?_
  refine (x_invokevirtual (G := grd (kd 23 = 3) (bnV (sem 49 0 [aA 23, aA t, aA 16, aU, aU] [] (up (up (up (up s 23 9 ((-9))) 23 10 l3) 23 11 l4) 23 12 l5)) fun s1 => sem 48 29 [aA 23, aA t, aA 16, aI l3, aI l4, aI l5] [] s1)) f48_26 rfl rfl).trans ?_
  refine (g_t rfl).trans ?_
  refine bV_h fun s1 qs1 => ?_
  have rs1 := RefC.sem qs1 rfl (RefC.upd (RefC.upd (RefC.upd (RefC.upd hR (rcb_f (c := 3) (j := 9) rfl (by decide) (by decide))) (rcb_f (c := 3) (j := 10) rfl (by decide) (by decide))) (rcb_f (c := 3) (j := 11) rfl (by decide) (by decide))) (rcb_f (c := 3) (j := 12) rfl (by decide) (by decide)))
  exact x_return f48_29 rfl
set_option maxRecDepth 10000 in
theorem g49_0 {t : Int} (ht : t = 32 ∨ t = 37) {s : SG} (hR : RefC s) : sem 49 0 [aA 23, aA t, aA 16, aU, aU] [] s = sem 49 27 [aA 23, aA t, aA 16, aI 0, aU] [] (up (up (up s 23 6 (min (s t 4) 3)) 23 7 (s 16 7)) 23 8 0) := by
  refine (x_aload f49_0 rfl rfl).trans ?_
  refine (x_aload f49_1 rfl rfl).trans ?_
  refine (y_get0 (ji := 4) rfl f49_2 rfl rfl).trans ?_
  refine (g_t ((kd_t ht).1)).trans ?_
  refine (x_iconst f49_5 rfl).trans ?_
  refine (x_fsub f49_6 rfl rfl).trans ?_
  refine (y_put0 (ji := 6) rfl f49_9 rfl rfl).trans ?_
  refine (g_t rfl).trans ?_
  refine (x_aload f49_12 rfl rfl).trans ?_
  refine (x_aload f49_13 rfl rfl).trans ?_
  refine (y_get0 (ji := 7) rfl f49_14 rfl rfl).trans ?_
  refine (g_t rfl).trans ?_
  rw [show (up s 23 6 (min (s t 4) 3)) 16 7 = s 16 7 from by rw [up_ne (by decide)]]
  refine (y_put0 (ji := 7) rfl f49_17 rfl rfl).trans ?_
  refine (g_t rfl).trans ?_
  refine (x_aload f49_20 rfl rfl).trans ?_
  refine (x_iconst f49_21 rfl).trans ?_
  refine (y_put0 (ji := 8) rfl f49_22 rfl rfl).trans ?_
  refine (g_t rfl).trans ?_
  refine (x_iconst f49_25 rfl).trans ?_
  refine (x_istore (l2 := [aA 23, aA t, aA 16, aI 0, aU]) f49_26 rfl rfl).trans ?_
  rfl
set_option maxRecDepth 10000 in
theorem g49_27 {t : Int} (ht : t = 32 ∨ t = 37) {s : SG} (hR : RefC s) (l3 : Int) : sem 49 27 [aA 23, aA t, aA 16, aI l3, aU] [] s = if l3 < (s 23 6) then bnI (sem 22 0 [aA 16, aI l3] [] s) fun a2 s1 => grd ((0 : Int) ≤ l3 ∧ l3 < 3) (sem 49 27 [aA 23, aA t, aA 16, aI (w32 (l3 + 1)), aU] [] (up (up s1 28 l3 a2) 29 l3 0)) else sem 49 61 [aA 23, aA t, aA 16, aI 0, aU] [] s := by
  refine (x_iload f49_27 rfl rfl).trans ?_
  refine (x_aload f49_28 rfl rfl).trans ?_
  refine (y_get0 (ji := 6) rfl f49_29 rfl rfl).trans ?_
  refine (g_t rfl).trans ?_
  refine (x_icmp_ge (tg := 59) f49_32 rfl rfl).trans (i_c ?_ ?_)
  · refine (x_aload f49_35 rfl rfl).trans ?_
    refine (y_get2 (ji := 4) rfl f49_36 rfl rfl).trans ?_
    refine (g_t rfl).trans ?_
    refine (g_t (by rw [show s 23 4 = 28 from hR.2.2.2.2.2.2.2.2.2.2.2.2.2.2.2.2.2.2.2.2.2.2.2.2.2.2.2.2.2.1]; decide)).trans ?_
    rw [show s 23 4 = 28 from hR.2.2.2.2.2.2.2.2.2.2.2.2.2.2.2.2.2.2.2.2.2.2.2.2.2.2.2.2.2.1]
    refine (x_iload f49_39 rfl rfl).trans ?_
    refine (x_aload f49_40 rfl rfl).trans ?_
    refine (x_iload f49_41 rfl rfl).trans ?_
    refine (x_invokevirtual (G := grd (kd 16 = 1) (bnI (sem 22 0 [aA 16, aI l3] [] s) fun a2 s1 => sem 49 45 [aA 23, aA t, aA 16, aI l3, aU] [aI a2, aI l3, aA 28] s1)) f49_42 rfl rfl).trans ?_
    refine (g_t rfl).trans ?_
    refine bI_h fun a2 s1 qs1 => ?_
    have rs1 := RefC.sem qs1 rfl hR
    refine (x_iastore f49_45 rfl).trans ?_
    refine (g_t rfl).trans ?_
    refine g_kl (n := 3) rfl fun hg3 => ?_
    refine (x_aload f49_46 rfl rfl).trans ?_
    refine (y_get2 (ji := 5) rfl f49_47 rfl rfl).trans ?_
    refine (g_t rfl).trans ?_
    refine (g_t (by rw [show (up s1 28 l3 a2) 23 5 = 29 from (by rw [up_ne (by decide)]; exact rs1.2.2.2.2.2.2.2.2.2.2.2.2.2.2.2.2.2.2.2.2.2.2.2.2.2.2.2.2.2.2.1)]; decide)).trans ?_
    rw [show (up s1 28 l3 a2) 23 5 = 29 from (by rw [up_ne (by decide)]; exact rs1.2.2.2.2.2.2.2.2.2.2.2.2.2.2.2.2.2.2.2.2.2.2.2.2.2.2.2.2.2.2.1)]
    refine (x_iload f49_50 rfl rfl).trans ?_
    refine (x_iconst f49_51 rfl).trans ?_
    refine (x_iastore f49_52 rfl).trans ?_
    refine (g_t rfl).trans ?_
    refine (g_kt (n := 3) rfl hg3).trans ?_
    refine (x_iinc (l2 := [aA 23, aA t, aA 16, aI (w32 (l3 + 1)), aU]) f49_53 rfl rfl rfl).trans ?_
    refine (x_goto (tg := 27) f49_56 rfl rfl).trans ?_
    rfl
  · refine (x_iconst f49_59 rfl).trans ?_
    refine (x_istore (l2 := [aA 23, aA t, aA 16, aI 0, aU]) f49_60 rfl rfl).trans ?_
    rfl
set_option maxRecDepth 10000 in
theorem g49_61 {t : Int} (ht : t = 32 ∨ t = 37) {s : SG} (hR : RefC s) (l3 : Int) : sem 49 61 [aA 23, aA t, aA 16, aI l3, aU] [] s = if l3 < 6 then bnV (sem 50 0 [aA 23, aA 16, aI l3, aU] [] s) fun s1 => bnV (sem 51 0 [aA 23, aA 16, aI l3, aU, aU] [] s1) fun s2 => bnV (sem 53 0 [aA 23, aI l3] [] s2) fun s3 => sem 49 87 [aA 23, aA t, aA 16, aI l3, aI 0] [] s3 else some (aU, s) := by
  refine (x_iload f49_61 rfl rfl).trans ?_
  refine (x_iconst f49_62 rfl).trans ?_
  refine (x_icmp_ge (tg := 117) f49_64 rfl rfl).trans (i_c ?_ ?_)
  · refine (x_aload f49_67 rfl rfl).trans ?_
    refine (x_aload f49_68 rfl rfl).trans ?_
    refine (x_iload f49_69 rfl rfl).trans ?_
    refine (x_invokevirtual (G := grd (kd 23 = 3) (bnV (sem 50 0 [aA 23, aA 16, aI l3, aU] [] s) fun s1 => sem 49 73 [aA 23, aA t, aA 16, aI l3, aU] [] s1)) f49_70 rfl rfl).trans ?_
    refine (g_t rfl).trans ?_
    refine bV_h fun s1 qs1 => ?_
    have rs1 := RefC.sem qs1 rfl hR
    refine (x_aload f49_73 rfl rfl).trans ?_
    refine (x_aload f49_74 rfl rfl).trans ?_
    refine (x_iload f49_75 rfl rfl).trans ?_
    refine (x_invokevirtual (G := grd (kd 23 = 3) (bnV (sem 51 0 [aA 23, aA 16, aI l3, aU, aU] [] s1) fun s2 => sem 49 79 [aA 23, aA t, aA 16, aI l3, aU] [] s2)) f49_76 rfl rfl).trans ?_
    refine (g_t rfl).trans ?_
    refine bV_h fun s2 qs2 => ?_
    have rs2 := RefC.sem qs2 rfl rs1
    refine (x_aload f49_79 rfl rfl).trans ?_
    refine (x_iload f49_80 rfl rfl).trans ?_
    refine (x_invokevirtual (G := grd (kd 23 = 3) (bnV (sem 53 0 [aA 23, aI l3] [] s2) fun s3 => sem 49 84 [aA 23, aA t, aA 16, aI l3, aU] [] s3)) f49_81 rfl rfl).trans ?_
    refine (g_t rfl).trans ?_
    refine bV_h fun s3 qs3 => ?_
    have rs3 := RefC.sem qs3 rfl rs2
    refine (x_iconst f49_84 rfl).trans ?_
    refine (x_istore (l2 := [aA 23, aA t, aA 16, aI l3, aI 0]) f49_85 rfl rfl).trans ?_
    rfl
  · exact x_return f49_117 rfl
set_option maxRecDepth 10000 in
theorem g49_87 {t : Int} (ht : t = 32 ∨ t = 37) {s : SG} (hR : RefC s) (l3 l4 : Int) : sem 49 87 [aA 23, aA t, aA 16, aI l3, aI l4] [] s = if l4 < (s 23 6) then bnV (sem 54 0 [aA 23, aA t, aA 16, aI l4, aI l3, aU, aU, aU] [] s) fun s1 => sem 49 87 [aA 23, aA t, aA 16, aI l3, aI (w32 (l4 + 1))] [] s1 else sem 49 61 [aA 23, aA t, aA 16, aI (w32 (l3 + 1)), aU] [] s := by
  refine (x_iload f49_87 rfl rfl).trans ?_
  refine (x_aload f49_89 rfl rfl).trans ?_
  refine (y_get0 (ji := 6) rfl f49_90 rfl rfl).trans ?_
  refine (g_t rfl).trans ?_
  refine (x_icmp_ge (tg := 111) f49_93 rfl rfl).trans (i_c ?_ ?_)
  · refine (x_aload f49_96 rfl rfl).trans ?_
    refine (x_aload f49_97 rfl rfl).trans ?_
    refine (x_aload f49_98 rfl rfl).trans ?_
    refine (x_iload f49_99 rfl rfl).trans ?_
    refine (x_iload f49_101 rfl rfl).trans ?_
    refine (x_invokevirtual (G := grd (kd 23 = 3) (bnV (sem 54 0 [aA 23, aA t, aA 16, aI l4, aI l3, aU, aU, aU] [] s) fun s1 => sem 49 105 [aA 23, aA t, aA 16, aI l3, aI l4] [] s1)) f49_102 rfl rfl).trans ?_
    refine (g_t rfl).trans ?_
    refine bV_h fun s1 qs1 => ?_
    have rs1 := RefC.sem qs1 rfl hR
    refine (x_iinc (l2 := [aA 23, aA t, aA 16, aI l3, aI (w32 (l4 + 1))]) f49_105 rfl rfl rfl).trans ?_
    refine (x_goto (tg := 87) f49_108 rfl rfl).trans ?_
    rfl
  · refine (x_iinc (l2 := [aA 23, aA t, aA 16, aI (w32 (l3 + 1)), aI l4]) f49_111 rfl rfl rfl).trans ?_
    refine (x_goto (tg := 61) f49_114 rfl rfl).trans ?_
    exact x_kil f49_61 rfl
set_option maxRecDepth 10000 in
theorem g50_0 {s : SG} (hR : RefC s) (l2 : Int) : sem 50 0 [aA 23, aA 16, aI l2, aU] [] s = sem 50 2 [aA 23, aA 16, aI l2, aI 0] [] s := by
  refine (x_iconst f50_0 rfl).trans ?_
  refine (x_istore (l2 := [aA 23, aA 16, aI l2, aI 0]) f50_1 rfl rfl).trans ?_
  rfl
set_option maxRecDepth 10000 in
theorem g50_2 {s : SG} (hR : RefC s) (l2 l3 : Int) : sem 50 2 [aA 23, aA 16, aI l2, aI l3] [] s = if l3 < (s 16 10) then if l3 < 6 then grd ((0 : Int) ≤ l3 ∧ l3 < 6) (if (s 20 l3) = l2 then bnV (sem 52 0 [aA 23, aI (s 21 l3), aI (s 22 l3), aU] [] s) fun s2 => sem 50 2 [aA 23, aA 16, aI l2, aI (w32 (l3 + 1))] [] s2 else sem 50 2 [aA 23, aA 16, aI l2, aI (w32 (l3 + 1))] [] s) else some (aU, s) else some (aU, s) := by
  refine (x_iload f50_2 rfl rfl).trans ?_
  refine (x_aload f50_3 rfl rfl).trans ?_
  refine (y_get0 (ji := 10) rfl f50_4 rfl rfl).trans ?_
  refine (g_t rfl).trans ?_
  refine (x_icmp_ge (tg := 48) f50_7 rfl rfl).trans (i_c ?_ ?_)
  · refine (x_iload f50_10 rfl rfl).trans ?_
    refine (x_iconst f50_11 rfl).trans ?_
    refine (x_icmp_ge (tg := 48) f50_13 rfl rfl).trans (i_c ?_ ?_)
    · refine (x_aload f50_16 rfl rfl).trans ?_
      refine (y_get2 (ji := 3) rfl f50_17 rfl rfl).trans ?_
      refine (g_t rfl).trans ?_
      refine (g_t (by rw [show s 16 3 = 20 from hR.2.2.2.2.2.2.2.2.2.2.2.2.2.2.2.2.2.2.2.2.2.2.1]; decide)).trans ?_
      rw [show s 16 3 = 20 from hR.2.2.2.2.2.2.2.2.2.2.2.2.2.2.2.2.2.2.2.2.2.2.1]
      refine (x_iload f50_20 rfl rfl).trans ?_
      refine (x_iaload f50_21 rfl).trans ?_
      refine (g_t rfl).trans ?_
      refine g_kl (n := 6) rfl fun hg1 => ?_
      refine (x_iload f50_22 rfl rfl).trans ?_
      refine (x_icmp_ne (tg := 42) f50_23 rfl rfl).trans (i_c ?_ ?_)
      · refine (x_aload f50_26 rfl rfl).trans ?_
        refine (x_aload f50_27 rfl rfl).trans ?_
        refine (y_get2 (ji := 4) rfl f50_28 rfl rfl).trans ?_
        refine (g_t rfl).trans ?_
        refine (g_t (by rw [show s 16 4 = 21 from hR.2.2.2.2.2.2.2.2.2.2.2.2.2.2.2.2.2.2.2.2.2.2.2.1]; decide)).trans ?_
        rw [show s 16 4 = 21 from hR.2.2.2.2.2.2.2.2.2.2.2.2.2.2.2.2.2.2.2.2.2.2.2.1]
        refine (x_iload f50_31 rfl rfl).trans ?_
        refine (x_iaload f50_32 rfl).trans ?_
        refine (g_t rfl).trans ?_
        refine (g_kt (n := 6) rfl hg1).trans ?_
        refine (x_aload f50_33 rfl rfl).trans ?_
        refine (y_get2 (ji := 5) rfl f50_34 rfl rfl).trans ?_
        refine (g_t rfl).trans ?_
        refine (g_t (by rw [show s 16 5 = 22 from hR.2.2.2.2.2.2.2.2.2.2.2.2.2.2.2.2.2.2.2.2.2.2.2.2.1]; decide)).trans ?_
        rw [show s 16 5 = 22 from hR.2.2.2.2.2.2.2.2.2.2.2.2.2.2.2.2.2.2.2.2.2.2.2.2.1]
        refine (x_iload f50_37 rfl rfl).trans ?_
        refine (x_iaload f50_38 rfl).trans ?_
        refine (g_t rfl).trans ?_
        refine (g_kt (n := 6) rfl hg1).trans ?_
        refine (x_invokevirtual (G := grd (kd 23 = 3) (bnV (sem 52 0 [aA 23, aI (s 21 l3), aI (s 22 l3), aU] [] s) fun s2 => sem 50 42 [aA 23, aA 16, aI l2, aI l3] [] s2)) f50_39 rfl rfl).trans ?_
        refine (g_t rfl).trans ?_
        refine bV_h fun s2 qs2 => ?_
        have rs2 := RefC.sem qs2 rfl hR
        refine (x_iinc (l2 := [aA 23, aA 16, aI l2, aI (w32 (l3 + 1))]) f50_42 rfl rfl rfl).trans ?_
        refine (x_goto (tg := 2) f50_45 rfl rfl).trans ?_
        rfl
      · refine (x_iinc (l2 := [aA 23, aA 16, aI l2, aI (w32 (l3 + 1))]) f50_42 rfl rfl rfl).trans ?_
        refine (x_goto (tg := 2) f50_45 rfl rfl).trans ?_
        rfl
    · refine (x_kil (l2 := [aU, aU, aU, aU]) f50_48 rfl).trans ?_
      exact x_return f50_48 rfl
  · refine (x_kil (l2 := [aU, aU, aU, aU]) f50_48 rfl).trans ?_
    exact x_return f50_48 rfl
set_option maxRecDepth 10000 in
theorem g51_0 {s : SG} (hR : RefC s) (l2 : Int) : sem 51 0 [aA 23, aA 16, aI l2, aU, aU] [] s = if (s 16 8) = 1 then if (0 : Int) < l2 then sem 51 14 [aA 23, aA 16, aI l2, aI 0, aU] [] s else sem 51 46 [aA 23, aA 16, aI l2, aU, aU] [] s else sem 51 46 [aA 23, aA 16, aI l2, aU, aU] [] s := by
  refine (x_aload f51_0 rfl rfl).trans ?_
  refine (y_get0 (ji := 8) rfl f51_1 rfl rfl).trans ?_
  refine (g_t rfl).trans ?_
  refine (x_iconst f51_4 rfl).trans ?_
  refine (x_icmp_ne (tg := 46) f51_5 rfl rfl).trans (i_c ?_ ?_)
  · refine (x_iload f51_8 rfl rfl).trans ?_
    refine (x_if_le (tg := 46) f51_9 rfl rfl).trans (i_c ?_ ?_)
    · refine (x_iconst f51_12 rfl).trans ?_
      refine (x_istore (l2 := [aA 23, aA 16, aI l2, aI 0, aU]) f51_13 rfl rfl).trans ?_
      rfl
    · rfl
  · rfl
set_option maxRecDepth 10000 in
theorem g51_14 {s : SG} (hR : RefC s) (l2 l3 : Int) : sem 51 14 [aA 23, aA 16, aI l2, aI l3, aU] [] s = if l3 < (s 23 6) then grd ((0 : Int) ≤ l3 ∧ l3 < 3) (if (s 28 l3) = 0 then bnV (sem 52 0 [aA 23, aI l3, aI (s 16 9), aU] [] s) fun s2 => sem 51 14 [aA 23, aA 16, aI l2, aI (w32 (l3 + 1)), aU] [] s2 else sem 51 14 [aA 23, aA 16, aI l2, aI (w32 (l3 + 1)), aU] [] s) else sem 51 46 [aA 23, aA 16, aI l2, aU, aU] [] s := by
  refine (x_iload f51_14 rfl rfl).trans ?_
  refine (x_aload f51_15 rfl rfl).trans ?_
  refine (y_get0 (ji := 6) rfl f51_16 rfl rfl).trans ?_
  refine (g_t rfl).trans ?_
  refine (x_icmp_ge (tg := 46) f51_19 rfl rfl).trans (i_c ?_ ?_)
  · refine (x_aload f51_22 rfl rfl).trans ?_
    refine (y_get2 (ji := 4) rfl f51_23 rfl rfl).trans ?_
    refine (g_t rfl).trans ?_
    refine (g_t (by rw [show s 23 4 = 28 from hR.2.2.2.2.2.2.2.2.2.2.2.2.2.2.2.2.2.2.2.2.2.2.2.2.2.2.2.2.2.1]; decide)).trans ?_
    rw [show s 23 4 = 28 from hR.2.2.2.2.2.2.2.2.2.2.2.2.2.2.2.2.2.2.2.2.2.2.2.2.2.2.2.2.2.1]
    refine (x_iload f51_26 rfl rfl).trans ?_
    refine (x_iaload f51_27 rfl).trans ?_
    refine (g_t rfl).trans ?_
    refine g_kl (n := 3) rfl fun hg1 => ?_
    refine (x_if_ne (tg := 40) f51_28 rfl rfl).trans (i_c ?_ ?_)
    · refine (x_aload f51_31 rfl rfl).trans ?_
      refine (x_iload f51_32 rfl rfl).trans ?_
      refine (x_aload f51_33 rfl rfl).trans ?_
      refine (y_get0 (ji := 9) rfl f51_34 rfl rfl).trans ?_
      refine (g_t rfl).trans ?_
      refine (x_invokevirtual (G := grd (kd 23 = 3) (bnV (sem 52 0 [aA 23, aI l3, aI (s 16 9), aU] [] s) fun s2 => sem 51 40 [aA 23, aA 16, aI l2, aI l3, aU] [] s2)) f51_37 rfl rfl).trans ?_
      refine (g_t rfl).trans ?_
      refine bV_h fun s2 qs2 => ?_
      have rs2 := RefC.sem qs2 rfl hR
      refine (x_iinc (l2 := [aA 23, aA 16, aI l2, aI (w32 (l3 + 1)), aU]) f51_40 rfl rfl rfl).trans ?_
      refine (x_goto (tg := 14) f51_43 rfl rfl).trans ?_
      rfl
    · refine (x_iinc (l2 := [aA 23, aA 16, aI l2, aI (w32 (l3 + 1)), aU]) f51_40 rfl rfl rfl).trans ?_
      refine (x_goto (tg := 14) f51_43 rfl rfl).trans ?_
      rfl
  · exact x_kil f51_46 rfl
set_option maxRecDepth 10000 in
theorem g51_46 {s : SG} (hR : RefC s) (l2 : Int) : sem 51 46 [aA 23, aA 16, aI l2, aU, aU] [] s = if (s 16 8) = 2 then if l2 = (s 16 9) then sem 51 70 [aA 23, aU, aU, aI (s 23 7), aI 0] [] s else some (aU, s) else some (aU, s) := by
  refine (x_aload f51_46 rfl rfl).trans ?_
  refine (y_get0 (ji := 8) rfl f51_47 rfl rfl).trans ?_
  refine (g_t rfl).trans ?_
  refine (x_iconst f51_50 rfl).trans ?_
  refine (x_icmp_ne (tg := 101) f51_51 rfl rfl).trans (i_c ?_ ?_)
  · refine (x_iload f51_54 rfl rfl).trans ?_
    refine (x_aload f51_55 rfl rfl).trans ?_
    refine (y_get0 (ji := 9) rfl f51_56 rfl rfl).trans ?_
    refine (g_t rfl).trans ?_
    refine (x_icmp_ne (tg := 101) f51_59 rfl rfl).trans (i_c ?_ ?_)
    · refine (x_aload f51_62 rfl rfl).trans ?_
      refine (y_get0 (ji := 7) rfl f51_63 rfl rfl).trans ?_
      refine (g_t rfl).trans ?_
      refine (x_istore (l2 := [aA 23, aA 16, aI l2, aI (s 23 7), aU]) f51_66 rfl rfl).trans ?_
      refine (x_iconst f51_67 rfl).trans ?_
      refine (x_istore (l2 := [aA 23, aA 16, aI l2, aI (s 23 7), aI 0]) f51_68 rfl rfl).trans ?_
      exact x_kil f51_70 rfl
    · refine (x_kil (l2 := [aU, aU, aU, aU, aU]) f51_101 rfl).trans ?_
      exact x_return f51_101 rfl
  · refine (x_kil (l2 := [aU, aU, aU, aU, aU]) f51_101 rfl).trans ?_
    exact x_return f51_101 rfl
set_option maxRecDepth 10000 in
theorem g51_70 {s : SG} (hR : RefC s) (l3 l4 : Int) : sem 51 70 [aA 23, aU, aU, aI l3, aI l4] [] s = if l4 < l3 then if (0 : Int) < (s 23 6) then grd ((s 23 6) ≠ 0) (bnV (sem 52 0 [aA 23, aI (remA l4 (s 23 6)), aI 1, aU] [] s) fun s1 => sem 51 70 [aA 23, aU, aU, aI l3, aI (w32 (l4 + 1))] [] s1) else some (aU, s) else some (aU, s) := by
  refine (x_iload f51_70 rfl rfl).trans ?_
  refine (x_iload f51_72 rfl rfl).trans ?_
  refine (x_icmp_ge (tg := 101) f51_73 rfl rfl).trans (i_c ?_ ?_)
  · refine (x_aload f51_76 rfl rfl).trans ?_
    refine (y_get0 (ji := 6) rfl f51_77 rfl rfl).trans ?_
    refine (g_t rfl).trans ?_
    refine (x_if_le (tg := 101) f51_80 rfl rfl).trans (i_c ?_ ?_)
    · refine (x_aload f51_83 rfl rfl).trans ?_
      refine (x_iload f51_84 rfl rfl).trans ?_
      refine (x_aload f51_86 rfl rfl).trans ?_
      refine (y_get0 (ji := 6) rfl f51_87 rfl rfl).trans ?_
      refine (g_t rfl).trans ?_
      refine (x_irem f51_90 rfl).trans ?_
      refine g_c ?_
      refine (x_iconst f51_91 rfl).trans ?_
      refine (x_invokevirtual (G := grd (kd 23 = 3) (bnV (sem 52 0 [aA 23, aI (remA l4 (s 23 6)), aI 1, aU] [] s) fun s1 => sem 51 95 [aA 23, aU, aU, aI l3, aI l4] [] s1)) f51_92 rfl rfl).trans ?_
      refine (g_t rfl).trans ?_
      refine bV_h fun s1 qs1 => ?_
      have rs1 := RefC.sem qs1 rfl hR
      refine (x_iinc (l2 := [aA 23, aU, aU, aI l3, aI (w32 (l4 + 1))]) f51_95 rfl rfl rfl).trans ?_
      refine (x_goto (tg := 70) f51_98 rfl rfl).trans ?_
      rfl
    · refine (x_kil (l2 := [aU, aU, aU, aU, aU]) f51_101 rfl).trans ?_
      exact x_return f51_101 rfl
  · refine (x_kil (l2 := [aU, aU, aU, aU, aU]) f51_101 rfl).trans ?_
    exact x_return f51_101 rfl
set_option maxRecDepth 10000 in
theorem g52_0 {s : SG} (hR : RefC s) (l1 l2 : Int) : sem 52 0 [aA 23, aI l1, aI l2, aU] [] s = if l1 < 0 then some (aU, s) else if l1 < 3 then grd ((0 : Int) ≤ l1 ∧ l1 < 3) (some (aU, up (up s 28 l1 (w32 ((s 28 l1) + (min l2 (s 23 7))))) 23 7 (w32 ((s 23 7) - (min l2 (s 23 7)))))) else some (aU, s) := by
  refine (x_iload f52_0 rfl rfl).trans ?_
  refine (x_if_lt (tg := 38) f52_1 rfl rfl).trans (i_c ?_ ?_)
  · refine (x_kil (l2 := [aU, aU, aU, aU]) f52_38 rfl).trans ?_
    exact x_return f52_38 rfl
  · refine (x_iload f52_4 rfl rfl).trans ?_
    refine (x_iconst f52_5 rfl).trans ?_
    refine (x_icmp_ge (tg := 38) f52_6 rfl rfl).trans (i_c ?_ ?_)
    · refine (x_iload f52_9 rfl rfl).trans ?_
      refine (x_aload f52_10 rfl rfl).trans ?_
      refine (y_get0 (ji := 7) rfl f52_11 rfl rfl).trans ?_
      refine (g_t rfl).trans ?_
      refine (x_fsub f52_14 rfl rfl).trans ?_
      refine (x_istore (l2 := [aA 23, aI l1, aI l2, aI (min l2 (s 23 7))]) f52_17 rfl rfl).trans ?_
      refine (x_aload f52_18 rfl rfl).trans ?_
      refine (y_get2 (ji := 4) rfl f52_19 rfl rfl).trans ?_
      refine (g_t rfl).trans ?_
      refine (g_t (by rw [show s 23 4 = 28 from hR.2.2.2.2.2.2.2.2.2.2.2.2.2.2.2.2.2.2.2.2.2.2.2.2.2.2.2.2.2.1]; decide)).trans ?_
      rw [show s 23 4 = 28 from hR.2.2.2.2.2.2.2.2.2.2.2.2.2.2.2.2.2.2.2.2.2.2.2.2.2.2.2.2.2.1]
      refine (x_iload f52_22 rfl rfl).trans ?_
      refine (x_dup2 f52_23 rfl rfl).trans ?_
      refine (x_iaload f52_24 rfl).trans ?_
      refine (g_t rfl).trans ?_
      refine g_kl (n := 3) rfl fun hg1 => ?_
      refine (x_iload f52_25 rfl rfl).trans ?_
      refine (x_iadd f52_26 rfl).trans ?_
      refine (x_iastore f52_27 rfl).trans ?_
      refine (g_t rfl).trans ?_
      refine (g_kt (n := 3) rfl hg1).trans ?_
      refine (x_aload f52_28 rfl rfl).trans ?_
      refine (x_dup f52_29 rfl rfl).trans ?_
      refine (y_get0 (ji := 7) rfl f52_30 rfl rfl).trans ?_
      refine (g_t rfl).trans ?_
      rw [show (up s 28 l1 (w32 ((s 28 l1) + (min l2 (s 23 7))))) 23 7 = s 23 7 from by rw [up_ne (by decide)]]
      refine (x_iload f52_33 rfl rfl).trans ?_
      refine (x_isub f52_34 rfl).trans ?_
      refine (y_put0 (ji := 7) rfl f52_35 rfl rfl).trans ?_
      refine (g_t rfl).trans ?_
      refine (x_kil (l2 := [aU, aU, aU, aU]) f52_38 rfl).trans ?_
      exact x_return f52_38 rfl
    · refine (x_kil (l2 := [aU, aU, aU, aU]) f52_38 rfl).trans ?_
      exact x_return f52_38 rfl
set_option maxRecDepth 10000 in
theorem g53_0 {s : SG} (hR : RefC s) (l1 : Int) : sem 53 0 [aA 23, aI l1] [] s = if l1 = (s 23 11) then if (s 23 10) < 0 then some (aU, s) else if (s 23 10) < 3 then grd ((0 : Int) ≤ (s 23 10) ∧ (s 23 10) < 3) (some (aU, up s 28 (s 23 10) (w32 ((s 28 (s 23 10)) + (s 23 12))))) else some (aU, s) else some (aU, s) := by
  refine (x_iload f53_0 rfl rfl).trans ?_
  refine (x_aload f53_1 rfl rfl).trans ?_
  refine (y_get0 (ji := 11) rfl f53_2 rfl rfl).trans ?_
  refine (g_t rfl).trans ?_
  refine (x_icmp_ne (tg := 39) f53_5 rfl rfl).trans (i_c ?_ ?_)
  · refine (x_aload f53_8 rfl rfl).trans ?_
    refine (y_get0 (ji := 10) rfl f53_9 rfl rfl).trans ?_
    refine (g_t rfl).trans ?_
    refine (x_if_lt (tg := 39) f53_12 rfl rfl).trans (i_c ?_ ?_)
    · refine (x_kil (l2 := [aU, aU]) f53_39 rfl).trans ?_
      exact x_return f53_39 rfl
    · refine (x_aload f53_15 rfl rfl).trans ?_
      refine (y_get0 (ji := 10) rfl f53_16 rfl rfl).trans ?_
      refine (g_t rfl).trans ?_
      refine (x_iconst f53_19 rfl).trans ?_
      refine (x_icmp_ge (tg := 39) f53_20 rfl rfl).trans (i_c ?_ ?_)
      · refine (x_aload f53_23 rfl rfl).trans ?_
        refine (y_get2 (ji := 4) rfl f53_24 rfl rfl).trans ?_
        refine (g_t rfl).trans ?_
        refine (g_t (by rw [show s 23 4 = 28 from hR.2.2.2.2.2.2.2.2.2.2.2.2.2.2.2.2.2.2.2.2.2.2.2.2.2.2.2.2.2.1]; decide)).trans ?_
        rw [show s 23 4 = 28 from hR.2.2.2.2.2.2.2.2.2.2.2.2.2.2.2.2.2.2.2.2.2.2.2.2.2.2.2.2.2.1]
        refine (x_aload f53_27 rfl rfl).trans ?_
        refine (y_get0 (ji := 10) rfl f53_28 rfl rfl).trans ?_
        refine (g_t rfl).trans ?_
        refine (x_dup2 f53_31 rfl rfl).trans ?_
        refine (x_iaload f53_32 rfl).trans ?_
        refine (g_t rfl).trans ?_
        refine g_kl (n := 3) rfl fun hg1 => ?_
        refine (x_aload f53_33 rfl rfl).trans ?_
        refine (y_get0 (ji := 12) rfl f53_34 rfl rfl).trans ?_
        refine (g_t rfl).trans ?_
        refine (x_iadd f53_37 rfl).trans ?_
        refine (x_iastore f53_38 rfl).trans ?_
        refine (g_t rfl).trans ?_
        refine (g_kt (n := 3) rfl hg1).trans ?_
        refine (x_kil (l2 := [aU, aU]) f53_39 rfl).trans ?_
        exact x_return f53_39 rfl
      · refine (x_kil (l2 := [aU, aU]) f53_39 rfl).trans ?_
        exact x_return f53_39 rfl
  · refine (x_kil (l2 := [aU, aU]) f53_39 rfl).trans ?_
    exact x_return f53_39 rfl
set_option maxRecDepth 10000 in
theorem g54_0 {t : Int} (ht : t = 32 ∨ t = 37) {s : SG} (hR : RefC s) (l3 l4 : Int) : sem 54 0 [aA 23, aA t, aA 16, aI l3, aI l4, aU, aU, aU] [] s = bnI (sem 85 0 [aA t, aI l3, aI (s 16 6), aU] [] s) fun a2 s1 => bnI (sem 30 0 [aA 16, aI l3, aI a2, aU] [] s1) fun a4 s3 => bnI (sem 55 0 [aA 23, aA t, aI l3, aI l4, aU, aU] [] s3) fun a6 s5 => if l3 = (s5 23 9) then sem 54 46 [aA 23, aA t, aU, aI l3, aI l4, aI (w32 ((w32 (a4 + a6)) + 1)), aU, aU] [] s5 else bnI (sem 24 0 [aA 16, aI l3, aI l4] [] s5) fun a8 s7 => if a8 = 0 then sem 54 46 [aA 23, aA t, aU, aI l3, aI l4, aI (w32 (a4 + a6)), aU, aU] [] s7 else sem 54 46 [aA 23, aA t, aU, aI l3, aI l4, aI (w32 ((w32 (a4 + a6)) + 1)), aU, aU] [] s7 := by
  refine (x_aload f54_0 rfl rfl).trans ?_
  refine (x_iload f54_1 rfl rfl).trans ?_
  refine (x_aload f54_2 rfl rfl).trans ?_
  refine (x_iload f54_3 rfl rfl).trans ?_
  refine (x_aload f54_4 rfl rfl).trans ?_
  refine (y_get0 (ji := 6) rfl f54_5 rfl rfl).trans ?_
  refine (g_t rfl).trans ?_
  refine (x_invokevirtual (G := grd (kd t = 6) (bnI (sem 85 0 [aA t, aI l3, aI (s 16 6), aU] [] s) fun a2 s1 => sem 54 11 [aA 23, aA t, aA 16, aI l3, aI l4, aU, aU, aU] [aI a2, aI l3, aA 16] s1)) f54_8 rfl rfl).trans ?_
  refine (g_t ((kd_t ht).1)).trans ?_
  refine bI_h fun a2 s1 qs1 => ?_
  have rs1 := RefC.sem qs1 rfl hR
  refine (x_invokevirtual (G := grd (kd 16 = 1) (bnI (sem 30 0 [aA 16, aI l3, aI a2, aU] [] s1) fun a4 s3 => sem 54 14 [aA 23, aA t, aA 16, aI l3, aI l4, aU, aU, aU] [aI a4] s3)) f54_11 rfl rfl).trans ?_
  refine (g_t rfl).trans ?_
  refine bI_h fun a4 s3 qs3 => ?_
  have rs3 := RefC.sem qs3 rfl rs1
  refine (x_aload f54_14 rfl rfl).trans ?_
  refine (x_aload f54_15 rfl rfl).trans ?_
  refine (x_iload f54_16 rfl rfl).trans ?_
  refine (x_iload f54_17 rfl rfl).trans ?_
  refine (x_invokevirtual (G := grd (kd 23 = 3) (bnI (sem 55 0 [aA 23, aA t, aI l3, aI l4, aU, aU] [] s3) fun a6 s5 => sem 54 22 [aA 23, aA t, aA 16, aI l3, aI l4, aU, aU, aU] [aI a6, aI a4] s5)) f54_19 rfl rfl).trans ?_
  refine (g_t rfl).trans ?_
  refine bI_h fun a6 s5 qs5 => ?_
  have rs5 := RefC.sem qs5 rfl rs3
  refine (x_iadd f54_22 rfl).trans ?_
  refine (x_istore (l2 := [aA 23, aA t, aA 16, aI l3, aI l4, aI (w32 (a4 + a6)), aU, aU]) f54_23 rfl rfl).trans ?_
  refine (x_iload f54_25 rfl rfl).trans ?_
  refine (x_aload f54_26 rfl rfl).trans ?_
  refine (y_get0 (ji := 9) rfl f54_27 rfl rfl).trans ?_
  refine (g_t rfl).trans ?_
  refine (x_icmp_eq (tg := 43) f54_30 rfl rfl).trans (i_c ?_ ?_)
  · refine (x_kil (l2 := [aA 23, aA t, aU, aI l3, aI l4, aI (w32 (a4 + a6)), aU, aU]) f54_43 rfl).trans ?_
    refine (x_iinc (l2 := [aA 23, aA t, aU, aI l3, aI l4, aI (w32 ((w32 (a4 + a6)) + 1)), aU, aU]) f54_43 rfl rfl rfl).trans ?_
    rfl
  · refine (x_aload f54_33 rfl rfl).trans ?_
    refine (x_iload f54_34 rfl rfl).trans ?_
    refine (x_iload f54_35 rfl rfl).trans ?_
    refine (x_invokevirtual (G := grd (kd 16 = 1) (bnI (sem 24 0 [aA 16, aI l3, aI l4] [] s5) fun a8 s7 => sem 54 40 [aA 23, aA t, aA 16, aI l3, aI l4, aI (w32 (a4 + a6)), aU, aU] [aI a8] s7)) f54_37 rfl rfl).trans ?_
    refine (g_t rfl).trans ?_
    refine bI_h fun a8 s7 qs7 => ?_
    have rs7 := RefC.sem qs7 rfl rs5
    refine (x_if_eq (tg := 46) f54_40 rfl rfl).trans (i_c ?_ ?_)
    · exact x_kil f54_46 rfl
    · refine (x_kil (l2 := [aA 23, aA t, aU, aI l3, aI l4, aI (w32 (a4 + a6)), aU, aU]) f54_43 rfl).trans ?_
      refine (x_iinc (l2 := [aA 23, aA t, aU, aI l3, aI l4, aI (w32 ((w32 (a4 + a6)) + 1)), aU, aU]) f54_43 rfl rfl rfl).trans ?_
      rfl
set_option maxRecDepth 10000 in
theorem g54_46 {t : Int} (ht : t = 32 ∨ t = 37) {s : SG} (hR : RefC s) (l3 l4 l5 : Int) : sem 54 46 [aA 23, aA t, aU, aI l3, aI l4, aI l5, aU, aU] [] s = grd ((0 : Int) ≤ l3 ∧ l3 < 3) (bnI (sem 56 0 [aI l3, aI l4, aU] [] (up (up s 28 l3 (w32 ((s 28 l3) - (min l5 (s 28 l3))))) 29 l3 (w32 ((s 29 l3) + (min l5 (s 28 l3)))))) fun a3 s2 => grd ((0 : Int) ≤ a3 ∧ a3 < 18) (if l4 = 5 then some (aU, up (up (up (up (up s2 24 a3 (s2 28 l3)) 25 a3 (s2 29 l3)) 26 a3 l5) 27 a3 (w32 (l5 - (min l5 (s 28 l3))))) 23 8 (w32 ((s2 23 8) + (w32 (l5 - (min l5 (s 28 l3))))))) else bnI (sem 87 0 [aA t, aI l3] [] (up (up (up (up s2 24 a3 (s2 28 l3)) 25 a3 (s2 29 l3)) 26 a3 l5) 27 a3 (w32 (l5 - (min l5 (s 28 l3)))))) fun a6 s5 => if a6 = ((-9)) then some (aU, up s5 23 8 (w32 ((s5 23 8) + (w32 (l5 - (min l5 (s 28 l3))))))) else some (aU, s5))) := by
  refine (x_iload f54_46 rfl rfl).trans ?_
  refine (x_aload f54_48 rfl rfl).trans ?_
  refine (y_get2 (ji := 4) rfl f54_49 rfl rfl).trans ?_
  refine (g_t rfl).trans ?_
  refine (g_t (by rw [show s 23 4 = 28 from hR.2.2.2.2.2.2.2.2.2.2.2.2.2.2.2.2.2.2.2.2.2.2.2.2.2.2.2.2.2.1]; decide)).trans ?_
  rw [show s 23 4 = 28 from hR.2.2.2.2.2.2.2.2.2.2.2.2.2.2.2.2.2.2.2.2.2.2.2.2.2.2.2.2.2.1]
  refine (x_iload f54_52 rfl rfl).trans ?_
  refine (x_iaload f54_53 rfl).trans ?_
  refine (g_t rfl).trans ?_
  refine g_kl (n := 3) rfl fun hg1 => ?_
  refine (x_fsub f54_54 rfl rfl).trans ?_
  refine (x_istore (l2 := [aA 23, aA t, aU, aI l3, aI l4, aI l5, aI (min l5 (s 28 l3)), aU]) f54_57 rfl rfl).trans ?_
  refine (x_aload f54_59 rfl rfl).trans ?_
  refine (y_get2 (ji := 4) rfl f54_60 rfl rfl).trans ?_
  refine (g_t rfl).trans ?_
  refine (g_t (by rw [show s 23 4 = 28 from hR.2.2.2.2.2.2.2.2.2.2.2.2.2.2.2.2.2.2.2.2.2.2.2.2.2.2.2.2.2.1]; decide)).trans ?_
  rw [show s 23 4 = 28 from hR.2.2.2.2.2.2.2.2.2.2.2.2.2.2.2.2.2.2.2.2.2.2.2.2.2.2.2.2.2.1]
  refine (x_iload f54_63 rfl rfl).trans ?_
  refine (x_dup2 f54_64 rfl rfl).trans ?_
  refine (x_iaload f54_65 rfl).trans ?_
  refine (g_t rfl).trans ?_
  refine (g_kt (n := 3) rfl hg1).trans ?_
  refine (x_iload f54_66 rfl rfl).trans ?_
  refine (x_isub f54_68 rfl).trans ?_
  refine (x_iastore f54_69 rfl).trans ?_
  refine (g_t rfl).trans ?_
  refine (g_kt (n := 3) rfl hg1).trans ?_
  refine (x_aload f54_70 rfl rfl).trans ?_
  refine (y_get2 (ji := 5) rfl f54_71 rfl rfl).trans ?_
  refine (g_t rfl).trans ?_
  refine (g_t (by rw [show (up s 28 l3 (w32 ((s 28 l3) - (min l5 (s 28 l3))))) 23 5 = 29 from (by rw [up_ne (by decide)]; exact hR.2.2.2.2.2.2.2.2.2.2.2.2.2.2.2.2.2.2.2.2.2.2.2.2.2.2.2.2.2.2.1)]; decide)).trans ?_
  rw [show (up s 28 l3 (w32 ((s 28 l3) - (min l5 (s 28 l3))))) 23 5 = 29 from (by rw [up_ne (by decide)]; exact hR.2.2.2.2.2.2.2.2.2.2.2.2.2.2.2.2.2.2.2.2.2.2.2.2.2.2.2.2.2.2.1)]
  refine (x_iload f54_74 rfl rfl).trans ?_
  refine (x_dup2 f54_75 rfl rfl).trans ?_
  refine (x_iaload f54_76 rfl).trans ?_
  refine (g_t rfl).trans ?_
  refine (g_kt (n := 3) rfl hg1).trans ?_
  rw [show (up s 28 l3 (w32 ((s 28 l3) - (min l5 (s 28 l3))))) 29 l3 = s 29 l3 from by rw [up_ne (by decide)]]
  refine (x_iload f54_77 rfl rfl).trans ?_
  refine (x_iadd f54_79 rfl).trans ?_
  refine (x_iastore f54_80 rfl).trans ?_
  refine (g_t rfl).trans ?_
  refine (g_kt (n := 3) rfl hg1).trans ?_
  refine (x_iload f54_81 rfl rfl).trans ?_
  refine (x_iload f54_82 rfl rfl).trans ?_
  refine (x_invokestatic (G := bnI (sem 56 0 [aI l3, aI l4, aU] [] (up (up s 28 l3 (w32 ((s 28 l3) - (min l5 (s 28 l3))))) 29 l3 (w32 ((s 29 l3) + (min l5 (s 28 l3)))))) fun a3 s2 => sem 54 87 [aA 23, aA t, aU, aI l3, aI l4, aI l5, aI (min l5 (s 28 l3)), aU] [aI a3] s2) f54_84 rfl rfl).trans ?_
  refine bI_h fun a3 s2 qs2 => ?_
  have rs2 := RefC.sem qs2 rfl (RefC.upd (RefC.upd hR (rcb_a (by decide))) (rcb_a (by decide)))
  refine (x_istore (l2 := [aA 23, aA t, aU, aI l3, aI l4, aI l5, aI (min l5 (s 28 l3)), aI a3]) f54_87 rfl rfl).trans ?_
  refine (x_aload f54_89 rfl rfl).trans ?_
  refine (y_get2 (ji := 0) rfl f54_90 rfl rfl).trans ?_
  refine (g_t rfl).trans ?_
  refine (g_t (by rw [show s2 23 0 = 24 from rs2.2.2.2.2.2.2.2.2.2.2.2.2.2.2.2.2.2.2.2.2.2.2.2.2.2.1]; decide)).trans ?_
  rw [show s2 23 0 = 24 from rs2.2.2.2.2.2.2.2.2.2.2.2.2.2.2.2.2.2.2.2.2.2.2.2.2.2.1]
  refine (x_iload f54_93 rfl rfl).trans ?_
  refine (x_aload f54_95 rfl rfl).trans ?_
  refine (y_get2 (ji := 4) rfl f54_96 rfl rfl).trans ?_
  refine (g_t rfl).trans ?_
  refine (g_t (by rw [show s2 23 4 = 28 from rs2.2.2.2.2.2.2.2.2.2.2.2.2.2.2.2.2.2.2.2.2.2.2.2.2.2.2.2.2.2.1]; decide)).trans ?_
  rw [show s2 23 4 = 28 from rs2.2.2.2.2.2.2.2.2.2.2.2.2.2.2.2.2.2.2.2.2.2.2.2.2.2.2.2.2.2.1]
  refine (x_iload f54_99 rfl rfl).trans ?_
  refine (x_iaload f54_100 rfl).trans ?_
  refine (g_t rfl).trans ?_
  refine (g_kt (n := 3) rfl hg1).trans ?_
  refine (x_iastore f54_101 rfl).trans ?_
  refine (g_t rfl).trans ?_
  refine g_kl (n := 18) rfl fun hg4 => ?_
  refine (x_aload f54_102 rfl rfl).trans ?_
  refine (y_get2 (ji := 1) rfl f54_103 rfl rfl).trans ?_
  refine (g_t rfl).trans ?_
  refine (g_t (by rw [show (up s2 24 a3 (s2 28 l3)) 23 1 = 25 from (by rw [up_ne (by decide)]; exact rs2.2.2.2.2.2.2.2.2.2.2.2.2.2.2.2.2.2.2.2.2.2.2.2.2.2.2.1)]; decide)).trans ?_
  rw [show (up s2 24 a3 (s2 28 l3)) 23 1 = 25 from (by rw [up_ne (by decide)]; exact rs2.2.2.2.2.2.2.2.2.2.2.2.2.2.2.2.2.2.2.2.2.2.2.2.2.2.2.1)]
  refine (x_iload f54_106 rfl rfl).trans ?_
  refine (x_aload f54_108 rfl rfl).trans ?_
  refine (y_get2 (ji := 5) rfl f54_109 rfl rfl).trans ?_
  refine (g_t rfl).trans ?_
  refine (g_t (by rw [show (up s2 24 a3 (s2 28 l3)) 23 5 = 29 from (by rw [up_ne (by decide)]; exact rs2.2.2.2.2.2.2.2.2.2.2.2.2.2.2.2.2.2.2.2.2.2.2.2.2.2.2.2.2.2.2.1)]; decide)).trans ?_
  rw [show (up s2 24 a3 (s2 28 l3)) 23 5 = 29 from (by rw [up_ne (by decide)]; exact rs2.2.2.2.2.2.2.2.2.2.2.2.2.2.2.2.2.2.2.2.2.2.2.2.2.2.2.2.2.2.2.1)]
  refine (x_iload f54_112 rfl rfl).trans ?_
  refine (x_iaload f54_113 rfl).trans ?_
  refine (g_t rfl).trans ?_
  refine (g_kt (n := 3) rfl hg1).trans ?_
  rw [show (up s2 24 a3 (s2 28 l3)) 29 l3 = s2 29 l3 from by rw [up_ne (by decide)]]
  refine (x_iastore f54_114 rfl).trans ?_
  refine (g_t rfl).trans ?_
  refine (g_kt (n := 18) rfl hg4).trans ?_
  refine (x_aload f54_115 rfl rfl).trans ?_
  refine (y_get2 (ji := 2) rfl f54_116 rfl rfl).trans ?_
  refine (g_t rfl).trans ?_
  refine (g_t (by rw [show (up (up s2 24 a3 (s2 28 l3)) 25 a3 (s2 29 l3)) 23 2 = 26 from (by rw [up_ne (by decide), up_ne (by decide)]; exact rs2.2.2.2.2.2.2.2.2.2.2.2.2.2.2.2.2.2.2.2.2.2.2.2.2.2.2.2.1)]; decide)).trans ?_
  rw [show (up (up s2 24 a3 (s2 28 l3)) 25 a3 (s2 29 l3)) 23 2 = 26 from (by rw [up_ne (by decide), up_ne (by decide)]; exact rs2.2.2.2.2.2.2.2.2.2.2.2.2.2.2.2.2.2.2.2.2.2.2.2.2.2.2.2.1)]
  refine (x_iload f54_119 rfl rfl).trans ?_
  refine (x_iload f54_121 rfl rfl).trans ?_
  refine (x_iastore f54_123 rfl).trans ?_
  refine (g_t rfl).trans ?_
  refine (g_kt (n := 18) rfl hg4).trans ?_
  refine (x_aload f54_124 rfl rfl).trans ?_
  refine (y_get2 (ji := 3) rfl f54_125 rfl rfl).trans ?_
  refine (g_t rfl).trans ?_
  refine (g_t (by rw [show (up (up (up s2 24 a3 (s2 28 l3)) 25 a3 (s2 29 l3)) 26 a3 l5) 23 3 = 27 from (by rw [up_ne (by decide), up_ne (by decide), up_ne (by decide)]; exact rs2.2.2.2.2.2.2.2.2.2.2.2.2.2.2.2.2.2.2.2.2.2.2.2.2.2.2.2.2.1)]; decide)).trans ?_
  rw [show (up (up (up s2 24 a3 (s2 28 l3)) 25 a3 (s2 29 l3)) 26 a3 l5) 23 3 = 27 from (by rw [up_ne (by decide), up_ne (by decide), up_ne (by decide)]; exact rs2.2.2.2.2.2.2.2.2.2.2.2.2.2.2.2.2.2.2.2.2.2.2.2.2.2.2.2.2.1)]
  refine (x_iload f54_128 rfl rfl).trans ?_
  refine (x_iload f54_130 rfl rfl).trans ?_
  refine (x_iload f54_132 rfl rfl).trans ?_
  refine (x_isub f54_134 rfl).trans ?_
  refine (x_iastore f54_135 rfl).trans ?_
  refine (g_t rfl).trans ?_
  refine (g_kt (n := 18) rfl hg4).trans ?_
  refine (x_iload f54_136 rfl rfl).trans ?_
  refine (x_iconst f54_138 rfl).trans ?_
  refine (x_icmp_eq (tg := 152) f54_139 rfl rfl).trans (i_c ?_ ?_)
  · refine (x_kil (l2 := [aA 23, aU, aU, aU, aU, aI l5, aI (min l5 (s 28 l3)), aU]) f54_152 rfl).trans ?_
    refine (x_aload f54_152 rfl rfl).trans ?_
    refine (x_dup f54_153 rfl rfl).trans ?_
    refine (y_get0 (ji := 8) rfl f54_154 rfl rfl).trans ?_
    refine (g_t rfl).trans ?_
    rw [show (up (up (up (up s2 24 a3 (s2 28 l3)) 25 a3 (s2 29 l3)) 26 a3 l5) 27 a3 (w32 (l5 - (min l5 (s 28 l3))))) 23 8 = s2 23 8 from by rw [up_ne (by decide), up_ne (by decide), up_ne (by decide), up_ne (by decide)]]
    refine (x_iload f54_157 rfl rfl).trans ?_
    refine (x_iload f54_159 rfl rfl).trans ?_
    refine (x_isub f54_161 rfl).trans ?_
    refine (x_iadd f54_162 rfl).trans ?_
    refine (y_put0 (ji := 8) rfl f54_163 rfl rfl).trans ?_
    refine (g_t rfl).trans ?_
    refine (x_kil (l2 := [aU, aU, aU, aU, aU, aU, aU, aU]) f54_166 rfl).trans ?_
    exact x_return f54_166 rfl
  · refine (x_aload f54_142 rfl rfl).trans ?_
    refine (x_iload f54_143 rfl rfl).trans ?_
    refine (x_invokevirtual (G := grd (kd t = 6) (bnI (sem 87 0 [aA t, aI l3] [] (up (up (up (up s2 24 a3 (s2 28 l3)) 25 a3 (s2 29 l3)) 26 a3 l5) 27 a3 (w32 (l5 - (min l5 (s 28 l3)))))) fun a6 s5 => sem 54 147 [aA 23, aA t, aU, aI l3, aI l4, aI l5, aI (min l5 (s 28 l3)), aI a3] [aI a6] s5)) f54_144 rfl rfl).trans ?_
    refine (g_t ((kd_t ht).1)).trans ?_
    refine bI_h fun a6 s5 qs5 => ?_
    have rs5 := RefC.sem qs5 rfl (RefC.upd (RefC.upd (RefC.upd (RefC.upd rs2 (rcb_a (by decide))) (rcb_a (by decide))) (rcb_a (by decide))) (rcb_a (by decide)))
    refine (x_iconst f54_147 rfl).trans ?_
    refine (x_icmp_ne (tg := 166) f54_149 rfl rfl).trans (i_c ?_ ?_)
    · refine (x_kil (l2 := [aA 23, aU, aU, aU, aU, aI l5, aI (min l5 (s 28 l3)), aU]) f54_152 rfl).trans ?_
      refine (x_aload f54_152 rfl rfl).trans ?_
      refine (x_dup f54_153 rfl rfl).trans ?_
      refine (y_get0 (ji := 8) rfl f54_154 rfl rfl).trans ?_
      refine (g_t rfl).trans ?_
      refine (x_iload f54_157 rfl rfl).trans ?_
      refine (x_iload f54_159 rfl rfl).trans ?_
      refine (x_isub f54_161 rfl).trans ?_
      refine (x_iadd f54_162 rfl).trans ?_
      refine (y_put0 (ji := 8) rfl f54_163 rfl rfl).trans ?_
      refine (g_t rfl).trans ?_
      refine (x_kil (l2 := [aU, aU, aU, aU, aU, aU, aU, aU]) f54_166 rfl).trans ?_
      exact x_return f54_166 rfl
    · refine (x_kil (l2 := [aU, aU, aU, aU, aU, aU, aU, aU]) f54_166 rfl).trans ?_
      exact x_return f54_166 rfl
set_option maxRecDepth 10000 in
theorem g55_0 {t : Int} (ht : t = 32 ∨ t = 37) {s : SG} (hR : RefC s) (l2 l3 : Int) : sem 55 0 [aA 23, aA t, aI l2, aI l3, aU, aU] [] s = sem 55 6 [aA 23, aA t, aI l2, aI l3, aI 0, aI 0] [] s := by
  refine (x_iconst f55_0 rfl).trans ?_
  refine (x_istore (l2 := [aA 23, aA t, aI l2, aI l3, aI 0, aU]) f55_1 rfl rfl).trans ?_
  refine (x_iconst f55_3 rfl).trans ?_
  refine (x_istore (l2 := [aA 23, aA t, aI l2, aI l3, aI 0, aI 0]) f55_4 rfl rfl).trans ?_
  rfl
set_option maxRecDepth 10000 in
theorem g55_6 {t : Int} (ht : t = 32 ∨ t = 37) {s : SG} (hR : RefC s) (l2 l3 l4 l5 : Int) : sem 55 6 [aA 23, aA t, aI l2, aI l3, aI l4, aI l5] [] s = if l5 < (s 23 6) then if (0 : Int) < l3 then bnI (sem 87 0 [aA t, aI l5] [] s) fun a2 s1 => if a2 = l2 then bnI (sem 56 0 [aI l5, aI (w32 (l3 - 1)), aU] [] s1) fun a4 s3 => grd ((0 : Int) ≤ a4 ∧ a4 < 18) (sem 55 6 [aA 23, aA t, aI l2, aI l3, aI (w32 (l4 + (s3 27 a4))), aI (w32 (l5 + 1))] [] s3) else sem 55 6 [aA 23, aA t, aI l2, aI l3, aI l4, aI (w32 (l5 + 1))] [] s1 else some (aI l4, s) else some (aI l4, s) := by
  refine (x_iload f55_6 rfl rfl).trans ?_
  refine (x_aload f55_8 rfl rfl).trans ?_
  refine (y_get0 (ji := 6) rfl f55_9 rfl rfl).trans ?_
  refine (g_t rfl).trans ?_
  refine (x_icmp_ge (tg := 53) f55_12 rfl rfl).trans (i_c ?_ ?_)
  · refine (x_iload f55_15 rfl rfl).trans ?_
    refine (x_if_le (tg := 53) f55_16 rfl rfl).trans (i_c ?_ ?_)
    · refine (x_aload f55_19 rfl rfl).trans ?_
      refine (x_iload f55_20 rfl rfl).trans ?_
      refine (x_invokevirtual (G := grd (kd t = 6) (bnI (sem 87 0 [aA t, aI l5] [] s) fun a2 s1 => sem 55 25 [aA 23, aA t, aI l2, aI l3, aI l4, aI l5] [aI a2] s1)) f55_22 rfl rfl).trans ?_
      refine (g_t ((kd_t ht).1)).trans ?_
      refine bI_h fun a2 s1 qs1 => ?_
      have rs1 := RefC.sem qs1 rfl hR
      refine (x_iload f55_25 rfl rfl).trans ?_
      refine (x_icmp_ne (tg := 47) f55_26 rfl rfl).trans (i_c ?_ ?_)
      · refine (x_iload f55_29 rfl rfl).trans ?_
        refine (x_aload f55_31 rfl rfl).trans ?_
        refine (y_get2 (ji := 3) rfl f55_32 rfl rfl).trans ?_
        refine (g_t rfl).trans ?_
        refine (g_t (by rw [show s1 23 3 = 27 from rs1.2.2.2.2.2.2.2.2.2.2.2.2.2.2.2.2.2.2.2.2.2.2.2.2.2.2.2.2.1]; decide)).trans ?_
        rw [show s1 23 3 = 27 from rs1.2.2.2.2.2.2.2.2.2.2.2.2.2.2.2.2.2.2.2.2.2.2.2.2.2.2.2.2.1]
        refine (x_iload f55_35 rfl rfl).trans ?_
        refine (x_iload f55_37 rfl rfl).trans ?_
        refine (x_iconst f55_38 rfl).trans ?_
        refine (x_isub f55_39 rfl).trans ?_
        refine (x_invokestatic (G := bnI (sem 56 0 [aI l5, aI (w32 (l3 - 1)), aU] [] s1) fun a4 s3 => sem 55 43 [aA 23, aA t, aI l2, aI l3, aI l4, aI l5] [aI a4, aA 27, aI l4] s3) f55_40 rfl rfl).trans ?_
        refine bI_h fun a4 s3 qs3 => ?_
        have rs3 := RefC.sem qs3 rfl rs1
        refine (x_iaload f55_43 rfl).trans ?_
        refine (g_t rfl).trans ?_
        refine g_kl (n := 18) rfl fun hg5 => ?_
        refine (x_iadd f55_44 rfl).trans ?_
        refine (x_istore (l2 := [aA 23, aA t, aI l2, aI l3, aI (w32 (l4 + (s3 27 a4))), aI l5]) f55_45 rfl rfl).trans ?_
        refine (x_iinc (l2 := [aA 23, aA t, aI l2, aI l3, aI (w32 (l4 + (s3 27 a4))), aI (w32 (l5 + 1))]) f55_47 rfl rfl rfl).trans ?_
        refine (x_goto (tg := 6) f55_50 rfl rfl).trans ?_
        rfl
      · refine (x_iinc (l2 := [aA 23, aA t, aI l2, aI l3, aI l4, aI (w32 (l5 + 1))]) f55_47 rfl rfl rfl).trans ?_
        refine (x_goto (tg := 6) f55_50 rfl rfl).trans ?_
        rfl
    · refine (x_kil (l2 := [aU, aU, aU, aU, aI l4, aU]) f55_53 rfl).trans ?_
      refine (x_iload f55_53 rfl rfl).trans ?_
      exact x_ireturn f55_55 rfl
  · refine (x_kil (l2 := [aU, aU, aU, aU, aI l4, aU]) f55_53 rfl).trans ?_
    refine (x_iload f55_53 rfl rfl).trans ?_
    exact x_ireturn f55_55 rfl
set_option maxRecDepth 10000 in
theorem g57_0 {s : SG} (hR : RefC s) (l1 l2 l3 : Int) : sem 57 0 [aA 23, aI l1, aI l2, aI l3, aU] [] s = bnI (sem 56 0 [aI l1, aI l2, aU] [] s) fun a2 s1 => if l3 = 0 then grd ((0 : Int) ≤ a2 ∧ a2 < 18) (some (aI (s1 24 a2), s1)) else if l3 = 1 then grd ((0 : Int) ≤ a2 ∧ a2 < 18) (some (aI (s1 25 a2), s1)) else if l3 = 2 then grd ((0 : Int) ≤ a2 ∧ a2 < 18) (some (aI (s1 26 a2), s1)) else grd ((0 : Int) ≤ a2 ∧ a2 < 18) (some (aI (s1 27 a2), s1)) := by
  refine (x_iload f57_0 rfl rfl).trans ?_
  refine (x_iload f57_1 rfl rfl).trans ?_
  refine (x_invokestatic (G := bnI (sem 56 0 [aI l1, aI l2, aU] [] s) fun a2 s1 => sem 57 5 [aA 23, aI l1, aI l2, aI l3, aU] [aI a2] s1) f57_2 rfl rfl).trans ?_
  refine bI_h fun a2 s1 qs1 => ?_
  have rs1 := RefC.sem qs1 rfl hR
  refine (x_istore (l2 := [aA 23, aI l1, aI l2, aI l3, aI a2]) f57_5 rfl rfl).trans ?_
  refine (x_iload f57_7 rfl rfl).trans ?_
  refine (x_tsw f57_8 rfl).trans ?_
  refine Eq.trans (b := sem 57 (if l3 = 0 then 36 else if l3 = 1 then 44 else if l3 = 2 then 52 else 60) [aA 23, aI l1, aI l2, aI l3, aI a2] [] s1) rfl ?_
  refine x_ite.trans (i_c ?_ ?_)
  · refine (x_aload f57_36 rfl rfl).trans ?_
    refine (y_get2 (ji := 0) rfl f57_37 rfl rfl).trans ?_
    refine (g_t rfl).trans ?_
    refine (g_t (by rw [show s1 23 0 = 24 from rs1.2.2.2.2.2.2.2.2.2.2.2.2.2.2.2.2.2.2.2.2.2.2.2.2.2.1]; decide)).trans ?_
    rw [show s1 23 0 = 24 from rs1.2.2.2.2.2.2.2.2.2.2.2.2.2.2.2.2.2.2.2.2.2.2.2.2.2.1]
    refine (x_iload f57_40 rfl rfl).trans ?_
    refine (x_iaload f57_42 rfl).trans ?_
    refine (g_t rfl).trans ?_
    refine g_kl (n := 18) rfl fun hg3 => ?_
    exact x_ireturn f57_43 rfl
  refine x_ite.trans (i_c ?_ ?_)
  · refine (x_aload f57_44 rfl rfl).trans ?_
    refine (y_get2 (ji := 1) rfl f57_45 rfl rfl).trans ?_
    refine (g_t rfl).trans ?_
    refine (g_t (by rw [show s1 23 1 = 25 from rs1.2.2.2.2.2.2.2.2.2.2.2.2.2.2.2.2.2.2.2.2.2.2.2.2.2.2.1]; decide)).trans ?_
    rw [show s1 23 1 = 25 from rs1.2.2.2.2.2.2.2.2.2.2.2.2.2.2.2.2.2.2.2.2.2.2.2.2.2.2.1]
    refine (x_iload f57_48 rfl rfl).trans ?_
    refine (x_iaload f57_50 rfl).trans ?_
    refine (g_t rfl).trans ?_
    refine g_kl (n := 18) rfl fun hg4 => ?_
    exact x_ireturn f57_51 rfl
  refine x_ite.trans (i_c ?_ ?_)
  · refine (x_aload f57_52 rfl rfl).trans ?_
    refine (y_get2 (ji := 2) rfl f57_53 rfl rfl).trans ?_
    refine (g_t rfl).trans ?_
    refine (g_t (by rw [show s1 23 2 = 26 from rs1.2.2.2.2.2.2.2.2.2.2.2.2.2.2.2.2.2.2.2.2.2.2.2.2.2.2.2.1]; decide)).trans ?_
    rw [show s1 23 2 = 26 from rs1.2.2.2.2.2.2.2.2.2.2.2.2.2.2.2.2.2.2.2.2.2.2.2.2.2.2.2.1]
    refine (x_iload f57_56 rfl rfl).trans ?_
    refine (x_iaload f57_58 rfl).trans ?_
    refine (g_t rfl).trans ?_
    refine g_kl (n := 18) rfl fun hg5 => ?_
    exact x_ireturn f57_59 rfl
  refine (x_aload f57_60 rfl rfl).trans ?_
  refine (y_get2 (ji := 3) rfl f57_61 rfl rfl).trans ?_
  refine (g_t rfl).trans ?_
  refine (g_t (by rw [show s1 23 3 = 27 from rs1.2.2.2.2.2.2.2.2.2.2.2.2.2.2.2.2.2.2.2.2.2.2.2.2.2.2.2.2.1]; decide)).trans ?_
  rw [show s1 23 3 = 27 from rs1.2.2.2.2.2.2.2.2.2.2.2.2.2.2.2.2.2.2.2.2.2.2.2.2.2.2.2.2.1]
  refine (x_iload f57_64 rfl rfl).trans ?_
  refine (x_iaload f57_66 rfl).trans ?_
  refine (g_t rfl).trans ?_
  refine g_kl (n := 18) rfl fun hg6 => ?_
  exact x_ireturn f57_67 rfl
set_option maxRecDepth 10000 in
theorem g58_0 {s : SG} (hR : RefC s) (l1 l2 : Int) : sem 58 0 [aA 23, aI l1, aI l2] [] s = bnI (sem 56 0 [aI l1, aI l2, aU] [] s) fun a2 s1 => grd ((0 : Int) ≤ a2 ∧ a2 < 18) (some (aI (s1 25 a2), s1)) := by
  refine (x_aload f58_0 rfl rfl).trans ?_
  refine (y_get2 (ji := 1) rfl f58_1 rfl rfl).trans ?_
  refine (g_t rfl).trans ?_
  refine (g_t (by rw [show s 23 1 = 25 from hR.2.2.2.2.2.2.2.2.2.2.2.2.2.2.2.2.2.2.2.2.2.2.2.2.2.2.1]; decide)).trans ?_
  rw [show s 23 1 = 25 from hR.2.2.2.2.2.2.2.2.2.2.2.2.2.2.2.2.2.2.2.2.2.2.2.2.2.2.1]
  refine (x_iload f58_4 rfl rfl).trans ?_
  refine (x_iload f58_5 rfl rfl).trans ?_
  refine (x_invokestatic (G := bnI (sem 56 0 [aI l1, aI l2, aU] [] s) fun a2 s1 => sem 58 9 [aA 23, aI l1, aI l2] [aI a2, aA 25] s1) f58_6 rfl rfl).trans ?_
  refine bI_h fun a2 s1 qs1 => ?_
  have rs1 := RefC.sem qs1 rfl hR
  refine (x_iaload f58_9 rfl).trans ?_
  refine (g_t rfl).trans ?_
  refine g_kl (n := 18) rfl fun hg3 => ?_
  exact x_ireturn f58_10 rfl
set_option maxRecDepth 10000 in
theorem g59_0 {s : SG} (hR : RefC s) (l1 : Int) : sem 59 0 [aA 23, aI l1, aU] [] s = sem 59 2 [aA 23, aI l1, aI 0] [] s := by
  refine (x_iconst f59_0 rfl).trans ?_
  refine (x_istore (l2 := [aA 23, aI l1, aI 0]) f59_1 rfl rfl).trans ?_
  rfl
set_option maxRecDepth 10000 in
theorem g59_2 {s : SG} (hR : RefC s) (l1 l2 : Int) : sem 59 2 [aA 23, aI l1, aI l2] [] s = if l2 < 6 then bnI (sem 56 0 [aI l1, aI l2, aU] [] s) fun a2 s1 => grd ((0 : Int) ≤ a2 ∧ a2 < 18) (if (0 : Int) < (s1 27 a2) then some (aI l2, s1) else sem 59 2 [aA 23, aI l1, aI (w32 (l2 + 1))] [] s1) else some (aI ((-9)), s) := by
  refine (x_iload f59_2 rfl rfl).trans ?_
  refine (x_iconst f59_3 rfl).trans ?_
  refine (x_icmp_ge (tg := 29) f59_5 rfl rfl).trans (i_c ?_ ?_)
  · refine (x_aload f59_8 rfl rfl).trans ?_
    refine (y_get2 (ji := 3) rfl f59_9 rfl rfl).trans ?_
    refine (g_t rfl).trans ?_
    refine (g_t (by rw [show s 23 3 = 27 from hR.2.2.2.2.2.2.2.2.2.2.2.2.2.2.2.2.2.2.2.2.2.2.2.2.2.2.2.2.1]; decide)).trans ?_
    rw [show s 23 3 = 27 from hR.2.2.2.2.2.2.2.2.2.2.2.2.2.2.2.2.2.2.2.2.2.2.2.2.2.2.2.2.1]
    refine (x_iload f59_12 rfl rfl).trans ?_
    refine (x_iload f59_13 rfl rfl).trans ?_
    refine (x_invokestatic (G := bnI (sem 56 0 [aI l1, aI l2, aU] [] s) fun a2 s1 => sem 59 17 [aA 23, aI l1, aI l2] [aI a2, aA 27] s1) f59_14 rfl rfl).trans ?_
    refine bI_h fun a2 s1 qs1 => ?_
    have rs1 := RefC.sem qs1 rfl hR
    refine (x_iaload f59_17 rfl).trans ?_
    refine (g_t rfl).trans ?_
    refine g_kl (n := 18) rfl fun hg3 => ?_
    refine (x_if_le (tg := 23) f59_18 rfl rfl).trans (i_c ?_ ?_)
    · refine (x_iload f59_21 rfl rfl).trans ?_
      exact x_ireturn f59_22 rfl
    · refine (x_iinc (l2 := [aA 23, aI l1, aI (w32 (l2 + 1))]) f59_23 rfl rfl rfl).trans ?_
      refine (x_goto (tg := 2) f59_26 rfl rfl).trans ?_
      rfl
  · refine (x_iconst f59_29 rfl).trans ?_
    exact x_ireturn f59_31 rfl
set_option maxRecDepth 10000 in
theorem g60_0 {s : SG} (hR : RefC s) : sem 60 0 [aA 23, aU, aU] [] s = sem 60 4 [aA 23, aI 0, aI 0] [] s := by
  refine (x_iconst f60_0 rfl).trans ?_
  refine (x_istore (l2 := [aA 23, aI 0, aU]) f60_1 rfl rfl).trans ?_
  refine (x_iconst f60_2 rfl).trans ?_
  refine (x_istore (l2 := [aA 23, aI 0, aI 0]) f60_3 rfl rfl).trans ?_
  rfl
set_option maxRecDepth 10000 in
theorem g60_4 {s : SG} (hR : RefC s) (l1 l2 : Int) : sem 60 4 [aA 23, aI l1, aI l2] [] s = if l2 < (s 23 6) then grd ((0 : Int) ≤ l2 ∧ l2 < 3) (sem 60 4 [aA 23, aI (w32 (l1 + (s 29 l2))), aI (w32 (l2 + 1))] [] s) else some (aI l1, s) := by
  refine (x_iload f60_4 rfl rfl).trans ?_
  refine (x_aload f60_5 rfl rfl).trans ?_
  refine (y_get0 (ji := 6) rfl f60_6 rfl rfl).trans ?_
  refine (g_t rfl).trans ?_
  refine (x_icmp_ge (tg := 27) f60_9 rfl rfl).trans (i_c ?_ ?_)
  · refine (x_iload f60_12 rfl rfl).trans ?_
    refine (x_aload f60_13 rfl rfl).trans ?_
    refine (y_get2 (ji := 5) rfl f60_14 rfl rfl).trans ?_
    refine (g_t rfl).trans ?_
    refine (g_t (by rw [show s 23 5 = 29 from hR.2.2.2.2.2.2.2.2.2.2.2.2.2.2.2.2.2.2.2.2.2.2.2.2.2.2.2.2.2.2.1]; decide)).trans ?_
    rw [show s 23 5 = 29 from hR.2.2.2.2.2.2.2.2.2.2.2.2.2.2.2.2.2.2.2.2.2.2.2.2.2.2.2.2.2.2.1]
    refine (x_iload f60_17 rfl rfl).trans ?_
    refine (x_iaload f60_18 rfl).trans ?_
    refine (g_t rfl).trans ?_
    refine g_kl (n := 3) rfl fun hg1 => ?_
    refine (x_iadd f60_19 rfl).trans ?_
    refine (x_istore (l2 := [aA 23, aI (w32 (l1 + (s 29 l2))), aI l2]) f60_20 rfl rfl).trans ?_
    refine (x_iinc (l2 := [aA 23, aI (w32 (l1 + (s 29 l2))), aI (w32 (l2 + 1))]) f60_21 rfl rfl rfl).trans ?_
    refine (x_goto (tg := 4) f60_24 rfl rfl).trans ?_
    rfl
  · refine (x_iload f60_27 rfl rfl).trans ?_
    exact x_ireturn f60_28 rfl
set_option maxRecDepth 10000 in
theorem g61_0 {s : SG} (hR : RefC s) : sem 61 0 [aA 23, aU, aU] [] s = sem 61 4 [aA 23, aI 0, aI 0] [] s := by
  refine (x_iconst f61_0 rfl).trans ?_
  refine (x_istore (l2 := [aA 23, aI 0, aU]) f61_1 rfl rfl).trans ?_
  refine (x_iconst f61_2 rfl).trans ?_
  refine (x_istore (l2 := [aA 23, aI 0, aI 0]) f61_3 rfl rfl).trans ?_
  rfl
set_option maxRecDepth 10000 in
theorem g61_4 {s : SG} (hR : RefC s) (l1 l2 : Int) : sem 61 4 [aA 23, aI l1, aI l2] [] s = if l2 < (s 23 6) then grd ((0 : Int) ≤ l2 ∧ l2 < 3) (sem 61 4 [aA 23, aI (w32 (l1 + (s 28 l2))), aI (w32 (l2 + 1))] [] s) else some (aI l1, s) := by
  refine (x_iload f61_4 rfl rfl).trans ?_
  refine (x_aload f61_5 rfl rfl).trans ?_
  refine (y_get0 (ji := 6) rfl f61_6 rfl rfl).trans ?_
  refine (g_t rfl).trans ?_
  refine (x_icmp_ge (tg := 27) f61_9 rfl rfl).trans (i_c ?_ ?_)
  · refine (x_iload f61_12 rfl rfl).trans ?_
    refine (x_aload f61_13 rfl rfl).trans ?_
    refine (y_get2 (ji := 4) rfl f61_14 rfl rfl).trans ?_
    refine (g_t rfl).trans ?_
    refine (g_t (by rw [show s 23 4 = 28 from hR.2.2.2.2.2.2.2.2.2.2.2.2.2.2.2.2.2.2.2.2.2.2.2.2.2.2.2.2.2.1]; decide)).trans ?_
    rw [show s 23 4 = 28 from hR.2.2.2.2.2.2.2.2.2.2.2.2.2.2.2.2.2.2.2.2.2.2.2.2.2.2.2.2.2.1]
    refine (x_iload f61_17 rfl rfl).trans ?_
    refine (x_iaload f61_18 rfl).trans ?_
    refine (g_t rfl).trans ?_
    refine g_kl (n := 3) rfl fun hg1 => ?_
    refine (x_iadd f61_19 rfl).trans ?_
    refine (x_istore (l2 := [aA 23, aI (w32 (l1 + (s 28 l2))), aI l2]) f61_20 rfl rfl).trans ?_
    refine (x_iinc (l2 := [aA 23, aI (w32 (l1 + (s 28 l2))), aI (w32 (l2 + 1))]) f61_21 rfl rfl rfl).trans ?_
    refine (x_goto (tg := 4) f61_24 rfl rfl).trans ?_
    rfl
  · refine (x_iload f61_27 rfl rfl).trans ?_
    exact x_ireturn f61_28 rfl
set_option maxRecDepth 10000 in
theorem g62_0 {s : SG} (hR : RefC s) : sem 62 0 [aA 23] [] s = some (aI (s 23 7), s) := by
  refine (x_aload f62_0 rfl rfl).trans ?_
  refine (y_get0 (ji := 7) rfl f62_1 rfl rfl).trans ?_
  refine (g_t rfl).trans ?_
  exact x_ireturn f62_4 rfl
set_option maxRecDepth 10000 in
theorem g63_0 {s : SG} (hR : RefC s) : sem 63 0 [aA 23] [] s = some (aI (s 23 8), s) := by
  refine (x_aload f63_0 rfl rfl).trans ?_
  refine (y_get0 (ji := 8) rfl f63_1 rfl rfl).trans ?_
  refine (g_t rfl).trans ?_
  exact x_ireturn f63_4 rfl
set_option maxRecDepth 10000 in
theorem g64_0 {t : Int} (ht : t = 32 ∨ t = 37) {s : SG} (hR : RefC s) : sem 64 0 [aA 23, aA t, aA 16, aU, aU] [] s = bnI (sem 61 0 [aA 23, aU, aU] [] s) fun a2 s1 => bnI (sem 28 0 [aA 16, aU, aU] [] s1) fun a4 s3 => bnI (sem 60 0 [aA 23, aU, aU] [] s3) fun a6 s5 => some (aI (w32 ((w32 ((w32 (a6 * (s5 t 6))) + (w32 ((w32 (a2 + (s1 23 7))) * (s5 t 7))))) - (w32 ((w32 (a4 + (s3 16 7))) * (s3 t 5))))), s5) := by
  refine (x_aload f64_0 rfl rfl).trans ?_
  refine (x_invokevirtual (G := grd (kd 23 = 3) (bnI (sem 61 0 [aA 23, aU, aU] [] s) fun a2 s1 => sem 64 4 [aA 23, aA t, aA 16, aU, aU] [aI a2] s1)) f64_1 rfl rfl).trans ?_
  refine (g_t rfl).trans ?_
  refine bI_h fun a2 s1 qs1 => ?_
  have rs1 := RefC.sem qs1 rfl hR
  refine (x_aload f64_4 rfl rfl).trans ?_
  refine (y_get0 (ji := 7) rfl f64_5 rfl rfl).trans ?_
  refine (g_t rfl).trans ?_
  refine (x_iadd f64_8 rfl).trans ?_
  refine (x_istore (l2 := [aA 23, aA t, aA 16, aI (w32 (a2 + (s1 23 7))), aU]) f64_9 rfl rfl).trans ?_
  refine (x_aload f64_10 rfl rfl).trans ?_
  refine (x_invokevirtual (G := grd (kd 16 = 1) (bnI (sem 28 0 [aA 16, aU, aU] [] s1) fun a4 s3 => sem 64 14 [aA 23, aA t, aA 16, aI (w32 (a2 + (s1 23 7))), aU] [aI a4] s3)) f64_11 rfl rfl).trans ?_
  refine (g_t rfl).trans ?_
  refine bI_h fun a4 s3 qs3 => ?_
  have rs3 := RefC.sem qs3 rfl rs1
  refine (x_aload f64_14 rfl rfl).trans ?_
  refine (y_get0 (ji := 7) rfl f64_15 rfl rfl).trans ?_
  refine (g_t rfl).trans ?_
  refine (x_iadd f64_18 rfl).trans ?_
  refine (x_aload f64_19 rfl rfl).trans ?_
  refine (y_get0 (ji := 5) rfl f64_20 rfl rfl).trans ?_
  refine (g_t ((kd_t ht).1)).trans ?_
  refine (x_imul f64_23 rfl).trans ?_
  refine (x_istore (l2 := [aA 23, aA t, aA 16, aI (w32 (a2 + (s1 23 7))), aI (w32 ((w32 (a4 + (s3 16 7))) * (s3 t 5)))]) f64_24 rfl rfl).trans ?_
  refine (x_aload f64_26 rfl rfl).trans ?_
  refine (x_invokevirtual (G := grd (kd 23 = 3) (bnI (sem 60 0 [aA 23, aU, aU] [] s3) fun a6 s5 => sem 64 30 [aA 23, aA t, aA 16, aI (w32 (a2 + (s1 23 7))), aI (w32 ((w32 (a4 + (s3 16 7))) * (s3 t 5)))] [aI a6] s5)) f64_27 rfl rfl).trans ?_
  refine (g_t rfl).trans ?_
  refine bI_h fun a6 s5 qs5 => ?_
  have rs5 := RefC.sem qs5 rfl rs3
  refine (x_aload f64_30 rfl rfl).trans ?_
  refine (y_get0 (ji := 6) rfl f64_31 rfl rfl).trans ?_
  refine (g_t ((kd_t ht).1)).trans ?_
  refine (x_imul f64_34 rfl).trans ?_
  refine (x_iload f64_35 rfl rfl).trans ?_
  refine (x_aload f64_36 rfl rfl).trans ?_
  refine (y_get0 (ji := 7) rfl f64_37 rfl rfl).trans ?_
  refine (g_t ((kd_t ht).1)).trans ?_
  refine (x_imul f64_40 rfl).trans ?_
  refine (x_iadd f64_41 rfl).trans ?_
  refine (x_iload f64_42 rfl rfl).trans ?_
  refine (x_isub f64_44 rfl).trans ?_
  exact x_ireturn f64_45 rfl
set_option maxRecDepth 10000 in
theorem g66_0 {s : SG} (hR : RefC s) : sem 66 0 [aA 10] [] s = some (aI (s 10 2), s) := by
  refine (x_aload f66_0 rfl rfl).trans ?_
  refine (y_get0 (ji := 2) rfl f66_1 rfl rfl).trans ?_
  refine (g_t rfl).trans ?_
  exact x_ireturn f66_4 rfl
set_option maxRecDepth 10000 in
theorem g67_0 {s : SG} (hR : RefC s) (l1 l2 : Int) : sem 67 0 [aA 10, aI l1, aI l2] [] s = if (s 10 2) < 8 then grd ((0 : Int) ≤ (s 10 2) ∧ (s 10 2) < 8) (some (aI 1, up (up (up s 11 (s 10 2) l1) 12 (s 10 2) l2) 10 2 (w32 ((s 10 2) + 1)))) else some (aI 0, s) := by
  refine (x_aload f67_0 rfl rfl).trans ?_
  refine (y_get0 (ji := 2) rfl f67_1 rfl rfl).trans ?_
  refine (g_t rfl).trans ?_
  refine (x_iconst f67_4 rfl).trans ?_
  refine (x_icmp_lt (tg := 11) f67_6 rfl rfl).trans (i_c ?_ ?_)
  · refine (x_aload f67_11 rfl rfl).trans ?_
    refine (y_get2 (ji := 0) rfl f67_12 rfl rfl).trans ?_
    refine (g_t rfl).trans ?_
    refine (g_t (by rw [show s 10 0 = 11 from hR.2.2.2.2.2.2.2.2.2.2.2.2.2.2.2.1]; decide)).trans ?_
    rw [show s 10 0 = 11 from hR.2.2.2.2.2.2.2.2.2.2.2.2.2.2.2.1]
    refine (x_aload f67_15 rfl rfl).trans ?_
    refine (y_get0 (ji := 2) rfl f67_16 rfl rfl).trans ?_
    refine (g_t rfl).trans ?_
    refine (x_iload f67_19 rfl rfl).trans ?_
    refine (x_iastore f67_20 rfl).trans ?_
    refine (g_t rfl).trans ?_
    refine g_kl (n := 8) rfl fun hg1 => ?_
    refine (x_aload f67_21 rfl rfl).trans ?_
    refine (y_get2 (ji := 1) rfl f67_22 rfl rfl).trans ?_
    refine (g_t rfl).trans ?_
    refine (g_t (by rw [show (up s 11 (s 10 2) l1) 10 1 = 12 from (by rw [up_ne (by decide)]; exact hR.2.2.2.2.2.2.2.2.2.2.2.2.2.2.2.2.1)]; decide)).trans ?_
    rw [show (up s 11 (s 10 2) l1) 10 1 = 12 from (by rw [up_ne (by decide)]; exact hR.2.2.2.2.2.2.2.2.2.2.2.2.2.2.2.2.1)]
    refine (x_aload f67_25 rfl rfl).trans ?_
    refine (y_get0 (ji := 2) rfl f67_26 rfl rfl).trans ?_
    refine (g_t rfl).trans ?_
    rw [show (up s 11 (s 10 2) l1) 10 2 = s 10 2 from by rw [up_ne (by decide)]]
    refine (x_iload f67_29 rfl rfl).trans ?_
    refine (x_iastore f67_30 rfl).trans ?_
    refine (g_t rfl).trans ?_
    refine (g_kt (n := 8) rfl hg1).trans ?_
    refine (x_aload f67_31 rfl rfl).trans ?_
    refine (x_dup f67_32 rfl rfl).trans ?_
    refine (y_get0 (ji := 2) rfl f67_33 rfl rfl).trans ?_
    refine (g_t rfl).trans ?_
    rw [show (up (up s 11 (s 10 2) l1) 12 (s 10 2) l2) 10 2 = s 10 2 from by rw [up_ne (by decide), up_ne (by decide)]]
    refine (x_iconst f67_36 rfl).trans ?_
    refine (x_iadd f67_37 rfl).trans ?_
    refine (y_put0 (ji := 2) rfl f67_38 rfl rfl).trans ?_
    refine (g_t rfl).trans ?_
    refine (x_iconst f67_41 rfl).trans ?_
    exact x_zreturn1 f67_42 rfl
  · refine (x_iconst f67_9 rfl).trans ?_
    exact x_zreturn0 f67_10 rfl
set_option maxRecDepth 10000 in
theorem g68_0 {s : SG} (hR : RefC s) : sem 68 0 [aA 10, aU] [] s = some (aI (s 10 2), up s 10 2 0) := by
  refine (x_aload f68_0 rfl rfl).trans ?_
  refine (y_get0 (ji := 2) rfl f68_1 rfl rfl).trans ?_
  refine (g_t rfl).trans ?_
  refine (x_istore (l2 := [aA 10, aI (s 10 2)]) f68_4 rfl rfl).trans ?_
  refine (x_aload f68_5 rfl rfl).trans ?_
  refine (x_iconst f68_6 rfl).trans ?_
  refine (y_put0 (ji := 2) rfl f68_7 rfl rfl).trans ?_
  refine (g_t rfl).trans ?_
  refine (x_iload f68_10 rfl rfl).trans ?_
  exact x_ireturn f68_11 rfl
set_option maxRecDepth 10000 in
theorem g69_0 {t : Int} (ht : t = 32 ∨ t = 37) {s : SG} (hR : RefC s) (l2 : Int) : sem 69 0 [aA 10, aA t, aI l2, aU, aU, aU, aU, aU] [] s = bnI (sem 84 0 [aA t, aI l2] [] s) fun a2 s1 => sem 69 10 [aA 10, aA t, aI l2, aL a2, aU, aI 0, aU, aU] [] s1 := by
  refine (x_aload f69_0 rfl rfl).trans ?_
  refine (x_iload f69_1 rfl rfl).trans ?_
  refine (x_invokevirtual (G := grd (kd t = 6) (bnI (sem 84 0 [aA t, aI l2] [] s) fun a2 s1 => sem 69 5 [aA 10, aA t, aI l2, aU, aU, aU, aU, aU] [aI a2] s1)) f69_2 rfl rfl).trans ?_
  refine (g_t ((kd_t ht).1)).trans ?_
  refine bI_h fun a2 s1 qs1 => ?_
  have rs1 := RefC.sem qs1 rfl hR
  refine (x_i2l f69_5 rfl).trans ?_
  refine (x_lstore (l2 := [aA 10, aA t, aI l2, aL a2, aU, aU, aU, aU]) f69_6 rfl rfl).trans ?_
  refine (x_iconst f69_7 rfl).trans ?_
  refine (x_istore (l2 := [aA 10, aA t, aI l2, aL a2, aU, aI 0, aU, aU]) f69_8 rfl rfl).trans ?_
  rfl
set_option maxRecDepth 10000 in
theorem g69_10 {t : Int} (ht : t = 32 ∨ t = 37) {s : SG} (hR : RefC s) (l2 l3 l5 : Int) : sem 69 10 [aA 10, aA t, aI l2, aL l3, aU, aI l5, aU, aU] [] s = if l5 < (s 10 2) then if l5 < 8 then grd ((0 : Int) ≤ l5 ∧ l5 < 8) (bnI (sem 85 0 [aA t, aI (s 11 l5), aI l2, aU] [] s) fun a3 s2 => bnI (sem 86 0 [aA t, aI (s2 11 l5), aI l2, aU] [] s2) fun a5 s4 => sem 69 10 [aA 10, aA t, aI l2, aL (w64 (l3 * (if (w32 ((s 12 l5) - a3)) = 1 then a5 else if (w32 ((s 12 l5) - a3)) = 0 then w32 (10 - a5) else 0))), aU, aI (w32 (l5 + 1)), aU, aU] [] s4) else some (aL l3, s) else some (aL l3, s) := by
  refine (x_iload f69_10 rfl rfl).trans ?_
  refine (x_aload f69_12 rfl rfl).trans ?_
  refine (y_get0 (ji := 2) rfl f69_13 rfl rfl).trans ?_
  refine (g_t rfl).trans ?_
  refine (x_icmp_ge (tg := 98) f69_16 rfl rfl).trans (i_c ?_ ?_)
  · refine (x_iload f69_19 rfl rfl).trans ?_
    refine (x_iconst f69_21 rfl).trans ?_
    refine (x_icmp_ge (tg := 98) f69_23 rfl rfl).trans (i_c ?_ ?_)
    · refine (x_aload f69_26 rfl rfl).trans ?_
      refine (y_get2 (ji := 1) rfl f69_27 rfl rfl).trans ?_
      refine (g_t rfl).trans ?_
      refine (g_t (by rw [show s 10 1 = 12 from hR.2.2.2.2.2.2.2.2.2.2.2.2.2.2.2.2.1]; decide)).trans ?_
      rw [show s 10 1 = 12 from hR.2.2.2.2.2.2.2.2.2.2.2.2.2.2.2.2.1]
      refine (x_iload f69_30 rfl rfl).trans ?_
      refine (x_iaload f69_32 rfl).trans ?_
      refine (g_t rfl).trans ?_
      refine g_kl (n := 8) rfl fun hg1 => ?_
      refine (x_aload f69_33 rfl rfl).trans ?_
      refine (x_aload f69_34 rfl rfl).trans ?_
      refine (y_get2 (ji := 0) rfl f69_35 rfl rfl).trans ?_
      refine (g_t rfl).trans ?_
      refine (g_t (by rw [show s 10 0 = 11 from hR.2.2.2.2.2.2.2.2.2.2.2.2.2.2.2.1]; decide)).trans ?_
      rw [show s 10 0 = 11 from hR.2.2.2.2.2.2.2.2.2.2.2.2.2.2.2.1]
      refine (x_iload f69_38 rfl rfl).trans ?_
      refine (x_iaload f69_40 rfl).trans ?_
      refine (g_t rfl).trans ?_
      refine (g_kt (n := 8) rfl hg1).trans ?_
      refine (x_iload f69_41 rfl rfl).trans ?_
      refine (x_invokevirtual (G := grd (kd t = 6) (bnI (sem 85 0 [aA t, aI (s 11 l5), aI l2, aU] [] s) fun a3 s2 => sem 69 45 [aA 10, aA t, aI l2, aL l3, aU, aI l5, aU, aU] [aI a3, aI (s 12 l5)] s2)) f69_42 rfl rfl).trans ?_
      refine (g_t ((kd_t ht).1)).trans ?_
      refine bI_h fun a3 s2 qs2 => ?_
      have rs2 := RefC.sem qs2 rfl hR
      refine (x_isub f69_45 rfl).trans ?_
      refine (x_istore (l2 := [aA 10, aA t, aI l2, aL l3, aU, aI l5, aI (w32 ((s 12 l5) - a3)), aU]) f69_46 rfl rfl).trans ?_
      refine (x_aload f69_48 rfl rfl).trans ?_
      refine (x_aload f69_49 rfl rfl).trans ?_
      refine (y_get2 (ji := 0) rfl f69_50 rfl rfl).trans ?_
      refine (g_t rfl).trans ?_
      refine (g_t (by rw [show s2 10 0 = 11 from rs2.2.2.2.2.2.2.2.2.2.2.2.2.2.2.2.1]; decide)).trans ?_
      rw [show s2 10 0 = 11 from rs2.2.2.2.2.2.2.2.2.2.2.2.2.2.2.2.1]
      refine (x_iload f69_53 rfl rfl).trans ?_
      refine (x_iaload f69_55 rfl).trans ?_
      refine (g_t rfl).trans ?_
      refine (g_kt (n := 8) rfl hg1).trans ?_
      refine (x_iload f69_56 rfl rfl).trans ?_
      refine (x_invokevirtual (G := grd (kd t = 6) (bnI (sem 86 0 [aA t, aI (s2 11 l5), aI l2, aU] [] s2) fun a5 s4 => sem 69 60 [aA 10, aA t, aI l2, aL l3, aU, aI l5, aI (w32 ((s 12 l5) - a3)), aU] [aI a5] s4)) f69_57 rfl rfl).trans ?_
      refine (g_t ((kd_t ht).1)).trans ?_
      refine bI_h fun a5 s4 qs4 => ?_
      have rs4 := RefC.sem qs4 rfl rs2
      refine (x_istore (l2 := [aA 10, aA t, aI l2, aL l3, aU, aI l5, aI (w32 ((s 12 l5) - a3)), aI a5]) f69_60 rfl rfl).trans ?_
      refine (x_lload f69_62 rfl rfl).trans ?_
      refine (x_iload f69_63 rfl rfl).trans ?_
      refine (x_iconst f69_65 rfl).trans ?_
      refine (x_icmp_ne (tg := 75) f69_66 rfl rfl).trans ?_
      refine Eq.trans (b := if (w32 ((s 12 l5) - a3)) = 1 then sem 69 90 [aA 10, aA t, aI l2, aU, aU, aI l5, aU, aU] [aL a5, aL l3] s4 else sem 69 90 [aA 10, aA t, aI l2, aU, aU, aI l5, aU, aU] [aL (if (w32 ((s 12 l5) - a3)) = 0 then w32 (10 - a5) else 0), aL l3] s4) (i_c ?_ ?_) ?_
      · refine (x_iload f69_69 rfl rfl).trans ?_
        refine (x_i2l f69_71 rfl).trans ?_
        refine (x_goto (tg := 90) f69_72 rfl rfl).trans ?_
        exact x_kil f69_90 rfl
      · refine (x_iload f69_75 rfl rfl).trans ?_
        refine (x_if_ne (tg := 89) f69_77 rfl rfl).trans ?_
        refine Eq.trans (b := if (w32 ((s 12 l5) - a3)) = 0 then sem 69 90 [aA 10, aA t, aI l2, aU, aU, aI l5, aU, aU] [aL (w32 (10 - a5)), aL l3] s4 else sem 69 90 [aA 10, aA t, aI l2, aU, aU, aI l5, aU, aU] [aL 0, aL l3] s4) (i_c ?_ ?_) ?_
        · refine (x_iconst f69_80 rfl).trans ?_
          refine (x_iload f69_82 rfl rfl).trans ?_
          refine (x_isub f69_84 rfl).trans ?_
          refine (x_i2l f69_85 rfl).trans ?_
          refine (x_goto (tg := 90) f69_86 rfl rfl).trans ?_
          exact x_kil f69_90 rfl
        · refine (x_lconst f69_89 rfl).trans ?_
          exact x_kil f69_90 rfl
        refine m_L.trans ?_
        rfl
      refine m_L.trans ?_
      refine (x_lmul f69_90 rfl).trans ?_
      refine (x_lstore (l2 := [aA 10, aA t, aI l2, aL (w64 (l3 * (if (w32 ((s 12 l5) - a3)) = 1 then a5 else if (w32 ((s 12 l5) - a3)) = 0 then w32 (10 - a5) else 0))), aU, aI l5, aU, aU]) f69_91 rfl rfl).trans ?_
      refine (x_iinc (l2 := [aA 10, aA t, aI l2, aL (w64 (l3 * (if (w32 ((s 12 l5) - a3)) = 1 then a5 else if (w32 ((s 12 l5) - a3)) = 0 then w32 (10 - a5) else 0))), aU, aI (w32 (l5 + 1)), aU, aU]) f69_92 rfl rfl rfl).trans ?_
      refine (x_goto (tg := 10) f69_95 rfl rfl).trans ?_
      rfl
    · refine (x_kil (l2 := [aU, aU, aU, aL l3, aU, aU, aU, aU]) f69_98 rfl).trans ?_
      refine (x_lload f69_98 rfl rfl).trans ?_
      exact x_lreturn f69_99 rfl
  · refine (x_kil (l2 := [aU, aU, aU, aL l3, aU, aU, aU, aU]) f69_98 rfl).trans ?_
    refine (x_lload f69_98 rfl rfl).trans ?_
    exact x_lreturn f69_99 rfl
set_option maxRecDepth 10000 in
theorem g70_0 {t : Int} (ht : t = 32 ∨ t = 37) {s : SG} (hR : RefC s) : sem 70 0 [aA 10, aA t, aU, aU, aU] [] s = sem 70 5 [aA 10, aA t, aL 0, aU, aI 0] [] s := by
  refine (x_lconst f70_0 rfl).trans ?_
  refine (x_lstore (l2 := [aA 10, aA t, aL 0, aU, aU]) f70_1 rfl rfl).trans ?_
  refine (x_iconst f70_2 rfl).trans ?_
  refine (x_istore (l2 := [aA 10, aA t, aL 0, aU, aI 0]) f70_3 rfl rfl).trans ?_
  rfl
set_option maxRecDepth 10000 in
theorem g70_5 {t : Int} (ht : t = 32 ∨ t = 37) {s : SG} (hR : RefC s) (l2 l4 : Int) : sem 70 5 [aA 10, aA t, aL l2, aU, aI l4] [] s = if l4 < 3 then bnL (sem 69 0 [aA 10, aA t, aI l4, aU, aU, aU, aU, aU] [] s) fun a2 s1 => sem 70 5 [aA 10, aA t, aL (w64 (l2 + a2)), aU, aI (w32 (l4 + 1))] [] s1 else some (aL l2, s) := by
  refine (x_iload f70_5 rfl rfl).trans ?_
  refine (x_iconst f70_7 rfl).trans ?_
  refine (x_icmp_ge (tg := 27) f70_8 rfl rfl).trans (i_c ?_ ?_)
  · refine (x_lload f70_11 rfl rfl).trans ?_
    refine (x_aload f70_12 rfl rfl).trans ?_
    refine (x_aload f70_13 rfl rfl).trans ?_
    refine (x_iload f70_14 rfl rfl).trans ?_
    refine (x_invokevirtual (G := grd (kd 10 = 4) (bnL (sem 69 0 [aA 10, aA t, aI l4, aU, aU, aU, aU, aU] [] s) fun a2 s1 => sem 70 19 [aA 10, aA t, aL l2, aU, aI l4] [aL a2, aL l2] s1)) f70_16 rfl rfl).trans ?_
    refine (g_t rfl).trans ?_
    refine bL_h fun a2 s1 qs1 => ?_
    have rs1 := RefC.sem qs1 rfl hR
    refine (x_ladd f70_19 rfl).trans ?_
    refine (x_lstore (l2 := [aA 10, aA t, aL (w64 (l2 + a2)), aU, aI l4]) f70_20 rfl rfl).trans ?_
    refine (x_iinc (l2 := [aA 10, aA t, aL (w64 (l2 + a2)), aU, aI (w32 (l4 + 1))]) f70_21 rfl rfl rfl).trans ?_
    refine (x_goto (tg := 5) f70_24 rfl rfl).trans ?_
    rfl
  · refine (x_lload f70_27 rfl rfl).trans ?_
    exact x_lreturn f70_28 rfl
set_option maxRecDepth 10000 in
theorem g71_0 {t : Int} (ht : t = 32 ∨ t = 37) {s : SG} (hR : RefC s) : sem 71 0 [aA 10, aA t, aU, aU] [] s = sem 71 4 [aA 10, aA t, aI 0, aI 1] [] s := by
  refine (x_iconst f71_0 rfl).trans ?_
  refine (x_istore (l2 := [aA 10, aA t, aI 0, aU]) f71_1 rfl rfl).trans ?_
  refine (x_iconst f71_2 rfl).trans ?_
  refine (x_istore (l2 := [aA 10, aA t, aI 0, aI 1]) f71_3 rfl rfl).trans ?_
  rfl
set_option maxRecDepth 10000 in
theorem g71_4 {t : Int} (ht : t = 32 ∨ t = 37) {s : SG} (hR : RefC s) (l2 l3 : Int) : sem 71 4 [aA 10, aA t, aI l2, aI l3] [] s = if l3 < 3 then bnL (sem 69 0 [aA 10, aA t, aI l3, aU, aU, aU, aU, aU] [] s) fun a2 s1 => bnL (sem 69 0 [aA 10, aA t, aI l2, aU, aU, aU, aU, aU] [] s1) fun a4 s3 => if (0 : Int) < (cmpL a2 a4) then sem 71 4 [aA 10, aA t, aI l3, aI (w32 (l3 + 1))] [] s3 else sem 71 4 [aA 10, aA t, aI l2, aI (w32 (l3 + 1))] [] s3 else some (aI l2, s) := by
  refine (x_iload f71_4 rfl rfl).trans ?_
  refine (x_iconst f71_5 rfl).trans ?_
  refine (x_icmp_ge (tg := 33) f71_6 rfl rfl).trans (i_c ?_ ?_)
  · refine (x_aload f71_9 rfl rfl).trans ?_
    refine (x_aload f71_10 rfl rfl).trans ?_
    refine (x_iload f71_11 rfl rfl).trans ?_
    refine (x_invokevirtual (G := grd (kd 10 = 4) (bnL (sem 69 0 [aA 10, aA t, aI l3, aU, aU, aU, aU, aU] [] s) fun a2 s1 => sem 71 15 [aA 10, aA t, aI l2, aI l3] [aL a2] s1)) f71_12 rfl rfl).trans ?_
    refine (g_t rfl).trans ?_
    refine bL_h fun a2 s1 qs1 => ?_
    have rs1 := RefC.sem qs1 rfl hR
    refine (x_aload f71_15 rfl rfl).trans ?_
    refine (x_aload f71_16 rfl rfl).trans ?_
    refine (x_iload f71_17 rfl rfl).trans ?_
    refine (x_invokevirtual (G := grd (kd 10 = 4) (bnL (sem 69 0 [aA 10, aA t, aI l2, aU, aU, aU, aU, aU] [] s1) fun a4 s3 => sem 71 21 [aA 10, aA t, aI l2, aI l3] [aL a4, aL a2] s3)) f71_18 rfl rfl).trans ?_
    refine (g_t rfl).trans ?_
    refine bL_h fun a4 s3 qs3 => ?_
    have rs3 := RefC.sem qs3 rfl rs1
    refine (x_lcmp f71_21 rfl).trans ?_
    refine (x_if_le (tg := 27) f71_22 rfl rfl).trans (i_c ?_ ?_)
    · refine (x_iload f71_25 rfl rfl).trans ?_
      refine (x_istore (l2 := [aA 10, aA t, aI l3, aI l3]) f71_26 rfl rfl).trans ?_
      refine (x_iinc (l2 := [aA 10, aA t, aI l3, aI (w32 (l3 + 1))]) f71_27 rfl rfl rfl).trans ?_
      refine (x_goto (tg := 4) f71_30 rfl rfl).trans ?_
      rfl
    · refine (x_iinc (l2 := [aA 10, aA t, aI l2, aI (w32 (l3 + 1))]) f71_27 rfl rfl rfl).trans ?_
      refine (x_goto (tg := 4) f71_30 rfl rfl).trans ?_
      rfl
  · refine (x_iload f71_33 rfl rfl).trans ?_
    exact x_ireturn f71_34 rfl
set_option maxRecDepth 10000 in
theorem g72_0 {t : Int} (ht : t = 32 ∨ t = 37) {s : SG} (hR : RefC s) : sem 72 0 [aA 10, aA t, aU, aU] [] s = sem 72 4 [aA 10, aA t, aI 0, aI 1] [] s := by
  refine (x_iconst f72_0 rfl).trans ?_
  refine (x_istore (l2 := [aA 10, aA t, aI 0, aU]) f72_1 rfl rfl).trans ?_
  refine (x_iconst f72_2 rfl).trans ?_
  refine (x_istore (l2 := [aA 10, aA t, aI 0, aI 1]) f72_3 rfl rfl).trans ?_
  rfl
set_option maxRecDepth 10000 in
theorem g72_4 {t : Int} (ht : t = 32 ∨ t = 37) {s : SG} (hR : RefC s) (l2 l3 : Int) : sem 72 4 [aA 10, aA t, aI l2, aI l3] [] s = if l3 < (s t 4) then bnI (sem 73 0 [aA 10, aA t, aI l3, aU, aU] [] s) fun a2 s1 => bnI (sem 73 0 [aA 10, aA t, aI l2, aU, aU] [] s1) fun a4 s3 => if a4 < a2 then sem 72 4 [aA 10, aA t, aI l3, aI (w32 (l3 + 1))] [] s3 else sem 72 4 [aA 10, aA t, aI l2, aI (w32 (l3 + 1))] [] s3 else some (aI l2, s) := by
  refine (x_iload f72_4 rfl rfl).trans ?_
  refine (x_aload f72_5 rfl rfl).trans ?_
  refine (y_get0 (ji := 4) rfl f72_6 rfl rfl).trans ?_
  refine (g_t ((kd_t ht).1)).trans ?_
  refine (x_icmp_ge (tg := 35) f72_9 rfl rfl).trans (i_c ?_ ?_)
  · refine (x_aload f72_12 rfl rfl).trans ?_
    refine (x_aload f72_13 rfl rfl).trans ?_
    refine (x_iload f72_14 rfl rfl).trans ?_
    refine (x_invokevirtual (G := grd (kd 10 = 4) (bnI (sem 73 0 [aA 10, aA t, aI l3, aU, aU] [] s) fun a2 s1 => sem 72 18 [aA 10, aA t, aI l2, aI l3] [aI a2] s1)) f72_15 rfl rfl).trans ?_
    refine (g_t rfl).trans ?_
    refine bI_h fun a2 s1 qs1 => ?_
    have rs1 := RefC.sem qs1 rfl hR
    refine (x_aload f72_18 rfl rfl).trans ?_
    refine (x_aload f72_19 rfl rfl).trans ?_
    refine (x_iload f72_20 rfl rfl).trans ?_
    refine (x_invokevirtual (G := grd (kd 10 = 4) (bnI (sem 73 0 [aA 10, aA t, aI l2, aU, aU] [] s1) fun a4 s3 => sem 72 24 [aA 10, aA t, aI l2, aI l3] [aI a4, aI a2] s3)) f72_21 rfl rfl).trans ?_
    refine (g_t rfl).trans ?_
    refine bI_h fun a4 s3 qs3 => ?_
    have rs3 := RefC.sem qs3 rfl rs1
    refine (x_icmp_le (tg := 29) f72_24 rfl rfl).trans (i_c ?_ ?_)
    · refine (x_iload f72_27 rfl rfl).trans ?_
      refine (x_istore (l2 := [aA 10, aA t, aI l3, aI l3]) f72_28 rfl rfl).trans ?_
      refine (x_iinc (l2 := [aA 10, aA t, aI l3, aI (w32 (l3 + 1))]) f72_29 rfl rfl rfl).trans ?_
      refine (x_goto (tg := 4) f72_32 rfl rfl).trans ?_
      rfl
    · refine (x_iinc (l2 := [aA 10, aA t, aI l2, aI (w32 (l3 + 1))]) f72_29 rfl rfl rfl).trans ?_
      refine (x_goto (tg := 4) f72_32 rfl rfl).trans ?_
      rfl
  · refine (x_iload f72_35 rfl rfl).trans ?_
    exact x_ireturn f72_36 rfl
set_option maxRecDepth 10000 in
theorem g73_0 {t : Int} (ht : t = 32 ∨ t = 37) {s : SG} (hR : RefC s) (l2 : Int) : sem 73 0 [aA 10, aA t, aI l2, aU, aU] [] s = sem 73 5 [aA 10, aA t, aI l2, aI 0, aI 0] [] s := by
  refine (x_iconst f73_0 rfl).trans ?_
  refine (x_istore (l2 := [aA 10, aA t, aI l2, aI 0, aU]) f73_1 rfl rfl).trans ?_
  refine (x_iconst f73_2 rfl).trans ?_
  refine (x_istore (l2 := [aA 10, aA t, aI l2, aI 0, aI 0]) f73_3 rfl rfl).trans ?_
  rfl
set_option maxRecDepth 10000 in
theorem g73_5 {t : Int} (ht : t = 32 ∨ t = 37) {s : SG} (hR : RefC s) (l2 l3 l4 : Int) : sem 73 5 [aA 10, aA t, aI l2, aI l3, aI l4] [] s = if l4 < 3 then bnL (sem 69 0 [aA 10, aA t, aI l4, aU, aU, aU, aU, aU] [] s) fun a2 s1 => if (0 : Int) < (cmpL a2 0) then bnI (sem 74 0 [aA 10, aA t, aI l2, aI l4, aU] [] s1) fun a4 s3 => if a4 = 0 then sem 73 5 [aA 10, aA t, aI l2, aI (w32 (l3 + 1)), aI (w32 (l4 + 1))] [] s3 else sem 73 5 [aA 10, aA t, aI l2, aI l3, aI (w32 (l4 + 1))] [] s3 else sem 73 5 [aA 10, aA t, aI l2, aI l3, aI (w32 (l4 + 1))] [] s1 else some (aI l3, s) := by
  refine (x_iload f73_5 rfl rfl).trans ?_
  refine (x_iconst f73_7 rfl).trans ?_
  refine (x_icmp_ge (tg := 43) f73_8 rfl rfl).trans (i_c ?_ ?_)
  · refine (x_aload f73_11 rfl rfl).trans ?_
    refine (x_aload f73_12 rfl rfl).trans ?_
    refine (x_iload f73_13 rfl rfl).trans ?_
    refine (x_invokevirtual (G := grd (kd 10 = 4) (bnL (sem 69 0 [aA 10, aA t, aI l4, aU, aU, aU, aU, aU] [] s) fun a2 s1 => sem 73 18 [aA 10, aA t, aI l2, aI l3, aI l4] [aL a2] s1)) f73_15 rfl rfl).trans ?_
    refine (g_t rfl).trans ?_
    refine bL_h fun a2 s1 qs1 => ?_
    have rs1 := RefC.sem qs1 rfl hR
    refine (x_lconst f73_18 rfl).trans ?_
    refine (x_lcmp f73_19 rfl).trans ?_
    refine (x_if_le (tg := 37) f73_20 rfl rfl).trans (i_c ?_ ?_)
    · refine (x_aload f73_23 rfl rfl).trans ?_
      refine (x_aload f73_24 rfl rfl).trans ?_
      refine (x_iload f73_25 rfl rfl).trans ?_
      refine (x_iload f73_26 rfl rfl).trans ?_
      refine (x_invokevirtual (G := grd (kd 10 = 4) (bnI (sem 74 0 [aA 10, aA t, aI l2, aI l4, aU] [] s1) fun a4 s3 => sem 73 31 [aA 10, aA t, aI l2, aI l3, aI l4] [aI a4] s3)) f73_28 rfl rfl).trans ?_
      refine (g_t rfl).trans ?_
      refine bI_h fun a4 s3 qs3 => ?_
      have rs3 := RefC.sem qs3 rfl rs1
      refine (x_if_ne (tg := 37) f73_31 rfl rfl).trans (i_c ?_ ?_)
      · refine (x_iinc (l2 := [aA 10, aA t, aI l2, aI (w32 (l3 + 1)), aI l4]) f73_34 rfl rfl rfl).trans ?_
        refine (x_iinc (l2 := [aA 10, aA t, aI l2, aI (w32 (l3 + 1)), aI (w32 (l4 + 1))]) f73_37 rfl rfl rfl).trans ?_
        refine (x_goto (tg := 5) f73_40 rfl rfl).trans ?_
        rfl
      · refine (x_iinc (l2 := [aA 10, aA t, aI l2, aI l3, aI (w32 (l4 + 1))]) f73_37 rfl rfl rfl).trans ?_
        refine (x_goto (tg := 5) f73_40 rfl rfl).trans ?_
        rfl
    · refine (x_iinc (l2 := [aA 10, aA t, aI l2, aI l3, aI (w32 (l4 + 1))]) f73_37 rfl rfl rfl).trans ?_
      refine (x_goto (tg := 5) f73_40 rfl rfl).trans ?_
      rfl
  · refine (x_iload f73_43 rfl rfl).trans ?_
    exact x_ireturn f73_44 rfl
set_option maxRecDepth 10000 in
theorem g74_0 {t : Int} (ht : t = 32 ∨ t = 37) {s : SG} (hR : RefC s) (l2 l3 : Int) : sem 74 0 [aA 10, aA t, aI l2, aI l3, aU] [] s = sem 74 3 [aA 10, aA t, aI l2, aI l3, aI 0] [] s := by
  refine (x_iconst f74_0 rfl).trans ?_
  refine (x_istore (l2 := [aA 10, aA t, aI l2, aI l3, aI 0]) f74_1 rfl rfl).trans ?_
  rfl
set_option maxRecDepth 10000 in
theorem g74_3 {t : Int} (ht : t = 32 ∨ t = 37) {s : SG} (hR : RefC s) (l2 l3 l4 : Int) : sem 74 3 [aA 10, aA t, aI l2, aI l3, aI l4] [] s = if l4 < l3 then bnL (sem 69 0 [aA 10, aA t, aI l4, aU, aU, aU, aU, aU] [] s) fun a2 s1 => if (0 : Int) < (cmpL a2 0) then bnI (sem 85 0 [aA t, aI l2, aI l4, aU] [] s1) fun a4 s3 => bnI (sem 85 0 [aA t, aI l2, aI l3, aU] [] s3) fun a6 s5 => if a4 = a6 then bnI (sem 86 0 [aA t, aI l2, aI l4, aU] [] s5) fun a8 s7 => bnI (sem 86 0 [aA t, aI l2, aI l3, aU] [] s7) fun a10 s9 => if a8 = a10 then some (aI 1, s9) else sem 74 3 [aA 10, aA t, aI l2, aI l3, aI (w32 (l4 + 1))] [] s9 else sem 74 3 [aA 10, aA t, aI l2, aI l3, aI (w32 (l4 + 1))] [] s5 else sem 74 3 [aA 10, aA t, aI l2, aI l3, aI (w32 (l4 + 1))] [] s1 else some (aI 0, s) := by
  refine (x_iload f74_3 rfl rfl).trans ?_
  refine (x_iload f74_5 rfl rfl).trans ?_
  refine (x_icmp_ge (tg := 61) f74_6 rfl rfl).trans (i_c ?_ ?_)
  · refine (x_aload f74_9 rfl rfl).trans ?_
    refine (x_aload f74_10 rfl rfl).trans ?_
    refine (x_iload f74_11 rfl rfl).trans ?_
    refine (x_invokevirtual (G := grd (kd 10 = 4) (bnL (sem 69 0 [aA 10, aA t, aI l4, aU, aU, aU, aU, aU] [] s) fun a2 s1 => sem 74 16 [aA 10, aA t, aI l2, aI l3, aI l4] [aL a2] s1)) f74_13 rfl rfl).trans ?_
    refine (g_t rfl).trans ?_
    refine bL_h fun a2 s1 qs1 => ?_
    have rs1 := RefC.sem qs1 rfl hR
    refine (x_lconst f74_16 rfl).trans ?_
    refine (x_lcmp f74_17 rfl).trans ?_
    refine (x_if_le (tg := 55) f74_18 rfl rfl).trans (i_c ?_ ?_)
    · refine (x_aload f74_21 rfl rfl).trans ?_
      refine (x_iload f74_22 rfl rfl).trans ?_
      refine (x_iload f74_23 rfl rfl).trans ?_
      refine (x_invokevirtual (G := grd (kd t = 6) (bnI (sem 85 0 [aA t, aI l2, aI l4, aU] [] s1) fun a4 s3 => sem 74 28 [aA 10, aA t, aI l2, aI l3, aI l4] [aI a4] s3)) f74_25 rfl rfl).trans ?_
      refine (g_t ((kd_t ht).1)).trans ?_
      refine bI_h fun a4 s3 qs3 => ?_
      have rs3 := RefC.sem qs3 rfl rs1
      refine (x_aload f74_28 rfl rfl).trans ?_
      refine (x_iload f74_29 rfl rfl).trans ?_
      refine (x_iload f74_30 rfl rfl).trans ?_
      refine (x_invokevirtual (G := grd (kd t = 6) (bnI (sem 85 0 [aA t, aI l2, aI l3, aU] [] s3) fun a6 s5 => sem 74 34 [aA 10, aA t, aI l2, aI l3, aI l4] [aI a6, aI a4] s5)) f74_31 rfl rfl).trans ?_
      refine (g_t ((kd_t ht).1)).trans ?_
      refine bI_h fun a6 s5 qs5 => ?_
      have rs5 := RefC.sem qs5 rfl rs3
      refine (x_icmp_ne (tg := 55) f74_34 rfl rfl).trans (i_c ?_ ?_)
      · refine (x_aload f74_37 rfl rfl).trans ?_
        refine (x_iload f74_38 rfl rfl).trans ?_
        refine (x_iload f74_39 rfl rfl).trans ?_
        refine (x_invokevirtual (G := grd (kd t = 6) (bnI (sem 86 0 [aA t, aI l2, aI l4, aU] [] s5) fun a8 s7 => sem 74 44 [aA 10, aA t, aI l2, aI l3, aI l4] [aI a8] s7)) f74_41 rfl rfl).trans ?_
        refine (g_t ((kd_t ht).1)).trans ?_
        refine bI_h fun a8 s7 qs7 => ?_
        have rs7 := RefC.sem qs7 rfl rs5
        refine (x_aload f74_44 rfl rfl).trans ?_
        refine (x_iload f74_45 rfl rfl).trans ?_
        refine (x_iload f74_46 rfl rfl).trans ?_
        refine (x_invokevirtual (G := grd (kd t = 6) (bnI (sem 86 0 [aA t, aI l2, aI l3, aU] [] s7) fun a10 s9 => sem 74 50 [aA 10, aA t, aI l2, aI l3, aI l4] [aI a10, aI a8] s9)) f74_47 rfl rfl).trans ?_
        refine (g_t ((kd_t ht).1)).trans ?_
        refine bI_h fun a10 s9 qs9 => ?_
        have rs9 := RefC.sem qs9 rfl rs7
        refine (x_icmp_ne (tg := 55) f74_50 rfl rfl).trans (i_c ?_ ?_)
        · refine (x_iconst f74_53 rfl).trans ?_
          exact x_zreturn1 f74_54 rfl
        · refine (x_iinc (l2 := [aA 10, aA t, aI l2, aI l3, aI (w32 (l4 + 1))]) f74_55 rfl rfl rfl).trans ?_
          refine (x_goto (tg := 3) f74_58 rfl rfl).trans ?_
          rfl
      · refine (x_iinc (l2 := [aA 10, aA t, aI l2, aI l3, aI (w32 (l4 + 1))]) f74_55 rfl rfl rfl).trans ?_
        refine (x_goto (tg := 3) f74_58 rfl rfl).trans ?_
        rfl
    · refine (x_iinc (l2 := [aA 10, aA t, aI l2, aI l3, aI (w32 (l4 + 1))]) f74_55 rfl rfl rfl).trans ?_
      refine (x_goto (tg := 3) f74_58 rfl rfl).trans ?_
      rfl
  · refine (x_iconst f74_61 rfl).trans ?_
    exact x_zreturn0 f74_62 rfl
set_option maxRecDepth 10000 in
theorem g76_0 {s : SG} (hR : RefC s) : sem 76 0 [aA 1] [] s = some (aI (s 1 1), s) := by
  refine (x_aload f76_0 rfl rfl).trans ?_
  refine (y_get0 (ji := 1) rfl f76_1 rfl rfl).trans ?_
  refine (g_t rfl).trans ?_
  exact x_ireturn f76_4 rfl
set_option maxRecDepth 10000 in
theorem g77_0 {s : SG} (hR : RefC s) (l1 : Int) : sem 77 0 [aA 1, aI l1] [] s = if (64 : Int) < (w32 ((s 1 1) + l1)) then some (aI 0, s) else some (aI 1, s) := by
  refine (x_aload f77_0 rfl rfl).trans ?_
  refine (y_get0 (ji := 1) rfl f77_1 rfl rfl).trans ?_
  refine (g_t rfl).trans ?_
  refine (x_iload f77_4 rfl rfl).trans ?_
  refine (x_iadd f77_5 rfl).trans ?_
  refine (x_iconst f77_6 rfl).trans ?_
  refine (x_icmp_gt (tg := 15) f77_8 rfl rfl).trans (i_c ?_ ?_)
  · refine (x_iconst f77_15 rfl).trans ?_
    refine (x_kil (l2 := [aU, aU]) f77_16 rfl).trans ?_
    exact x_zreturn0 f77_16 rfl
  · refine (x_iconst f77_11 rfl).trans ?_
    refine (x_goto (tg := 16) f77_12 rfl rfl).trans ?_
    refine (x_kil (l2 := [aU, aU]) f77_16 rfl).trans ?_
    exact x_zreturn1 f77_16 rfl
set_option maxRecDepth 10000 in
theorem g78_0 {s : SG} (hR : RefC s) (l1 l2 : Int) : sem 78 0 [aA 1, aI l1, aL l2, aU, aU] [] s = sem 78 5 [aA 1, aU, aL l2, aU, aI (w32 (l1 - 1))] [] s := by
  refine (x_iload f78_0 rfl rfl).trans ?_
  refine (x_iconst f78_1 rfl).trans ?_
  refine (x_isub f78_2 rfl).trans ?_
  refine (x_istore (l2 := [aA 1, aI l1, aL l2, aU, aI (w32 (l1 - 1))]) f78_3 rfl rfl).trans ?_
  exact x_kil f78_5 rfl
set_option maxRecDepth 10000 in
theorem g78_5 {s : SG} (hR : RefC s) (l2 l4 : Int) : sem 78 5 [aA 1, aU, aL l2, aU, aI l4] [] s = if l4 < 0 then some (aU, s) else if (s 1 1) < 64 then grd ((0 : Int) ≤ (s 1 1) ∧ (s 1 1) < 64) (sem 78 5 [aA 1, aU, aL l2, aU, aI (w32 (l4 + (-1)))] [] (up (up s 2 (s 1 1) (iandA (w32 (lushrA l2 (w32 (8 * l4)))) 255)) 1 1 (w32 ((s 1 1) + 1)))) else some (aU, s) := by
  refine (x_iload f78_5 rfl rfl).trans ?_
  refine (x_if_lt (tg := 56) f78_7 rfl rfl).trans (i_c ?_ ?_)
  · refine (x_kil (l2 := [aU, aU, aU, aU, aU]) f78_56 rfl).trans ?_
    exact x_return f78_56 rfl
  · refine (x_aload f78_10 rfl rfl).trans ?_
    refine (y_get0 (ji := 1) rfl f78_11 rfl rfl).trans ?_
    refine (g_t rfl).trans ?_
    refine (x_iconst f78_14 rfl).trans ?_
    refine (x_icmp_ge (tg := 56) f78_16 rfl rfl).trans (i_c ?_ ?_)
    · refine (x_aload f78_19 rfl rfl).trans ?_
      refine (y_get2 (ji := 0) rfl f78_20 rfl rfl).trans ?_
      refine (g_t rfl).trans ?_
      refine (g_t (by rw [show s 1 0 = 2 from hR.2.2.2.2.2.2.2.2.2.1]; decide)).trans ?_
      rw [show s 1 0 = 2 from hR.2.2.2.2.2.2.2.2.2.1]
      refine (x_aload f78_23 rfl rfl).trans ?_
      refine (y_get0 (ji := 1) rfl f78_24 rfl rfl).trans ?_
      refine (g_t rfl).trans ?_
      refine (x_lload f78_27 rfl rfl).trans ?_
      refine (x_iconst f78_28 rfl).trans ?_
      refine (x_iload f78_30 rfl rfl).trans ?_
      refine (x_imul f78_32 rfl).trans ?_
      refine (x_lushr f78_33 rfl).trans ?_
      refine (x_l2i f78_34 rfl).trans ?_
      refine (x_iconst f78_35 rfl).trans ?_
      refine (x_iand f78_38 rfl).trans ?_
      refine (x_iastore f78_39 rfl).trans ?_
      refine (g_t rfl).trans ?_
      refine g_kl (n := 64) rfl fun hg1 => ?_
      refine (x_aload f78_40 rfl rfl).trans ?_
      refine (x_dup f78_41 rfl rfl).trans ?_
      refine (y_get0 (ji := 1) rfl f78_42 rfl rfl).trans ?_
      refine (g_t rfl).trans ?_
      rw [show (up s 2 (s 1 1) (iandA (w32 (lushrA l2 (w32 (8 * l4)))) 255)) 1 1 = s 1 1 from by rw [up_ne (by decide)]]
      refine (x_iconst f78_45 rfl).trans ?_
      refine (x_iadd f78_46 rfl).trans ?_
      refine (y_put0 (ji := 1) rfl f78_47 rfl rfl).trans ?_
      refine (g_t rfl).trans ?_
      refine (x_iinc (l2 := [aA 1, aU, aL l2, aU, aI (w32 (l4 + (-1)))]) f78_50 rfl rfl rfl).trans ?_
      refine (x_goto (tg := 5) f78_53 rfl rfl).trans ?_
      rfl
    · refine (x_kil (l2 := [aU, aU, aU, aU, aU]) f78_56 rfl).trans ?_
      exact x_return f78_56 rfl
set_option maxRecDepth 10000 in
theorem g79_0 {s : SG} (hR : RefC s) : sem 79 0 [aA 1, aU] [] s = some (aI (s 1 1), up s 1 1 0) := by
  refine (x_aload f79_0 rfl rfl).trans ?_
  refine (y_get0 (ji := 1) rfl f79_1 rfl rfl).trans ?_
  refine (g_t rfl).trans ?_
  refine (x_istore (l2 := [aA 1, aI (s 1 1)]) f79_4 rfl rfl).trans ?_
  refine (x_aload f79_5 rfl rfl).trans ?_
  refine (x_iconst f79_6 rfl).trans ?_
  refine (y_put0 (ji := 1) rfl f79_7 rfl rfl).trans ?_
  refine (g_t rfl).trans ?_
  refine (x_iload f79_10 rfl rfl).trans ?_
  exact x_ireturn f79_11 rfl
set_option maxRecDepth 10000 in
theorem g80_0 {s : SG} (hR : RefC s) (l1 : Int) : sem 80 0 [aA 1, aI l1] [] s = if l1 < 0 then some (aI ((-1)), s) else if l1 < (s 1 1) then grd ((0 : Int) ≤ l1 ∧ l1 < 64) (some (aI (s 2 l1), s)) else some (aI ((-1)), s) := by
  refine (x_iload f80_0 rfl rfl).trans ?_
  refine (x_if_lt (tg := 21) f80_1 rfl rfl).trans (i_c ?_ ?_)
  · refine (x_kil (l2 := [aU, aU]) f80_21 rfl).trans ?_
    refine (x_iconst f80_21 rfl).trans ?_
    exact x_ireturn f80_22 rfl
  · refine (x_iload f80_4 rfl rfl).trans ?_
    refine (x_aload f80_5 rfl rfl).trans ?_
    refine (y_get0 (ji := 1) rfl f80_6 rfl rfl).trans ?_
    refine (g_t rfl).trans ?_
    refine (x_icmp_ge (tg := 21) f80_9 rfl rfl).trans (i_c ?_ ?_)
    · refine (x_aload f80_12 rfl rfl).trans ?_
      refine (y_get2 (ji := 0) rfl f80_13 rfl rfl).trans ?_
      refine (g_t rfl).trans ?_
      refine (g_t (by rw [show s 1 0 = 2 from hR.2.2.2.2.2.2.2.2.2.1]; decide)).trans ?_
      rw [show s 1 0 = 2 from hR.2.2.2.2.2.2.2.2.2.1]
      refine (x_iload f80_16 rfl rfl).trans ?_
      refine (x_iaload f80_17 rfl).trans ?_
      refine (g_t rfl).trans ?_
      refine g_kl (n := 64) rfl fun hg1 => ?_
      refine (x_goto (tg := 22) f80_18 rfl rfl).trans ?_
      refine (x_kil (l2 := [aU, aU]) f80_22 rfl).trans ?_
      exact x_ireturn f80_22 rfl
    · refine (x_kil (l2 := [aU, aU]) f80_21 rfl).trans ?_
      refine (x_iconst f80_21 rfl).trans ?_
      exact x_ireturn f80_22 rfl
set_option maxRecDepth 10000 in
theorem g82_0 {t : Int} (ht : t = 32 ∨ t = 37) {s : SG} (hR : RefC s) : sem 82 0 [aA t] [] s = bnV (sem 222 0 [aA (t + 1), aI 1, aU, aU] [] (up (up (up (up s t 4 1) t 5 10) t 6 20) t 7 5)) fun s1 => bnV (sem 222 0 [aA (t + 2), aI 1, aU, aU] [] s1) fun s2 => bnV (sem 222 0 [aA (t + 3), aI 5, aU, aU] [] s2) fun s3 => bnV (sem 222 0 [aA (t + 4), aI ((-9)), aU, aU] [] s3) fun s4 => some (aU, s4) := by
  refine (x_aload f82_0 rfl rfl).trans ?_
  refine (x_iconst f82_1 rfl).trans ?_
  refine (y_put0 (ji := 4) rfl f82_2 rfl rfl).trans ?_
  refine (g_t ((kd_t ht).1)).trans ?_
  refine (x_aload f82_5 rfl rfl).trans ?_
  refine (x_iconst f82_6 rfl).trans ?_
  refine (y_put0 (ji := 5) rfl f82_8 rfl rfl).trans ?_
  refine (g_t ((kd_t ht).1)).trans ?_
  refine (x_aload f82_11 rfl rfl).trans ?_
  refine (x_iconst f82_12 rfl).trans ?_
  refine (y_put0 (ji := 6) rfl f82_14 rfl rfl).trans ?_
  refine (g_t ((kd_t ht).1)).trans ?_
  refine (x_aload f82_17 rfl rfl).trans ?_
  refine (x_iconst f82_18 rfl).trans ?_
  refine (y_put0 (ji := 7) rfl f82_19 rfl rfl).trans ?_
  refine (g_t ((kd_t ht).1)).trans ?_
  refine (x_aload f82_22 rfl rfl).trans ?_
  refine (y_get2 (ji := 0) rfl f82_23 rfl rfl).trans ?_
  refine (g_t ((kd_t ht).1)).trans ?_
  refine (g_t (by rw [show (up (up (up (up s t 4 1) t 5 10) t 6 20) t 7 5) t 0 = t + 1 from (by rw [up_ni (by decide), up_ni (by decide), up_ni (by decide), up_ni (by decide)]; exact ((ref_t hR ht).1))]; omega)).trans ?_
  rw [show (up (up (up (up s t 4 1) t 5 10) t 6 20) t 7 5) t 0 = t + 1 from (by rw [up_ni (by decide), up_ni (by decide), up_ni (by decide), up_ni (by decide)]; exact ((ref_t hR ht).1))]
  refine (x_iconst f82_26 rfl).trans ?_
  refine (x_invokestatic (G := bnV (sem 222 0 [aA (t + 1), aI 1, aU, aU] [] (up (up (up (up s t 4 1) t 5 10) t 6 20) t 7 5)) fun s1 => sem 82 30 [aA t] [] s1) f82_27 rfl rfl).trans ?_
  refine bV_h fun s1 qs1 => ?_
  have rs1 := RefC.sem qs1 rfl (RefC.upd (RefC.upd (RefC.upd (RefC.upd hR (rcb_f (c := 6) (j := 4) ((kd_t ht).1) (by decide) (by decide))) (rcb_f (c := 6) (j := 5) ((kd_t ht).1) (by decide) (by decide))) (rcb_f (c := 6) (j := 6) ((kd_t ht).1) (by decide) (by decide))) (rcb_f (c := 6) (j := 7) ((kd_t ht).1) (by decide) (by decide)))
  refine (x_aload f82_30 rfl rfl).trans ?_
  refine (y_get2 (ji := 1) rfl f82_31 rfl rfl).trans ?_
  refine (g_t ((kd_t ht).1)).trans ?_
  refine (g_t (by rw [show s1 t 1 = t + 2 from ((ref_t rs1 ht).2.1)]; omega)).trans ?_
  rw [show s1 t 1 = t + 2 from ((ref_t rs1 ht).2.1)]
  refine (x_iconst f82_34 rfl).trans ?_
  refine (x_invokestatic (G := bnV (sem 222 0 [aA (t + 2), aI 1, aU, aU] [] s1) fun s2 => sem 82 38 [aA t] [] s2) f82_35 rfl rfl).trans ?_
  refine bV_h fun s2 qs2 => ?_
  have rs2 := RefC.sem qs2 rfl rs1
  refine (x_aload f82_38 rfl rfl).trans ?_
  refine (y_get2 (ji := 2) rfl f82_39 rfl rfl).trans ?_
  refine (g_t ((kd_t ht).1)).trans ?_
  refine (g_t (by rw [show s2 t 2 = t + 3 from ((ref_t rs2 ht).2.2.1)]; omega)).trans ?_
  rw [show s2 t 2 = t + 3 from ((ref_t rs2 ht).2.2.1)]
  refine (x_iconst f82_42 rfl).trans ?_
  refine (x_invokestatic (G := bnV (sem 222 0 [aA (t + 3), aI 5, aU, aU] [] s2) fun s3 => sem 82 46 [aA t] [] s3) f82_43 rfl rfl).trans ?_
  refine bV_h fun s3 qs3 => ?_
  have rs3 := RefC.sem qs3 rfl rs2
  refine (x_aload f82_46 rfl rfl).trans ?_
  refine (y_get2 (ji := 3) rfl f82_47 rfl rfl).trans ?_
  refine (g_t ((kd_t ht).1)).trans ?_
  refine (g_t (by rw [show s3 t 3 = t + 4 from ((ref_t rs3 ht).2.2.2)]; omega)).trans ?_
  rw [show s3 t 3 = t + 4 from ((ref_t rs3 ht).2.2.2)]
  refine (x_iconst f82_50 rfl).trans ?_
  refine (x_invokestatic (G := bnV (sem 222 0 [aA (t + 4), aI ((-9)), aU, aU] [] s3) fun s4 => sem 82 55 [aA t] [] s4) f82_52 rfl rfl).trans ?_
  refine bV_h fun s4 qs4 => ?_
  have rs4 := RefC.sem qs4 rfl rs3
  exact x_return f82_55 rfl
set_option maxRecDepth 10000 in
theorem g83_0 {t : Int} (ht : t = 32 ∨ t = 37) {s : SG} (hR : RefC s) (l1 : Int) : sem 83 0 [aA t, aI l1] [] s = if l1 < 0 then some (aI 0, s) else if l1 < (s t 4) then if l1 < 3 then some (aI 1, s) else some (aI 0, s) else some (aI 0, s) := by
  refine (x_iload f83_0 rfl rfl).trans ?_
  refine (x_if_lt (tg := 21) f83_1 rfl rfl).trans (i_c ?_ ?_)
  · refine (x_kil (l2 := [aU, aU]) f83_21 rfl).trans ?_
    refine (x_iconst f83_21 rfl).trans ?_
    exact x_zreturn0 f83_22 rfl
  · refine (x_iload f83_4 rfl rfl).trans ?_
    refine (x_aload f83_5 rfl rfl).trans ?_
    refine (y_get0 (ji := 4) rfl f83_6 rfl rfl).trans ?_
    refine (g_t ((kd_t ht).1)).trans ?_
    refine (x_icmp_ge (tg := 21) f83_9 rfl rfl).trans (i_c ?_ ?_)
    · refine (x_iload f83_12 rfl rfl).trans ?_
      refine (x_iconst f83_13 rfl).trans ?_
      refine (x_icmp_ge (tg := 21) f83_14 rfl rfl).trans (i_c ?_ ?_)
      · refine (x_iconst f83_17 rfl).trans ?_
        refine (x_goto (tg := 22) f83_18 rfl rfl).trans ?_
        refine (x_kil (l2 := [aU, aU]) f83_22 rfl).trans ?_
        exact x_zreturn1 f83_22 rfl
      · refine (x_kil (l2 := [aU, aU]) f83_21 rfl).trans ?_
        refine (x_iconst f83_21 rfl).trans ?_
        exact x_zreturn0 f83_22 rfl
    · refine (x_kil (l2 := [aU, aU]) f83_21 rfl).trans ?_
      refine (x_iconst f83_21 rfl).trans ?_
      exact x_zreturn0 f83_22 rfl
set_option maxRecDepth 10000 in
theorem g84_0 {t : Int} (ht : t = 32 ∨ t = 37) {s : SG} (hR : RefC s) (l1 : Int) : sem 84 0 [aA t, aI l1] [] s = bnI (sem 140 0 [aI l1] [] s) fun a2 s1 => if a2 = 0 then some (aI 0, s1) else grd ((0 : Int) ≤ l1 ∧ l1 < 3) (some (aI (s1 (t + 1) l1), s1)) := by
  refine (x_iload f84_0 rfl rfl).trans ?_
  refine (x_invokestatic (G := bnI (sem 140 0 [aI l1] [] s) fun a2 s1 => sem 84 4 [aA t, aI l1] [aI a2] s1) f84_1 rfl rfl).trans ?_
  refine bI_h fun a2 s1 qs1 => ?_
  have rs1 := RefC.sem qs1 rfl hR
  refine (x_if_eq (tg := 16) f84_4 rfl rfl).trans (i_c ?_ ?_)
  · refine (x_iconst f84_16 rfl).trans ?_
    refine (x_kil (l2 := [aU, aU]) f84_17 rfl).trans ?_
    exact x_ireturn f84_17 rfl
  · refine (x_aload f84_7 rfl rfl).trans ?_
    refine (y_get2 (ji := 0) rfl f84_8 rfl rfl).trans ?_
    refine (g_t ((kd_t ht).1)).trans ?_
    refine (g_t (by rw [show s1 t 0 = t + 1 from ((ref_t rs1 ht).1)]; omega)).trans ?_
    rw [show s1 t 0 = t + 1 from ((ref_t rs1 ht).1)]
    refine (x_iload f84_11 rfl rfl).trans ?_
    refine (x_iaload f84_12 rfl).trans ?_
    refine (g_t ((kd_t ht).2.1)).trans ?_
    refine g_kl (n := 3) ((kd_t ht).2.2.1) fun hg3 => ?_
    refine (x_goto (tg := 17) f84_13 rfl rfl).trans ?_
    refine (x_kil (l2 := [aU, aU]) f84_17 rfl).trans ?_
    exact x_ireturn f84_17 rfl
set_option maxRecDepth 10000 in
theorem g85_0 {t : Int} (ht : t = 32 ∨ t = 37) {s : SG} (hR : RefC s) (l1 l2 : Int) : sem 85 0 [aA t, aI l1, aI l2, aU] [] s = if (w32 ((w32 (l1 * 3)) + l2)) < 0 then some (aI 0, s) else if (w32 ((w32 (l1 * 3)) + l2)) < 9 then grd ((0 : Int) ≤ (w32 ((w32 (l1 * 3)) + l2)) ∧ (w32 ((w32 (l1 * 3)) + l2)) < 9) (some (aI (s (t + 2) (w32 ((w32 (l1 * 3)) + l2))), s)) else some (aI 0, s) := by
  refine (x_iload f85_0 rfl rfl).trans ?_
  refine (x_iconst f85_1 rfl).trans ?_
  refine (x_imul f85_2 rfl).trans ?_
  refine (x_iload f85_3 rfl rfl).trans ?_
  refine (x_iadd f85_4 rfl).trans ?_
  refine (x_istore (l2 := [aA t, aI l1, aI l2, aI (w32 ((w32 (l1 * 3)) + l2))]) f85_5 rfl rfl).trans ?_
  refine (x_iload f85_6 rfl rfl).trans ?_
  refine (x_if_lt (tg := 28) f85_7 rfl rfl).trans (i_c ?_ ?_)
  · refine (x_kil (l2 := [aU, aU, aU, aU]) f85_28 rfl).trans ?_
    refine (x_iconst f85_28 rfl).trans ?_
    exact x_ireturn f85_29 rfl
  · refine (x_iload f85_10 rfl rfl).trans ?_
    refine (x_aload f85_11 rfl rfl).trans ?_
    refine (y_get2 (ji := 1) rfl f85_12 rfl rfl).trans ?_
    refine (g_t ((kd_t ht).1)).trans ?_
    refine (g_t (by rw [show s t 1 = t + 2 from ((ref_t hR ht).2.1)]; omega)).trans ?_
    rw [show s t 1 = t + 2 from ((ref_t hR ht).2.1)]
    refine (x_arraylength f85_15 rfl).trans ?_
    refine (g_t (by rw [show kd (t + 2) = 101 from ((kd_t ht).2.2.2.1)]; decide)).trans ?_
    rw [show kl (t + 2) = 9 from ((kd_t ht).2.2.2.2.1)]
    refine (x_icmp_ge (tg := 28) f85_16 rfl rfl).trans (i_c ?_ ?_)
    · refine (x_aload f85_19 rfl rfl).trans ?_
      refine (y_get2 (ji := 1) rfl f85_20 rfl rfl).trans ?_
      refine (g_t ((kd_t ht).1)).trans ?_
      refine (g_t (by rw [show s t 1 = t + 2 from ((ref_t hR ht).2.1)]; omega)).trans ?_
      rw [show s t 1 = t + 2 from ((ref_t hR ht).2.1)]
      refine (x_iload f85_23 rfl rfl).trans ?_
      refine (x_iaload f85_24 rfl).trans ?_
      refine (g_t ((kd_t ht).2.2.2.1)).trans ?_
      refine g_kl (n := 9) ((kd_t ht).2.2.2.2.1) fun hg1 => ?_
      refine (x_goto (tg := 29) f85_25 rfl rfl).trans ?_
      refine (x_kil (l2 := [aU, aU, aU, aU]) f85_29 rfl).trans ?_
      exact x_ireturn f85_29 rfl
    · refine (x_kil (l2 := [aU, aU, aU, aU]) f85_28 rfl).trans ?_
      refine (x_iconst f85_28 rfl).trans ?_
      exact x_ireturn f85_29 rfl
set_option maxRecDepth 10000 in
theorem g86_0 {t : Int} (ht : t = 32 ∨ t = 37) {s : SG} (hR : RefC s) (l1 l2 : Int) : sem 86 0 [aA t, aI l1, aI l2, aU] [] s = if (w32 ((w32 (l1 * 3)) + l2)) < 0 then some (aI 0, s) else if (w32 ((w32 (l1 * 3)) + l2)) < 9 then grd ((0 : Int) ≤ (w32 ((w32 (l1 * 3)) + l2)) ∧ (w32 ((w32 (l1 * 3)) + l2)) < 9) (some (aI (s (t + 3) (w32 ((w32 (l1 * 3)) + l2))), s)) else some (aI 0, s) := by
  refine (x_iload f86_0 rfl rfl).trans ?_
  refine (x_iconst f86_1 rfl).trans ?_
  refine (x_imul f86_2 rfl).trans ?_
  refine (x_iload f86_3 rfl rfl).trans ?_
  refine (x_iadd f86_4 rfl).trans ?_
  refine (x_istore (l2 := [aA t, aI l1, aI l2, aI (w32 ((w32 (l1 * 3)) + l2))]) f86_5 rfl rfl).trans ?_
  refine (x_iload f86_6 rfl rfl).trans ?_
  refine (x_if_lt (tg := 28) f86_7 rfl rfl).trans (i_c ?_ ?_)
  · refine (x_kil (l2 := [aU, aU, aU, aU]) f86_28 rfl).trans ?_
    refine (x_iconst f86_28 rfl).trans ?_
    exact x_ireturn f86_29 rfl
  · refine (x_iload f86_10 rfl rfl).trans ?_
    refine (x_aload f86_11 rfl rfl).trans ?_
    refine (y_get2 (ji := 2) rfl f86_12 rfl rfl).trans ?_
    refine (g_t ((kd_t ht).1)).trans ?_
    refine (g_t (by rw [show s t 2 = t + 3 from ((ref_t hR ht).2.2.1)]; omega)).trans ?_
    rw [show s t 2 = t + 3 from ((ref_t hR ht).2.2.1)]
    refine (x_arraylength f86_15 rfl).trans ?_
    refine (g_t (by rw [show kd (t + 3) = 101 from ((kd_t ht).2.2.2.2.2.1)]; decide)).trans ?_
    rw [show kl (t + 3) = 9 from ((kd_t ht).2.2.2.2.2.2.1)]
    refine (x_icmp_ge (tg := 28) f86_16 rfl rfl).trans (i_c ?_ ?_)
    · refine (x_aload f86_19 rfl rfl).trans ?_
      refine (y_get2 (ji := 2) rfl f86_20 rfl rfl).trans ?_
      refine (g_t ((kd_t ht).1)).trans ?_
      refine (g_t (by rw [show s t 2 = t + 3 from ((ref_t hR ht).2.2.1)]; omega)).trans ?_
      rw [show s t 2 = t + 3 from ((ref_t hR ht).2.2.1)]
      refine (x_iload f86_23 rfl rfl).trans ?_
      refine (x_iaload f86_24 rfl).trans ?_
      refine (g_t ((kd_t ht).2.2.2.2.2.1)).trans ?_
      refine g_kl (n := 9) ((kd_t ht).2.2.2.2.2.2.1) fun hg1 => ?_
      refine (x_goto (tg := 29) f86_25 rfl rfl).trans ?_
      refine (x_kil (l2 := [aU, aU, aU, aU]) f86_29 rfl).trans ?_
      exact x_ireturn f86_29 rfl
    · refine (x_kil (l2 := [aU, aU, aU, aU]) f86_28 rfl).trans ?_
      refine (x_iconst f86_28 rfl).trans ?_
      exact x_ireturn f86_29 rfl
