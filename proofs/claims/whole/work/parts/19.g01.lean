set_option maxRecDepth 10000 in
theorem g86_0 {t : Int} (ht : t = 32 ∨ t = 37) {s : SG} (hR : RefC s) (l1 : Int) : sem 86 0 [aA t, aI l1] [] s = bnI (sem 82 0 [aA t, aI l1] [] s) fun a2 s1 => if a2 = 0 then some (aI ((-9)), s1) else grd ((0 : Int) ≤ l1 ∧ l1 < 3) (some (aI (s1 (t + 4) l1), s1)) := by
  refine (x_aload f86_0 rfl rfl).trans ?_
  refine (x_iload f86_1 rfl rfl).trans ?_
  refine (x_invokevirtual (G := grd (kd t = 6) (bnI (sem 82 0 [aA t, aI l1] [] s) fun a2 s1 => sem 86 5 [aA t, aI l1] [aI a2] s1)) f86_2 rfl rfl).trans ?_
  refine (g_t ((kd_t ht).1)).trans ?_
  refine bI_h fun a2 s1 qs1 => ?_
  have rs1 := RefC.sem qs1 rfl hR
  refine (x_if_eq (tg := 17) f86_5 rfl rfl).trans (i_c ?_ ?_)
  · refine (x_iconst f86_17 rfl).trans ?_
    refine (x_kil (l2 := [aU, aU]) f86_19 rfl).trans ?_
    exact x_ireturn f86_19 rfl
  · refine (x_aload f86_8 rfl rfl).trans ?_
    refine (y_get2 (ji := 3) rfl f86_9 rfl rfl).trans ?_
    refine (g_t ((kd_t ht).1)).trans ?_
    refine (g_t (by rw [show s1 t 3 = t + 4 from ((ref_t rs1 ht).2.2.2)]; omega)).trans ?_
    rw [show s1 t 3 = t + 4 from ((ref_t rs1 ht).2.2.2)]
    refine (x_iload f86_12 rfl rfl).trans ?_
    refine (x_iaload f86_13 rfl).trans ?_
    refine (g_t ((kd_t ht).2.2.2.2.2.2.2.1)).trans ?_
    refine g_kl (n := 3) ((kd_t ht).2.2.2.2.2.2.2.2) fun hg3 => ?_
    refine (x_goto (tg := 19) f86_14 rfl rfl).trans ?_
    refine (x_kil (l2 := [aU, aU]) f86_19 rfl).trans ?_
    exact x_ireturn f86_19 rfl
set_option maxRecDepth 10000 in
theorem g87_0 {t : Int} (ht : t = 32 ∨ t = 37) {s : SG} (hR : RefC s) (l1 l2 : Int) : sem 87 0 [aA t, aI l1, aI l2] [] s = bnI (sem 140 0 [aI l1] [] s) fun a2 s1 => if a2 = 0 then some (aU, s1) else grd ((0 : Int) ≤ l1 ∧ l1 < 3) (some (aU, up s1 (t + 1) l1 l2)) := by
  refine (x_iload f87_0 rfl rfl).trans ?_
  refine (x_invokestatic (G := bnI (sem 140 0 [aI l1] [] s) fun a2 s1 => sem 87 4 [aA t, aI l1, aI l2] [aI a2] s1) f87_1 rfl rfl).trans ?_
  refine bI_h fun a2 s1 qs1 => ?_
  have rs1 := RefC.sem qs1 rfl hR
  refine (x_if_eq (tg := 14) f87_4 rfl rfl).trans (i_c ?_ ?_)
  · refine (x_kil (l2 := [aU, aU, aU]) f87_14 rfl).trans ?_
    exact x_return f87_14 rfl
  · refine (x_aload f87_7 rfl rfl).trans ?_
    refine (y_get2 (ji := 0) rfl f87_8 rfl rfl).trans ?_
    refine (g_t ((kd_t ht).1)).trans ?_
    refine (g_t (by rw [show s1 t 0 = t + 1 from ((ref_t rs1 ht).1)]; omega)).trans ?_
    rw [show s1 t 0 = t + 1 from ((ref_t rs1 ht).1)]
    refine (x_iload f87_11 rfl rfl).trans ?_
    refine (x_iload f87_12 rfl rfl).trans ?_
    refine (x_iastore f87_13 rfl).trans ?_
    refine (g_t ((kd_t ht).2.1)).trans ?_
    refine g_kl (n := 3) ((kd_t ht).2.2.1) fun hg3 => ?_
    refine (x_kil (l2 := [aU, aU, aU]) f87_14 rfl).trans ?_
    exact x_return f87_14 rfl
set_option maxRecDepth 10000 in
theorem g88_0 {t : Int} (ht : t = 32 ∨ t = 37) {s : SG} (hR : RefC s) (l1 l2 l3 l4 : Int) : sem 88 0 [aA t, aI l1, aI l2, aI l3, aI l4, aU] [] s = if (w32 ((w32 (l1 * 3)) + l2)) < 0 then some (aU, s) else if (w32 ((w32 (l1 * 3)) + l2)) < 9 then if (w32 ((w32 (l1 * 3)) + l2)) < 9 then grd ((0 : Int) ≤ (w32 ((w32 (l1 * 3)) + l2)) ∧ (w32 ((w32 (l1 * 3)) + l2)) < 9) (some (aU, up (up s (t + 2) (w32 ((w32 (l1 * 3)) + l2)) l3) (t + 3) (w32 ((w32 (l1 * 3)) + l2)) l4)) else some (aU, s) else some (aU, s) := by
  refine (x_iload f88_0 rfl rfl).trans ?_
  refine (x_iconst f88_1 rfl).trans ?_
  refine (x_imul f88_2 rfl).trans ?_
  refine (x_iload f88_3 rfl rfl).trans ?_
  refine (x_iadd f88_4 rfl).trans ?_
  refine (x_istore (l2 := [aA t, aI l1, aI l2, aI l3, aI l4, aI (w32 ((w32 (l1 * 3)) + l2))]) f88_5 rfl rfl).trans ?_
  refine (x_iload f88_7 rfl rfl).trans ?_
  refine (x_if_lt (tg := 49) f88_9 rfl rfl).trans (i_c ?_ ?_)
  · refine (x_kil (l2 := [aU, aU, aU, aU, aU, aU]) f88_49 rfl).trans ?_
    exact x_return f88_49 rfl
  · refine (x_iload f88_12 rfl rfl).trans ?_
    refine (x_aload f88_14 rfl rfl).trans ?_
    refine (y_get2 (ji := 1) rfl f88_15 rfl rfl).trans ?_
    refine (g_t ((kd_t ht).1)).trans ?_
    refine (g_t (by rw [show s t 1 = t + 2 from ((ref_t hR ht).2.1)]; omega)).trans ?_
    rw [show s t 1 = t + 2 from ((ref_t hR ht).2.1)]
    refine (x_arraylength f88_18 rfl).trans ?_
    refine (g_t (by rw [show kd (t + 2) = 101 from ((kd_t ht).2.2.2.1)]; decide)).trans ?_
    rw [show kl (t + 2) = 9 from ((kd_t ht).2.2.2.2.1)]
    refine (x_icmp_ge (tg := 49) f88_19 rfl rfl).trans (i_c ?_ ?_)
    · refine (x_iload f88_22 rfl rfl).trans ?_
      refine (x_aload f88_24 rfl rfl).trans ?_
      refine (y_get2 (ji := 2) rfl f88_25 rfl rfl).trans ?_
      refine (g_t ((kd_t ht).1)).trans ?_
      refine (g_t (by rw [show s t 2 = t + 3 from ((ref_t hR ht).2.2.1)]; omega)).trans ?_
      rw [show s t 2 = t + 3 from ((ref_t hR ht).2.2.1)]
      refine (x_arraylength f88_28 rfl).trans ?_
      refine (g_t (by rw [show kd (t + 3) = 101 from ((kd_t ht).2.2.2.2.2.1)]; decide)).trans ?_
      rw [show kl (t + 3) = 9 from ((kd_t ht).2.2.2.2.2.2.1)]
      refine (x_icmp_ge (tg := 49) f88_29 rfl rfl).trans (i_c ?_ ?_)
      · refine (x_aload f88_32 rfl rfl).trans ?_
        refine (y_get2 (ji := 1) rfl f88_33 rfl rfl).trans ?_
        refine (g_t ((kd_t ht).1)).trans ?_
        refine (g_t (by rw [show s t 1 = t + 2 from ((ref_t hR ht).2.1)]; omega)).trans ?_
        rw [show s t 1 = t + 2 from ((ref_t hR ht).2.1)]
        refine (x_iload f88_36 rfl rfl).trans ?_
        refine (x_iload f88_38 rfl rfl).trans ?_
        refine (x_iastore f88_39 rfl).trans ?_
        refine (g_t ((kd_t ht).2.2.2.1)).trans ?_
        refine g_kl (n := 9) ((kd_t ht).2.2.2.2.1) fun hg1 => ?_
        refine (x_aload f88_40 rfl rfl).trans ?_
        refine (y_get2 (ji := 2) rfl f88_41 rfl rfl).trans ?_
        refine (g_t ((kd_t ht).1)).trans ?_
        refine (g_t (by rw [show (up s (t + 2) (w32 ((w32 (l1 * 3)) + l2)) l3) t 2 = t + 3 from (by rw [up_ne (by omega)]; exact ((ref_t hR ht).2.2.1))]; omega)).trans ?_
        rw [show (up s (t + 2) (w32 ((w32 (l1 * 3)) + l2)) l3) t 2 = t + 3 from (by rw [up_ne (by omega)]; exact ((ref_t hR ht).2.2.1))]
        refine (x_iload f88_44 rfl rfl).trans ?_
        refine (x_iload f88_46 rfl rfl).trans ?_
        refine (x_iastore f88_48 rfl).trans ?_
        refine (g_t ((kd_t ht).2.2.2.2.2.1)).trans ?_
        refine (g_kt (n := 9) ((kd_t ht).2.2.2.2.2.2.1) hg1).trans ?_
        refine (x_kil (l2 := [aU, aU, aU, aU, aU, aU]) f88_49 rfl).trans ?_
        exact x_return f88_49 rfl
      · refine (x_kil (l2 := [aU, aU, aU, aU, aU, aU]) f88_49 rfl).trans ?_
        exact x_return f88_49 rfl
    · refine (x_kil (l2 := [aU, aU, aU, aU, aU, aU]) f88_49 rfl).trans ?_
      exact x_return f88_49 rfl
set_option maxRecDepth 10000 in
theorem g89_0 {t : Int} (ht : t = 32 ∨ t = 37) {s : SG} (hR : RefC s) (l1 l2 : Int) : sem 89 0 [aA t, aI l1, aI l2] [] s = bnI (sem 82 0 [aA t, aI l1] [] s) fun a2 s1 => if a2 = 0 then some (aU, s1) else grd ((0 : Int) ≤ l1 ∧ l1 < 3) (some (aU, up s1 (t + 4) l1 l2)) := by
  refine (x_aload f89_0 rfl rfl).trans ?_
  refine (x_iload f89_1 rfl rfl).trans ?_
  refine (x_invokevirtual (G := grd (kd t = 6) (bnI (sem 82 0 [aA t, aI l1] [] s) fun a2 s1 => sem 89 5 [aA t, aI l1, aI l2] [aI a2] s1)) f89_2 rfl rfl).trans ?_
  refine (g_t ((kd_t ht).1)).trans ?_
  refine bI_h fun a2 s1 qs1 => ?_
  have rs1 := RefC.sem qs1 rfl hR
  refine (x_if_eq (tg := 15) f89_5 rfl rfl).trans (i_c ?_ ?_)
  · refine (x_kil (l2 := [aU, aU, aU]) f89_15 rfl).trans ?_
    exact x_return f89_15 rfl
  · refine (x_aload f89_8 rfl rfl).trans ?_
    refine (y_get2 (ji := 3) rfl f89_9 rfl rfl).trans ?_
    refine (g_t ((kd_t ht).1)).trans ?_
    refine (g_t (by rw [show s1 t 3 = t + 4 from ((ref_t rs1 ht).2.2.2)]; omega)).trans ?_
    rw [show s1 t 3 = t + 4 from ((ref_t rs1 ht).2.2.2)]
    refine (x_iload f89_12 rfl rfl).trans ?_
    refine (x_iload f89_13 rfl rfl).trans ?_
    refine (x_iastore f89_14 rfl).trans ?_
    refine (g_t ((kd_t ht).2.2.2.2.2.2.2.1)).trans ?_
    refine g_kl (n := 3) ((kd_t ht).2.2.2.2.2.2.2.2) fun hg3 => ?_
    refine (x_kil (l2 := [aU, aU, aU]) f89_15 rfl).trans ?_
    exact x_return f89_15 rfl
set_option maxRecDepth 10000 in
theorem g94_0 {t : Int} (ht : t = 32 ∨ t = 37) {s : SG} (hR : RefC s) (l2 l3 l4 : Int) : sem 94 0 [aA 13, aA t, aI l2, aI l3, aI l4] [] s = bnI (sem 84 0 [aA t, aI l2, aI l4, aU] [] s) fun a2 s1 => bnI (sem 84 0 [aA t, aI l3, aI l4, aU] [] (up s1 13 3 a2)) fun a4 s3 => bnI (sem 85 0 [aA t, aI l2, aI l4, aU] [] (up s3 13 4 a4)) fun a6 s5 => bnI (sem 85 0 [aA t, aI l3, aI l4, aU] [] (up s5 13 5 a6)) fun a8 s7 => some (aU, up s7 13 6 a8) := by
  refine (x_aload f94_0 rfl rfl).trans ?_
  refine (x_aload f94_1 rfl rfl).trans ?_
  refine (x_iload f94_2 rfl rfl).trans ?_
  refine (x_iload f94_3 rfl rfl).trans ?_
  refine (x_invokevirtual (G := grd (kd t = 6) (bnI (sem 84 0 [aA t, aI l2, aI l4, aU] [] s) fun a2 s1 => sem 94 8 [aA 13, aA t, aI l2, aI l3, aI l4] [aI a2, aA 13] s1)) f94_5 rfl rfl).trans ?_
  refine (g_t ((kd_t ht).1)).trans ?_
  refine bI_h fun a2 s1 qs1 => ?_
  have rs1 := RefC.sem qs1 rfl hR
  refine (y_put0 (ji := 3) rfl f94_8 rfl rfl).trans ?_
  refine (g_t rfl).trans ?_
  refine (x_aload f94_11 rfl rfl).trans ?_
  refine (x_aload f94_12 rfl rfl).trans ?_
  refine (x_iload f94_13 rfl rfl).trans ?_
  refine (x_iload f94_14 rfl rfl).trans ?_
  refine (x_invokevirtual (G := grd (kd t = 6) (bnI (sem 84 0 [aA t, aI l3, aI l4, aU] [] (up s1 13 3 a2)) fun a4 s3 => sem 94 19 [aA 13, aA t, aI l2, aI l3, aI l4] [aI a4, aA 13] s3)) f94_16 rfl rfl).trans ?_
  refine (g_t ((kd_t ht).1)).trans ?_
  refine bI_h fun a4 s3 qs3 => ?_
  have rs3 := RefC.sem qs3 rfl (RefC.upd rs1 (rcb_f (c := 7) (j := 3) rfl (by decide) (by decide)))
  refine (y_put0 (ji := 4) rfl f94_19 rfl rfl).trans ?_
  refine (g_t rfl).trans ?_
  refine (x_aload f94_22 rfl rfl).trans ?_
  refine (x_aload f94_23 rfl rfl).trans ?_
  refine (x_iload f94_24 rfl rfl).trans ?_
  refine (x_iload f94_25 rfl rfl).trans ?_
  refine (x_invokevirtual (G := grd (kd t = 6) (bnI (sem 85 0 [aA t, aI l2, aI l4, aU] [] (up s3 13 4 a4)) fun a6 s5 => sem 94 30 [aA 13, aA t, aI l2, aI l3, aI l4] [aI a6, aA 13] s5)) f94_27 rfl rfl).trans ?_
  refine (g_t ((kd_t ht).1)).trans ?_
  refine bI_h fun a6 s5 qs5 => ?_
  have rs5 := RefC.sem qs5 rfl (RefC.upd rs3 (rcb_f (c := 7) (j := 4) rfl (by decide) (by decide)))
  refine (y_put0 (ji := 5) rfl f94_30 rfl rfl).trans ?_
  refine (g_t rfl).trans ?_
  refine (x_aload f94_33 rfl rfl).trans ?_
  refine (x_aload f94_34 rfl rfl).trans ?_
  refine (x_iload f94_35 rfl rfl).trans ?_
  refine (x_iload f94_36 rfl rfl).trans ?_
  refine (x_invokevirtual (G := grd (kd t = 6) (bnI (sem 85 0 [aA t, aI l3, aI l4, aU] [] (up s5 13 5 a6)) fun a8 s7 => sem 94 41 [aA 13, aA t, aI l2, aI l3, aI l4] [aI a8, aA 13] s7)) f94_38 rfl rfl).trans ?_
  refine (g_t ((kd_t ht).1)).trans ?_
  refine bI_h fun a8 s7 qs7 => ?_
  have rs7 := RefC.sem qs7 rfl (RefC.upd rs5 (rcb_f (c := 7) (j := 5) rfl (by decide) (by decide)))
  refine (y_put0 (ji := 6) rfl f94_41 rfl rfl).trans ?_
  refine (g_t rfl).trans ?_
  exact x_return f94_44 rfl
set_option maxRecDepth 10000 in
theorem g95_0 {s : SG} (hR : RefC s) : sem 95 0 [aA 13] [] s = some (aL (s 13 2), s) := by
  refine (x_aload f95_0 rfl rfl).trans ?_
  refine (y_get1 (ji := 2) rfl f95_1 rfl rfl).trans ?_
  refine (g_t rfl).trans ?_
  exact x_lreturn f95_4 rfl
set_option maxRecDepth 10000 in
theorem g96_0 {s : SG} (hR : RefC s) (l1 l2 l3 : Int) : sem 96 0 [aA 13, aI l1, aI l2, aI l3, aU] [] s = bnV (sem 223 0 [aA 14, aL 0, aU, aU, aU] [] s) fun s1 => bnV (sem 223 0 [aA 15, aL 0, aU, aU, aU] [] s1) fun s2 => sem 96 24 [aA 13, aI l1, aI l2, aI l3, aI 1] [] (up s2 13 2 1) := by
  refine (x_aload f96_0 rfl rfl).trans ?_
  refine (y_get2 (ji := 0) rfl f96_1 rfl rfl).trans ?_
  refine (g_t rfl).trans ?_
  refine (g_t (by rw [show s 13 0 = 14 from hR.2.2.2.2.2.2.2.2.2.2.2.2.2.2.2.2.2.1]; decide)).trans ?_
  rw [show s 13 0 = 14 from hR.2.2.2.2.2.2.2.2.2.2.2.2.2.2.2.2.2.1]
  refine (x_lconst f96_4 rfl).trans ?_
  refine (x_invokestatic (G := bnV (sem 223 0 [aA 14, aL 0, aU, aU, aU] [] s) fun s1 => sem 96 8 [aA 13, aI l1, aI l2, aI l3, aU] [] s1) f96_5 rfl rfl).trans ?_
  refine bV_h fun s1 qs1 => ?_
  have rs1 := RefC.sem qs1 rfl hR
  refine (x_aload f96_8 rfl rfl).trans ?_
  refine (y_get2 (ji := 1) rfl f96_9 rfl rfl).trans ?_
  refine (g_t rfl).trans ?_
  refine (g_t (by rw [show s1 13 1 = 15 from rs1.2.2.2.2.2.2.2.2.2.2.2.2.2.2.2.2.2.2.1]; decide)).trans ?_
  rw [show s1 13 1 = 15 from rs1.2.2.2.2.2.2.2.2.2.2.2.2.2.2.2.2.2.2.1]
  refine (x_lconst f96_12 rfl).trans ?_
  refine (x_invokestatic (G := bnV (sem 223 0 [aA 15, aL 0, aU, aU, aU] [] s1) fun s2 => sem 96 16 [aA 13, aI l1, aI l2, aI l3, aU] [] s2) f96_13 rfl rfl).trans ?_
  refine bV_h fun s2 qs2 => ?_
  have rs2 := RefC.sem qs2 rfl rs1
  refine (x_aload f96_16 rfl rfl).trans ?_
  refine (x_lconst f96_17 rfl).trans ?_
  refine (y_put1 (ji := 2) rfl f96_18 rfl rfl).trans ?_
  refine (g_t rfl).trans ?_
  refine (x_iconst f96_21 rfl).trans ?_
  refine (x_istore (l2 := [aA 13, aI l1, aI l2, aI l3, aI 1]) f96_22 rfl rfl).trans ?_
  rfl
set_option maxRecDepth 10000 in
theorem g96_24 {s : SG} (hR : RefC s) (l1 l2 l3 l4 : Int) : sem 96 24 [aA 13, aI l1, aI l2, aI l3, aI l4] [] s = if l3 < l4 then some (aU, s) else if (1 : Int) < l4 then bnV (sem 97 0 [aA 13, aI (w32 (l1 + l2)), aI l2, aU, aU, aU] [] s) fun s1 => bnV (sem 98 0 [aA 13, aI (w32 (l1 + l2)), aI l2, aU, aU, aU] [] s1) fun s2 => sem 96 24 [aA 13, aI l1, aI l2, aI l3, aI (w32 (l4 + 1))] [] (up s2 13 2 (w64 ((s2 13 2) * 100))) else bnV (sem 98 0 [aA 13, aI (w32 (l1 + l2)), aI l2, aU, aU, aU] [] s) fun s3 => sem 96 24 [aA 13, aI l1, aI l2, aI l3, aI (w32 (l4 + 1))] [] (up s3 13 2 (w64 ((s3 13 2) * 100))) := by
  refine (x_iload f96_24 rfl rfl).trans ?_
  refine (x_iload f96_26 rfl rfl).trans ?_
  refine (x_icmp_gt (tg := 70) f96_27 rfl rfl).trans (i_c ?_ ?_)
  · exact x_return f96_70 rfl
  · refine (x_iload f96_30 rfl rfl).trans ?_
    refine (x_iconst f96_32 rfl).trans ?_
    refine (x_icmp_le (tg := 44) f96_33 rfl rfl).trans (i_c ?_ ?_)
    · refine (x_aload f96_36 rfl rfl).trans ?_
      refine (x_iload f96_37 rfl rfl).trans ?_
      refine (x_iload f96_38 rfl rfl).trans ?_
      refine (x_iadd f96_39 rfl).trans ?_
      refine (x_iload f96_40 rfl rfl).trans ?_
      refine (x_invokevirtual (G := grd (kd 13 = 7) (bnV (sem 97 0 [aA 13, aI (w32 (l1 + l2)), aI l2, aU, aU, aU] [] s) fun s1 => sem 96 44 [aA 13, aI l1, aI l2, aI l3, aI l4] [] s1)) f96_41 rfl rfl).trans ?_
      refine (g_t rfl).trans ?_
      refine bV_h fun s1 qs1 => ?_
      have rs1 := RefC.sem qs1 rfl hR
      refine (x_aload f96_44 rfl rfl).trans ?_
      refine (x_iload f96_45 rfl rfl).trans ?_
      refine (x_iload f96_46 rfl rfl).trans ?_
      refine (x_iadd f96_47 rfl).trans ?_
      refine (x_iload f96_48 rfl rfl).trans ?_
      refine (x_invokevirtual (G := grd (kd 13 = 7) (bnV (sem 98 0 [aA 13, aI (w32 (l1 + l2)), aI l2, aU, aU, aU] [] s1) fun s2 => sem 96 52 [aA 13, aI l1, aI l2, aI l3, aI l4] [] s2)) f96_49 rfl rfl).trans ?_
      refine (g_t rfl).trans ?_
      refine bV_h fun s2 qs2 => ?_
      have rs2 := RefC.sem qs2 rfl rs1
      refine (x_aload f96_52 rfl rfl).trans ?_
      refine (x_dup f96_53 rfl rfl).trans ?_
      refine (y_get1 (ji := 2) rfl f96_54 rfl rfl).trans ?_
      refine (g_t rfl).trans ?_
      refine (x_lconst f96_57 rfl).trans ?_
      refine (x_lmul f96_60 rfl).trans ?_
      refine (y_put1 (ji := 2) rfl f96_61 rfl rfl).trans ?_
      refine (g_t rfl).trans ?_
      refine (x_iinc (l2 := [aA 13, aI l1, aI l2, aI l3, aI (w32 (l4 + 1))]) f96_64 rfl rfl rfl).trans ?_
      refine (x_goto (tg := 24) f96_67 rfl rfl).trans ?_
      rfl
    · refine (x_aload f96_44 rfl rfl).trans ?_
      refine (x_iload f96_45 rfl rfl).trans ?_
      refine (x_iload f96_46 rfl rfl).trans ?_
      refine (x_iadd f96_47 rfl).trans ?_
      refine (x_iload f96_48 rfl rfl).trans ?_
      refine (x_invokevirtual (G := grd (kd 13 = 7) (bnV (sem 98 0 [aA 13, aI (w32 (l1 + l2)), aI l2, aU, aU, aU] [] s) fun s3 => sem 96 52 [aA 13, aI l1, aI l2, aI l3, aI l4] [] s3)) f96_49 rfl rfl).trans ?_
      refine (g_t rfl).trans ?_
      refine bV_h fun s3 qs3 => ?_
      have rs3 := RefC.sem qs3 rfl hR
      refine (x_aload f96_52 rfl rfl).trans ?_
      refine (x_dup f96_53 rfl rfl).trans ?_
      refine (y_get1 (ji := 2) rfl f96_54 rfl rfl).trans ?_
      refine (g_t rfl).trans ?_
      refine (x_lconst f96_57 rfl).trans ?_
      refine (x_lmul f96_60 rfl).trans ?_
      refine (y_put1 (ji := 2) rfl f96_61 rfl rfl).trans ?_
      refine (g_t rfl).trans ?_
      refine (x_iinc (l2 := [aA 13, aI l1, aI l2, aI l3, aI (w32 (l4 + 1))]) f96_64 rfl rfl rfl).trans ?_
      refine (x_goto (tg := 24) f96_67 rfl rfl).trans ?_
      rfl
set_option maxRecDepth 10000 in
theorem g97_0 {s : SG} (hR : RefC s) (l1 l2 : Int) : sem 97 0 [aA 13, aI l1, aI l2, aU, aU, aU] [] s = sem 97 2 [aA 13, aI l1, aI l2, aI 0, aU, aU] [] s := by
  refine (x_iconst f97_0 rfl).trans ?_
  refine (x_istore (l2 := [aA 13, aI l1, aI l2, aI 0, aU, aU]) f97_1 rfl rfl).trans ?_
  rfl
set_option maxRecDepth 10000 in
theorem g97_2 {s : SG} (hR : RefC s) (l1 l2 l3 : Int) : sem 97 2 [aA 13, aI l1, aI l2, aI l3, aU, aU] [] s = if l1 < l3 then some (aU, s) else sem 97 10 [aA 13, aI l1, aI l2, aI l3, aI 0, aU] [] s := by
  refine (x_iload f97_2 rfl rfl).trans ?_
  refine (x_iload f97_3 rfl rfl).trans ?_
  refine (x_icmp_gt (tg := 78) f97_4 rfl rfl).trans (i_c ?_ ?_)
  · exact x_return f97_78 rfl
  · refine (x_iconst f97_7 rfl).trans ?_
    refine (x_istore (l2 := [aA 13, aI l1, aI l2, aI l3, aI 0, aU]) f97_8 rfl rfl).trans ?_
    rfl
set_option maxRecDepth 10000 in
theorem g97_10 {s : SG} (hR : RefC s) (l1 l2 l3 l4 : Int) : sem 97 10 [aA 13, aI l1, aI l2, aI l3, aI l4, aU] [] s = if l1 < (w32 (l3 + l4)) then sem 97 2 [aA 13, aI l1, aI l2, aI (w32 (l3 + 1)), aU, aU] [] s else sem 97 21 [aA 13, aI l1, aI l2, aI l3, aI l4, aI 0] [] s := by
  refine (x_iload f97_10 rfl rfl).trans ?_
  refine (x_iload f97_11 rfl rfl).trans ?_
  refine (x_iadd f97_13 rfl).trans ?_
  refine (x_iload f97_14 rfl rfl).trans ?_
  refine (x_icmp_gt (tg := 72) f97_15 rfl rfl).trans (i_c ?_ ?_)
  · refine (x_iinc (l2 := [aA 13, aI l1, aI l2, aI (w32 (l3 + 1)), aI l4, aU]) f97_72 rfl rfl rfl).trans ?_
    refine (x_goto (tg := 2) f97_75 rfl rfl).trans ?_
    exact x_kil f97_2 rfl
  · refine (x_iconst f97_18 rfl).trans ?_
    refine (x_istore (l2 := [aA 13, aI l1, aI l2, aI l3, aI l4, aI 0]) f97_19 rfl rfl).trans ?_
    rfl
set_option maxRecDepth 10000 in
theorem g97_21 {s : SG} (hR : RefC s) (l1 l2 l3 l4 l5 : Int) : sem 97 21 [aA 13, aI l1, aI l2, aI l3, aI l4, aI l5] [] s = if l2 < l5 then sem 97 10 [aA 13, aI l1, aI l2, aI l3, aI (w32 (l4 + 1)), aU] [] s else if l1 < (w32 ((w32 (l3 + l4)) + l5)) then sem 97 10 [aA 13, aI l1, aI l2, aI l3, aI (w32 (l4 + 1)), aU] [] s else bnI (sem 93 0 [aI l3, aI l4, aI l5, aU] [] s) fun a2 s1 => bnL (sem 100 0 [aA 13, aI l3, aI l4, aI l5, aU, aU, aU] [] s1) fun a4 s3 => grd ((0 : Int) ≤ a2 ∧ a2 < 2197) (sem 97 21 [aA 13, aI l1, aI l2, aI l3, aI l4, aI (w32 (l5 + 1))] [] (up s3 14 a2 a4)) := by
  refine (x_iload f97_21 rfl rfl).trans ?_
  refine (x_iload f97_23 rfl rfl).trans ?_
  refine (x_icmp_gt (tg := 66) f97_24 rfl rfl).trans (i_c ?_ ?_)
  · refine (x_kil (l2 := [aA 13, aI l1, aI l2, aI l3, aI l4, aU]) f97_66 rfl).trans ?_
    refine (x_iinc (l2 := [aA 13, aI l1, aI l2, aI l3, aI (w32 (l4 + 1)), aU]) f97_66 rfl rfl rfl).trans ?_
    refine (x_goto (tg := 10) f97_69 rfl rfl).trans ?_
    rfl
  · refine (x_iload f97_27 rfl rfl).trans ?_
    refine (x_iload f97_28 rfl rfl).trans ?_
    refine (x_iadd f97_30 rfl).trans ?_
    refine (x_iload f97_31 rfl rfl).trans ?_
    refine (x_iadd f97_33 rfl).trans ?_
    refine (x_iload f97_34 rfl rfl).trans ?_
    refine (x_icmp_gt (tg := 66) f97_35 rfl rfl).trans (i_c ?_ ?_)
    · refine (x_kil (l2 := [aA 13, aI l1, aI l2, aI l3, aI l4, aU]) f97_66 rfl).trans ?_
      refine (x_iinc (l2 := [aA 13, aI l1, aI l2, aI l3, aI (w32 (l4 + 1)), aU]) f97_66 rfl rfl rfl).trans ?_
      refine (x_goto (tg := 10) f97_69 rfl rfl).trans ?_
      rfl
    · refine (x_aload f97_38 rfl rfl).trans ?_
      refine (y_get2 (ji := 0) rfl f97_39 rfl rfl).trans ?_
      refine (g_t rfl).trans ?_
      refine (g_t (by rw [show s 13 0 = 14 from hR.2.2.2.2.2.2.2.2.2.2.2.2.2.2.2.2.2.1]; decide)).trans ?_
      rw [show s 13 0 = 14 from hR.2.2.2.2.2.2.2.2.2.2.2.2.2.2.2.2.2.1]
      refine (x_iload f97_42 rfl rfl).trans ?_
      refine (x_iload f97_43 rfl rfl).trans ?_
      refine (x_iload f97_45 rfl rfl).trans ?_
      refine (x_invokestatic (G := bnI (sem 93 0 [aI l3, aI l4, aI l5, aU] [] s) fun a2 s1 => sem 97 50 [aA 13, aI l1, aI l2, aI l3, aI l4, aI l5] [aI a2, aA 14] s1) f97_47 rfl rfl).trans ?_
      refine bI_h fun a2 s1 qs1 => ?_
      have rs1 := RefC.sem qs1 rfl hR
      refine (x_aload f97_50 rfl rfl).trans ?_
      refine (x_iload f97_51 rfl rfl).trans ?_
      refine (x_iload f97_52 rfl rfl).trans ?_
      refine (x_iload f97_54 rfl rfl).trans ?_
      refine (x_invokevirtual (G := grd (kd 13 = 7) (bnL (sem 100 0 [aA 13, aI l3, aI l4, aI l5, aU, aU, aU] [] s1) fun a4 s3 => sem 97 59 [aA 13, aI l1, aI l2, aI l3, aI l4, aI l5] [aL a4, aI a2, aA 14] s3)) f97_56 rfl rfl).trans ?_
      refine (g_t rfl).trans ?_
      refine bL_h fun a4 s3 qs3 => ?_
      have rs3 := RefC.sem qs3 rfl rs1
      refine (x_lastore f97_59 rfl).trans ?_
      refine (g_t rfl).trans ?_
      refine g_kl (n := 2197) rfl fun hg5 => ?_
      refine (x_iinc (l2 := [aA 13, aI l1, aI l2, aI l3, aI l4, aI (w32 (l5 + 1))]) f97_60 rfl rfl rfl).trans ?_
      refine (x_goto (tg := 21) f97_63 rfl rfl).trans ?_
      rfl
set_option maxRecDepth 10000 in
theorem g98_0 {s : SG} (hR : RefC s) (l1 l2 : Int) : sem 98 0 [aA 13, aI l1, aI l2, aU, aU, aU] [] s = sem 98 2 [aA 13, aI l1, aI l2, aI 0, aU, aU] [] s := by
  refine (x_iconst f98_0 rfl).trans ?_
  refine (x_istore (l2 := [aA 13, aI l1, aI l2, aI 0, aU, aU]) f98_1 rfl rfl).trans ?_
  rfl
set_option maxRecDepth 10000 in
theorem g98_2 {s : SG} (hR : RefC s) (l1 l2 l3 : Int) : sem 98 2 [aA 13, aI l1, aI l2, aI l3, aU, aU] [] s = if l1 < l3 then some (aU, s) else sem 98 10 [aA 13, aI l1, aI l2, aI l3, aI 0, aU] [] s := by
  refine (x_iload f98_2 rfl rfl).trans ?_
  refine (x_iload f98_3 rfl rfl).trans ?_
  refine (x_icmp_gt (tg := 78) f98_4 rfl rfl).trans (i_c ?_ ?_)
  · exact x_return f98_78 rfl
  · refine (x_iconst f98_7 rfl).trans ?_
    refine (x_istore (l2 := [aA 13, aI l1, aI l2, aI l3, aI 0, aU]) f98_8 rfl rfl).trans ?_
    rfl
set_option maxRecDepth 10000 in
theorem g98_10 {s : SG} (hR : RefC s) (l1 l2 l3 l4 : Int) : sem 98 10 [aA 13, aI l1, aI l2, aI l3, aI l4, aU] [] s = if l1 < (w32 (l3 + l4)) then sem 98 2 [aA 13, aI l1, aI l2, aI (w32 (l3 + 1)), aU, aU] [] s else sem 98 21 [aA 13, aI l1, aI l2, aI l3, aI l4, aI 0] [] s := by
  refine (x_iload f98_10 rfl rfl).trans ?_
  refine (x_iload f98_11 rfl rfl).trans ?_
  refine (x_iadd f98_13 rfl).trans ?_
  refine (x_iload f98_14 rfl rfl).trans ?_
  refine (x_icmp_gt (tg := 72) f98_15 rfl rfl).trans (i_c ?_ ?_)
  · refine (x_iinc (l2 := [aA 13, aI l1, aI l2, aI (w32 (l3 + 1)), aI l4, aU]) f98_72 rfl rfl rfl).trans ?_
    refine (x_goto (tg := 2) f98_75 rfl rfl).trans ?_
    exact x_kil f98_2 rfl
  · refine (x_iconst f98_18 rfl).trans ?_
    refine (x_istore (l2 := [aA 13, aI l1, aI l2, aI l3, aI l4, aI 0]) f98_19 rfl rfl).trans ?_
    rfl
set_option maxRecDepth 10000 in
theorem g98_21 {s : SG} (hR : RefC s) (l1 l2 l3 l4 l5 : Int) : sem 98 21 [aA 13, aI l1, aI l2, aI l3, aI l4, aI l5] [] s = if l2 < l5 then sem 98 10 [aA 13, aI l1, aI l2, aI l3, aI (w32 (l4 + 1)), aU] [] s else if l1 < (w32 ((w32 (l3 + l4)) + l5)) then sem 98 10 [aA 13, aI l1, aI l2, aI l3, aI (w32 (l4 + 1)), aU] [] s else bnI (sem 93 0 [aI l3, aI l4, aI l5, aU] [] s) fun a2 s1 => bnL (sem 99 0 [aA 13, aI l3, aI l4, aI l5, aU, aU, aU, aU, aU, aU, aU, aU, aU] [] s1) fun a4 s3 => grd ((0 : Int) ≤ a2 ∧ a2 < 2197) (sem 98 21 [aA 13, aI l1, aI l2, aI l3, aI l4, aI (w32 (l5 + 1))] [] (up s3 15 a2 a4)) := by
  refine (x_iload f98_21 rfl rfl).trans ?_
  refine (x_iload f98_23 rfl rfl).trans ?_
  refine (x_icmp_gt (tg := 66) f98_24 rfl rfl).trans (i_c ?_ ?_)
  · refine (x_kil (l2 := [aA 13, aI l1, aI l2, aI l3, aI l4, aU]) f98_66 rfl).trans ?_
    refine (x_iinc (l2 := [aA 13, aI l1, aI l2, aI l3, aI (w32 (l4 + 1)), aU]) f98_66 rfl rfl rfl).trans ?_
    refine (x_goto (tg := 10) f98_69 rfl rfl).trans ?_
    rfl
  · refine (x_iload f98_27 rfl rfl).trans ?_
    refine (x_iload f98_28 rfl rfl).trans ?_
    refine (x_iadd f98_30 rfl).trans ?_
    refine (x_iload f98_31 rfl rfl).trans ?_
    refine (x_iadd f98_33 rfl).trans ?_
    refine (x_iload f98_34 rfl rfl).trans ?_
    refine (x_icmp_gt (tg := 66) f98_35 rfl rfl).trans (i_c ?_ ?_)
    · refine (x_kil (l2 := [aA 13, aI l1, aI l2, aI l3, aI l4, aU]) f98_66 rfl).trans ?_
      refine (x_iinc (l2 := [aA 13, aI l1, aI l2, aI l3, aI (w32 (l4 + 1)), aU]) f98_66 rfl rfl rfl).trans ?_
      refine (x_goto (tg := 10) f98_69 rfl rfl).trans ?_
      rfl
    · refine (x_aload f98_38 rfl rfl).trans ?_
      refine (y_get2 (ji := 1) rfl f98_39 rfl rfl).trans ?_
      refine (g_t rfl).trans ?_
      refine (g_t (by rw [show s 13 1 = 15 from hR.2.2.2.2.2.2.2.2.2.2.2.2.2.2.2.2.2.2.1]; decide)).trans ?_
      rw [show s 13 1 = 15 from hR.2.2.2.2.2.2.2.2.2.2.2.2.2.2.2.2.2.2.1]
      refine (x_iload f98_42 rfl rfl).trans ?_
      refine (x_iload f98_43 rfl rfl).trans ?_
      refine (x_iload f98_45 rfl rfl).trans ?_
      refine (x_invokestatic (G := bnI (sem 93 0 [aI l3, aI l4, aI l5, aU] [] s) fun a2 s1 => sem 98 50 [aA 13, aI l1, aI l2, aI l3, aI l4, aI l5] [aI a2, aA 15] s1) f98_47 rfl rfl).trans ?_
      refine bI_h fun a2 s1 qs1 => ?_
      have rs1 := RefC.sem qs1 rfl hR
      refine (x_aload f98_50 rfl rfl).trans ?_
      refine (x_iload f98_51 rfl rfl).trans ?_
      refine (x_iload f98_52 rfl rfl).trans ?_
      refine (x_iload f98_54 rfl rfl).trans ?_
      refine (x_invokevirtual (G := grd (kd 13 = 7) (bnL (sem 99 0 [aA 13, aI l3, aI l4, aI l5, aU, aU, aU, aU, aU, aU, aU, aU, aU] [] s1) fun a4 s3 => sem 98 59 [aA 13, aI l1, aI l2, aI l3, aI l4, aI l5] [aL a4, aI a2, aA 15] s3)) f98_56 rfl rfl).trans ?_
      refine (g_t rfl).trans ?_
      refine bL_h fun a4 s3 qs3 => ?_
      have rs3 := RefC.sem qs3 rfl rs1
      refine (x_lastore f98_59 rfl).trans ?_
      refine (g_t rfl).trans ?_
      refine g_kl (n := 2197) rfl fun hg5 => ?_
      refine (x_iinc (l2 := [aA 13, aI l1, aI l2, aI l3, aI l4, aI (w32 (l5 + 1))]) f98_60 rfl rfl rfl).trans ?_
      refine (x_goto (tg := 21) f98_63 rfl rfl).trans ?_
      rfl
set_option maxRecDepth 10000 in
theorem g99_0 {s : SG} (hR : RefC s) (l1 l2 l3 : Int) : sem 99 0 [aA 13, aI l1, aI l2, aI l3, aU, aU, aU, aU, aU, aU, aU, aU, aU] [] s = sem 99 6 [aA 13, aI l1, aI l2, aI l3, aL 0, aU, aI 0, aU, aU, aU, aU, aU, aU] [] s := by
  refine (x_lconst f99_0 rfl).trans ?_
  refine (x_lstore (l2 := [aA 13, aI l1, aI l2, aI l3, aL 0, aU, aU, aU, aU, aU, aU, aU, aU]) f99_1 rfl rfl).trans ?_
  refine (x_iconst f99_3 rfl).trans ?_
  refine (x_istore (l2 := [aA 13, aI l1, aI l2, aI l3, aL 0, aU, aI 0, aU, aU, aU, aU, aU, aU]) f99_4 rfl rfl).trans ?_
  rfl
set_option maxRecDepth 10000 in
theorem g99_6 {s : SG} (hR : RefC s) (l1 l2 l3 l4 l6 : Int) : sem 99 6 [aA 13, aI l1, aI l2, aI l3, aL l4, aU, aI l6, aU, aU, aU, aU, aU, aU] [] s = if (1 : Int) < l6 then some (aL l4, s) else sem 99 15 [aA 13, aI l1, aI l2, aI l3, aL l4, aU, aI l6, aI 0, aU, aU, aU, aU, aU] [] s := by
  refine (x_iload f99_6 rfl rfl).trans ?_
  refine (x_iconst f99_8 rfl).trans ?_
  refine (x_icmp_gt (tg := 144) f99_9 rfl rfl).trans (i_c ?_ ?_)
  · refine (x_lload f99_144 rfl rfl).trans ?_
    exact x_lreturn f99_146 rfl
  · refine (x_iconst f99_12 rfl).trans ?_
    refine (x_istore (l2 := [aA 13, aI l1, aI l2, aI l3, aL l4, aU, aI l6, aI 0, aU, aU, aU, aU, aU]) f99_13 rfl rfl).trans ?_
    rfl
set_option maxRecDepth 10000 in
theorem g99_15 {s : SG} (hR : RefC s) (l1 l2 l3 l4 l6 l7 : Int) : sem 99 15 [aA 13, aI l1, aI l2, aI l3, aL l4, aU, aI l6, aI l7, aU, aU, aU, aU, aU] [] s = if (1 : Int) < l7 then sem 99 6 [aA 13, aI l1, aI l2, aI l3, aL l4, aU, aI (w32 (l6 + 1)), aU, aU, aU, aU, aU, aU] [] s else if l6 = 1 then if l7 = 1 then sem 99 61 [aA 13, aI l1, aI l2, aI l3, aL l4, aU, aI l6, aI l7, aU, aU, aU, aU, aU] [aI (s 13 6), aI (s 13 5)] s else sem 99 61 [aA 13, aI l1, aI l2, aI l3, aL l4, aU, aI l6, aI l7, aU, aU, aU, aU, aU] [aI (w32 (10 - (s 13 6))), aI (s 13 5)] s else if l7 = 1 then sem 99 61 [aA 13, aI l1, aI l2, aI l3, aL l4, aU, aI l6, aI l7, aU, aU, aU, aU, aU] [aI (s 13 6), aI (w32 (10 - (s 13 5)))] s else sem 99 61 [aA 13, aI l1, aI l2, aI l3, aL l4, aU, aI l6, aI l7, aU, aU, aU, aU, aU] [aI (w32 (10 - (s 13 6))), aI (w32 (10 - (s 13 5)))] s := by
  refine (x_iload f99_15 rfl rfl).trans ?_
  refine (x_iconst f99_17 rfl).trans ?_
  refine (x_icmp_gt (tg := 138) f99_18 rfl rfl).trans (i_c ?_ ?_)
  · refine (x_iinc (l2 := [aA 13, aI l1, aI l2, aI l3, aL l4, aU, aI (w32 (l6 + 1)), aI l7, aU, aU, aU, aU, aU]) f99_138 rfl rfl rfl).trans ?_
    refine (x_goto (tg := 6) f99_141 rfl rfl).trans ?_
    exact x_kil f99_6 rfl
  · refine (x_iload f99_21 rfl rfl).trans ?_
    refine (x_iconst f99_23 rfl).trans ?_
    refine (x_icmp_ne (tg := 34) f99_24 rfl rfl).trans (i_c ?_ ?_)
    · refine (x_aload f99_27 rfl rfl).trans ?_
      refine (y_get0 (ji := 5) rfl f99_28 rfl rfl).trans ?_
      refine (g_t rfl).trans ?_
      refine (x_goto (tg := 41) f99_31 rfl rfl).trans ?_
      refine (x_iload f99_41 rfl rfl).trans ?_
      refine (x_iconst f99_43 rfl).trans ?_
      refine (x_icmp_ne (tg := 54) f99_44 rfl rfl).trans (i_c ?_ ?_)
      · refine (x_aload f99_47 rfl rfl).trans ?_
        refine (y_get0 (ji := 6) rfl f99_48 rfl rfl).trans ?_
        refine (g_t rfl).trans ?_
        refine (x_goto (tg := 61) f99_51 rfl rfl).trans ?_
        rfl
      · refine (x_iconst f99_54 rfl).trans ?_
        refine (x_aload f99_56 rfl rfl).trans ?_
        refine (y_get0 (ji := 6) rfl f99_57 rfl rfl).trans ?_
        refine (g_t rfl).trans ?_
        refine (x_isub f99_60 rfl).trans ?_
        rfl
    · refine (x_iconst f99_34 rfl).trans ?_
      refine (x_aload f99_36 rfl rfl).trans ?_
      refine (y_get0 (ji := 5) rfl f99_37 rfl rfl).trans ?_
      refine (g_t rfl).trans ?_
      refine (x_isub f99_40 rfl).trans ?_
      refine (x_iload f99_41 rfl rfl).trans ?_
      refine (x_iconst f99_43 rfl).trans ?_
      refine (x_icmp_ne (tg := 54) f99_44 rfl rfl).trans (i_c ?_ ?_)
      · refine (x_aload f99_47 rfl rfl).trans ?_
        refine (y_get0 (ji := 6) rfl f99_48 rfl rfl).trans ?_
        refine (g_t rfl).trans ?_
        refine (x_goto (tg := 61) f99_51 rfl rfl).trans ?_
        rfl
      · refine (x_iconst f99_54 rfl).trans ?_
        refine (x_aload f99_56 rfl rfl).trans ?_
        refine (y_get0 (ji := 6) rfl f99_57 rfl rfl).trans ?_
        refine (g_t rfl).trans ?_
        refine (x_isub f99_60 rfl).trans ?_
        rfl
set_option maxRecDepth 10000 in
theorem g99_61 {s : SG} (hR : RefC s) (l1 l2 l3 l4 l6 l7 v0 v1 : Int) : sem 99 61 [aA 13, aI l1, aI l2, aI l3, aL l4, aU, aI l6, aI l7, aU, aU, aU, aU, aU] [aI v0, aI v1] s = bnI (sem 93 0 [aI (w32 (l1 - (min l1 (w32 ((s 13 3) + l6))))), aI (w32 (l2 - (min l2 (w32 ((s 13 4) + l7))))), aI l3, aU] [] s) fun a2 s1 => grd ((0 : Int) ≤ a2 ∧ a2 < 2197) (sem 99 15 [aA 13, aI l1, aI l2, aI l3, aL (w64 (l4 + (w64 ((w32 (v1 * v0)) * (w64 ((w64 ((w32 ((min l1 (w32 ((s 13 3) + l6))) + (min l2 (w32 ((s 13 4) + l7))))) * (s1 13 2))) + (s1 14 a2))))))), aU, aI l6, aI (w32 (l7 + 1)), aU, aU, aU, aU, aU] [] s1) := by
  refine (x_imul f99_61 rfl).trans ?_
  refine (x_istore (l2 := [aA 13, aI l1, aI l2, aI l3, aL l4, aU, aI l6, aI l7, aI (w32 (v1 * v0)), aU, aU, aU, aU]) f99_62 rfl rfl).trans ?_
  refine (x_iload f99_64 rfl rfl).trans ?_
  refine (x_aload f99_65 rfl rfl).trans ?_
  refine (y_get0 (ji := 3) rfl f99_66 rfl rfl).trans ?_
  refine (g_t rfl).trans ?_
  refine (x_iload f99_69 rfl rfl).trans ?_
  refine (x_iadd f99_71 rfl).trans ?_
  refine (x_fsub f99_72 rfl rfl).trans ?_
  refine (x_istore (l2 := [aA 13, aI l1, aI l2, aI l3, aL l4, aU, aI l6, aI l7, aI (w32 (v1 * v0)), aI (min l1 (w32 ((s 13 3) + l6))), aU, aU, aU]) f99_75 rfl rfl).trans ?_
  refine (x_iload f99_77 rfl rfl).trans ?_
  refine (x_aload f99_78 rfl rfl).trans ?_
  refine (y_get0 (ji := 4) rfl f99_79 rfl rfl).trans ?_
  refine (g_t rfl).trans ?_
  refine (x_iload f99_82 rfl rfl).trans ?_
  refine (x_iadd f99_84 rfl).trans ?_
  refine (x_fsub f99_85 rfl rfl).trans ?_
  refine (x_istore (l2 := [aA 13, aI l1, aI l2, aI l3, aL l4, aU, aI l6, aI l7, aI (w32 (v1 * v0)), aI (min l1 (w32 ((s 13 3) + l6))), aI (min l2 (w32 ((s 13 4) + l7))), aU, aU]) f99_88 rfl rfl).trans ?_
  refine (x_aload f99_90 rfl rfl).trans ?_
  refine (y_get2 (ji := 0) rfl f99_91 rfl rfl).trans ?_
  refine (g_t rfl).trans ?_
  refine (g_t (by rw [show s 13 0 = 14 from hR.2.2.2.2.2.2.2.2.2.2.2.2.2.2.2.2.2.1]; decide)).trans ?_
  rw [show s 13 0 = 14 from hR.2.2.2.2.2.2.2.2.2.2.2.2.2.2.2.2.2.1]
  refine (x_iload f99_94 rfl rfl).trans ?_
  refine (x_iload f99_95 rfl rfl).trans ?_
  refine (x_isub f99_97 rfl).trans ?_
  refine (x_iload f99_98 rfl rfl).trans ?_
  refine (x_iload f99_99 rfl rfl).trans ?_
  refine (x_isub f99_101 rfl).trans ?_
  refine (x_iload f99_102 rfl rfl).trans ?_
  refine (x_invokestatic (G := bnI (sem 93 0 [aI (w32 (l1 - (min l1 (w32 ((s 13 3) + l6))))), aI (w32 (l2 - (min l2 (w32 ((s 13 4) + l7))))), aI l3, aU] [] s) fun a2 s1 => sem 99 106 [aA 13, aI l1, aI l2, aI l3, aL l4, aU, aI l6, aI l7, aI (w32 (v1 * v0)), aI (min l1 (w32 ((s 13 3) + l6))), aI (min l2 (w32 ((s 13 4) + l7))), aU, aU] [aI a2, aA 14] s1) f99_103 rfl rfl).trans ?_
  refine bI_h fun a2 s1 qs1 => ?_
  have rs1 := RefC.sem qs1 rfl hR
  refine (x_laload f99_106 rfl).trans ?_
  refine (g_t rfl).trans ?_
  refine g_kl (n := 2197) rfl fun hg3 => ?_
  refine (x_lstore (l2 := [aA 13, aI l1, aI l2, aI l3, aL l4, aU, aI l6, aI l7, aI (w32 (v1 * v0)), aI (min l1 (w32 ((s 13 3) + l6))), aI (min l2 (w32 ((s 13 4) + l7))), aL (s1 14 a2), aU]) f99_107 rfl rfl).trans ?_
  refine (x_lload f99_109 rfl rfl).trans ?_
  refine (x_iload f99_111 rfl rfl).trans ?_
  refine (x_i2l f99_113 rfl).trans ?_
  refine (x_iload f99_114 rfl rfl).trans ?_
  refine (x_iload f99_116 rfl rfl).trans ?_
  refine (x_iadd f99_118 rfl).trans ?_
  refine (x_i2l f99_119 rfl).trans ?_
  refine (x_aload f99_120 rfl rfl).trans ?_
  refine (y_get1 (ji := 2) rfl f99_121 rfl rfl).trans ?_
  refine (g_t rfl).trans ?_
  refine (x_lmul f99_124 rfl).trans ?_
  refine (x_lload f99_125 rfl rfl).trans ?_
  refine (x_ladd f99_127 rfl).trans ?_
  refine (x_lmul f99_128 rfl).trans ?_
  refine (x_ladd f99_129 rfl).trans ?_
  refine (x_lstore (l2 := [aA 13, aI l1, aI l2, aI l3, aL (w64 (l4 + (w64 ((w32 (v1 * v0)) * (w64 ((w64 ((w32 ((min l1 (w32 ((s 13 3) + l6))) + (min l2 (w32 ((s 13 4) + l7))))) * (s1 13 2))) + (s1 14 a2))))))), aU, aI l6, aI l7, aI (w32 (v1 * v0)), aI (min l1 (w32 ((s 13 3) + l6))), aI (min l2 (w32 ((s 13 4) + l7))), aL (s1 14 a2), aU]) f99_130 rfl rfl).trans ?_
  refine (x_iinc (l2 := [aA 13, aI l1, aI l2, aI l3, aL (w64 (l4 + (w64 ((w32 (v1 * v0)) * (w64 ((w64 ((w32 ((min l1 (w32 ((s 13 3) + l6))) + (min l2 (w32 ((s 13 4) + l7))))) * (s1 13 2))) + (s1 14 a2))))))), aU, aI l6, aI (w32 (l7 + 1)), aI (w32 (v1 * v0)), aI (min l1 (w32 ((s 13 3) + l6))), aI (min l2 (w32 ((s 13 4) + l7))), aL (s1 14 a2), aU]) f99_132 rfl rfl rfl).trans ?_
  refine (x_goto (tg := 15) f99_135 rfl rfl).trans ?_
  exact x_kil f99_15 rfl
set_option maxRecDepth 10000 in
theorem g100_0 {s : SG} (hR : RefC s) (l1 l2 l3 : Int) : sem 100 0 [aA 13, aI l1, aI l2, aI l3, aU, aU, aU] [] s = bnI (sem 93 0 [aI l1, aI l2, aI l3, aU] [] s) fun a2 s1 => grd ((0 : Int) ≤ a2 ∧ a2 < 2197) (sem 100 16 [aA 13, aI l1, aI l2, aI l3, aL (s1 15 a2), aU, aI 1] [] s1) := by
  refine (x_aload f100_0 rfl rfl).trans ?_
  refine (y_get2 (ji := 1) rfl f100_1 rfl rfl).trans ?_
  refine (g_t rfl).trans ?_
  refine (g_t (by rw [show s 13 1 = 15 from hR.2.2.2.2.2.2.2.2.2.2.2.2.2.2.2.2.2.2.1]; decide)).trans ?_
  rw [show s 13 1 = 15 from hR.2.2.2.2.2.2.2.2.2.2.2.2.2.2.2.2.2.2.1]
  refine (x_iload f100_4 rfl rfl).trans ?_
  refine (x_iload f100_5 rfl rfl).trans ?_
  refine (x_iload f100_6 rfl rfl).trans ?_
  refine (x_invokestatic (G := bnI (sem 93 0 [aI l1, aI l2, aI l3, aU] [] s) fun a2 s1 => sem 100 10 [aA 13, aI l1, aI l2, aI l3, aU, aU, aU] [aI a2, aA 15] s1) f100_7 rfl rfl).trans ?_
  refine bI_h fun a2 s1 qs1 => ?_
  have rs1 := RefC.sem qs1 rfl hR
  refine (x_laload f100_10 rfl).trans ?_
  refine (g_t rfl).trans ?_
  refine g_kl (n := 2197) rfl fun hg3 => ?_
  refine (x_lstore (l2 := [aA 13, aI l1, aI l2, aI l3, aL (s1 15 a2), aU, aU]) f100_11 rfl rfl).trans ?_
  refine (x_iconst f100_13 rfl).trans ?_
  refine (x_istore (l2 := [aA 13, aI l1, aI l2, aI l3, aL (s1 15 a2), aU, aI 1]) f100_14 rfl rfl).trans ?_
  rfl
set_option maxRecDepth 10000 in
theorem g100_16 {s : SG} (hR : RefC s) (l1 l2 l3 l4 l6 : Int) : sem 100 16 [aA 13, aI l1, aI l2, aI l3, aL l4, aU, aI l6] [] s = if l3 < l6 then some (aL l4, s) else bnI (sem 93 0 [aI (w32 (l1 + l6)), aI l2, aI (w32 (l3 - l6)), aU] [] s) fun a2 s1 => grd ((0 : Int) ≤ a2 ∧ a2 < 2197) (bnI (sem 93 0 [aI l1, aI (w32 (l2 + l6)), aI (w32 (l3 - l6)), aU] [] s1) fun a5 s4 => grd ((0 : Int) ≤ a5 ∧ a5 < 2197) (sem 100 16 [aA 13, aI l1, aI l2, aI l3, aL (max (max l4 (s1 15 a2)) (s4 15 a5)), aU, aI (w32 (l6 + 1))] [] s4)) := by
  refine (x_iload f100_16 rfl rfl).trans ?_
  refine (x_iload f100_18 rfl rfl).trans ?_
  refine (x_icmp_gt (tg := 76) f100_19 rfl rfl).trans (i_c ?_ ?_)
  · refine (x_lload f100_76 rfl rfl).trans ?_
    exact x_lreturn f100_78 rfl
  · refine (x_lload f100_22 rfl rfl).trans ?_
    refine (x_aload f100_24 rfl rfl).trans ?_
    refine (y_get2 (ji := 1) rfl f100_25 rfl rfl).trans ?_
    refine (g_t rfl).trans ?_
    refine (g_t (by rw [show s 13 1 = 15 from hR.2.2.2.2.2.2.2.2.2.2.2.2.2.2.2.2.2.2.1]; decide)).trans ?_
    rw [show s 13 1 = 15 from hR.2.2.2.2.2.2.2.2.2.2.2.2.2.2.2.2.2.2.1]
    refine (x_iload f100_28 rfl rfl).trans ?_
    refine (x_iload f100_29 rfl rfl).trans ?_
    refine (x_iadd f100_31 rfl).trans ?_
    refine (x_iload f100_32 rfl rfl).trans ?_
    refine (x_iload f100_33 rfl rfl).trans ?_
    refine (x_iload f100_34 rfl rfl).trans ?_
    refine (x_isub f100_36 rfl).trans ?_
    refine (x_invokestatic (G := bnI (sem 93 0 [aI (w32 (l1 + l6)), aI l2, aI (w32 (l3 - l6)), aU] [] s) fun a2 s1 => sem 100 40 [aA 13, aI l1, aI l2, aI l3, aL l4, aU, aI l6] [aI a2, aA 15, aL l4] s1) f100_37 rfl rfl).trans ?_
    refine bI_h fun a2 s1 qs1 => ?_
    have rs1 := RefC.sem qs1 rfl hR
    refine (x_laload f100_40 rfl).trans ?_
    refine (g_t rfl).trans ?_
    refine g_kl (n := 2197) rfl fun hg3 => ?_
    refine (x_dadd f100_41 rfl rfl).trans ?_
    refine (x_lstore (l2 := [aA 13, aI l1, aI l2, aI l3, aL (max l4 (s1 15 a2)), aU, aI l6]) f100_44 rfl rfl).trans ?_
    refine (x_lload f100_46 rfl rfl).trans ?_
    refine (x_aload f100_48 rfl rfl).trans ?_
    refine (y_get2 (ji := 1) rfl f100_49 rfl rfl).trans ?_
    refine (g_t rfl).trans ?_
    refine (g_t (by rw [show s1 13 1 = 15 from rs1.2.2.2.2.2.2.2.2.2.2.2.2.2.2.2.2.2.2.1]; decide)).trans ?_
    rw [show s1 13 1 = 15 from rs1.2.2.2.2.2.2.2.2.2.2.2.2.2.2.2.2.2.2.1]
    refine (x_iload f100_52 rfl rfl).trans ?_
    refine (x_iload f100_53 rfl rfl).trans ?_
    refine (x_iload f100_54 rfl rfl).trans ?_
    refine (x_iadd f100_56 rfl).trans ?_
    refine (x_iload f100_57 rfl rfl).trans ?_
    refine (x_iload f100_58 rfl rfl).trans ?_
    refine (x_isub f100_60 rfl).trans ?_
    refine (x_invokestatic (G := bnI (sem 93 0 [aI l1, aI (w32 (l2 + l6)), aI (w32 (l3 - l6)), aU] [] s1) fun a5 s4 => sem 100 64 [aA 13, aI l1, aI l2, aI l3, aL (max l4 (s1 15 a2)), aU, aI l6] [aI a5, aA 15, aL (max l4 (s1 15 a2))] s4) f100_61 rfl rfl).trans ?_
    refine bI_h fun a5 s4 qs4 => ?_
    have rs4 := RefC.sem qs4 rfl rs1
    refine (x_laload f100_64 rfl).trans ?_
    refine (g_t rfl).trans ?_
    refine g_kl (n := 2197) rfl fun hg6 => ?_
    refine (x_dadd f100_65 rfl rfl).trans ?_
    refine (x_lstore (l2 := [aA 13, aI l1, aI l2, aI l3, aL (max (max l4 (s1 15 a2)) (s4 15 a5)), aU, aI l6]) f100_68 rfl rfl).trans ?_
    refine (x_iinc (l2 := [aA 13, aI l1, aI l2, aI l3, aL (max (max l4 (s1 15 a2)) (s4 15 a5)), aU, aI (w32 (l6 + 1))]) f100_70 rfl rfl rfl).trans ?_
    refine (x_goto (tg := 16) f100_73 rfl rfl).trans ?_
    rfl
set_option maxRecDepth 10000 in
theorem g101_0 {s : SG} (hR : RefC s) (l1 l2 l3 : Int) : sem 101 0 [aA 13, aI l1, aI l2, aI l3, aU, aU, aU] [] s = bnL (sem 100 0 [aA 13, aI l1, aI l2, aI l3, aU, aU, aU] [] s) fun a2 s1 => bnI (sem 93 0 [aI l1, aI l2, aI l3, aU] [] s1) fun a4 s3 => grd ((0 : Int) ≤ a4 ∧ a4 < 2197) (if (cmpL (s3 15 a4) a2) = 0 then some (aI 0, s3) else sem 101 31 [aA 13, aI l1, aI l2, aI l3, aL a2, aU, aI 1] [] s3) := by
  refine (x_aload f101_0 rfl rfl).trans ?_
  refine (x_iload f101_1 rfl rfl).trans ?_
  refine (x_iload f101_2 rfl rfl).trans ?_
  refine (x_iload f101_3 rfl rfl).trans ?_
  refine (x_invokevirtual (G := grd (kd 13 = 7) (bnL (sem 100 0 [aA 13, aI l1, aI l2, aI l3, aU, aU, aU] [] s) fun a2 s1 => sem 101 7 [aA 13, aI l1, aI l2, aI l3, aU, aU, aU] [aL a2] s1)) f101_4 rfl rfl).trans ?_
  refine (g_t rfl).trans ?_
  refine bL_h fun a2 s1 qs1 => ?_
  have rs1 := RefC.sem qs1 rfl hR
  refine (x_lstore (l2 := [aA 13, aI l1, aI l2, aI l3, aL a2, aU, aU]) f101_7 rfl rfl).trans ?_
  refine (x_aload f101_9 rfl rfl).trans ?_
  refine (y_get2 (ji := 1) rfl f101_10 rfl rfl).trans ?_
  refine (g_t rfl).trans ?_
  refine (g_t (by rw [show s1 13 1 = 15 from rs1.2.2.2.2.2.2.2.2.2.2.2.2.2.2.2.2.2.2.1]; decide)).trans ?_
  rw [show s1 13 1 = 15 from rs1.2.2.2.2.2.2.2.2.2.2.2.2.2.2.2.2.2.2.1]
  refine (x_iload f101_13 rfl rfl).trans ?_
  refine (x_iload f101_14 rfl rfl).trans ?_
  refine (x_iload f101_15 rfl rfl).trans ?_
  refine (x_invokestatic (G := bnI (sem 93 0 [aI l1, aI l2, aI l3, aU] [] s1) fun a4 s3 => sem 101 19 [aA 13, aI l1, aI l2, aI l3, aL a2, aU, aU] [aI a4, aA 15] s3) f101_16 rfl rfl).trans ?_
  refine bI_h fun a4 s3 qs3 => ?_
  have rs3 := RefC.sem qs3 rfl rs1
  refine (x_laload f101_19 rfl).trans ?_
  refine (g_t rfl).trans ?_
  refine g_kl (n := 2197) rfl fun hg5 => ?_
  refine (x_lload f101_20 rfl rfl).trans ?_
  refine (x_lcmp f101_22 rfl).trans ?_
  refine (x_if_ne (tg := 28) f101_23 rfl rfl).trans (i_c ?_ ?_)
  · refine (x_iconst f101_26 rfl).trans ?_
    exact x_ireturn f101_27 rfl
  · refine (x_iconst f101_28 rfl).trans ?_
    refine (x_istore (l2 := [aA 13, aI l1, aI l2, aI l3, aL a2, aU, aI 1]) f101_29 rfl rfl).trans ?_
    rfl
set_option maxRecDepth 10000 in
theorem g101_31 {s : SG} (hR : RefC s) (l1 l2 l3 l4 l6 : Int) : sem 101 31 [aA 13, aI l1, aI l2, aI l3, aL l4, aU, aI l6] [] s = if l3 < l6 then some (aI 0, s) else bnI (sem 93 0 [aI (w32 (l1 + l6)), aI l2, aI (w32 (l3 - l6)), aU] [] s) fun a2 s1 => grd ((0 : Int) ≤ a2 ∧ a2 < 2197) (if (cmpL (s1 15 a2) l4) = 0 then some (aI l6, s1) else bnI (sem 93 0 [aI l1, aI (w32 (l2 + l6)), aI (w32 (l3 - l6)), aU] [] s1) fun a5 s4 => grd ((0 : Int) ≤ a5 ∧ a5 < 2197) (if (cmpL (s4 15 a5) l4) = 0 then some (aI (w32 (100 + l6)), s4) else sem 101 31 [aA 13, aI l1, aI l2, aI l3, aL l4, aU, aI (w32 (l6 + 1))] [] s4)) := by
  refine (x_iload f101_31 rfl rfl).trans ?_
  refine (x_iload f101_33 rfl rfl).trans ?_
  refine (x_icmp_gt (tg := 98) f101_34 rfl rfl).trans (i_c ?_ ?_)
  · refine (x_iconst f101_98 rfl).trans ?_
    exact x_ireturn f101_99 rfl
  · refine (x_aload f101_37 rfl rfl).trans ?_
    refine (y_get2 (ji := 1) rfl f101_38 rfl rfl).trans ?_
    refine (g_t rfl).trans ?_
    refine (g_t (by rw [show s 13 1 = 15 from hR.2.2.2.2.2.2.2.2.2.2.2.2.2.2.2.2.2.2.1]; decide)).trans ?_
    rw [show s 13 1 = 15 from hR.2.2.2.2.2.2.2.2.2.2.2.2.2.2.2.2.2.2.1]
    refine (x_iload f101_41 rfl rfl).trans ?_
    refine (x_iload f101_42 rfl rfl).trans ?_
    refine (x_iadd f101_44 rfl).trans ?_
    refine (x_iload f101_45 rfl rfl).trans ?_
    refine (x_iload f101_46 rfl rfl).trans ?_
    refine (x_iload f101_47 rfl rfl).trans ?_
    refine (x_isub f101_49 rfl).trans ?_
    refine (x_invokestatic (G := bnI (sem 93 0 [aI (w32 (l1 + l6)), aI l2, aI (w32 (l3 - l6)), aU] [] s) fun a2 s1 => sem 101 53 [aA 13, aI l1, aI l2, aI l3, aL l4, aU, aI l6] [aI a2, aA 15] s1) f101_50 rfl rfl).trans ?_
    refine bI_h fun a2 s1 qs1 => ?_
    have rs1 := RefC.sem qs1 rfl hR
    refine (x_laload f101_53 rfl).trans ?_
    refine (g_t rfl).trans ?_
    refine g_kl (n := 2197) rfl fun hg3 => ?_
    refine (x_lload f101_54 rfl rfl).trans ?_
    refine (x_lcmp f101_56 rfl).trans ?_
    refine (x_if_ne (tg := 63) f101_57 rfl rfl).trans (i_c ?_ ?_)
    · refine (x_iload f101_60 rfl rfl).trans ?_
      exact x_ireturn f101_62 rfl
    · refine (x_aload f101_63 rfl rfl).trans ?_
      refine (y_get2 (ji := 1) rfl f101_64 rfl rfl).trans ?_
      refine (g_t rfl).trans ?_
      refine (g_t (by rw [show s1 13 1 = 15 from rs1.2.2.2.2.2.2.2.2.2.2.2.2.2.2.2.2.2.2.1]; decide)).trans ?_
      rw [show s1 13 1 = 15 from rs1.2.2.2.2.2.2.2.2.2.2.2.2.2.2.2.2.2.2.1]
      refine (x_iload f101_67 rfl rfl).trans ?_
      refine (x_iload f101_68 rfl rfl).trans ?_
      refine (x_iload f101_69 rfl rfl).trans ?_
      refine (x_iadd f101_71 rfl).trans ?_
      refine (x_iload f101_72 rfl rfl).trans ?_
      refine (x_iload f101_73 rfl rfl).trans ?_
      refine (x_isub f101_75 rfl).trans ?_
      refine (x_invokestatic (G := bnI (sem 93 0 [aI l1, aI (w32 (l2 + l6)), aI (w32 (l3 - l6)), aU] [] s1) fun a5 s4 => sem 101 79 [aA 13, aI l1, aI l2, aI l3, aL l4, aU, aI l6] [aI a5, aA 15] s4) f101_76 rfl rfl).trans ?_
      refine bI_h fun a5 s4 qs4 => ?_
      have rs4 := RefC.sem qs4 rfl rs1
      refine (x_laload f101_79 rfl).trans ?_
      refine (g_t rfl).trans ?_
      refine g_kl (n := 2197) rfl fun hg6 => ?_
      refine (x_lload f101_80 rfl rfl).trans ?_
      refine (x_lcmp f101_82 rfl).trans ?_
      refine (x_if_ne (tg := 92) f101_83 rfl rfl).trans (i_c ?_ ?_)
      · refine (x_iconst f101_86 rfl).trans ?_
        refine (x_iload f101_88 rfl rfl).trans ?_
        refine (x_iadd f101_90 rfl).trans ?_
        exact x_ireturn f101_91 rfl
      · refine (x_iinc (l2 := [aA 13, aI l1, aI l2, aI l3, aL l4, aU, aI (w32 (l6 + 1))]) f101_92 rfl rfl rfl).trans ?_
        refine (x_goto (tg := 31) f101_95 rfl rfl).trans ?_
        rfl
set_option maxRecDepth 10000 in
theorem g103_0 {s : SG} (hR : RefC s) (l1 l2 : Int) : sem 103 0 [aA 0, aI l1, aL l2, aU] [] s = if l1 < 1 then some (aI ((-2)), s) else if (8 : Int) < l1 then some (aI ((-2)), s) else bnI (sem 76 0 [aA 1, aI l1] [] s) fun a2 s1 => if a2 = 0 then some (aI ((-4)), s1) else bnV (sem 77 0 [aA 1, aI l1, aL l2, aU, aU] [] s1) fun s3 => bnI (sem 75 0 [aA 1] [] s3) fun a5 s4 => some (aI a5, s4) := by
  refine (x_iload f103_0 rfl rfl).trans ?_
  refine (x_iconst f103_1 rfl).trans ?_
  refine (x_icmp_lt (tg := 11) f103_2 rfl rfl).trans (i_c ?_ ?_)
  · refine (x_kil (l2 := [aU, aU, aU, aU]) f103_11 rfl).trans ?_
    refine (x_iconst f103_11 rfl).trans ?_
    exact x_ireturn f103_13 rfl
  · refine (x_iload f103_5 rfl rfl).trans ?_
    refine (x_iconst f103_6 rfl).trans ?_
    refine (x_icmp_le (tg := 14) f103_8 rfl rfl).trans (i_c ?_ ?_)
    · refine (x_kil (l2 := [aU, aU, aU, aU]) f103_11 rfl).trans ?_
      refine (x_iconst f103_11 rfl).trans ?_
      exact x_ireturn f103_13 rfl
    · refine (x_aload f103_14 rfl rfl).trans ?_
      refine (y_get2 (ji := 0) rfl f103_15 rfl rfl).trans ?_
      refine (g_t rfl).trans ?_
      refine (g_t (by rw [show s 0 0 = 1 from hR.1]; decide)).trans ?_
      rw [show s 0 0 = 1 from hR.1]
      refine (x_iload f103_18 rfl rfl).trans ?_
      refine (x_invokevirtual (G := grd (kd 1 = 5) (bnI (sem 76 0 [aA 1, aI l1] [] s) fun a2 s1 => sem 103 22 [aA 0, aI l1, aL l2, aU] [aI a2] s1)) f103_19 rfl rfl).trans ?_
      refine (g_t rfl).trans ?_
      refine bI_h fun a2 s1 qs1 => ?_
      have rs1 := RefC.sem qs1 rfl hR
      refine (x_if_ne (tg := 28) f103_22 rfl rfl).trans (i_c ?_ ?_)
      · refine (x_iconst f103_25 rfl).trans ?_
        exact x_ireturn f103_27 rfl
      · refine (x_aload f103_28 rfl rfl).trans ?_
        refine (y_get2 (ji := 0) rfl f103_29 rfl rfl).trans ?_
        refine (g_t rfl).trans ?_
        refine (g_t (by rw [show s1 0 0 = 1 from rs1.1]; decide)).trans ?_
        rw [show s1 0 0 = 1 from rs1.1]
        refine (x_iload f103_32 rfl rfl).trans ?_
        refine (x_lload f103_33 rfl rfl).trans ?_
        refine (x_invokevirtual (G := grd (kd 1 = 5) (bnV (sem 77 0 [aA 1, aI l1, aL l2, aU, aU] [] s1) fun s3 => sem 103 37 [aA 0, aI l1, aL l2, aU] [] s3)) f103_34 rfl rfl).trans ?_
        refine (g_t rfl).trans ?_
        refine bV_h fun s3 qs3 => ?_
        have rs3 := RefC.sem qs3 rfl rs1
        refine (x_aload f103_37 rfl rfl).trans ?_
        refine (y_get2 (ji := 0) rfl f103_38 rfl rfl).trans ?_
        refine (g_t rfl).trans ?_
        refine (g_t (by rw [show s3 0 0 = 1 from rs3.1]; decide)).trans ?_
        rw [show s3 0 0 = 1 from rs3.1]
        refine (x_invokevirtual (G := grd (kd 1 = 5) (bnI (sem 75 0 [aA 1] [] s3) fun a5 s4 => sem 103 44 [aA 0, aI l1, aL l2, aU] [aI a5] s4)) f103_41 rfl rfl).trans ?_
        refine (g_t rfl).trans ?_
        refine bI_h fun a5 s4 qs4 => ?_
        have rs4 := RefC.sem qs4 rfl rs3
        exact x_ireturn f103_44 rfl
set_option maxRecDepth 10000 in
theorem g104_0 {s : SG} (hR : RefC s) : sem 104 0 [aA 0] [] s = bnI (sem 78 0 [aA 1, aU] [] s) fun a2 s1 => some (aI a2, s1) := by
  refine (x_aload f104_0 rfl rfl).trans ?_
  refine (y_get2 (ji := 0) rfl f104_1 rfl rfl).trans ?_
  refine (g_t rfl).trans ?_
  refine (g_t (by rw [show s 0 0 = 1 from hR.1]; decide)).trans ?_
  rw [show s 0 0 = 1 from hR.1]
  refine (x_invokevirtual (G := grd (kd 1 = 5) (bnI (sem 78 0 [aA 1, aU] [] s) fun a2 s1 => sem 104 7 [aA 0] [aI a2] s1)) f104_4 rfl rfl).trans ?_
  refine (g_t rfl).trans ?_
  refine bI_h fun a2 s1 qs1 => ?_
  have rs1 := RefC.sem qs1 rfl hR
  exact x_ireturn f104_7 rfl
set_option maxRecDepth 10000 in
theorem g107_0 {t : Int} (ht : t = 32 ∨ t = 37) {s : SG} (hR : RefC s) (hw : TwC s t) (l1 l2 l3 : Int) : sem 107 0 [aA 0, aI l1, aI l2, aI l3] [] s = bnI (sem 82 0 [aA t, aI l1] [] s) fun a2 s1 => if a2 = 0 then some (aI ((-1)), s1) else bnI (sem 140 0 [aI l2] [] s1) fun a4 s3 => if a4 = 0 then some (aI ((-1)), s3) else if l3 < 0 then some (aI ((-2)), s3) else if (1 : Int) < l3 then some (aI ((-2)), s3) else if l3 = 0 then bnI (sem 84 0 [aA t, aI l1, aI l2, aU] [] s3) fun a6 s5 => some (aI a6, s5) else bnI (sem 85 0 [aA t, aI l1, aI l2, aU] [] s3) fun a8 s7 => some (aI a8, s7) := by
  refine (x_aload f107_0 rfl rfl).trans ?_
  refine (y_get2 (ji := 9) rfl f107_1 rfl rfl).trans ?_
  refine (g_t rfl).trans ?_
  refine (g_t (by rw [show s 0 9 = t from hw.1]; omega)).trans ?_
  rw [show s 0 9 = t from hw.1]
  refine (x_iload f107_4 rfl rfl).trans ?_
  refine (x_invokevirtual (G := grd (kd t = 6) (bnI (sem 82 0 [aA t, aI l1] [] s) fun a2 s1 => sem 107 8 [aA 0, aI l1, aI l2, aI l3] [aI a2] s1)) f107_5 rfl rfl).trans ?_
  refine (g_t ((kd_t ht).1)).trans ?_
  refine bI_h fun a2 s1 qs1 => ?_
  have rs1 := RefC.sem qs1 rfl hR
  have ws1 := TwC.sem qs1 rfl hw
  refine (x_if_eq (tg := 18) f107_8 rfl rfl).trans (i_c ?_ ?_)
  · refine (x_kil (l2 := [aU, aU, aU, aU]) f107_18 rfl).trans ?_
    refine (x_iconst f107_18 rfl).trans ?_
    exact x_ireturn f107_19 rfl
  · refine (x_iload f107_11 rfl rfl).trans ?_
    refine (x_invokestatic (G := bnI (sem 140 0 [aI l2] [] s1) fun a4 s3 => sem 107 15 [aA 0, aI l1, aI l2, aI l3] [aI a4] s3) f107_12 rfl rfl).trans ?_
    refine bI_h fun a4 s3 qs3 => ?_
    have rs3 := RefC.sem qs3 rfl rs1
    have ws3 := TwC.sem qs3 rfl ws1
    refine (x_if_ne (tg := 20) f107_15 rfl rfl).trans (i_c ?_ ?_)
    · refine (x_kil (l2 := [aU, aU, aU, aU]) f107_18 rfl).trans ?_
      refine (x_iconst f107_18 rfl).trans ?_
      exact x_ireturn f107_19 rfl
    · refine (x_iload f107_20 rfl rfl).trans ?_
      refine (x_if_lt (tg := 29) f107_21 rfl rfl).trans (i_c ?_ ?_)
      · refine (x_kil (l2 := [aU, aU, aU, aU]) f107_29 rfl).trans ?_
        refine (x_iconst f107_29 rfl).trans ?_
        exact x_ireturn f107_31 rfl
      · refine (x_iload f107_24 rfl rfl).trans ?_
        refine (x_iconst f107_25 rfl).trans ?_
        refine (x_icmp_le (tg := 32) f107_26 rfl rfl).trans (i_c ?_ ?_)
        · refine (x_kil (l2 := [aU, aU, aU, aU]) f107_29 rfl).trans ?_
          refine (x_iconst f107_29 rfl).trans ?_
          exact x_ireturn f107_31 rfl
        · refine (x_iload f107_32 rfl rfl).trans ?_
          refine (x_if_ne (tg := 48) f107_33 rfl rfl).trans (i_c ?_ ?_)
          · refine (x_aload f107_36 rfl rfl).trans ?_
            refine (y_get2 (ji := 9) rfl f107_37 rfl rfl).trans ?_
            refine (g_t rfl).trans ?_
            refine (g_t (by rw [show s3 0 9 = t from ws3.1]; omega)).trans ?_
            rw [show s3 0 9 = t from ws3.1]
            refine (x_iload f107_40 rfl rfl).trans ?_
            refine (x_iload f107_41 rfl rfl).trans ?_
            refine (x_invokevirtual (G := grd (kd t = 6) (bnI (sem 84 0 [aA t, aI l1, aI l2, aU] [] s3) fun a6 s5 => sem 107 45 [aA 0, aI l1, aI l2, aI l3] [aI a6] s5)) f107_42 rfl rfl).trans ?_
            refine (g_t ((kd_t ht).1)).trans ?_
            refine bI_h fun a6 s5 qs5 => ?_
            have rs5 := RefC.sem qs5 rfl rs3
            have ws5 := TwC.sem qs5 rfl ws3
            refine (x_goto (tg := 57) f107_45 rfl rfl).trans ?_
            refine (x_kil (l2 := [aU, aU, aU, aU]) f107_57 rfl).trans ?_
            exact x_ireturn f107_57 rfl
          · refine (x_aload f107_48 rfl rfl).trans ?_
            refine (y_get2 (ji := 9) rfl f107_49 rfl rfl).trans ?_
            refine (g_t rfl).trans ?_
            refine (g_t (by rw [show s3 0 9 = t from ws3.1]; omega)).trans ?_
            rw [show s3 0 9 = t from ws3.1]
            refine (x_iload f107_52 rfl rfl).trans ?_
            refine (x_iload f107_53 rfl rfl).trans ?_
            refine (x_invokevirtual (G := grd (kd t = 6) (bnI (sem 85 0 [aA t, aI l1, aI l2, aU] [] s3) fun a8 s7 => sem 107 57 [aA 0, aI l1, aI l2, aI l3] [aI a8] s7)) f107_54 rfl rfl).trans ?_
            refine (g_t ((kd_t ht).1)).trans ?_
            refine bI_h fun a8 s7 qs7 => ?_
            have rs7 := RefC.sem qs7 rfl rs3
            have ws7 := TwC.sem qs7 rfl ws3
            refine (x_kil (l2 := [aU, aU, aU, aU]) f107_57 rfl).trans ?_
            exact x_ireturn f107_57 rfl
set_option maxRecDepth 10000 in
theorem g108_0 {t : Int} (ht : t = 32 ∨ t = 37) {s : SG} (hR : RefC s) (hw : TwC s t) (l1 : Int) : sem 108 0 [aA 0, aI l1] [] s = if l1 < 0 then some (aI ((-2)), s) else if (9 : Int) < l1 then some (aI ((-2)), s) else if l1 = 0 then some (aI (s t 4), s) else if (3 : Int) < l1 then if (6 : Int) < l1 then bnI (sem 82 0 [aA t, aI (w32 (l1 - 7))] [] s) fun a2 s1 => if a2 = 0 then some (aI ((-1)), s1) else bnI (sem 86 0 [aA t, aI (w32 (l1 - 7))] [] s1) fun a4 s3 => some (aI a4, s3) else if l1 = 4 then some (aI (s t 5), s) else if l1 = 5 then some (aI (s t 6), s) else some (aI (s t 7), s) else bnI (sem 83 0 [aA t, aI (w32 (l1 - 1))] [] s) fun a6 s5 => some (aI a6, s5) := by
  refine (x_iload f108_0 rfl rfl).trans ?_
  refine (x_if_lt (tg := 10) f108_1 rfl rfl).trans (i_c ?_ ?_)
  · refine (x_kil (l2 := [aU, aU]) f108_10 rfl).trans ?_
    refine (x_iconst f108_10 rfl).trans ?_
    exact x_ireturn f108_12 rfl
  · refine (x_iload f108_4 rfl rfl).trans ?_
    refine (x_iconst f108_5 rfl).trans ?_
    refine (x_icmp_le (tg := 13) f108_7 rfl rfl).trans (i_c ?_ ?_)
    · refine (x_kil (l2 := [aU, aU]) f108_10 rfl).trans ?_
      refine (x_iconst f108_10 rfl).trans ?_
      exact x_ireturn f108_12 rfl
    · refine (x_iload f108_13 rfl rfl).trans ?_
      refine (x_if_ne (tg := 25) f108_14 rfl rfl).trans (i_c ?_ ?_)
      · refine (x_aload f108_17 rfl rfl).trans ?_
        refine (y_get2 (ji := 9) rfl f108_18 rfl rfl).trans ?_
        refine (g_t rfl).trans ?_
        refine (g_t (by rw [show s 0 9 = t from hw.1]; omega)).trans ?_
        rw [show s 0 9 = t from hw.1]
        refine (y_get0 (ji := 4) rfl f108_21 rfl rfl).trans ?_
        refine (g_t ((kd_t ht).1)).trans ?_
        exact x_ireturn f108_24 rfl
      · refine (x_iload f108_25 rfl rfl).trans ?_
        refine (x_iconst f108_26 rfl).trans ?_
        refine (x_icmp_gt (tg := 41) f108_27 rfl rfl).trans (i_c ?_ ?_)
        · refine (x_iload f108_41 rfl rfl).trans ?_
          refine (x_iconst f108_42 rfl).trans ?_
          refine (x_icmp_gt (tg := 85) f108_44 rfl rfl).trans (i_c ?_ ?_)
          · refine (x_aload f108_85 rfl rfl).trans ?_
            refine (y_get2 (ji := 9) rfl f108_86 rfl rfl).trans ?_
            refine (g_t rfl).trans ?_
            refine (g_t (by rw [show s 0 9 = t from hw.1]; omega)).trans ?_
            rw [show s 0 9 = t from hw.1]
            refine (x_iload f108_89 rfl rfl).trans ?_
            refine (x_iconst f108_90 rfl).trans ?_
            refine (x_isub f108_92 rfl).trans ?_
            refine (x_invokevirtual (G := grd (kd t = 6) (bnI (sem 82 0 [aA t, aI (w32 (l1 - 7))] [] s) fun a2 s1 => sem 108 96 [aA 0, aI l1] [aI a2] s1)) f108_93 rfl rfl).trans ?_
            refine (g_t ((kd_t ht).1)).trans ?_
            refine bI_h fun a2 s1 qs1 => ?_
            have rs1 := RefC.sem qs1 rfl hR
            have ws1 := TwC.sem qs1 rfl hw
            refine (x_if_eq (tg := 113) f108_96 rfl rfl).trans (i_c ?_ ?_)
            · refine (x_iconst f108_113 rfl).trans ?_
              refine (x_kil (l2 := [aU, aU]) f108_114 rfl).trans ?_
              exact x_ireturn f108_114 rfl
            · refine (x_aload f108_99 rfl rfl).trans ?_
              refine (y_get2 (ji := 9) rfl f108_100 rfl rfl).trans ?_
              refine (g_t rfl).trans ?_
              refine (g_t (by rw [show s1 0 9 = t from ws1.1]; omega)).trans ?_
              rw [show s1 0 9 = t from ws1.1]
              refine (x_iload f108_103 rfl rfl).trans ?_
              refine (x_iconst f108_104 rfl).trans ?_
              refine (x_isub f108_106 rfl).trans ?_
              refine (x_invokevirtual (G := grd (kd t = 6) (bnI (sem 86 0 [aA t, aI (w32 (l1 - 7))] [] s1) fun a4 s3 => sem 108 110 [aA 0, aI l1] [aI a4] s3)) f108_107 rfl rfl).trans ?_
              refine (g_t ((kd_t ht).1)).trans ?_
              refine bI_h fun a4 s3 qs3 => ?_
              have rs3 := RefC.sem qs3 rfl rs1
              have ws3 := TwC.sem qs3 rfl ws1
              refine (x_goto (tg := 114) f108_110 rfl rfl).trans ?_
              refine (x_kil (l2 := [aU, aU]) f108_114 rfl).trans ?_
              exact x_ireturn f108_114 rfl
          · refine (x_iload f108_47 rfl rfl).trans ?_
            refine (x_iconst f108_48 rfl).trans ?_
            refine (x_icmp_ne (tg := 62) f108_49 rfl rfl).trans (i_c ?_ ?_)
            · refine (x_aload f108_52 rfl rfl).trans ?_
              refine (y_get2 (ji := 9) rfl f108_53 rfl rfl).trans ?_
              refine (g_t rfl).trans ?_
              refine (g_t (by rw [show s 0 9 = t from hw.1]; omega)).trans ?_
              rw [show s 0 9 = t from hw.1]
              refine (y_get0 (ji := 5) rfl f108_56 rfl rfl).trans ?_
              refine (g_t ((kd_t ht).1)).trans ?_
              refine (x_goto (tg := 84) f108_59 rfl rfl).trans ?_
              refine (x_kil (l2 := [aU, aU]) f108_84 rfl).trans ?_
              exact x_ireturn f108_84 rfl
            · refine (x_iload f108_62 rfl rfl).trans ?_
              refine (x_iconst f108_63 rfl).trans ?_
              refine (x_icmp_ne (tg := 77) f108_64 rfl rfl).trans (i_c ?_ ?_)
              · refine (x_aload f108_67 rfl rfl).trans ?_
                refine (y_get2 (ji := 9) rfl f108_68 rfl rfl).trans ?_
                refine (g_t rfl).trans ?_
                refine (g_t (by rw [show s 0 9 = t from hw.1]; omega)).trans ?_
                rw [show s 0 9 = t from hw.1]
                refine (y_get0 (ji := 6) rfl f108_71 rfl rfl).trans ?_
                refine (g_t ((kd_t ht).1)).trans ?_
                refine (x_goto (tg := 84) f108_74 rfl rfl).trans ?_
                refine (x_kil (l2 := [aU, aU]) f108_84 rfl).trans ?_
                exact x_ireturn f108_84 rfl
              · refine (x_aload f108_77 rfl rfl).trans ?_
                refine (y_get2 (ji := 9) rfl f108_78 rfl rfl).trans ?_
                refine (g_t rfl).trans ?_
                refine (g_t (by rw [show s 0 9 = t from hw.1]; omega)).trans ?_
                rw [show s 0 9 = t from hw.1]
                refine (y_get0 (ji := 7) rfl f108_81 rfl rfl).trans ?_
                refine (g_t ((kd_t ht).1)).trans ?_
                refine (x_kil (l2 := [aU, aU]) f108_84 rfl).trans ?_
                exact x_ireturn f108_84 rfl
        · refine (x_aload f108_30 rfl rfl).trans ?_
          refine (y_get2 (ji := 9) rfl f108_31 rfl rfl).trans ?_
          refine (g_t rfl).trans ?_
          refine (g_t (by rw [show s 0 9 = t from hw.1]; omega)).trans ?_
          rw [show s 0 9 = t from hw.1]
          refine (x_iload f108_34 rfl rfl).trans ?_
          refine (x_iconst f108_35 rfl).trans ?_
          refine (x_isub f108_36 rfl).trans ?_
          refine (x_invokevirtual (G := grd (kd t = 6) (bnI (sem 83 0 [aA t, aI (w32 (l1 - 1))] [] s) fun a6 s5 => sem 108 40 [aA 0, aI l1] [aI a6] s5)) f108_37 rfl rfl).trans ?_
          refine (g_t ((kd_t ht).1)).trans ?_
          refine bI_h fun a6 s5 qs5 => ?_
          have rs5 := RefC.sem qs5 rfl hR
          have ws5 := TwC.sem qs5 rfl hw
          exact x_ireturn f108_40 rfl
set_option maxRecDepth 10000 in
theorem g109_0 {s : SG} (hR : RefC s) (l1 l2 l3 : Int) : sem 109 0 [aA 0, aI l1, aI l2, aI l3, aU] [] s = bnI (sem 145 0 [aA 0, aI l1, aI l2] [] s) fun a2 s1 => if a2 = 0 then bnL (sem 7 0 [aA 5, aI l1, aI l2] [] s1) fun a4 s3 => bnL (sem 5 0 [aA 5] [] s3) fun a6 s5 => bnL (sem 149 0 [aL a4, aU, aL a6, aU, aI l3, aU, aU] [] s5) fun a8 s7 => some (aL a8, s7) else some (aL a2, s1) := by
  refine (x_aload f109_0 rfl rfl).trans ?_
  refine (x_iload f109_1 rfl rfl).trans ?_
  refine (x_iload f109_2 rfl rfl).trans ?_
  refine (x_invokevirtual (G := grd (kd 0 = 8) (bnI (sem 145 0 [aA 0, aI l1, aI l2] [] s) fun a2 s1 => sem 109 6 [aA 0, aI l1, aI l2, aI l3, aU] [aI a2] s1)) f109_3 rfl rfl).trans ?_
  refine (g_t rfl).trans ?_
  refine bI_h fun a2 s1 qs1 => ?_
  have rs1 := RefC.sem qs1 rfl hR
  refine (x_istore (l2 := [aA 0, aI l1, aI l2, aI l3, aI a2]) f109_6 rfl rfl).trans ?_
  refine (x_iload f109_8 rfl rfl).trans ?_
  refine (x_if_eq (tg := 19) f109_10 rfl rfl).trans (i_c ?_ ?_)
  · refine (x_aload f109_19 rfl rfl).trans ?_
    refine (y_get2 (ji := 2) rfl f109_20 rfl rfl).trans ?_
    refine (g_t rfl).trans ?_
    refine (g_t (by rw [show s1 0 2 = 5 from rs1.2.2.1]; decide)).trans ?_
    rw [show s1 0 2 = 5 from rs1.2.2.1]
    refine (x_iload f109_23 rfl rfl).trans ?_
    refine (x_iload f109_24 rfl rfl).trans ?_
    refine (x_invokevirtual (G := grd (kd 5 = 0) (bnL (sem 7 0 [aA 5, aI l1, aI l2] [] s1) fun a4 s3 => sem 109 28 [aA 0, aI l1, aI l2, aI l3, aI a2] [aL a4] s3)) f109_25 rfl rfl).trans ?_
    refine (g_t rfl).trans ?_
    refine bL_h fun a4 s3 qs3 => ?_
    have rs3 := RefC.sem qs3 rfl rs1
    refine (x_aload f109_28 rfl rfl).trans ?_
    refine (y_get2 (ji := 2) rfl f109_29 rfl rfl).trans ?_
    refine (g_t rfl).trans ?_
    refine (g_t (by rw [show s3 0 2 = 5 from rs3.2.2.1]; decide)).trans ?_
    rw [show s3 0 2 = 5 from rs3.2.2.1]
    refine (x_invokevirtual (G := grd (kd 5 = 0) (bnL (sem 5 0 [aA 5] [] s3) fun a6 s5 => sem 109 35 [aA 0, aI l1, aI l2, aI l3, aI a2] [aL a6, aL a4] s5)) f109_32 rfl rfl).trans ?_
    refine (g_t rfl).trans ?_
    refine bL_h fun a6 s5 qs5 => ?_
    have rs5 := RefC.sem qs5 rfl rs3
    refine (x_iload f109_35 rfl rfl).trans ?_
    refine (x_invokestatic (G := bnL (sem 149 0 [aL a4, aU, aL a6, aU, aI l3, aU, aU] [] s5) fun a8 s7 => sem 109 39 [aA 0, aI l1, aI l2, aI l3, aI a2] [aL a8] s7) f109_36 rfl rfl).trans ?_
    refine bL_h fun a8 s7 qs7 => ?_
    have rs7 := RefC.sem qs7 rfl rs5
    refine (x_kil (l2 := [aU, aU, aU, aU, aU]) f109_39 rfl).trans ?_
    exact x_lreturn f109_39 rfl
  · refine (x_iload f109_13 rfl rfl).trans ?_
    refine (x_i2l f109_15 rfl).trans ?_
    refine (x_goto (tg := 39) f109_16 rfl rfl).trans ?_
    refine (x_kil (l2 := [aU, aU, aU, aU, aU]) f109_39 rfl).trans ?_
    exact x_lreturn f109_39 rfl
set_option maxRecDepth 10000 in
theorem g110_0 {s : SG} (hR : RefC s) (l1 l2 l3 : Int) : sem 110 0 [aA 0, aI l1, aI l2, aI l3, aU] [] s = bnI (sem 145 0 [aA 0, aI l1, aI l2] [] s) fun a2 s1 => if a2 = 0 then bnL (sem 8 0 [aA 5, aI l1, aI l2] [] s1) fun a4 s3 => bnL (sem 5 0 [aA 5] [] s3) fun a6 s5 => bnL (sem 149 0 [aL a4, aU, aL a6, aU, aI l3, aU, aU] [] s5) fun a8 s7 => some (aL a8, s7) else some (aL a2, s1) := by
  refine (x_aload f110_0 rfl rfl).trans ?_
  refine (x_iload f110_1 rfl rfl).trans ?_
  refine (x_iload f110_2 rfl rfl).trans ?_
  refine (x_invokevirtual (G := grd (kd 0 = 8) (bnI (sem 145 0 [aA 0, aI l1, aI l2] [] s) fun a2 s1 => sem 110 6 [aA 0, aI l1, aI l2, aI l3, aU] [aI a2] s1)) f110_3 rfl rfl).trans ?_
  refine (g_t rfl).trans ?_
  refine bI_h fun a2 s1 qs1 => ?_
  have rs1 := RefC.sem qs1 rfl hR
  refine (x_istore (l2 := [aA 0, aI l1, aI l2, aI l3, aI a2]) f110_6 rfl rfl).trans ?_
  refine (x_iload f110_8 rfl rfl).trans ?_
  refine (x_if_eq (tg := 19) f110_10 rfl rfl).trans (i_c ?_ ?_)
  · refine (x_aload f110_19 rfl rfl).trans ?_
    refine (y_get2 (ji := 2) rfl f110_20 rfl rfl).trans ?_
    refine (g_t rfl).trans ?_
    refine (g_t (by rw [show s1 0 2 = 5 from rs1.2.2.1]; decide)).trans ?_
    rw [show s1 0 2 = 5 from rs1.2.2.1]
    refine (x_iload f110_23 rfl rfl).trans ?_
    refine (x_iload f110_24 rfl rfl).trans ?_
    refine (x_invokevirtual (G := grd (kd 5 = 0) (bnL (sem 8 0 [aA 5, aI l1, aI l2] [] s1) fun a4 s3 => sem 110 28 [aA 0, aI l1, aI l2, aI l3, aI a2] [aL a4] s3)) f110_25 rfl rfl).trans ?_
    refine (g_t rfl).trans ?_
    refine bL_h fun a4 s3 qs3 => ?_
    have rs3 := RefC.sem qs3 rfl rs1
    refine (x_aload f110_28 rfl rfl).trans ?_
    refine (y_get2 (ji := 2) rfl f110_29 rfl rfl).trans ?_
    refine (g_t rfl).trans ?_
    refine (g_t (by rw [show s3 0 2 = 5 from rs3.2.2.1]; decide)).trans ?_
    rw [show s3 0 2 = 5 from rs3.2.2.1]
    refine (x_invokevirtual (G := grd (kd 5 = 0) (bnL (sem 5 0 [aA 5] [] s3) fun a6 s5 => sem 110 35 [aA 0, aI l1, aI l2, aI l3, aI a2] [aL a6, aL a4] s5)) f110_32 rfl rfl).trans ?_
    refine (g_t rfl).trans ?_
    refine bL_h fun a6 s5 qs5 => ?_
    have rs5 := RefC.sem qs5 rfl rs3
    refine (x_iload f110_35 rfl rfl).trans ?_
    refine (x_invokestatic (G := bnL (sem 149 0 [aL a4, aU, aL a6, aU, aI l3, aU, aU] [] s5) fun a8 s7 => sem 110 39 [aA 0, aI l1, aI l2, aI l3, aI a2] [aL a8] s7) f110_36 rfl rfl).trans ?_
    refine bL_h fun a8 s7 qs7 => ?_
    have rs7 := RefC.sem qs7 rfl rs5
    refine (x_kil (l2 := [aU, aU, aU, aU, aU]) f110_39 rfl).trans ?_
    exact x_lreturn f110_39 rfl
  · refine (x_iload f110_13 rfl rfl).trans ?_
    refine (x_i2l f110_15 rfl).trans ?_
    refine (x_goto (tg := 39) f110_16 rfl rfl).trans ?_
    refine (x_kil (l2 := [aU, aU, aU, aU, aU]) f110_39 rfl).trans ?_
    exact x_lreturn f110_39 rfl
set_option maxRecDepth 10000 in
theorem g111_0 {t : Int} (ht : t = 32 ∨ t = 37) {s : SG} (hR : RefC s) (hw : TwC s t) (l1 l2 : Int) : sem 111 0 [aA 0, aI l1, aI l2, aU] [] s = bnI (sem 145 0 [aA 0, aI l2, aI l1] [] s) fun a2 s1 => if a2 = 0 then bnI (sem 9 0 [aA 5, aA t, aI l1, aI l2] [] s1) fun a4 s3 => some (aI a4, s3) else some (aI a2, s1) := by
  refine (x_aload f111_0 rfl rfl).trans ?_
  refine (x_iload f111_1 rfl rfl).trans ?_
  refine (x_iload f111_2 rfl rfl).trans ?_
  refine (x_invokevirtual (G := grd (kd 0 = 8) (bnI (sem 145 0 [aA 0, aI l2, aI l1] [] s) fun a2 s1 => sem 111 6 [aA 0, aI l1, aI l2, aU] [aI a2] s1)) f111_3 rfl rfl).trans ?_
  refine (g_t rfl).trans ?_
  refine bI_h fun a2 s1 qs1 => ?_
  have rs1 := RefC.sem qs1 rfl hR
  have ws1 := TwC.sem qs1 rfl hw
  refine (x_istore (l2 := [aA 0, aI l1, aI l2, aI a2]) f111_6 rfl rfl).trans ?_
  refine (x_iload f111_7 rfl rfl).trans ?_
  refine (x_if_eq (tg := 15) f111_8 rfl rfl).trans (i_c ?_ ?_)
  · refine (x_aload f111_15 rfl rfl).trans ?_
    refine (y_get2 (ji := 2) rfl f111_16 rfl rfl).trans ?_
    refine (g_t rfl).trans ?_
    refine (g_t (by rw [show s1 0 2 = 5 from rs1.2.2.1]; decide)).trans ?_
    rw [show s1 0 2 = 5 from rs1.2.2.1]
    refine (x_aload f111_19 rfl rfl).trans ?_
    refine (y_get2 (ji := 9) rfl f111_20 rfl rfl).trans ?_
    refine (g_t rfl).trans ?_
    refine (g_t (by rw [show s1 0 9 = t from ws1.1]; omega)).trans ?_
    rw [show s1 0 9 = t from ws1.1]
    refine (x_iload f111_23 rfl rfl).trans ?_
    refine (x_iload f111_24 rfl rfl).trans ?_
    refine (x_invokevirtual (G := grd (kd 5 = 0) (bnI (sem 9 0 [aA 5, aA t, aI l1, aI l2] [] s1) fun a4 s3 => sem 111 28 [aA 0, aI l1, aI l2, aI a2] [aI a4] s3)) f111_25 rfl rfl).trans ?_
    refine (g_t rfl).trans ?_
    refine bI_h fun a4 s3 qs3 => ?_
    have rs3 := RefC.sem qs3 rfl rs1
    have ws3 := TwC.sem qs3 rfl ws1
    refine (x_kil (l2 := [aU, aU, aU, aU]) f111_28 rfl).trans ?_
    exact x_ireturn f111_28 rfl
  · refine (x_iload f111_11 rfl rfl).trans ?_
    refine (x_goto (tg := 28) f111_12 rfl rfl).trans ?_
    refine (x_kil (l2 := [aU, aU, aU, aU]) f111_28 rfl).trans ?_
    exact x_ireturn f111_28 rfl
set_option maxRecDepth 10000 in
theorem g112_0 {t : Int} (ht : t = 32 ∨ t = 37) {s : SG} (hR : RefC s) (hw : TwC s t) (l1 l2 : Int) : sem 112 0 [aA 0, aI l1, aI l2, aU, aU] [] s = bnI (sem 143 0 [aI l1] [] s) fun a2 s1 => if a2 = 0 then some (aL ((-2)), s1) else bnL (sem 10 0 [aA 5, aA t, aI l1] [] s1) fun a4 s3 => bnL (sem 5 0 [aA 5] [] s3) fun a6 s5 => bnL (sem 149 0 [aL a4, aU, aL a6, aU, aI l2, aU, aU] [] s5) fun a8 s7 => if l2 = 0 then some (aL a8, s7) else some (aL (w64 (a8 + 1000000)), s7) := by
  refine (x_iload f112_0 rfl rfl).trans ?_
  refine (x_invokestatic (G := bnI (sem 143 0 [aI l1] [] s) fun a2 s1 => sem 112 4 [aA 0, aI l1, aI l2, aU, aU] [aI a2] s1) f112_1 rfl rfl).trans ?_
  refine bI_h fun a2 s1 qs1 => ?_
  have rs1 := RefC.sem qs1 rfl hR
  have ws1 := TwC.sem qs1 rfl hw
  refine (x_if_ne (tg := 11) f112_4 rfl rfl).trans (i_c ?_ ?_)
  · refine (x_lconst f112_7 rfl).trans ?_
    exact x_lreturn f112_10 rfl
  · refine (x_aload f112_11 rfl rfl).trans ?_
    refine (y_get2 (ji := 2) rfl f112_12 rfl rfl).trans ?_
    refine (g_t rfl).trans ?_
    refine (g_t (by rw [show s1 0 2 = 5 from rs1.2.2.1]; decide)).trans ?_
    rw [show s1 0 2 = 5 from rs1.2.2.1]
    refine (x_aload f112_15 rfl rfl).trans ?_
    refine (y_get2 (ji := 9) rfl f112_16 rfl rfl).trans ?_
    refine (g_t rfl).trans ?_
    refine (g_t (by rw [show s1 0 9 = t from ws1.1]; omega)).trans ?_
    rw [show s1 0 9 = t from ws1.1]
    refine (x_iload f112_19 rfl rfl).trans ?_
    refine (x_invokevirtual (G := grd (kd 5 = 0) (bnL (sem 10 0 [aA 5, aA t, aI l1] [] s1) fun a4 s3 => sem 112 23 [aA 0, aI l1, aI l2, aU, aU] [aL a4] s3)) f112_20 rfl rfl).trans ?_
    refine (g_t rfl).trans ?_
    refine bL_h fun a4 s3 qs3 => ?_
    have rs3 := RefC.sem qs3 rfl rs1
    have ws3 := TwC.sem qs3 rfl ws1
    refine (x_aload f112_23 rfl rfl).trans ?_
    refine (y_get2 (ji := 2) rfl f112_24 rfl rfl).trans ?_
    refine (g_t rfl).trans ?_
    refine (g_t (by rw [show s3 0 2 = 5 from rs3.2.2.1]; decide)).trans ?_
    rw [show s3 0 2 = 5 from rs3.2.2.1]
    refine (x_invokevirtual (G := grd (kd 5 = 0) (bnL (sem 5 0 [aA 5] [] s3) fun a6 s5 => sem 112 30 [aA 0, aI l1, aI l2, aU, aU] [aL a6, aL a4] s5)) f112_27 rfl rfl).trans ?_
    refine (g_t rfl).trans ?_
    refine bL_h fun a6 s5 qs5 => ?_
    have rs5 := RefC.sem qs5 rfl rs3
    have ws5 := TwC.sem qs5 rfl ws3
    refine (x_iload f112_30 rfl rfl).trans ?_
    refine (x_invokestatic (G := bnL (sem 149 0 [aL a4, aU, aL a6, aU, aI l2, aU, aU] [] s5) fun a8 s7 => sem 112 34 [aA 0, aI l1, aI l2, aU, aU] [aL a8] s7) f112_31 rfl rfl).trans ?_
    refine bL_h fun a8 s7 qs7 => ?_
    have rs7 := RefC.sem qs7 rfl rs5
    have ws7 := TwC.sem qs7 rfl ws5
    refine (x_lstore (l2 := [aA 0, aI l1, aI l2, aL a8, aU]) f112_34 rfl rfl).trans ?_
    refine (x_iload f112_35 rfl rfl).trans ?_
    refine (x_if_eq (tg := 47) f112_36 rfl rfl).trans (i_c ?_ ?_)
    · refine (x_lload f112_47 rfl rfl).trans ?_
      refine (x_kil (l2 := [aU, aU, aU, aU, aU]) f112_48 rfl).trans ?_
      exact x_lreturn f112_48 rfl
    · refine (x_lload f112_39 rfl rfl).trans ?_
      refine (x_lconst f112_40 rfl).trans ?_
      refine (x_ladd f112_43 rfl).trans ?_
      refine (x_goto (tg := 48) f112_44 rfl rfl).trans ?_
      refine (x_kil (l2 := [aU, aU, aU, aU, aU]) f112_48 rfl).trans ?_
      exact x_lreturn f112_48 rfl
set_option maxRecDepth 10000 in
theorem g113_0 {t : Int} (ht : t = 32 ∨ t = 37) {s : SG} (hR : RefC s) (hw : TwC s t) : sem 113 0 [aA 0] [] s = bnI (sem 12 0 [aA 5, aA t, aU, aU, aU, aU, aU, aU] [] s) fun a2 s1 => some (aI a2, s1) := by
  refine (x_aload f113_0 rfl rfl).trans ?_
  refine (y_get2 (ji := 2) rfl f113_1 rfl rfl).trans ?_
  refine (g_t rfl).trans ?_
  refine (g_t (by rw [show s 0 2 = 5 from hR.2.2.1]; decide)).trans ?_
  rw [show s 0 2 = 5 from hR.2.2.1]
  refine (x_aload f113_4 rfl rfl).trans ?_
  refine (y_get2 (ji := 9) rfl f113_5 rfl rfl).trans ?_
  refine (g_t rfl).trans ?_
  refine (g_t (by rw [show s 0 9 = t from hw.1]; omega)).trans ?_
  rw [show s 0 9 = t from hw.1]
  refine (x_invokevirtual (G := grd (kd 5 = 0) (bnI (sem 12 0 [aA 5, aA t, aU, aU, aU, aU, aU, aU] [] s) fun a2 s1 => sem 113 11 [aA 0] [aI a2] s1)) f113_8 rfl rfl).trans ?_
  refine (g_t rfl).trans ?_
  refine bI_h fun a2 s1 qs1 => ?_
  have rs1 := RefC.sem qs1 rfl hR
  have ws1 := TwC.sem qs1 rfl hw
  exact x_ireturn f113_11 rfl
set_option maxRecDepth 10000 in
theorem g114_0 {t : Int} (ht : t = 32 ∨ t = 37) {s : SG} (hR : RefC s) (hw : TwC s t) (l1 l2 l3 l4 : Int) : sem 114 0 [aA 0, aI l1, aI l2, aI l3, aI l4, aU, aU, aU] [] s = bnI (sem 145 0 [aA 0, aI l2, aI l1] [] s) fun a2 s1 => if a2 = 0 then if l3 < 0 then some (aL ((-2)), s1) else if l1 < l3 then some (aL ((-2)), s1) else bnL (sem 10 0 [aA 5, aA t, aI l1] [] s1) fun a4 s3 => bnL (sem 11 0 [aA 5, aA t, aI l1, aI l2, aI l3] [] s3) fun a6 s5 => bnL (sem 5 0 [aA 5] [] s5) fun a8 s7 => bnL (sem 149 0 [aL (w64 (a4 - a6)), aU, aL a8, aU, aI l4, aU, aU] [] s7) fun a10 s9 => some (aL a10, s9) else some (aL a2, s1) := by
  refine (x_aload f114_0 rfl rfl).trans ?_
  refine (x_iload f114_1 rfl rfl).trans ?_
  refine (x_iload f114_2 rfl rfl).trans ?_
  refine (x_invokevirtual (G := grd (kd 0 = 8) (bnI (sem 145 0 [aA 0, aI l2, aI l1] [] s) fun a2 s1 => sem 114 6 [aA 0, aI l1, aI l2, aI l3, aI l4, aU, aU, aU] [aI a2] s1)) f114_3 rfl rfl).trans ?_
  refine (g_t rfl).trans ?_
  refine bI_h fun a2 s1 qs1 => ?_
  have rs1 := RefC.sem qs1 rfl hR
  have ws1 := TwC.sem qs1 rfl hw
  refine (x_istore (l2 := [aA 0, aI l1, aI l2, aI l3, aI l4, aI a2, aU, aU]) f114_6 rfl rfl).trans ?_
  refine (x_iload f114_8 rfl rfl).trans ?_
  refine (x_if_eq (tg := 17) f114_10 rfl rfl).trans (i_c ?_ ?_)
  · refine (x_iload f114_17 rfl rfl).trans ?_
    refine (x_if_lt (tg := 26) f114_18 rfl rfl).trans (i_c ?_ ?_)
    · refine (x_kil (l2 := [aU, aU, aU, aU, aU, aU, aU, aU]) f114_26 rfl).trans ?_
      refine (x_lconst f114_26 rfl).trans ?_
      exact x_lreturn f114_29 rfl
    · refine (x_iload f114_21 rfl rfl).trans ?_
      refine (x_iload f114_22 rfl rfl).trans ?_
      refine (x_icmp_le (tg := 30) f114_23 rfl rfl).trans (i_c ?_ ?_)
      · refine (x_kil (l2 := [aU, aU, aU, aU, aU, aU, aU, aU]) f114_26 rfl).trans ?_
        refine (x_lconst f114_26 rfl).trans ?_
        exact x_lreturn f114_29 rfl
      · refine (x_aload f114_30 rfl rfl).trans ?_
        refine (y_get2 (ji := 2) rfl f114_31 rfl rfl).trans ?_
        refine (g_t rfl).trans ?_
        refine (g_t (by rw [show s1 0 2 = 5 from rs1.2.2.1]; decide)).trans ?_
        rw [show s1 0 2 = 5 from rs1.2.2.1]
        refine (x_aload f114_34 rfl rfl).trans ?_
        refine (y_get2 (ji := 9) rfl f114_35 rfl rfl).trans ?_
        refine (g_t rfl).trans ?_
        refine (g_t (by rw [show s1 0 9 = t from ws1.1]; omega)).trans ?_
        rw [show s1 0 9 = t from ws1.1]
        refine (x_iload f114_38 rfl rfl).trans ?_
        refine (x_invokevirtual (G := grd (kd 5 = 0) (bnL (sem 10 0 [aA 5, aA t, aI l1] [] s1) fun a4 s3 => sem 114 42 [aA 0, aI l1, aI l2, aI l3, aI l4, aI a2, aU, aU] [aL a4] s3)) f114_39 rfl rfl).trans ?_
        refine (g_t rfl).trans ?_
        refine bL_h fun a4 s3 qs3 => ?_
        have rs3 := RefC.sem qs3 rfl rs1
        have ws3 := TwC.sem qs3 rfl ws1
        refine (x_aload f114_42 rfl rfl).trans ?_
        refine (y_get2 (ji := 2) rfl f114_43 rfl rfl).trans ?_
        refine (g_t rfl).trans ?_
        refine (g_t (by rw [show s3 0 2 = 5 from rs3.2.2.1]; decide)).trans ?_
        rw [show s3 0 2 = 5 from rs3.2.2.1]
        refine (x_aload f114_46 rfl rfl).trans ?_
        refine (y_get2 (ji := 9) rfl f114_47 rfl rfl).trans ?_
        refine (g_t rfl).trans ?_
        refine (g_t (by rw [show s3 0 9 = t from ws3.1]; omega)).trans ?_
        rw [show s3 0 9 = t from ws3.1]
        refine (x_iload f114_50 rfl rfl).trans ?_
        refine (x_iload f114_51 rfl rfl).trans ?_
        refine (x_iload f114_52 rfl rfl).trans ?_
        refine (x_invokevirtual (G := grd (kd 5 = 0) (bnL (sem 11 0 [aA 5, aA t, aI l1, aI l2, aI l3] [] s3) fun a6 s5 => sem 114 56 [aA 0, aI l1, aI l2, aI l3, aI l4, aI a2, aU, aU] [aL a6, aL a4] s5)) f114_53 rfl rfl).trans ?_
        refine (g_t rfl).trans ?_
        refine bL_h fun a6 s5 qs5 => ?_
        have rs5 := RefC.sem qs5 rfl rs3
        have ws5 := TwC.sem qs5 rfl ws3
        refine (x_lsub f114_56 rfl).trans ?_
        refine (x_lstore (l2 := [aA 0, aI l1, aI l2, aI l3, aI l4, aI a2, aL (w64 (a4 - a6)), aU]) f114_57 rfl rfl).trans ?_
        refine (x_lload f114_59 rfl rfl).trans ?_
        refine (x_aload f114_61 rfl rfl).trans ?_
        refine (y_get2 (ji := 2) rfl f114_62 rfl rfl).trans ?_
        refine (g_t rfl).trans ?_
        refine (g_t (by rw [show s5 0 2 = 5 from rs5.2.2.1]; decide)).trans ?_
        rw [show s5 0 2 = 5 from rs5.2.2.1]
        refine (x_invokevirtual (G := grd (kd 5 = 0) (bnL (sem 5 0 [aA 5] [] s5) fun a8 s7 => sem 114 68 [aA 0, aI l1, aI l2, aI l3, aI l4, aI a2, aL (w64 (a4 - a6)), aU] [aL a8, aL (w64 (a4 - a6))] s7)) f114_65 rfl rfl).trans ?_
        refine (g_t rfl).trans ?_
        refine bL_h fun a8 s7 qs7 => ?_
        have rs7 := RefC.sem qs7 rfl rs5
        have ws7 := TwC.sem qs7 rfl ws5
        refine (x_iload f114_68 rfl rfl).trans ?_
        refine (x_invokestatic (G := bnL (sem 149 0 [aL (w64 (a4 - a6)), aU, aL a8, aU, aI l4, aU, aU] [] s7) fun a10 s9 => sem 114 73 [aA 0, aI l1, aI l2, aI l3, aI l4, aI a2, aL (w64 (a4 - a6)), aU] [aL a10] s9) f114_70 rfl rfl).trans ?_
        refine bL_h fun a10 s9 qs9 => ?_
        have rs9 := RefC.sem qs9 rfl rs7
        have ws9 := TwC.sem qs9 rfl ws7
        exact x_lreturn f114_73 rfl
  · refine (x_iload f114_13 rfl rfl).trans ?_
    refine (x_i2l f114_15 rfl).trans ?_
    exact x_lreturn f114_16 rfl
set_option maxRecDepth 10000 in
theorem g115_0 {t : Int} (ht : t = 32 ∨ t = 37) {s : SG} (hR : RefC s) (hw : TwC s t) (l1 l2 : Int) : sem 115 0 [aA 0, aI l1, aI l2] [] s = bnI (sem 82 0 [aA t, aI l1] [] s) fun a2 s1 => if a2 = 0 then some (aI ((-1)), s1) else if l2 < 0 then some (aI ((-2)), s1) else if (9 : Int) < l2 then some (aI ((-2)), s1) else bnI (sem 66 0 [aA 10, aI l1, aI l2] [] s1) fun a4 s3 => if a4 = 0 then some (aI ((-4)), s3) else bnI (sem 65 0 [aA 10] [] s3) fun a6 s5 => some (aI a6, s5) := by
  refine (x_aload f115_0 rfl rfl).trans ?_
  refine (y_get2 (ji := 9) rfl f115_1 rfl rfl).trans ?_
  refine (g_t rfl).trans ?_
  refine (g_t (by rw [show s 0 9 = t from hw.1]; omega)).trans ?_
  rw [show s 0 9 = t from hw.1]
  refine (x_iload f115_4 rfl rfl).trans ?_
  refine (x_invokevirtual (G := grd (kd t = 6) (bnI (sem 82 0 [aA t, aI l1] [] s) fun a2 s1 => sem 115 8 [aA 0, aI l1, aI l2] [aI a2] s1)) f115_5 rfl rfl).trans ?_
  refine (g_t ((kd_t ht).1)).trans ?_
  refine bI_h fun a2 s1 qs1 => ?_
  have rs1 := RefC.sem qs1 rfl hR
  have ws1 := TwC.sem qs1 rfl hw
  refine (x_if_ne (tg := 13) f115_8 rfl rfl).trans (i_c ?_ ?_)
  · refine (x_iconst f115_11 rfl).trans ?_
    exact x_ireturn f115_12 rfl
  · refine (x_iload f115_13 rfl rfl).trans ?_
    refine (x_if_lt (tg := 23) f115_14 rfl rfl).trans (i_c ?_ ?_)
    · refine (x_kil (l2 := [aU, aU, aU]) f115_23 rfl).trans ?_
      refine (x_iconst f115_23 rfl).trans ?_
      exact x_ireturn f115_25 rfl
    · refine (x_iload f115_17 rfl rfl).trans ?_
      refine (x_iconst f115_18 rfl).trans ?_
      refine (x_icmp_le (tg := 26) f115_20 rfl rfl).trans (i_c ?_ ?_)
      · refine (x_kil (l2 := [aU, aU, aU]) f115_23 rfl).trans ?_
        refine (x_iconst f115_23 rfl).trans ?_
        exact x_ireturn f115_25 rfl
      · refine (x_aload f115_26 rfl rfl).trans ?_
        refine (y_get2 (ji := 3) rfl f115_27 rfl rfl).trans ?_
        refine (g_t rfl).trans ?_
        refine (g_t (by rw [show s1 0 3 = 10 from rs1.2.2.2.1]; decide)).trans ?_
        rw [show s1 0 3 = 10 from rs1.2.2.2.1]
        refine (x_iload f115_30 rfl rfl).trans ?_
        refine (x_iload f115_31 rfl rfl).trans ?_
        refine (x_invokevirtual (G := grd (kd 10 = 4) (bnI (sem 66 0 [aA 10, aI l1, aI l2] [] s1) fun a4 s3 => sem 115 35 [aA 0, aI l1, aI l2] [aI a4] s3)) f115_32 rfl rfl).trans ?_
        refine (g_t rfl).trans ?_
        refine bI_h fun a4 s3 qs3 => ?_
        have rs3 := RefC.sem qs3 rfl rs1
        have ws3 := TwC.sem qs3 rfl ws1
        refine (x_if_eq (tg := 48) f115_35 rfl rfl).trans (i_c ?_ ?_)
        · refine (x_iconst f115_48 rfl).trans ?_
          refine (x_kil (l2 := [aU, aU, aU]) f115_50 rfl).trans ?_
          exact x_ireturn f115_50 rfl
        · refine (x_aload f115_38 rfl rfl).trans ?_
          refine (y_get2 (ji := 3) rfl f115_39 rfl rfl).trans ?_
          refine (g_t rfl).trans ?_
          refine (g_t (by rw [show s3 0 3 = 10 from rs3.2.2.2.1]; decide)).trans ?_
          rw [show s3 0 3 = 10 from rs3.2.2.2.1]
          refine (x_invokevirtual (G := grd (kd 10 = 4) (bnI (sem 65 0 [aA 10] [] s3) fun a6 s5 => sem 115 45 [aA 0, aI l1, aI l2] [aI a6] s5)) f115_42 rfl rfl).trans ?_
          refine (g_t rfl).trans ?_
          refine bI_h fun a6 s5 qs5 => ?_
          have rs5 := RefC.sem qs5 rfl rs3
          have ws5 := TwC.sem qs5 rfl ws3
          refine (x_goto (tg := 50) f115_45 rfl rfl).trans ?_
          refine (x_kil (l2 := [aU, aU, aU]) f115_50 rfl).trans ?_
          exact x_ireturn f115_50 rfl
set_option maxRecDepth 10000 in
theorem g116_0 {s : SG} (hR : RefC s) : sem 116 0 [aA 0] [] s = bnI (sem 67 0 [aA 10, aU] [] s) fun a2 s1 => some (aI a2, s1) := by
  refine (x_aload f116_0 rfl rfl).trans ?_
  refine (y_get2 (ji := 3) rfl f116_1 rfl rfl).trans ?_
  refine (g_t rfl).trans ?_
  refine (g_t (by rw [show s 0 3 = 10 from hR.2.2.2.1]; decide)).trans ?_
  rw [show s 0 3 = 10 from hR.2.2.2.1]
  refine (x_invokevirtual (G := grd (kd 10 = 4) (bnI (sem 67 0 [aA 10, aU] [] s) fun a2 s1 => sem 116 7 [aA 0] [aI a2] s1)) f116_4 rfl rfl).trans ?_
  refine (g_t rfl).trans ?_
  refine bI_h fun a2 s1 qs1 => ?_
  have rs1 := RefC.sem qs1 rfl hR
  exact x_ireturn f116_7 rfl
set_option maxRecDepth 10000 in
theorem g117_0 {t : Int} (ht : t = 32 ∨ t = 37) {s : SG} (hR : RefC s) (hw : TwC s t) (l1 l2 : Int) : sem 117 0 [aA 0, aI l1, aI l2, aU, aU] [] s = bnI (sem 140 0 [aI l1] [] s) fun a2 s1 => if a2 = 0 then some (aL ((-1)), s1) else bnL (sem 69 0 [aA 10, aA t, aU, aU, aU] [] s1) fun a4 s3 => if (cmpL a4 0) = 0 then some (aL ((-3)), s3) else bnL (sem 68 0 [aA 10, aA t, aI l1, aU, aU, aU, aU, aU] [] s3) fun a6 s5 => bnL (sem 149 0 [aL a6, aU, aL a4, aU, aI l2, aU, aU] [] s5) fun a8 s7 => some (aL a8, s7) := by
  refine (x_iload f117_0 rfl rfl).trans ?_
  refine (x_invokestatic (G := bnI (sem 140 0 [aI l1] [] s) fun a2 s1 => sem 117 4 [aA 0, aI l1, aI l2, aU, aU] [aI a2] s1) f117_1 rfl rfl).trans ?_
  refine bI_h fun a2 s1 qs1 => ?_
  have rs1 := RefC.sem qs1 rfl hR
  have ws1 := TwC.sem qs1 rfl hw
  refine (x_if_ne (tg := 11) f117_4 rfl rfl).trans (i_c ?_ ?_)
  · refine (x_lconst f117_7 rfl).trans ?_
    exact x_lreturn f117_10 rfl
  · refine (x_aload f117_11 rfl rfl).trans ?_
    refine (y_get2 (ji := 3) rfl f117_12 rfl rfl).trans ?_
    refine (g_t rfl).trans ?_
    refine (g_t (by rw [show s1 0 3 = 10 from rs1.2.2.2.1]; decide)).trans ?_
    rw [show s1 0 3 = 10 from rs1.2.2.2.1]
    refine (x_aload f117_15 rfl rfl).trans ?_
    refine (y_get2 (ji := 9) rfl f117_16 rfl rfl).trans ?_
    refine (g_t rfl).trans ?_
    refine (g_t (by rw [show s1 0 9 = t from ws1.1]; omega)).trans ?_
    rw [show s1 0 9 = t from ws1.1]
    refine (x_invokevirtual (G := grd (kd 10 = 4) (bnL (sem 69 0 [aA 10, aA t, aU, aU, aU] [] s1) fun a4 s3 => sem 117 22 [aA 0, aI l1, aI l2, aU, aU] [aL a4] s3)) f117_19 rfl rfl).trans ?_
    refine (g_t rfl).trans ?_
    refine bL_h fun a4 s3 qs3 => ?_
    have rs3 := RefC.sem qs3 rfl rs1
    have ws3 := TwC.sem qs3 rfl ws1
    refine (x_lstore (l2 := [aA 0, aI l1, aI l2, aL a4, aU]) f117_22 rfl rfl).trans ?_
    refine (x_lload f117_23 rfl rfl).trans ?_
    refine (x_lconst f117_24 rfl).trans ?_
    refine (x_lcmp f117_25 rfl).trans ?_
    refine (x_if_ne (tg := 35) f117_26 rfl rfl).trans (i_c ?_ ?_)
    · refine (x_lconst f117_29 rfl).trans ?_
      refine (x_goto (tg := 52) f117_32 rfl rfl).trans ?_
      refine (x_kil (l2 := [aU, aU, aU, aU, aU]) f117_52 rfl).trans ?_
      exact x_lreturn f117_52 rfl
    · refine (x_aload f117_35 rfl rfl).trans ?_
      refine (y_get2 (ji := 3) rfl f117_36 rfl rfl).trans ?_
      refine (g_t rfl).trans ?_
      refine (g_t (by rw [show s3 0 3 = 10 from rs3.2.2.2.1]; decide)).trans ?_
      rw [show s3 0 3 = 10 from rs3.2.2.2.1]
      refine (x_aload f117_39 rfl rfl).trans ?_
      refine (y_get2 (ji := 9) rfl f117_40 rfl rfl).trans ?_
      refine (g_t rfl).trans ?_
      refine (g_t (by rw [show s3 0 9 = t from ws3.1]; omega)).trans ?_
      rw [show s3 0 9 = t from ws3.1]
      refine (x_iload f117_43 rfl rfl).trans ?_
      refine (x_invokevirtual (G := grd (kd 10 = 4) (bnL (sem 68 0 [aA 10, aA t, aI l1, aU, aU, aU, aU, aU] [] s3) fun a6 s5 => sem 117 47 [aA 0, aI l1, aI l2, aL a4, aU] [aL a6] s5)) f117_44 rfl rfl).trans ?_
      refine (g_t rfl).trans ?_
      refine bL_h fun a6 s5 qs5 => ?_
      have rs5 := RefC.sem qs5 rfl rs3
      have ws5 := TwC.sem qs5 rfl ws3
      refine (x_lload f117_47 rfl rfl).trans ?_
      refine (x_iload f117_48 rfl rfl).trans ?_
      refine (x_invokestatic (G := bnL (sem 149 0 [aL a6, aU, aL a4, aU, aI l2, aU, aU] [] s5) fun a8 s7 => sem 117 52 [aA 0, aI l1, aI l2, aL a4, aU] [aL a8] s7) f117_49 rfl rfl).trans ?_
      refine bL_h fun a8 s7 qs7 => ?_
      have rs7 := RefC.sem qs7 rfl rs5
      have ws7 := TwC.sem qs7 rfl ws5
      refine (x_kil (l2 := [aU, aU, aU, aU, aU]) f117_52 rfl).trans ?_
      exact x_lreturn f117_52 rfl
set_option maxRecDepth 10000 in
theorem g118_0 {t : Int} (ht : t = 32 ∨ t = 37) {s : SG} (hR : RefC s) (hw : TwC s t) : sem 118 0 [aA 0] [] s = bnL (sem 69 0 [aA 10, aA t, aU, aU, aU] [] s) fun a2 s1 => if (cmpL a2 0) = 0 then some (aI ((-3)), s1) else bnI (sem 70 0 [aA 10, aA t, aU, aU] [] s1) fun a4 s3 => some (aI a4, s3) := by
  refine (x_aload f118_0 rfl rfl).trans ?_
  refine (y_get2 (ji := 3) rfl f118_1 rfl rfl).trans ?_
  refine (g_t rfl).trans ?_
  refine (g_t (by rw [show s 0 3 = 10 from hR.2.2.2.1]; decide)).trans ?_
  rw [show s 0 3 = 10 from hR.2.2.2.1]
  refine (x_aload f118_4 rfl rfl).trans ?_
  refine (y_get2 (ji := 9) rfl f118_5 rfl rfl).trans ?_
  refine (g_t rfl).trans ?_
  refine (g_t (by rw [show s 0 9 = t from hw.1]; omega)).trans ?_
  rw [show s 0 9 = t from hw.1]
  refine (x_invokevirtual (G := grd (kd 10 = 4) (bnL (sem 69 0 [aA 10, aA t, aU, aU, aU] [] s) fun a2 s1 => sem 118 11 [aA 0] [aL a2] s1)) f118_8 rfl rfl).trans ?_
  refine (g_t rfl).trans ?_
  refine bL_h fun a2 s1 qs1 => ?_
  have rs1 := RefC.sem qs1 rfl hR
  have ws1 := TwC.sem qs1 rfl hw
  refine (x_lconst f118_11 rfl).trans ?_
  refine (x_lcmp f118_12 rfl).trans ?_
  refine (x_if_ne (tg := 21) f118_13 rfl rfl).trans (i_c ?_ ?_)
  · refine (x_iconst f118_16 rfl).trans ?_
    refine (x_goto (tg := 32) f118_18 rfl rfl).trans ?_
    refine (x_kil (l2 := [aU]) f118_32 rfl).trans ?_
    exact x_ireturn f118_32 rfl
  · refine (x_aload f118_21 rfl rfl).trans ?_
    refine (y_get2 (ji := 3) rfl f118_22 rfl rfl).trans ?_
    refine (g_t rfl).trans ?_
    refine (g_t (by rw [show s1 0 3 = 10 from rs1.2.2.2.1]; decide)).trans ?_
    rw [show s1 0 3 = 10 from rs1.2.2.2.1]
    refine (x_aload f118_25 rfl rfl).trans ?_
    refine (y_get2 (ji := 9) rfl f118_26 rfl rfl).trans ?_
    refine (g_t rfl).trans ?_
    refine (g_t (by rw [show s1 0 9 = t from ws1.1]; omega)).trans ?_
    rw [show s1 0 9 = t from ws1.1]
    refine (x_invokevirtual (G := grd (kd 10 = 4) (bnI (sem 70 0 [aA 10, aA t, aU, aU] [] s1) fun a4 s3 => sem 118 32 [aA 0] [aI a4] s3)) f118_29 rfl rfl).trans ?_
    refine (g_t rfl).trans ?_
    refine bI_h fun a4 s3 qs3 => ?_
    have rs3 := RefC.sem qs3 rfl rs1
    have ws3 := TwC.sem qs3 rfl ws1
    refine (x_kil (l2 := [aU]) f118_32 rfl).trans ?_
    exact x_ireturn f118_32 rfl
set_option maxRecDepth 10000 in
theorem g119_0 {t : Int} (ht : t = 32 ∨ t = 37) {s : SG} (hR : RefC s) (hw : TwC s t) : sem 119 0 [aA 0] [] s = bnL (sem 69 0 [aA 10, aA t, aU, aU, aU] [] s) fun a2 s1 => if (cmpL a2 0) = 0 then some (aI ((-3)), s1) else bnI (sem 71 0 [aA 10, aA t, aU, aU] [] s1) fun a4 s3 => some (aI a4, s3) := by
  refine (x_aload f119_0 rfl rfl).trans ?_
  refine (y_get2 (ji := 3) rfl f119_1 rfl rfl).trans ?_
  refine (g_t rfl).trans ?_
  refine (g_t (by rw [show s 0 3 = 10 from hR.2.2.2.1]; decide)).trans ?_
  rw [show s 0 3 = 10 from hR.2.2.2.1]
  refine (x_aload f119_4 rfl rfl).trans ?_
  refine (y_get2 (ji := 9) rfl f119_5 rfl rfl).trans ?_
  refine (g_t rfl).trans ?_
  refine (g_t (by rw [show s 0 9 = t from hw.1]; omega)).trans ?_
  rw [show s 0 9 = t from hw.1]
  refine (x_invokevirtual (G := grd (kd 10 = 4) (bnL (sem 69 0 [aA 10, aA t, aU, aU, aU] [] s) fun a2 s1 => sem 119 11 [aA 0] [aL a2] s1)) f119_8 rfl rfl).trans ?_
  refine (g_t rfl).trans ?_
  refine bL_h fun a2 s1 qs1 => ?_
  have rs1 := RefC.sem qs1 rfl hR
  have ws1 := TwC.sem qs1 rfl hw
  refine (x_lconst f119_11 rfl).trans ?_
  refine (x_lcmp f119_12 rfl).trans ?_
  refine (x_if_ne (tg := 21) f119_13 rfl rfl).trans (i_c ?_ ?_)
  · refine (x_iconst f119_16 rfl).trans ?_
    refine (x_goto (tg := 32) f119_18 rfl rfl).trans ?_
    refine (x_kil (l2 := [aU]) f119_32 rfl).trans ?_
    exact x_ireturn f119_32 rfl
  · refine (x_aload f119_21 rfl rfl).trans ?_
    refine (y_get2 (ji := 3) rfl f119_22 rfl rfl).trans ?_
    refine (g_t rfl).trans ?_
    refine (g_t (by rw [show s1 0 3 = 10 from rs1.2.2.2.1]; decide)).trans ?_
    rw [show s1 0 3 = 10 from rs1.2.2.2.1]
    refine (x_aload f119_25 rfl rfl).trans ?_
    refine (y_get2 (ji := 9) rfl f119_26 rfl rfl).trans ?_
    refine (g_t rfl).trans ?_
    refine (g_t (by rw [show s1 0 9 = t from ws1.1]; omega)).trans ?_
    rw [show s1 0 9 = t from ws1.1]
    refine (x_invokevirtual (G := grd (kd 10 = 4) (bnI (sem 71 0 [aA 10, aA t, aU, aU] [] s1) fun a4 s3 => sem 119 32 [aA 0] [aI a4] s3)) f119_29 rfl rfl).trans ?_
    refine (g_t rfl).trans ?_
    refine bI_h fun a4 s3 qs3 => ?_
    have rs3 := RefC.sem qs3 rfl rs1
    have ws3 := TwC.sem qs3 rfl ws1
    refine (x_kil (l2 := [aU]) f119_32 rfl).trans ?_
    exact x_ireturn f119_32 rfl
set_option maxRecDepth 10000 in
theorem g120_0 {t : Int} (ht : t = 32 ∨ t = 37) {s : SG} (hR : RefC s) (hw : TwC s t) (l1 l2 l3 l4 l5 l6 : Int) : sem 120 0 [aA 0, aI l1, aI l2, aI l3, aI l4, aI l5, aI l6, aU] [] s = bnI (sem 146 0 [aA 0, aI l1, aI l2, aI l3, aI l4, aI l5, aI 0] [] s) fun a2 s1 => if a2 = 0 then bnV (sem 94 0 [aA 13, aA t, aI (w32 (Int.tdiv l1 10)), aI (remA l1 10), aI l2] [] s1) fun s3 => bnV (sem 96 0 [aA 13, aI (w32 ((w32 (Int.tdiv l3 100)) + (remA l3 100))), aI l4, aI l5, aU] [] s3) fun s4 => bnL (sem 100 0 [aA 13, aI (w32 (Int.tdiv l3 100)), aI (remA l3 100), aI l4, aU, aU, aU] [] s4) fun a6 s5 => bnL (sem 95 0 [aA 13] [] s5) fun a8 s7 => bnL (sem 149 0 [aL a6, aU, aL a8, aU, aI l6, aU, aU] [] s7) fun a10 s9 => some (aL a10, s9) else some (aL a2, s1) := by
  refine (x_aload f120_0 rfl rfl).trans ?_
  refine (x_iload f120_1 rfl rfl).trans ?_
  refine (x_iload f120_2 rfl rfl).trans ?_
  refine (x_iload f120_3 rfl rfl).trans ?_
  refine (x_iload f120_4 rfl rfl).trans ?_
  refine (x_iload f120_6 rfl rfl).trans ?_
  refine (x_iconst f120_8 rfl).trans ?_
  refine (x_invokevirtual (G := grd (kd 0 = 8) (bnI (sem 146 0 [aA 0, aI l1, aI l2, aI l3, aI l4, aI l5, aI 0] [] s) fun a2 s1 => sem 120 12 [aA 0, aI l1, aI l2, aI l3, aI l4, aI l5, aI l6, aU] [aI a2] s1)) f120_9 rfl rfl).trans ?_
  refine (g_t rfl).trans ?_
  refine bI_h fun a2 s1 qs1 => ?_
  have rs1 := RefC.sem qs1 rfl hR
  have ws1 := TwC.sem qs1 rfl hw
  refine (x_istore (l2 := [aA 0, aI l1, aI l2, aI l3, aI l4, aI l5, aI l6, aI a2]) f120_12 rfl rfl).trans ?_
  refine (x_iload f120_14 rfl rfl).trans ?_
  refine (x_if_eq (tg := 23) f120_16 rfl rfl).trans (i_c ?_ ?_)
  · refine (x_aload f120_23 rfl rfl).trans ?_
    refine (y_get2 (ji := 4) rfl f120_24 rfl rfl).trans ?_
    refine (g_t rfl).trans ?_
    refine (g_t (by rw [show s1 0 4 = 13 from rs1.2.2.2.2.1]; decide)).trans ?_
    rw [show s1 0 4 = 13 from rs1.2.2.2.2.1]
    refine (x_aload f120_27 rfl rfl).trans ?_
    refine (y_get2 (ji := 9) rfl f120_28 rfl rfl).trans ?_
    refine (g_t rfl).trans ?_
    refine (g_t (by rw [show s1 0 9 = t from ws1.1]; omega)).trans ?_
    rw [show s1 0 9 = t from ws1.1]
    refine (x_iload f120_31 rfl rfl).trans ?_
    refine (x_iconst f120_32 rfl).trans ?_
    refine (x_idiv f120_34 rfl).trans ?_
    refine (g_t (by decide)).trans ?_
    refine (x_iload f120_35 rfl rfl).trans ?_
    refine (x_iconst f120_36 rfl).trans ?_
    refine (x_irem f120_38 rfl).trans ?_
    refine (g_t (by decide)).trans ?_
    refine (x_iload f120_39 rfl rfl).trans ?_
    refine (x_invokevirtual (G := grd (kd 13 = 7) (bnV (sem 94 0 [aA 13, aA t, aI (w32 (Int.tdiv l1 10)), aI (remA l1 10), aI l2] [] s1) fun s3 => sem 120 43 [aA 0, aI l1, aI l2, aI l3, aI l4, aI l5, aI l6, aI a2] [] s3)) f120_40 rfl rfl).trans ?_
    refine (g_t rfl).trans ?_
    refine bV_h fun s3 qs3 => ?_
    have rs3 := RefC.sem qs3 rfl rs1
    have ws3 := TwC.sem qs3 rfl ws1
    refine (x_aload f120_43 rfl rfl).trans ?_
    refine (y_get2 (ji := 4) rfl f120_44 rfl rfl).trans ?_
    refine (g_t rfl).trans ?_
    refine (g_t (by rw [show s3 0 4 = 13 from rs3.2.2.2.2.1]; decide)).trans ?_
    rw [show s3 0 4 = 13 from rs3.2.2.2.2.1]
    refine (x_iload f120_47 rfl rfl).trans ?_
    refine (x_iconst f120_48 rfl).trans ?_
    refine (x_idiv f120_50 rfl).trans ?_
    refine (g_t (by decide)).trans ?_
    refine (x_iload f120_51 rfl rfl).trans ?_
    refine (x_iconst f120_52 rfl).trans ?_
    refine (x_irem f120_54 rfl).trans ?_
    refine (g_t (by decide)).trans ?_
    refine (x_iadd f120_55 rfl).trans ?_
    refine (x_iload f120_56 rfl rfl).trans ?_
    refine (x_iload f120_58 rfl rfl).trans ?_
    refine (x_invokevirtual (G := grd (kd 13 = 7) (bnV (sem 96 0 [aA 13, aI (w32 ((w32 (Int.tdiv l3 100)) + (remA l3 100))), aI l4, aI l5, aU] [] s3) fun s4 => sem 120 63 [aA 0, aI l1, aI l2, aI l3, aI l4, aI l5, aI l6, aI a2] [] s4)) f120_60 rfl rfl).trans ?_
    refine (g_t rfl).trans ?_
    refine bV_h fun s4 qs4 => ?_
    have rs4 := RefC.sem qs4 rfl rs3
    have ws4 := TwC.sem qs4 rfl ws3
    refine (x_aload f120_63 rfl rfl).trans ?_
    refine (y_get2 (ji := 4) rfl f120_64 rfl rfl).trans ?_
    refine (g_t rfl).trans ?_
    refine (g_t (by rw [show s4 0 4 = 13 from rs4.2.2.2.2.1]; decide)).trans ?_
    rw [show s4 0 4 = 13 from rs4.2.2.2.2.1]
    refine (x_iload f120_67 rfl rfl).trans ?_
    refine (x_iconst f120_68 rfl).trans ?_
    refine (x_idiv f120_70 rfl).trans ?_
    refine (g_t (by decide)).trans ?_
    refine (x_iload f120_71 rfl rfl).trans ?_
    refine (x_iconst f120_72 rfl).trans ?_
    refine (x_irem f120_74 rfl).trans ?_
    refine (g_t (by decide)).trans ?_
    refine (x_iload f120_75 rfl rfl).trans ?_
    refine (x_invokevirtual (G := grd (kd 13 = 7) (bnL (sem 100 0 [aA 13, aI (w32 (Int.tdiv l3 100)), aI (remA l3 100), aI l4, aU, aU, aU] [] s4) fun a6 s5 => sem 120 80 [aA 0, aI l1, aI l2, aI l3, aI l4, aI l5, aI l6, aI a2] [aL a6] s5)) f120_77 rfl rfl).trans ?_
    refine (g_t rfl).trans ?_
    refine bL_h fun a6 s5 qs5 => ?_
    have rs5 := RefC.sem qs5 rfl rs4
    have ws5 := TwC.sem qs5 rfl ws4
    refine (x_aload f120_80 rfl rfl).trans ?_
    refine (y_get2 (ji := 4) rfl f120_81 rfl rfl).trans ?_
    refine (g_t rfl).trans ?_
    refine (g_t (by rw [show s5 0 4 = 13 from rs5.2.2.2.2.1]; decide)).trans ?_
    rw [show s5 0 4 = 13 from rs5.2.2.2.2.1]
    refine (x_invokevirtual (G := grd (kd 13 = 7) (bnL (sem 95 0 [aA 13] [] s5) fun a8 s7 => sem 120 87 [aA 0, aI l1, aI l2, aI l3, aI l4, aI l5, aI l6, aI a2] [aL a8, aL a6] s7)) f120_84 rfl rfl).trans ?_
    refine (g_t rfl).trans ?_
    refine bL_h fun a8 s7 qs7 => ?_
    have rs7 := RefC.sem qs7 rfl rs5
    have ws7 := TwC.sem qs7 rfl ws5
    refine (x_iload f120_87 rfl rfl).trans ?_
    refine (x_invokestatic (G := bnL (sem 149 0 [aL a6, aU, aL a8, aU, aI l6, aU, aU] [] s7) fun a10 s9 => sem 120 92 [aA 0, aI l1, aI l2, aI l3, aI l4, aI l5, aI l6, aI a2] [aL a10] s9) f120_89 rfl rfl).trans ?_
    refine bL_h fun a10 s9 qs9 => ?_
    have rs9 := RefC.sem qs9 rfl rs7
    have ws9 := TwC.sem qs9 rfl ws7
    exact x_lreturn f120_92 rfl
  · refine (x_iload f120_19 rfl rfl).trans ?_
    refine (x_i2l f120_21 rfl).trans ?_
    exact x_lreturn f120_22 rfl
set_option maxRecDepth 10000 in
theorem g121_0 {t : Int} (ht : t = 32 ∨ t = 37) {s : SG} (hR : RefC s) (hw : TwC s t) (l1 l2 l3 l4 l5 : Int) : sem 121 0 [aA 0, aI l1, aI l2, aI l3, aI l4, aI l5, aU] [] s = bnI (sem 146 0 [aA 0, aI l1, aI l2, aI l3, aI l4, aI l5, aI 1] [] s) fun a2 s1 => if a2 = 0 then bnV (sem 94 0 [aA 13, aA t, aI (w32 (Int.tdiv l1 10)), aI (remA l1 10), aI l2] [] s1) fun s3 => bnV (sem 96 0 [aA 13, aI (w32 ((w32 (Int.tdiv l3 100)) + (remA l3 100))), aI l4, aI l5, aU] [] s3) fun s4 => bnI (sem 101 0 [aA 13, aI (w32 (Int.tdiv l3 100)), aI (remA l3 100), aI l4, aU, aU, aU] [] s4) fun a6 s5 => some (aI a6, s5) else some (aI a2, s1) := by
  refine (x_aload f121_0 rfl rfl).trans ?_
  refine (x_iload f121_1 rfl rfl).trans ?_
  refine (x_iload f121_2 rfl rfl).trans ?_
  refine (x_iload f121_3 rfl rfl).trans ?_
  refine (x_iload f121_4 rfl rfl).trans ?_
  refine (x_iload f121_6 rfl rfl).trans ?_
  refine (x_iconst f121_8 rfl).trans ?_
  refine (x_invokevirtual (G := grd (kd 0 = 8) (bnI (sem 146 0 [aA 0, aI l1, aI l2, aI l3, aI l4, aI l5, aI 1] [] s) fun a2 s1 => sem 121 12 [aA 0, aI l1, aI l2, aI l3, aI l4, aI l5, aU] [aI a2] s1)) f121_9 rfl rfl).trans ?_
  refine (g_t rfl).trans ?_
  refine bI_h fun a2 s1 qs1 => ?_
  have rs1 := RefC.sem qs1 rfl hR
  have ws1 := TwC.sem qs1 rfl hw
  refine (x_istore (l2 := [aA 0, aI l1, aI l2, aI l3, aI l4, aI l5, aI a2]) f121_12 rfl rfl).trans ?_
  refine (x_iload f121_14 rfl rfl).trans ?_
  refine (x_if_eq (tg := 22) f121_16 rfl rfl).trans (i_c ?_ ?_)
  · refine (x_aload f121_22 rfl rfl).trans ?_
    refine (y_get2 (ji := 4) rfl f121_23 rfl rfl).trans ?_
    refine (g_t rfl).trans ?_
    refine (g_t (by rw [show s1 0 4 = 13 from rs1.2.2.2.2.1]; decide)).trans ?_
    rw [show s1 0 4 = 13 from rs1.2.2.2.2.1]
    refine (x_aload f121_26 rfl rfl).trans ?_
    refine (y_get2 (ji := 9) rfl f121_27 rfl rfl).trans ?_
    refine (g_t rfl).trans ?_
    refine (g_t (by rw [show s1 0 9 = t from ws1.1]; omega)).trans ?_
    rw [show s1 0 9 = t from ws1.1]
    refine (x_iload f121_30 rfl rfl).trans ?_
    refine (x_iconst f121_31 rfl).trans ?_
    refine (x_idiv f121_33 rfl).trans ?_
    refine (g_t (by decide)).trans ?_
    refine (x_iload f121_34 rfl rfl).trans ?_
    refine (x_iconst f121_35 rfl).trans ?_
    refine (x_irem f121_37 rfl).trans ?_
    refine (g_t (by decide)).trans ?_
    refine (x_iload f121_38 rfl rfl).trans ?_
    refine (x_invokevirtual (G := grd (kd 13 = 7) (bnV (sem 94 0 [aA 13, aA t, aI (w32 (Int.tdiv l1 10)), aI (remA l1 10), aI l2] [] s1) fun s3 => sem 121 42 [aA 0, aI l1, aI l2, aI l3, aI l4, aI l5, aI a2] [] s3)) f121_39 rfl rfl).trans ?_
    refine (g_t rfl).trans ?_
    refine bV_h fun s3 qs3 => ?_
    have rs3 := RefC.sem qs3 rfl rs1
    have ws3 := TwC.sem qs3 rfl ws1
    refine (x_aload f121_42 rfl rfl).trans ?_
    refine (y_get2 (ji := 4) rfl f121_43 rfl rfl).trans ?_
    refine (g_t rfl).trans ?_
    refine (g_t (by rw [show s3 0 4 = 13 from rs3.2.2.2.2.1]; decide)).trans ?_
    rw [show s3 0 4 = 13 from rs3.2.2.2.2.1]
    refine (x_iload f121_46 rfl rfl).trans ?_
    refine (x_iconst f121_47 rfl).trans ?_
    refine (x_idiv f121_49 rfl).trans ?_
    refine (g_t (by decide)).trans ?_
    refine (x_iload f121_50 rfl rfl).trans ?_
    refine (x_iconst f121_51 rfl).trans ?_
    refine (x_irem f121_53 rfl).trans ?_
    refine (g_t (by decide)).trans ?_
    refine (x_iadd f121_54 rfl).trans ?_
    refine (x_iload f121_55 rfl rfl).trans ?_
    refine (x_iload f121_57 rfl rfl).trans ?_
    refine (x_invokevirtual (G := grd (kd 13 = 7) (bnV (sem 96 0 [aA 13, aI (w32 ((w32 (Int.tdiv l3 100)) + (remA l3 100))), aI l4, aI l5, aU] [] s3) fun s4 => sem 121 62 [aA 0, aI l1, aI l2, aI l3, aI l4, aI l5, aI a2] [] s4)) f121_59 rfl rfl).trans ?_
    refine (g_t rfl).trans ?_
    refine bV_h fun s4 qs4 => ?_
    have rs4 := RefC.sem qs4 rfl rs3
    have ws4 := TwC.sem qs4 rfl ws3
    refine (x_aload f121_62 rfl rfl).trans ?_
    refine (y_get2 (ji := 4) rfl f121_63 rfl rfl).trans ?_
    refine (g_t rfl).trans ?_
    refine (g_t (by rw [show s4 0 4 = 13 from rs4.2.2.2.2.1]; decide)).trans ?_
    rw [show s4 0 4 = 13 from rs4.2.2.2.2.1]
    refine (x_iload f121_66 rfl rfl).trans ?_
    refine (x_iconst f121_67 rfl).trans ?_
    refine (x_idiv f121_69 rfl).trans ?_
    refine (g_t (by decide)).trans ?_
    refine (x_iload f121_70 rfl rfl).trans ?_
    refine (x_iconst f121_71 rfl).trans ?_
    refine (x_irem f121_73 rfl).trans ?_
    refine (g_t (by decide)).trans ?_
    refine (x_iload f121_74 rfl rfl).trans ?_
    refine (x_invokevirtual (G := grd (kd 13 = 7) (bnI (sem 101 0 [aA 13, aI (w32 (Int.tdiv l3 100)), aI (remA l3 100), aI l4, aU, aU, aU] [] s4) fun a6 s5 => sem 121 79 [aA 0, aI l1, aI l2, aI l3, aI l4, aI l5, aI a2] [aI a6] s5)) f121_76 rfl rfl).trans ?_
    refine (g_t rfl).trans ?_
    refine bI_h fun a6 s5 qs5 => ?_
    have rs5 := RefC.sem qs5 rfl rs4
    have ws5 := TwC.sem qs5 rfl ws4
    exact x_ireturn f121_79 rfl
  · refine (x_iload f121_19 rfl rfl).trans ?_
    exact x_ireturn f121_21 rfl
set_option maxRecDepth 10000 in
theorem g122_0 {s : SG} (hR : RefC s) (l1 : Int) : sem 122 0 [aA 0, aI l1, aU] [] s = bnI (sem 140 0 [aI l1] [] s) fun a2 s1 => if a2 = 0 then some (aI ((-1)), s1) else some (aI (s1 16 6), up s1 16 6 l1) := by
  refine (x_iload f122_0 rfl rfl).trans ?_
  refine (x_invokestatic (G := bnI (sem 140 0 [aI l1] [] s) fun a2 s1 => sem 122 4 [aA 0, aI l1, aU] [aI a2] s1) f122_1 rfl rfl).trans ?_
  refine bI_h fun a2 s1 qs1 => ?_
  have rs1 := RefC.sem qs1 rfl hR
  refine (x_if_ne (tg := 9) f122_4 rfl rfl).trans (i_c ?_ ?_)
  · refine (x_iconst f122_7 rfl).trans ?_
    exact x_ireturn f122_8 rfl
  · refine (x_aload f122_9 rfl rfl).trans ?_
    refine (y_get2 (ji := 5) rfl f122_10 rfl rfl).trans ?_
    refine (g_t rfl).trans ?_
    refine (g_t (by rw [show s1 0 5 = 16 from rs1.2.2.2.2.2.1]; decide)).trans ?_
    rw [show s1 0 5 = 16 from rs1.2.2.2.2.2.1]
    refine (y_get0 (ji := 6) rfl f122_13 rfl rfl).trans ?_
    refine (g_t rfl).trans ?_
    refine (x_istore (l2 := [aA 0, aI l1, aI (s1 16 6)]) f122_16 rfl rfl).trans ?_
    refine (x_aload f122_17 rfl rfl).trans ?_
    refine (y_get2 (ji := 5) rfl f122_18 rfl rfl).trans ?_
    refine (g_t rfl).trans ?_
    refine (g_t (by rw [show s1 0 5 = 16 from rs1.2.2.2.2.2.1]; decide)).trans ?_
    rw [show s1 0 5 = 16 from rs1.2.2.2.2.2.1]
    refine (x_iload f122_21 rfl rfl).trans ?_
    refine (y_put0 (ji := 6) rfl f122_22 rfl rfl).trans ?_
    refine (g_t rfl).trans ?_
    refine (x_iload f122_25 rfl rfl).trans ?_
    exact x_ireturn f122_26 rfl
set_option maxRecDepth 10000 in
theorem g123_0 {s : SG} (hR : RefC s) (l1 l2 : Int) : sem 123 0 [aA 0, aI l1, aI l2, aU] [] s = bnI (sem 145 0 [aA 0, aI l1, aI l2] [] s) fun a2 s1 => if a2 = 0 then bnI (sem 24 0 [aA 16, aI l1, aI l2, aU] [] s1) fun a4 s3 => some (aI a4, s3) else some (aI a2, s1) := by
  refine (x_aload f123_0 rfl rfl).trans ?_
  refine (x_iload f123_1 rfl rfl).trans ?_
  refine (x_iload f123_2 rfl rfl).trans ?_
  refine (x_invokevirtual (G := grd (kd 0 = 8) (bnI (sem 145 0 [aA 0, aI l1, aI l2] [] s) fun a2 s1 => sem 123 6 [aA 0, aI l1, aI l2, aU] [aI a2] s1)) f123_3 rfl rfl).trans ?_
  refine (g_t rfl).trans ?_
  refine bI_h fun a2 s1 qs1 => ?_
  have rs1 := RefC.sem qs1 rfl hR
  refine (x_istore (l2 := [aA 0, aI l1, aI l2, aI a2]) f123_6 rfl rfl).trans ?_
  refine (x_iload f123_7 rfl rfl).trans ?_
  refine (x_if_eq (tg := 15) f123_8 rfl rfl).trans (i_c ?_ ?_)
  · refine (x_aload f123_15 rfl rfl).trans ?_
    refine (y_get2 (ji := 5) rfl f123_16 rfl rfl).trans ?_
    refine (g_t rfl).trans ?_
    refine (g_t (by rw [show s1 0 5 = 16 from rs1.2.2.2.2.2.1]; decide)).trans ?_
    rw [show s1 0 5 = 16 from rs1.2.2.2.2.2.1]
    refine (x_iload f123_19 rfl rfl).trans ?_
    refine (x_iload f123_20 rfl rfl).trans ?_
    refine (x_invokevirtual (G := grd (kd 16 = 1) (bnI (sem 24 0 [aA 16, aI l1, aI l2, aU] [] s1) fun a4 s3 => sem 123 24 [aA 0, aI l1, aI l2, aI a2] [aI a4] s3)) f123_21 rfl rfl).trans ?_
    refine (g_t rfl).trans ?_
    refine bI_h fun a4 s3 qs3 => ?_
    have rs3 := RefC.sem qs3 rfl rs1
    refine (x_kil (l2 := [aU, aU, aU, aU]) f123_24 rfl).trans ?_
    exact x_ireturn f123_24 rfl
  · refine (x_iload f123_11 rfl rfl).trans ?_
    refine (x_goto (tg := 24) f123_12 rfl rfl).trans ?_
    refine (x_kil (l2 := [aU, aU, aU, aU]) f123_24 rfl).trans ?_
    exact x_ireturn f123_24 rfl
set_option maxRecDepth 10000 in
theorem g124_0 {t : Int} (ht : t = 32 ∨ t = 37) {s : SG} (hR : RefC s) (hw : TwC s t) (l1 l2 : Int) : sem 124 0 [aA 0, aI l1, aI l2] [] s = bnI (sem 82 0 [aA t, aI l1] [] s) fun a2 s1 => if a2 = 0 then some (aI ((-1)), s1) else if l2 < 0 then some (aI ((-2)), s1) else if (63 : Int) < l2 then some (aI ((-2)), s1) else bnI (sem 25 0 [aA 16, aI l1, aI l2, aU] [] s1) fun a4 s3 => some (aI a4, s3) := by
  refine (x_aload f124_0 rfl rfl).trans ?_
  refine (y_get2 (ji := 9) rfl f124_1 rfl rfl).trans ?_
  refine (g_t rfl).trans ?_
  refine (g_t (by rw [show s 0 9 = t from hw.1]; omega)).trans ?_
  rw [show s 0 9 = t from hw.1]
  refine (x_iload f124_4 rfl rfl).trans ?_
  refine (x_invokevirtual (G := grd (kd t = 6) (bnI (sem 82 0 [aA t, aI l1] [] s) fun a2 s1 => sem 124 8 [aA 0, aI l1, aI l2] [aI a2] s1)) f124_5 rfl rfl).trans ?_
  refine (g_t ((kd_t ht).1)).trans ?_
  refine bI_h fun a2 s1 qs1 => ?_
  have rs1 := RefC.sem qs1 rfl hR
  have ws1 := TwC.sem qs1 rfl hw
  refine (x_if_ne (tg := 13) f124_8 rfl rfl).trans (i_c ?_ ?_)
  · refine (x_iconst f124_11 rfl).trans ?_
    exact x_ireturn f124_12 rfl
  · refine (x_iload f124_13 rfl rfl).trans ?_
    refine (x_if_lt (tg := 23) f124_14 rfl rfl).trans (i_c ?_ ?_)
    · refine (x_kil (l2 := [aU, aU, aU]) f124_23 rfl).trans ?_
      refine (x_iconst f124_23 rfl).trans ?_
      refine (x_goto (tg := 37) f124_25 rfl rfl).trans ?_
      exact x_ireturn f124_37 rfl
    · refine (x_iload f124_17 rfl rfl).trans ?_
      refine (x_iconst f124_18 rfl).trans ?_
      refine (x_icmp_le (tg := 28) f124_20 rfl rfl).trans (i_c ?_ ?_)
      · refine (x_kil (l2 := [aU, aU, aU]) f124_23 rfl).trans ?_
        refine (x_iconst f124_23 rfl).trans ?_
        refine (x_goto (tg := 37) f124_25 rfl rfl).trans ?_
        exact x_ireturn f124_37 rfl
      · refine (x_aload f124_28 rfl rfl).trans ?_
        refine (y_get2 (ji := 5) rfl f124_29 rfl rfl).trans ?_
        refine (g_t rfl).trans ?_
        refine (g_t (by rw [show s1 0 5 = 16 from rs1.2.2.2.2.2.1]; decide)).trans ?_
        rw [show s1 0 5 = 16 from rs1.2.2.2.2.2.1]
        refine (x_iload f124_32 rfl rfl).trans ?_
        refine (x_iload f124_33 rfl rfl).trans ?_
        refine (x_invokevirtual (G := grd (kd 16 = 1) (bnI (sem 25 0 [aA 16, aI l1, aI l2, aU] [] s1) fun a4 s3 => sem 124 37 [aA 0, aI l1, aI l2] [aI a4] s3)) f124_34 rfl rfl).trans ?_
        refine (g_t rfl).trans ?_
        refine bI_h fun a4 s3 qs3 => ?_
        have rs3 := RefC.sem qs3 rfl rs1
        have ws3 := TwC.sem qs3 rfl ws1
        refine (x_kil (l2 := [aU, aU, aU]) f124_37 rfl).trans ?_
        exact x_ireturn f124_37 rfl
set_option maxRecDepth 10000 in
theorem g125_0 {s : SG} (hR : RefC s) (l1 l2 l3 : Int) : sem 125 0 [aA 0, aI l1, aI l2, aI l3, aU] [] s = bnI (sem 143 0 [aI l1] [] s) fun a2 s1 => if a2 = 0 then some (aI ((-2)), s1) else bnI (sem 20 0 [aI l2, aI l3] [] s1) fun a4 s3 => if a4 = 0 then some (aI ((-2)), s3) else some (aI (s3 16 7), up (up (up s3 16 7 l1) 16 8 l2) 16 9 l3) := by
  refine (x_iload f125_0 rfl rfl).trans ?_
  refine (x_invokestatic (G := bnI (sem 143 0 [aI l1] [] s) fun a2 s1 => sem 125 4 [aA 0, aI l1, aI l2, aI l3, aU] [aI a2] s1) f125_1 rfl rfl).trans ?_
  refine bI_h fun a2 s1 qs1 => ?_
  have rs1 := RefC.sem qs1 rfl hR
  refine (x_if_eq (tg := 15) f125_4 rfl rfl).trans (i_c ?_ ?_)
  · refine (x_kil (l2 := [aU, aU, aU, aU, aU]) f125_15 rfl).trans ?_
    refine (x_iconst f125_15 rfl).trans ?_
    exact x_ireturn f125_17 rfl
  · refine (x_iload f125_7 rfl rfl).trans ?_
    refine (x_iload f125_8 rfl rfl).trans ?_
    refine (x_invokestatic (G := bnI (sem 20 0 [aI l2, aI l3] [] s1) fun a4 s3 => sem 125 12 [aA 0, aI l1, aI l2, aI l3, aU] [aI a4] s3) f125_9 rfl rfl).trans ?_
    refine bI_h fun a4 s3 qs3 => ?_
    have rs3 := RefC.sem qs3 rfl rs1
    refine (x_if_ne (tg := 18) f125_12 rfl rfl).trans (i_c ?_ ?_)
    · refine (x_kil (l2 := [aU, aU, aU, aU, aU]) f125_15 rfl).trans ?_
      refine (x_iconst f125_15 rfl).trans ?_
      exact x_ireturn f125_17 rfl
    · refine (x_aload f125_18 rfl rfl).trans ?_
      refine (y_get2 (ji := 5) rfl f125_19 rfl rfl).trans ?_
      refine (g_t rfl).trans ?_
      refine (g_t (by rw [show s3 0 5 = 16 from rs3.2.2.2.2.2.1]; decide)).trans ?_
      rw [show s3 0 5 = 16 from rs3.2.2.2.2.2.1]
      refine (y_get0 (ji := 7) rfl f125_22 rfl rfl).trans ?_
      refine (g_t rfl).trans ?_
      refine (x_istore (l2 := [aA 0, aI l1, aI l2, aI l3, aI (s3 16 7)]) f125_25 rfl rfl).trans ?_
      refine (x_aload f125_27 rfl rfl).trans ?_
      refine (y_get2 (ji := 5) rfl f125_28 rfl rfl).trans ?_
      refine (g_t rfl).trans ?_
      refine (g_t (by rw [show s3 0 5 = 16 from rs3.2.2.2.2.2.1]; decide)).trans ?_
      rw [show s3 0 5 = 16 from rs3.2.2.2.2.2.1]
      refine (x_iload f125_31 rfl rfl).trans ?_
      refine (y_put0 (ji := 7) rfl f125_32 rfl rfl).trans ?_
      refine (g_t rfl).trans ?_
      refine (x_aload f125_35 rfl rfl).trans ?_
      refine (y_get2 (ji := 5) rfl f125_36 rfl rfl).trans ?_
      refine (g_t rfl).trans ?_
      refine (g_t (by rw [show (up s3 16 7 l1) 0 5 = 16 from (by rw [up_ne (by decide)]; exact rs3.2.2.2.2.2.1)]; decide)).trans ?_
      rw [show (up s3 16 7 l1) 0 5 = 16 from (by rw [up_ne (by decide)]; exact rs3.2.2.2.2.2.1)]
      refine (x_iload f125_39 rfl rfl).trans ?_
      refine (y_put0 (ji := 8) rfl f125_40 rfl rfl).trans ?_
      refine (g_t rfl).trans ?_
      refine (x_aload f125_43 rfl rfl).trans ?_
      refine (y_get2 (ji := 5) rfl f125_44 rfl rfl).trans ?_
      refine (g_t rfl).trans ?_
      refine (g_t (by rw [show (up (up s3 16 7 l1) 16 8 l2) 0 5 = 16 from (by rw [up_ne (by decide), up_ne (by decide)]; exact rs3.2.2.2.2.2.1)]; decide)).trans ?_
      rw [show (up (up s3 16 7 l1) 16 8 l2) 0 5 = 16 from (by rw [up_ne (by decide), up_ne (by decide)]; exact rs3.2.2.2.2.2.1)]
      refine (x_iload f125_47 rfl rfl).trans ?_
      refine (y_put0 (ji := 9) rfl f125_48 rfl rfl).trans ?_
      refine (g_t rfl).trans ?_
      refine (x_iload f125_51 rfl rfl).trans ?_
      exact x_ireturn f125_53 rfl
set_option maxRecDepth 10000 in
theorem g126_0 {t : Int} (ht : t = 32 ∨ t = 37) {s : SG} (hR : RefC s) (hw : TwC s t) (l1 l2 l3 : Int) : sem 126 0 [aA 0, aI l1, aI l2, aI l3] [] s = bnI (sem 141 0 [aI l1] [] s) fun a2 s1 => if a2 = 0 then some (aI ((-1)), s1) else bnI (sem 82 0 [aA t, aI l2] [] s1) fun a4 s3 => if a4 = 0 then some (aI ((-1)), s3) else if l3 < 1 then some (aI ((-2)), s3) else if (20 : Int) < l3 then some (aI ((-2)), s3) else bnI (sem 26 0 [aA 16, aI l1, aI l2, aI l3] [] s3) fun a6 s5 => if a6 = 0 then some (aI ((-4)), s5) else some (aI (w32 ((s5 16 10) - 1)), s5) := by
  refine (x_iload f126_0 rfl rfl).trans ?_
  refine (x_invokestatic (G := bnI (sem 141 0 [aI l1] [] s) fun a2 s1 => sem 126 4 [aA 0, aI l1, aI l2, aI l3] [aI a2] s1) f126_1 rfl rfl).trans ?_
  refine bI_h fun a2 s1 qs1 => ?_
  have rs1 := RefC.sem qs1 rfl hR
  have ws1 := TwC.sem qs1 rfl hw
  refine (x_if_eq (tg := 18) f126_4 rfl rfl).trans (i_c ?_ ?_)
  · refine (x_kil (l2 := [aU, aU, aU, aU]) f126_18 rfl).trans ?_
    refine (x_iconst f126_18 rfl).trans ?_
    exact x_ireturn f126_19 rfl
  · refine (x_aload f126_7 rfl rfl).trans ?_
    refine (y_get2 (ji := 9) rfl f126_8 rfl rfl).trans ?_
    refine (g_t rfl).trans ?_
    refine (g_t (by rw [show s1 0 9 = t from ws1.1]; omega)).trans ?_
    rw [show s1 0 9 = t from ws1.1]
    refine (x_iload f126_11 rfl rfl).trans ?_
    refine (x_invokevirtual (G := grd (kd t = 6) (bnI (sem 82 0 [aA t, aI l2] [] s1) fun a4 s3 => sem 126 15 [aA 0, aI l1, aI l2, aI l3] [aI a4] s3)) f126_12 rfl rfl).trans ?_
    refine (g_t ((kd_t ht).1)).trans ?_
    refine bI_h fun a4 s3 qs3 => ?_
    have rs3 := RefC.sem qs3 rfl rs1
    have ws3 := TwC.sem qs3 rfl ws1
    refine (x_if_ne (tg := 20) f126_15 rfl rfl).trans (i_c ?_ ?_)
    · refine (x_kil (l2 := [aU, aU, aU, aU]) f126_18 rfl).trans ?_
      refine (x_iconst f126_18 rfl).trans ?_
      exact x_ireturn f126_19 rfl
    · refine (x_iload f126_20 rfl rfl).trans ?_
      refine (x_iconst f126_21 rfl).trans ?_
      refine (x_icmp_lt (tg := 31) f126_22 rfl rfl).trans (i_c ?_ ?_)
      · refine (x_kil (l2 := [aU, aU, aU, aU]) f126_31 rfl).trans ?_
        refine (x_iconst f126_31 rfl).trans ?_
        exact x_ireturn f126_33 rfl
      · refine (x_iload f126_25 rfl rfl).trans ?_
        refine (x_iconst f126_26 rfl).trans ?_
        refine (x_icmp_le (tg := 34) f126_28 rfl rfl).trans (i_c ?_ ?_)
        · refine (x_kil (l2 := [aU, aU, aU, aU]) f126_31 rfl).trans ?_
          refine (x_iconst f126_31 rfl).trans ?_
          exact x_ireturn f126_33 rfl
        · refine (x_aload f126_34 rfl rfl).trans ?_
          refine (y_get2 (ji := 5) rfl f126_35 rfl rfl).trans ?_
          refine (g_t rfl).trans ?_
          refine (g_t (by rw [show s3 0 5 = 16 from rs3.2.2.2.2.2.1]; decide)).trans ?_
          rw [show s3 0 5 = 16 from rs3.2.2.2.2.2.1]
          refine (x_iload f126_38 rfl rfl).trans ?_
          refine (x_iload f126_39 rfl rfl).trans ?_
          refine (x_iload f126_40 rfl rfl).trans ?_
          refine (x_invokevirtual (G := grd (kd 16 = 1) (bnI (sem 26 0 [aA 16, aI l1, aI l2, aI l3] [] s3) fun a6 s5 => sem 126 44 [aA 0, aI l1, aI l2, aI l3] [aI a6] s5)) f126_41 rfl rfl).trans ?_
          refine (g_t rfl).trans ?_
          refine bI_h fun a6 s5 qs5 => ?_
          have rs5 := RefC.sem qs5 rfl rs3
          have ws5 := TwC.sem qs5 rfl ws3
          refine (x_if_eq (tg := 59) f126_44 rfl rfl).trans (i_c ?_ ?_)
          · refine (x_iconst f126_59 rfl).trans ?_
            refine (x_kil (l2 := [aU, aU, aU, aU]) f126_61 rfl).trans ?_
            exact x_ireturn f126_61 rfl
          · refine (x_aload f126_47 rfl rfl).trans ?_
            refine (y_get2 (ji := 5) rfl f126_48 rfl rfl).trans ?_
            refine (g_t rfl).trans ?_
            refine (g_t (by rw [show s5 0 5 = 16 from rs5.2.2.2.2.2.1]; decide)).trans ?_
            rw [show s5 0 5 = 16 from rs5.2.2.2.2.2.1]
            refine (y_get0 (ji := 10) rfl f126_51 rfl rfl).trans ?_
            refine (g_t rfl).trans ?_
            refine (x_iconst f126_54 rfl).trans ?_
            refine (x_isub f126_55 rfl).trans ?_
            refine (x_goto (tg := 61) f126_56 rfl rfl).trans ?_
            refine (x_kil (l2 := [aU, aU, aU, aU]) f126_61 rfl).trans ?_
            exact x_ireturn f126_61 rfl
set_option maxRecDepth 10000 in
theorem g127_0 {s : SG} (hR : RefC s) : sem 127 0 [aA 0, aU] [] s = some (aI (s 16 10), up s 16 10 0) := by
  refine (x_aload f127_0 rfl rfl).trans ?_
  refine (y_get2 (ji := 5) rfl f127_1 rfl rfl).trans ?_
  refine (g_t rfl).trans ?_
  refine (g_t (by rw [show s 0 5 = 16 from hR.2.2.2.2.2.1]; decide)).trans ?_
  rw [show s 0 5 = 16 from hR.2.2.2.2.2.1]
  refine (y_get0 (ji := 10) rfl f127_4 rfl rfl).trans ?_
  refine (g_t rfl).trans ?_
  refine (x_istore (l2 := [aA 0, aI (s 16 10)]) f127_7 rfl rfl).trans ?_
  refine (x_aload f127_8 rfl rfl).trans ?_
  refine (y_get2 (ji := 5) rfl f127_9 rfl rfl).trans ?_
  refine (g_t rfl).trans ?_
  refine (g_t (by rw [show s 0 5 = 16 from hR.2.2.2.2.2.1]; decide)).trans ?_
  rw [show s 0 5 = 16 from hR.2.2.2.2.2.1]
  refine (x_iconst f127_12 rfl).trans ?_
  refine (y_put0 (ji := 10) rfl f127_13 rfl rfl).trans ?_
  refine (g_t rfl).trans ?_
  refine (x_iload f127_16 rfl rfl).trans ?_
  exact x_ireturn f127_17 rfl
set_option maxRecDepth 10000 in
theorem g128_0 {t : Int} (ht : t = 32 ∨ t = 37) {s : SG} (hR : RefC s) (hw : TwC s t) (l1 l2 l3 : Int) : sem 128 0 [aA 0, aI l1, aI l2, aI l3] [] s = bnI (sem 82 0 [aA t, aI l1] [] s) fun a2 s1 => if a2 = 0 then some (aI ((-1)), s1) else bnI (sem 141 0 [aI l2] [] s1) fun a4 s3 => if a4 = 0 then some (aI ((-1)), s3) else if l3 < 0 then some (aI ((-2)), s3) else if (3 : Int) < l3 then some (aI ((-2)), s3) else bnV (sem 45 0 [aA 23, aA t, aA 16] [] s3) fun s5 => bnI (sem 56 0 [aA 23, aI l1, aI l2, aI l3, aU] [] s5) fun a7 s6 => some (aI a7, s6) := by
  refine (x_aload f128_0 rfl rfl).trans ?_
  refine (y_get2 (ji := 9) rfl f128_1 rfl rfl).trans ?_
  refine (g_t rfl).trans ?_
  refine (g_t (by rw [show s 0 9 = t from hw.1]; omega)).trans ?_
  rw [show s 0 9 = t from hw.1]
  refine (x_iload f128_4 rfl rfl).trans ?_
  refine (x_invokevirtual (G := grd (kd t = 6) (bnI (sem 82 0 [aA t, aI l1] [] s) fun a2 s1 => sem 128 8 [aA 0, aI l1, aI l2, aI l3] [aI a2] s1)) f128_5 rfl rfl).trans ?_
  refine (g_t ((kd_t ht).1)).trans ?_
  refine bI_h fun a2 s1 qs1 => ?_
  have rs1 := RefC.sem qs1 rfl hR
  have ws1 := TwC.sem qs1 rfl hw
  refine (x_if_eq (tg := 18) f128_8 rfl rfl).trans (i_c ?_ ?_)
  · refine (x_kil (l2 := [aU, aU, aU, aU]) f128_18 rfl).trans ?_
    refine (x_iconst f128_18 rfl).trans ?_
    exact x_ireturn f128_19 rfl
  · refine (x_iload f128_11 rfl rfl).trans ?_
    refine (x_invokestatic (G := bnI (sem 141 0 [aI l2] [] s1) fun a4 s3 => sem 128 15 [aA 0, aI l1, aI l2, aI l3] [aI a4] s3) f128_12 rfl rfl).trans ?_
    refine bI_h fun a4 s3 qs3 => ?_
    have rs3 := RefC.sem qs3 rfl rs1
    have ws3 := TwC.sem qs3 rfl ws1
    refine (x_if_ne (tg := 20) f128_15 rfl rfl).trans (i_c ?_ ?_)
    · refine (x_kil (l2 := [aU, aU, aU, aU]) f128_18 rfl).trans ?_
      refine (x_iconst f128_18 rfl).trans ?_
      exact x_ireturn f128_19 rfl
    · refine (x_iload f128_20 rfl rfl).trans ?_
      refine (x_if_lt (tg := 29) f128_21 rfl rfl).trans (i_c ?_ ?_)
      · refine (x_kil (l2 := [aU, aU, aU, aU]) f128_29 rfl).trans ?_
        refine (x_iconst f128_29 rfl).trans ?_
        exact x_ireturn f128_31 rfl
      · refine (x_iload f128_24 rfl rfl).trans ?_
        refine (x_iconst f128_25 rfl).trans ?_
        refine (x_icmp_le (tg := 32) f128_26 rfl rfl).trans (i_c ?_ ?_)
        · refine (x_kil (l2 := [aU, aU, aU, aU]) f128_29 rfl).trans ?_
          refine (x_iconst f128_29 rfl).trans ?_
          exact x_ireturn f128_31 rfl
        · refine (x_aload f128_32 rfl rfl).trans ?_
          refine (y_get2 (ji := 6) rfl f128_33 rfl rfl).trans ?_
          refine (g_t rfl).trans ?_
          refine (g_t (by rw [show s3 0 6 = 23 from rs3.2.2.2.2.2.2.1]; decide)).trans ?_
          rw [show s3 0 6 = 23 from rs3.2.2.2.2.2.2.1]
          refine (x_aload f128_36 rfl rfl).trans ?_
          refine (y_get2 (ji := 9) rfl f128_37 rfl rfl).trans ?_
          refine (g_t rfl).trans ?_
          refine (g_t (by rw [show s3 0 9 = t from ws3.1]; omega)).trans ?_
          rw [show s3 0 9 = t from ws3.1]
          refine (x_aload f128_40 rfl rfl).trans ?_
          refine (y_get2 (ji := 5) rfl f128_41 rfl rfl).trans ?_
          refine (g_t rfl).trans ?_
          refine (g_t (by rw [show s3 0 5 = 16 from rs3.2.2.2.2.2.1]; decide)).trans ?_
          rw [show s3 0 5 = 16 from rs3.2.2.2.2.2.1]
          refine (x_invokevirtual (G := grd (kd 23 = 3) (bnV (sem 45 0 [aA 23, aA t, aA 16] [] s3) fun s5 => sem 128 47 [aA 0, aI l1, aI l2, aI l3] [] s5)) f128_44 rfl rfl).trans ?_
          refine (g_t rfl).trans ?_
          refine bV_h fun s5 qs5 => ?_
          have rs5 := RefC.sem qs5 rfl rs3
          have ws5 := TwC.sem qs5 rfl ws3
          refine (x_aload f128_47 rfl rfl).trans ?_
          refine (y_get2 (ji := 6) rfl f128_48 rfl rfl).trans ?_
          refine (g_t rfl).trans ?_
          refine (g_t (by rw [show s5 0 6 = 23 from rs5.2.2.2.2.2.2.1]; decide)).trans ?_
          rw [show s5 0 6 = 23 from rs5.2.2.2.2.2.2.1]
          refine (x_iload f128_51 rfl rfl).trans ?_
          refine (x_iload f128_52 rfl rfl).trans ?_
          refine (x_iload f128_53 rfl rfl).trans ?_
          refine (x_invokevirtual (G := grd (kd 23 = 3) (bnI (sem 56 0 [aA 23, aI l1, aI l2, aI l3, aU] [] s5) fun a7 s6 => sem 128 57 [aA 0, aI l1, aI l2, aI l3] [aI a7] s6)) f128_54 rfl rfl).trans ?_
          refine (g_t rfl).trans ?_
          refine bI_h fun a7 s6 qs6 => ?_
          have rs6 := RefC.sem qs6 rfl rs5
          have ws6 := TwC.sem qs6 rfl ws5
          exact x_ireturn f128_57 rfl
set_option maxRecDepth 10000 in
theorem g129_0 {t : Int} (ht : t = 32 ∨ t = 37) {s : SG} (hR : RefC s) (hw : TwC s t) (l1 : Int) : sem 129 0 [aA 0, aI l1] [] s = if l1 < 0 then some (aI ((-2)), s) else if (4 : Int) < l1 then some (aI ((-2)), s) else bnV (sem 45 0 [aA 23, aA t, aA 16] [] s) fun s1 => if l1 = 0 then bnI (sem 59 0 [aA 23, aU, aU] [] s1) fun a3 s2 => some (aI a3, s2) else if l1 = 1 then bnI (sem 60 0 [aA 23, aU, aU] [] s1) fun a5 s4 => some (aI a5, s4) else if l1 = 2 then bnI (sem 61 0 [aA 23] [] s1) fun a7 s6 => some (aI a7, s6) else if l1 = 3 then bnI (sem 62 0 [aA 23] [] s1) fun a9 s8 => some (aI a9, s8) else bnI (sem 63 0 [aA 23, aA t, aA 16, aU, aU] [] s1) fun a11 s10 => some (aI (w32 (a11 + 100000)), s10) := by
  refine (x_iload f129_0 rfl rfl).trans ?_
  refine (x_if_lt (tg := 9) f129_1 rfl rfl).trans (i_c ?_ ?_)
  · refine (x_kil (l2 := [aU, aU]) f129_9 rfl).trans ?_
    refine (x_iconst f129_9 rfl).trans ?_
    exact x_ireturn f129_11 rfl
  · refine (x_iload f129_4 rfl rfl).trans ?_
    refine (x_iconst f129_5 rfl).trans ?_
    refine (x_icmp_le (tg := 12) f129_6 rfl rfl).trans (i_c ?_ ?_)
    · refine (x_kil (l2 := [aU, aU]) f129_9 rfl).trans ?_
      refine (x_iconst f129_9 rfl).trans ?_
      exact x_ireturn f129_11 rfl
    · refine (x_aload f129_12 rfl rfl).trans ?_
      refine (y_get2 (ji := 6) rfl f129_13 rfl rfl).trans ?_
      refine (g_t rfl).trans ?_
      refine (g_t (by rw [show s 0 6 = 23 from hR.2.2.2.2.2.2.1]; decide)).trans ?_
      rw [show s 0 6 = 23 from hR.2.2.2.2.2.2.1]
      refine (x_aload f129_16 rfl rfl).trans ?_
      refine (y_get2 (ji := 9) rfl f129_17 rfl rfl).trans ?_
      refine (g_t rfl).trans ?_
      refine (g_t (by rw [show s 0 9 = t from hw.1]; omega)).trans ?_
      rw [show s 0 9 = t from hw.1]
      refine (x_aload f129_20 rfl rfl).trans ?_
      refine (y_get2 (ji := 5) rfl f129_21 rfl rfl).trans ?_
      refine (g_t rfl).trans ?_
      refine (g_t (by rw [show s 0 5 = 16 from hR.2.2.2.2.2.1]; decide)).trans ?_
      rw [show s 0 5 = 16 from hR.2.2.2.2.2.1]
      refine (x_invokevirtual (G := grd (kd 23 = 3) (bnV (sem 45 0 [aA 23, aA t, aA 16] [] s) fun s1 => sem 129 27 [aA 0, aI l1] [] s1)) f129_24 rfl rfl).trans ?_
      refine (g_t rfl).trans ?_
      refine bV_h fun s1 qs1 => ?_
      have rs1 := RefC.sem qs1 rfl hR
      have ws1 := TwC.sem qs1 rfl hw
      refine (x_iload f129_27 rfl rfl).trans ?_
      refine (x_tsw f129_28 rfl).trans ?_
      refine Eq.trans (b := sem 129 (if l1 = 0 then 60 else if l1 = 1 then 68 else if l1 = 2 then 76 else if l1 = 3 then 84 else 92) [aA 0, aI l1] [] s1) rfl ?_
      refine x_ite.trans (i_c ?_ ?_)
      · refine (x_aload f129_60 rfl rfl).trans ?_
        refine (y_get2 (ji := 6) rfl f129_61 rfl rfl).trans ?_
        refine (g_t rfl).trans ?_
        refine (g_t (by rw [show s1 0 6 = 23 from rs1.2.2.2.2.2.2.1]; decide)).trans ?_
        rw [show s1 0 6 = 23 from rs1.2.2.2.2.2.2.1]
        refine (x_invokevirtual (G := grd (kd 23 = 3) (bnI (sem 59 0 [aA 23, aU, aU] [] s1) fun a3 s2 => sem 129 67 [aA 0, aI l1] [aI a3] s2)) f129_64 rfl rfl).trans ?_
        refine (g_t rfl).trans ?_
        refine bI_h fun a3 s2 qs2 => ?_
        have rs2 := RefC.sem qs2 rfl rs1
        have ws2 := TwC.sem qs2 rfl ws1
        exact x_ireturn f129_67 rfl
      refine x_ite.trans (i_c ?_ ?_)
      · refine (x_aload f129_68 rfl rfl).trans ?_
        refine (y_get2 (ji := 6) rfl f129_69 rfl rfl).trans ?_
        refine (g_t rfl).trans ?_
        refine (g_t (by rw [show s1 0 6 = 23 from rs1.2.2.2.2.2.2.1]; decide)).trans ?_
        rw [show s1 0 6 = 23 from rs1.2.2.2.2.2.2.1]
        refine (x_invokevirtual (G := grd (kd 23 = 3) (bnI (sem 60 0 [aA 23, aU, aU] [] s1) fun a5 s4 => sem 129 75 [aA 0, aI l1] [aI a5] s4)) f129_72 rfl rfl).trans ?_
        refine (g_t rfl).trans ?_
        refine bI_h fun a5 s4 qs4 => ?_
        have rs4 := RefC.sem qs4 rfl rs1
        have ws4 := TwC.sem qs4 rfl ws1
        exact x_ireturn f129_75 rfl
      refine x_ite.trans (i_c ?_ ?_)
      · refine (x_aload f129_76 rfl rfl).trans ?_
        refine (y_get2 (ji := 6) rfl f129_77 rfl rfl).trans ?_
        refine (g_t rfl).trans ?_
        refine (g_t (by rw [show s1 0 6 = 23 from rs1.2.2.2.2.2.2.1]; decide)).trans ?_
        rw [show s1 0 6 = 23 from rs1.2.2.2.2.2.2.1]
        refine (x_invokevirtual (G := grd (kd 23 = 3) (bnI (sem 61 0 [aA 23] [] s1) fun a7 s6 => sem 129 83 [aA 0, aI l1] [aI a7] s6)) f129_80 rfl rfl).trans ?_
        refine (g_t rfl).trans ?_
        refine bI_h fun a7 s6 qs6 => ?_
        have rs6 := RefC.sem qs6 rfl rs1
        have ws6 := TwC.sem qs6 rfl ws1
        exact x_ireturn f129_83 rfl
      refine x_ite.trans (i_c ?_ ?_)
      · refine (x_aload f129_84 rfl rfl).trans ?_
        refine (y_get2 (ji := 6) rfl f129_85 rfl rfl).trans ?_
        refine (g_t rfl).trans ?_
        refine (g_t (by rw [show s1 0 6 = 23 from rs1.2.2.2.2.2.2.1]; decide)).trans ?_
        rw [show s1 0 6 = 23 from rs1.2.2.2.2.2.2.1]
        refine (x_invokevirtual (G := grd (kd 23 = 3) (bnI (sem 62 0 [aA 23] [] s1) fun a9 s8 => sem 129 91 [aA 0, aI l1] [aI a9] s8)) f129_88 rfl rfl).trans ?_
        refine (g_t rfl).trans ?_
        refine bI_h fun a9 s8 qs8 => ?_
        have rs8 := RefC.sem qs8 rfl rs1
        have ws8 := TwC.sem qs8 rfl ws1
        exact x_ireturn f129_91 rfl
      refine (x_aload f129_92 rfl rfl).trans ?_
      refine (y_get2 (ji := 6) rfl f129_93 rfl rfl).trans ?_
      refine (g_t rfl).trans ?_
      refine (g_t (by rw [show s1 0 6 = 23 from rs1.2.2.2.2.2.2.1]; decide)).trans ?_
      rw [show s1 0 6 = 23 from rs1.2.2.2.2.2.2.1]
      refine (x_aload f129_96 rfl rfl).trans ?_
      refine (y_get2 (ji := 9) rfl f129_97 rfl rfl).trans ?_
      refine (g_t rfl).trans ?_
      refine (g_t (by rw [show s1 0 9 = t from ws1.1]; omega)).trans ?_
      rw [show s1 0 9 = t from ws1.1]
      refine (x_aload f129_100 rfl rfl).trans ?_
      refine (y_get2 (ji := 5) rfl f129_101 rfl rfl).trans ?_
      refine (g_t rfl).trans ?_
      refine (g_t (by rw [show s1 0 5 = 16 from rs1.2.2.2.2.2.1]; decide)).trans ?_
      rw [show s1 0 5 = 16 from rs1.2.2.2.2.2.1]
      refine (x_invokevirtual (G := grd (kd 23 = 3) (bnI (sem 63 0 [aA 23, aA t, aA 16, aU, aU] [] s1) fun a11 s10 => sem 129 107 [aA 0, aI l1] [aI a11] s10)) f129_104 rfl rfl).trans ?_
      refine (g_t rfl).trans ?_
      refine bI_h fun a11 s10 qs10 => ?_
      have rs10 := RefC.sem qs10 rfl rs1
      have ws10 := TwC.sem qs10 rfl ws1
      refine (x_iconst f129_107 rfl).trans ?_
      refine (x_iadd f129_110 rfl).trans ?_
      exact x_ireturn f129_111 rfl
set_option maxRecDepth 10000 in
theorem g130_0 {t : Int} (ht : t = 32 ∨ t = 37) {s : SG} (hR : RefC s) (hw : TwC s t) (l1 : Int) : sem 130 0 [aA 0, aI l1] [] s = bnI (sem 82 0 [aA t, aI l1] [] s) fun a2 s1 => if a2 = 0 then some (aI ((-1)), s1) else bnV (sem 45 0 [aA 23, aA t, aA 16] [] s1) fun s3 => bnI (sem 58 0 [aA 23, aI l1, aU] [] s3) fun a5 s4 => some (aI a5, s4) := by
  refine (x_aload f130_0 rfl rfl).trans ?_
  refine (y_get2 (ji := 9) rfl f130_1 rfl rfl).trans ?_
  refine (g_t rfl).trans ?_
  refine (g_t (by rw [show s 0 9 = t from hw.1]; omega)).trans ?_
  rw [show s 0 9 = t from hw.1]
  refine (x_iload f130_4 rfl rfl).trans ?_
  refine (x_invokevirtual (G := grd (kd t = 6) (bnI (sem 82 0 [aA t, aI l1] [] s) fun a2 s1 => sem 130 8 [aA 0, aI l1] [aI a2] s1)) f130_5 rfl rfl).trans ?_
  refine (g_t ((kd_t ht).1)).trans ?_
  refine bI_h fun a2 s1 qs1 => ?_
  have rs1 := RefC.sem qs1 rfl hR
  have ws1 := TwC.sem qs1 rfl hw
  refine (x_if_ne (tg := 13) f130_8 rfl rfl).trans (i_c ?_ ?_)
  · refine (x_iconst f130_11 rfl).trans ?_
    exact x_ireturn f130_12 rfl
  · refine (x_aload f130_13 rfl rfl).trans ?_
    refine (y_get2 (ji := 6) rfl f130_14 rfl rfl).trans ?_
    refine (g_t rfl).trans ?_
    refine (g_t (by rw [show s1 0 6 = 23 from rs1.2.2.2.2.2.2.1]; decide)).trans ?_
    rw [show s1 0 6 = 23 from rs1.2.2.2.2.2.2.1]
    refine (x_aload f130_17 rfl rfl).trans ?_
    refine (y_get2 (ji := 9) rfl f130_18 rfl rfl).trans ?_
    refine (g_t rfl).trans ?_
    refine (g_t (by rw [show s1 0 9 = t from ws1.1]; omega)).trans ?_
    rw [show s1 0 9 = t from ws1.1]
    refine (x_aload f130_21 rfl rfl).trans ?_
    refine (y_get2 (ji := 5) rfl f130_22 rfl rfl).trans ?_
    refine (g_t rfl).trans ?_
    refine (g_t (by rw [show s1 0 5 = 16 from rs1.2.2.2.2.2.1]; decide)).trans ?_
    rw [show s1 0 5 = 16 from rs1.2.2.2.2.2.1]
    refine (x_invokevirtual (G := grd (kd 23 = 3) (bnV (sem 45 0 [aA 23, aA t, aA 16] [] s1) fun s3 => sem 130 28 [aA 0, aI l1] [] s3)) f130_25 rfl rfl).trans ?_
    refine (g_t rfl).trans ?_
    refine bV_h fun s3 qs3 => ?_
    have rs3 := RefC.sem qs3 rfl rs1
    have ws3 := TwC.sem qs3 rfl ws1
    refine (x_aload f130_28 rfl rfl).trans ?_
    refine (y_get2 (ji := 6) rfl f130_29 rfl rfl).trans ?_
    refine (g_t rfl).trans ?_
    refine (g_t (by rw [show s3 0 6 = 23 from rs3.2.2.2.2.2.2.1]; decide)).trans ?_
    rw [show s3 0 6 = 23 from rs3.2.2.2.2.2.2.1]
    refine (x_iload f130_32 rfl rfl).trans ?_
    refine (x_invokevirtual (G := grd (kd 23 = 3) (bnI (sem 58 0 [aA 23, aI l1, aU] [] s3) fun a5 s4 => sem 130 36 [aA 0, aI l1] [aI a5] s4)) f130_33 rfl rfl).trans ?_
    refine (g_t rfl).trans ?_
    refine bI_h fun a5 s4 qs4 => ?_
    have rs4 := RefC.sem qs4 rfl rs3
    have ws4 := TwC.sem qs4 rfl ws3
    exact x_ireturn f130_36 rfl
set_option maxRecDepth 10000 in
theorem g131_0 {t : Int} (ht : t = 32 ∨ t = 37) {s : SG} (hR : RefC s) (hw : TwC s t) (l1 : Int) : sem 131 0 [aA 0, aI l1] [] s = bnI (sem 82 0 [aA t, aI l1] [] s) fun a2 s1 => if a2 = 0 then some (aI ((-1)), s1) else bnI (sem 22 0 [aA 16, aI l1] [] s1) fun a4 s3 => some (aI a4, s3) := by
  refine (x_aload f131_0 rfl rfl).trans ?_
  refine (y_get2 (ji := 9) rfl f131_1 rfl rfl).trans ?_
  refine (g_t rfl).trans ?_
  refine (g_t (by rw [show s 0 9 = t from hw.1]; omega)).trans ?_
  rw [show s 0 9 = t from hw.1]
  refine (x_iload f131_4 rfl rfl).trans ?_
  refine (x_invokevirtual (G := grd (kd t = 6) (bnI (sem 82 0 [aA t, aI l1] [] s) fun a2 s1 => sem 131 8 [aA 0, aI l1] [aI a2] s1)) f131_5 rfl rfl).trans ?_
  refine (g_t ((kd_t ht).1)).trans ?_
  refine bI_h fun a2 s1 qs1 => ?_
  have rs1 := RefC.sem qs1 rfl hR
  have ws1 := TwC.sem qs1 rfl hw
  refine (x_if_eq (tg := 22) f131_8 rfl rfl).trans (i_c ?_ ?_)
  · refine (x_iconst f131_22 rfl).trans ?_
    refine (x_kil (l2 := [aU, aU]) f131_23 rfl).trans ?_
    exact x_ireturn f131_23 rfl
  · refine (x_aload f131_11 rfl rfl).trans ?_
    refine (y_get2 (ji := 5) rfl f131_12 rfl rfl).trans ?_
    refine (g_t rfl).trans ?_
    refine (g_t (by rw [show s1 0 5 = 16 from rs1.2.2.2.2.2.1]; decide)).trans ?_
    rw [show s1 0 5 = 16 from rs1.2.2.2.2.2.1]
    refine (x_iload f131_15 rfl rfl).trans ?_
    refine (x_invokevirtual (G := grd (kd 16 = 1) (bnI (sem 22 0 [aA 16, aI l1] [] s1) fun a4 s3 => sem 131 19 [aA 0, aI l1] [aI a4] s3)) f131_16 rfl rfl).trans ?_
    refine (g_t rfl).trans ?_
    refine bI_h fun a4 s3 qs3 => ?_
    have rs3 := RefC.sem qs3 rfl rs1
    have ws3 := TwC.sem qs3 rfl ws1
    refine (x_goto (tg := 23) f131_19 rfl rfl).trans ?_
    refine (x_kil (l2 := [aU, aU]) f131_23 rfl).trans ?_
    exact x_ireturn f131_23 rfl
set_option maxRecDepth 10000 in
theorem g132_0 {s : SG} (hR : RefC s) (l1 : Int) : sem 132 0 [aA 0, aI l1, aU, aU] [] s = if l1 < 1 then some (aI ((-2)), s) else if (30 : Int) < l1 then some (aI ((-2)), s) else sem 132 18 [aA 0, aI l1, aI 0, aI 0] [] s := by
  refine (x_iload f132_0 rfl rfl).trans ?_
  refine (x_iconst f132_1 rfl).trans ?_
  refine (x_icmp_lt (tg := 11) f132_2 rfl rfl).trans (i_c ?_ ?_)
  · refine (x_kil (l2 := [aU, aU, aU, aU]) f132_11 rfl).trans ?_
    refine (x_iconst f132_11 rfl).trans ?_
    exact x_ireturn f132_13 rfl
  · refine (x_iload f132_5 rfl rfl).trans ?_
    refine (x_iconst f132_6 rfl).trans ?_
    refine (x_icmp_le (tg := 14) f132_8 rfl rfl).trans (i_c ?_ ?_)
    · refine (x_kil (l2 := [aU, aU, aU, aU]) f132_11 rfl).trans ?_
      refine (x_iconst f132_11 rfl).trans ?_
      exact x_ireturn f132_13 rfl
    · refine (x_iconst f132_14 rfl).trans ?_
      refine (x_istore (l2 := [aA 0, aI l1, aI 0, aU]) f132_15 rfl rfl).trans ?_
      refine (x_iconst f132_16 rfl).trans ?_
      refine (x_istore (l2 := [aA 0, aI l1, aI 0, aI 0]) f132_17 rfl rfl).trans ?_
      rfl
set_option maxRecDepth 10000 in
theorem g132_18 {s : SG} (hR : RefC s) (l1 l2 l3 : Int) : sem 132 18 [aA 0, aI l1, aI l2, aI l3] [] s = if l3 < l1 then bnI (sem 147 0 [aA 0, aU, aU] [] s) fun a2 s1 => sem 132 18 [aA 0, aI l1, aI a2, aI (w32 (l3 + 1))] [] s1 else some (aI l2, s) := by
  refine (x_iload f132_18 rfl rfl).trans ?_
  refine (x_iload f132_19 rfl rfl).trans ?_
  refine (x_icmp_ge (tg := 34) f132_20 rfl rfl).trans (i_c ?_ ?_)
  · refine (x_aload f132_23 rfl rfl).trans ?_
    refine (x_invokevirtual (G := grd (kd 0 = 8) (bnI (sem 147 0 [aA 0, aU, aU] [] s) fun a2 s1 => sem 132 27 [aA 0, aI l1, aI l2, aI l3] [aI a2] s1)) f132_24 rfl rfl).trans ?_
    refine (g_t rfl).trans ?_
    refine bI_h fun a2 s1 qs1 => ?_
    have rs1 := RefC.sem qs1 rfl hR
    refine (x_istore (l2 := [aA 0, aI l1, aI a2, aI l3]) f132_27 rfl rfl).trans ?_
    refine (x_iinc (l2 := [aA 0, aI l1, aI a2, aI (w32 (l3 + 1))]) f132_28 rfl rfl rfl).trans ?_
    refine (x_goto (tg := 18) f132_31 rfl rfl).trans ?_
    rfl
  · refine (x_iload f132_34 rfl rfl).trans ?_
    exact x_ireturn f132_35 rfl
set_option maxRecDepth 10000 in
theorem g133_0 {t : Int} (ht : t = 32 ∨ t = 37) {s : SG} (hR : RefC s) (hw : TwC s t) (l1 l2 l3 l4 : Int) : sem 133 0 [aA 0, aI l1, aI l2, aI l3, aI l4, aU, aU, aU, aU, aU] [] s = bnI (sem 82 0 [aA t, aI l1] [] s) fun a2 s1 => if a2 = 0 then some (aI ((-1)), s1) else bnI (sem 141 0 [aI l2] [] s1) fun a4 s3 => if a4 = 0 then some (aI ((-1)), s3) else if l3 < 1 then some (aI ((-2)), s3) else if (60 : Int) < l3 then some (aI ((-2)), s3) else if l4 < 0 then some (aI ((-2)), s3) else if (20 : Int) < l4 then some (aI ((-2)), s3) else bnV (sem 45 0 [aA 23, aA t, aA 16] [] s3) fun s5 => bnI (sem 59 0 [aA 23, aU, aU] [] s5) fun a7 s6 => bnI (sem 60 0 [aA 23, aU, aU] [] s6) fun a9 s8 => bnI (sem 61 0 [aA 23] [] s8) fun a11 s10 => bnV (sem 47 0 [aA 23, aA t, aA 16, aI l1, aI l2, aI l3] [] s10) fun s12 => bnI (sem 59 0 [aA 23, aU, aU] [] s12) fun a14 s13 => bnI (sem 60 0 [aA 23, aU, aU] [] s13) fun a16 s15 => bnI (sem 61 0 [aA 23] [] s15) fun a18 s17 => some (aI (w32 ((w32 ((w32 ((w32 ((w32 (a14 - a7)) * (s17 t 6))) + (w32 ((w32 ((w32 (a16 + a18)) - (w32 (a9 + a11)))) * (s17 t 7))))) - (w32 (l3 * (w32 ((s17 t 5) + l4)))))) + 100000)), s17) := by
  refine (x_aload f133_0 rfl rfl).trans ?_
  refine (y_get2 (ji := 9) rfl f133_1 rfl rfl).trans ?_
  refine (g_t rfl).trans ?_
  refine (g_t (by rw [show s 0 9 = t from hw.1]; omega)).trans ?_
  rw [show s 0 9 = t from hw.1]
  refine (x_iload f133_4 rfl rfl).trans ?_
  refine (x_invokevirtual (G := grd (kd t = 6) (bnI (sem 82 0 [aA t, aI l1] [] s) fun a2 s1 => sem 133 8 [aA 0, aI l1, aI l2, aI l3, aI l4, aU, aU, aU, aU, aU] [aI a2] s1)) f133_5 rfl rfl).trans ?_
  refine (g_t ((kd_t ht).1)).trans ?_
  refine bI_h fun a2 s1 qs1 => ?_
  have rs1 := RefC.sem qs1 rfl hR
  have ws1 := TwC.sem qs1 rfl hw
  refine (x_if_eq (tg := 18) f133_8 rfl rfl).trans (i_c ?_ ?_)
  · refine (x_kil (l2 := [aU, aU, aU, aU, aU, aU, aU, aU, aU, aU]) f133_18 rfl).trans ?_
    refine (x_iconst f133_18 rfl).trans ?_
    exact x_ireturn f133_19 rfl
  · refine (x_iload f133_11 rfl rfl).trans ?_
    refine (x_invokestatic (G := bnI (sem 141 0 [aI l2] [] s1) fun a4 s3 => sem 133 15 [aA 0, aI l1, aI l2, aI l3, aI l4, aU, aU, aU, aU, aU] [aI a4] s3) f133_12 rfl rfl).trans ?_
    refine bI_h fun a4 s3 qs3 => ?_
    have rs3 := RefC.sem qs3 rfl rs1
    have ws3 := TwC.sem qs3 rfl ws1
    refine (x_if_ne (tg := 20) f133_15 rfl rfl).trans (i_c ?_ ?_)
    · refine (x_kil (l2 := [aU, aU, aU, aU, aU, aU, aU, aU, aU, aU]) f133_18 rfl).trans ?_
      refine (x_iconst f133_18 rfl).trans ?_
      exact x_ireturn f133_19 rfl
    · refine (x_iload f133_20 rfl rfl).trans ?_
      refine (x_iconst f133_21 rfl).trans ?_
      refine (x_icmp_lt (tg := 43) f133_22 rfl rfl).trans (i_c ?_ ?_)
      · refine (x_kil (l2 := [aU, aU, aU, aU, aU, aU, aU, aU, aU, aU]) f133_43 rfl).trans ?_
        refine (x_iconst f133_43 rfl).trans ?_
        exact x_ireturn f133_45 rfl
      · refine (x_iload f133_25 rfl rfl).trans ?_
        refine (x_iconst f133_26 rfl).trans ?_
        refine (x_icmp_gt (tg := 43) f133_28 rfl rfl).trans (i_c ?_ ?_)
        · refine (x_kil (l2 := [aU, aU, aU, aU, aU, aU, aU, aU, aU, aU]) f133_43 rfl).trans ?_
          refine (x_iconst f133_43 rfl).trans ?_
          exact x_ireturn f133_45 rfl
        · refine (x_iload f133_31 rfl rfl).trans ?_
          refine (x_if_lt (tg := 43) f133_33 rfl rfl).trans (i_c ?_ ?_)
          · refine (x_kil (l2 := [aU, aU, aU, aU, aU, aU, aU, aU, aU, aU]) f133_43 rfl).trans ?_
            refine (x_iconst f133_43 rfl).trans ?_
            exact x_ireturn f133_45 rfl
          · refine (x_iload f133_36 rfl rfl).trans ?_
            refine (x_iconst f133_38 rfl).trans ?_
            refine (x_icmp_le (tg := 46) f133_40 rfl rfl).trans (i_c ?_ ?_)
            · refine (x_kil (l2 := [aU, aU, aU, aU, aU, aU, aU, aU, aU, aU]) f133_43 rfl).trans ?_
              refine (x_iconst f133_43 rfl).trans ?_
              exact x_ireturn f133_45 rfl
            · refine (x_aload f133_46 rfl rfl).trans ?_
              refine (y_get2 (ji := 6) rfl f133_47 rfl rfl).trans ?_
              refine (g_t rfl).trans ?_
              refine (g_t (by rw [show s3 0 6 = 23 from rs3.2.2.2.2.2.2.1]; decide)).trans ?_
              rw [show s3 0 6 = 23 from rs3.2.2.2.2.2.2.1]
              refine (x_aload f133_50 rfl rfl).trans ?_
              refine (y_get2 (ji := 9) rfl f133_51 rfl rfl).trans ?_
              refine (g_t rfl).trans ?_
              refine (g_t (by rw [show s3 0 9 = t from ws3.1]; omega)).trans ?_
              rw [show s3 0 9 = t from ws3.1]
              refine (x_aload f133_54 rfl rfl).trans ?_
              refine (y_get2 (ji := 5) rfl f133_55 rfl rfl).trans ?_
              refine (g_t rfl).trans ?_
              refine (g_t (by rw [show s3 0 5 = 16 from rs3.2.2.2.2.2.1]; decide)).trans ?_
              rw [show s3 0 5 = 16 from rs3.2.2.2.2.2.1]
              refine (x_invokevirtual (G := grd (kd 23 = 3) (bnV (sem 45 0 [aA 23, aA t, aA 16] [] s3) fun s5 => sem 133 61 [aA 0, aI l1, aI l2, aI l3, aI l4, aU, aU, aU, aU, aU] [] s5)) f133_58 rfl rfl).trans ?_
              refine (g_t rfl).trans ?_
              refine bV_h fun s5 qs5 => ?_
              have rs5 := RefC.sem qs5 rfl rs3
              have ws5 := TwC.sem qs5 rfl ws3
              refine (x_aload f133_61 rfl rfl).trans ?_
              refine (y_get2 (ji := 6) rfl f133_62 rfl rfl).trans ?_
              refine (g_t rfl).trans ?_
              refine (g_t (by rw [show s5 0 6 = 23 from rs5.2.2.2.2.2.2.1]; decide)).trans ?_
              rw [show s5 0 6 = 23 from rs5.2.2.2.2.2.2.1]
              refine (x_invokevirtual (G := grd (kd 23 = 3) (bnI (sem 59 0 [aA 23, aU, aU] [] s5) fun a7 s6 => sem 133 68 [aA 0, aI l1, aI l2, aI l3, aI l4, aU, aU, aU, aU, aU] [aI a7] s6)) f133_65 rfl rfl).trans ?_
              refine (g_t rfl).trans ?_
              refine bI_h fun a7 s6 qs6 => ?_
              have rs6 := RefC.sem qs6 rfl rs5
              have ws6 := TwC.sem qs6 rfl ws5
              refine (x_istore (l2 := [aA 0, aI l1, aI l2, aI l3, aI l4, aI a7, aU, aU, aU, aU]) f133_68 rfl rfl).trans ?_
              refine (x_aload f133_70 rfl rfl).trans ?_
              refine (y_get2 (ji := 6) rfl f133_71 rfl rfl).trans ?_
              refine (g_t rfl).trans ?_
              refine (g_t (by rw [show s6 0 6 = 23 from rs6.2.2.2.2.2.2.1]; decide)).trans ?_
              rw [show s6 0 6 = 23 from rs6.2.2.2.2.2.2.1]
              refine (x_invokevirtual (G := grd (kd 23 = 3) (bnI (sem 60 0 [aA 23, aU, aU] [] s6) fun a9 s8 => sem 133 77 [aA 0, aI l1, aI l2, aI l3, aI l4, aI a7, aU, aU, aU, aU] [aI a9] s8)) f133_74 rfl rfl).trans ?_
              refine (g_t rfl).trans ?_
              refine bI_h fun a9 s8 qs8 => ?_
              have rs8 := RefC.sem qs8 rfl rs6
              have ws8 := TwC.sem qs8 rfl ws6
              refine (x_aload f133_77 rfl rfl).trans ?_
              refine (y_get2 (ji := 6) rfl f133_78 rfl rfl).trans ?_
              refine (g_t rfl).trans ?_
              refine (g_t (by rw [show s8 0 6 = 23 from rs8.2.2.2.2.2.2.1]; decide)).trans ?_
              rw [show s8 0 6 = 23 from rs8.2.2.2.2.2.2.1]
              refine (x_invokevirtual (G := grd (kd 23 = 3) (bnI (sem 61 0 [aA 23] [] s8) fun a11 s10 => sem 133 84 [aA 0, aI l1, aI l2, aI l3, aI l4, aI a7, aU, aU, aU, aU] [aI a11, aI a9] s10)) f133_81 rfl rfl).trans ?_
              refine (g_t rfl).trans ?_
              refine bI_h fun a11 s10 qs10 => ?_
              have rs10 := RefC.sem qs10 rfl rs8
              have ws10 := TwC.sem qs10 rfl ws8
              refine (x_iadd f133_84 rfl).trans ?_
              refine (x_istore (l2 := [aA 0, aI l1, aI l2, aI l3, aI l4, aI a7, aI (w32 (a9 + a11)), aU, aU, aU]) f133_85 rfl rfl).trans ?_
              refine (x_aload f133_87 rfl rfl).trans ?_
              refine (y_get2 (ji := 6) rfl f133_88 rfl rfl).trans ?_
              refine (g_t rfl).trans ?_
              refine (g_t (by rw [show s10 0 6 = 23 from rs10.2.2.2.2.2.2.1]; decide)).trans ?_
              rw [show s10 0 6 = 23 from rs10.2.2.2.2.2.2.1]
              refine (x_aload f133_91 rfl rfl).trans ?_
              refine (y_get2 (ji := 9) rfl f133_92 rfl rfl).trans ?_
              refine (g_t rfl).trans ?_
              refine (g_t (by rw [show s10 0 9 = t from ws10.1]; omega)).trans ?_
              rw [show s10 0 9 = t from ws10.1]
              refine (x_aload f133_95 rfl rfl).trans ?_
              refine (y_get2 (ji := 5) rfl f133_96 rfl rfl).trans ?_
              refine (g_t rfl).trans ?_
              refine (g_t (by rw [show s10 0 5 = 16 from rs10.2.2.2.2.2.1]; decide)).trans ?_
              rw [show s10 0 5 = 16 from rs10.2.2.2.2.2.1]
              refine (x_iload f133_99 rfl rfl).trans ?_
              refine (x_iload f133_100 rfl rfl).trans ?_
              refine (x_iload f133_101 rfl rfl).trans ?_
              refine (x_invokevirtual (G := grd (kd 23 = 3) (bnV (sem 47 0 [aA 23, aA t, aA 16, aI l1, aI l2, aI l3] [] s10) fun s12 => sem 133 105 [aA 0, aI l1, aI l2, aI l3, aI l4, aI a7, aI (w32 (a9 + a11)), aU, aU, aU] [] s12)) f133_102 rfl rfl).trans ?_
              refine (g_t rfl).trans ?_
              refine bV_h fun s12 qs12 => ?_
              have rs12 := RefC.sem qs12 rfl rs10
              have ws12 := TwC.sem qs12 rfl ws10
              refine (x_aload f133_105 rfl rfl).trans ?_
              refine (y_get2 (ji := 6) rfl f133_106 rfl rfl).trans ?_
              refine (g_t rfl).trans ?_
              refine (g_t (by rw [show s12 0 6 = 23 from rs12.2.2.2.2.2.2.1]; decide)).trans ?_
              rw [show s12 0 6 = 23 from rs12.2.2.2.2.2.2.1]
              refine (x_invokevirtual (G := grd (kd 23 = 3) (bnI (sem 59 0 [aA 23, aU, aU] [] s12) fun a14 s13 => sem 133 112 [aA 0, aI l1, aI l2, aI l3, aI l4, aI a7, aI (w32 (a9 + a11)), aU, aU, aU] [aI a14] s13)) f133_109 rfl rfl).trans ?_
              refine (g_t rfl).trans ?_
              refine bI_h fun a14 s13 qs13 => ?_
              have rs13 := RefC.sem qs13 rfl rs12
              have ws13 := TwC.sem qs13 rfl ws12
              refine (x_iload f133_112 rfl rfl).trans ?_
              refine (x_isub f133_114 rfl).trans ?_
              refine (x_istore (l2 := [aA 0, aI l1, aI l2, aI l3, aI l4, aI a7, aI (w32 (a9 + a11)), aI (w32 (a14 - a7)), aU, aU]) f133_115 rfl rfl).trans ?_
              refine (x_aload f133_117 rfl rfl).trans ?_
              refine (y_get2 (ji := 6) rfl f133_118 rfl rfl).trans ?_
              refine (g_t rfl).trans ?_
              refine (g_t (by rw [show s13 0 6 = 23 from rs13.2.2.2.2.2.2.1]; decide)).trans ?_
              rw [show s13 0 6 = 23 from rs13.2.2.2.2.2.2.1]
              refine (x_invokevirtual (G := grd (kd 23 = 3) (bnI (sem 60 0 [aA 23, aU, aU] [] s13) fun a16 s15 => sem 133 124 [aA 0, aI l1, aI l2, aI l3, aI l4, aI a7, aI (w32 (a9 + a11)), aI (w32 (a14 - a7)), aU, aU] [aI a16] s15)) f133_121 rfl rfl).trans ?_
              refine (g_t rfl).trans ?_
              refine bI_h fun a16 s15 qs15 => ?_
              have rs15 := RefC.sem qs15 rfl rs13
              have ws15 := TwC.sem qs15 rfl ws13
              refine (x_aload f133_124 rfl rfl).trans ?_
              refine (y_get2 (ji := 6) rfl f133_125 rfl rfl).trans ?_
              refine (g_t rfl).trans ?_
              refine (g_t (by rw [show s15 0 6 = 23 from rs15.2.2.2.2.2.2.1]; decide)).trans ?_
              rw [show s15 0 6 = 23 from rs15.2.2.2.2.2.2.1]
              refine (x_invokevirtual (G := grd (kd 23 = 3) (bnI (sem 61 0 [aA 23] [] s15) fun a18 s17 => sem 133 131 [aA 0, aI l1, aI l2, aI l3, aI l4, aI a7, aI (w32 (a9 + a11)), aI (w32 (a14 - a7)), aU, aU] [aI a18, aI a16] s17)) f133_128 rfl rfl).trans ?_
              refine (g_t rfl).trans ?_
              refine bI_h fun a18 s17 qs17 => ?_
              have rs17 := RefC.sem qs17 rfl rs15
              have ws17 := TwC.sem qs17 rfl ws15
              refine (x_iadd f133_131 rfl).trans ?_
              refine (x_iload f133_132 rfl rfl).trans ?_
              refine (x_isub f133_134 rfl).trans ?_
              refine (x_istore (l2 := [aA 0, aI l1, aI l2, aI l3, aI l4, aI a7, aI (w32 (a9 + a11)), aI (w32 (a14 - a7)), aI (w32 ((w32 (a16 + a18)) - (w32 (a9 + a11)))), aU]) f133_135 rfl rfl).trans ?_
              refine (x_iload f133_137 rfl rfl).trans ?_
              refine (x_aload f133_139 rfl rfl).trans ?_
              refine (y_get2 (ji := 9) rfl f133_140 rfl rfl).trans ?_
              refine (g_t rfl).trans ?_
              refine (g_t (by rw [show s17 0 9 = t from ws17.1]; omega)).trans ?_
              rw [show s17 0 9 = t from ws17.1]
              refine (y_get0 (ji := 6) rfl f133_143 rfl rfl).trans ?_
              refine (g_t ((kd_t ht).1)).trans ?_
              refine (x_imul f133_146 rfl).trans ?_
              refine (x_iload f133_147 rfl rfl).trans ?_
              refine (x_aload f133_149 rfl rfl).trans ?_
              refine (y_get2 (ji := 9) rfl f133_150 rfl rfl).trans ?_
              refine (g_t rfl).trans ?_
              refine (g_t (by rw [show s17 0 9 = t from ws17.1]; omega)).trans ?_
              rw [show s17 0 9 = t from ws17.1]
              refine (y_get0 (ji := 7) rfl f133_153 rfl rfl).trans ?_
              refine (g_t ((kd_t ht).1)).trans ?_
              refine (x_imul f133_156 rfl).trans ?_
              refine (x_iadd f133_157 rfl).trans ?_
              refine (x_iload f133_158 rfl rfl).trans ?_
              refine (x_aload f133_159 rfl rfl).trans ?_
              refine (y_get2 (ji := 9) rfl f133_160 rfl rfl).trans ?_
              refine (g_t rfl).trans ?_
              refine (g_t (by rw [show s17 0 9 = t from ws17.1]; omega)).trans ?_
              rw [show s17 0 9 = t from ws17.1]
              refine (y_get0 (ji := 5) rfl f133_163 rfl rfl).trans ?_
              refine (g_t ((kd_t ht).1)).trans ?_
              refine (x_iload f133_166 rfl rfl).trans ?_
              refine (x_iadd f133_168 rfl).trans ?_
              refine (x_imul f133_169 rfl).trans ?_
              refine (x_isub f133_170 rfl).trans ?_
              refine (x_istore (l2 := [aA 0, aI l1, aI l2, aI l3, aI l4, aI a7, aI (w32 (a9 + a11)), aI (w32 (a14 - a7)), aI (w32 ((w32 (a16 + a18)) - (w32 (a9 + a11)))), aI (w32 ((w32 ((w32 ((w32 (a14 - a7)) * (s17 t 6))) + (w32 ((w32 ((w32 (a16 + a18)) - (w32 (a9 + a11)))) * (s17 t 7))))) - (w32 (l3 * (w32 ((s17 t 5) + l4))))))]) f133_171 rfl rfl).trans ?_
              refine (x_iload f133_173 rfl rfl).trans ?_
              refine (x_iconst f133_175 rfl).trans ?_
              refine (x_iadd f133_178 rfl).trans ?_
              exact x_ireturn f133_179 rfl
set_option maxRecDepth 10000 in
theorem g134_0 {t : Int} (ht : t = 32 ∨ t = 37) {s : SG} (hR : RefC s) (hw : TwC s t) (l1 l2 l3 : Int) : sem 134 0 [aA 0, aI l1, aI l2, aI l3] [] s = bnI (sem 82 0 [aA t, aI l1] [] s) fun a2 s1 => if a2 = 0 then some (aI ((-1)), s1) else if l2 < 0 then some (aI ((-2)), s1) else if (20 : Int) < l2 then some (aI ((-2)), s1) else bnI (sem 144 0 [aI l3] [] s1) fun a4 s3 => if a4 = 0 then some (aI ((-2)), s3) else bnI (sem 148 0 [aA 0, aI l1, aI (if l2 < l3 then 0 else 1)] [] s3) fun a6 s5 => some (aI (w32 (l2 * a6)), s5) := by
  refine (x_aload f134_0 rfl rfl).trans ?_
  refine (y_get2 (ji := 9) rfl f134_1 rfl rfl).trans ?_
  refine (g_t rfl).trans ?_
  refine (g_t (by rw [show s 0 9 = t from hw.1]; omega)).trans ?_
  rw [show s 0 9 = t from hw.1]
  refine (x_iload f134_4 rfl rfl).trans ?_
  refine (x_invokevirtual (G := grd (kd t = 6) (bnI (sem 82 0 [aA t, aI l1] [] s) fun a2 s1 => sem 134 8 [aA 0, aI l1, aI l2, aI l3] [aI a2] s1)) f134_5 rfl rfl).trans ?_
  refine (g_t ((kd_t ht).1)).trans ?_
  refine bI_h fun a2 s1 qs1 => ?_
  have rs1 := RefC.sem qs1 rfl hR
  have ws1 := TwC.sem qs1 rfl hw
  refine (x_if_ne (tg := 13) f134_8 rfl rfl).trans (i_c ?_ ?_)
  · refine (x_iconst f134_11 rfl).trans ?_
    exact x_ireturn f134_12 rfl
  · refine (x_iload f134_13 rfl rfl).trans ?_
    refine (x_if_lt (tg := 30) f134_14 rfl rfl).trans (i_c ?_ ?_)
    · refine (x_kil (l2 := [aU, aU, aU, aU]) f134_30 rfl).trans ?_
      refine (x_iconst f134_30 rfl).trans ?_
      exact x_ireturn f134_32 rfl
    · refine (x_iload f134_17 rfl rfl).trans ?_
      refine (x_iconst f134_18 rfl).trans ?_
      refine (x_icmp_gt (tg := 30) f134_20 rfl rfl).trans (i_c ?_ ?_)
      · refine (x_kil (l2 := [aU, aU, aU, aU]) f134_30 rfl).trans ?_
        refine (x_iconst f134_30 rfl).trans ?_
        exact x_ireturn f134_32 rfl
      · refine (x_iload f134_23 rfl rfl).trans ?_
        refine (x_invokestatic (G := bnI (sem 144 0 [aI l3] [] s1) fun a4 s3 => sem 134 27 [aA 0, aI l1, aI l2, aI l3] [aI a4] s3) f134_24 rfl rfl).trans ?_
        refine bI_h fun a4 s3 qs3 => ?_
        have rs3 := RefC.sem qs3 rfl rs1
        have ws3 := TwC.sem qs3 rfl ws1
        refine (x_if_ne (tg := 33) f134_27 rfl rfl).trans (i_c ?_ ?_)
        · refine (x_kil (l2 := [aU, aU, aU, aU]) f134_30 rfl).trans ?_
          refine (x_iconst f134_30 rfl).trans ?_
          exact x_ireturn f134_32 rfl
        · refine (x_iload f134_33 rfl rfl).trans ?_
          refine (x_aload f134_34 rfl rfl).trans ?_
          refine (x_iload f134_35 rfl rfl).trans ?_
          refine (x_iload f134_36 rfl rfl).trans ?_
          refine (x_iload f134_37 rfl rfl).trans ?_
          refine (x_icmp_lt (tg := 45) f134_38 rfl rfl).trans ?_
          refine Eq.trans (b := if l2 < l3 then sem 134 46 [aU, aU, aU, aU] [aI 0, aI l1, aA 0, aI l2] s3 else sem 134 46 [aU, aU, aU, aU] [aI 1, aI l1, aA 0, aI l2] s3) (i_c ?_ ?_) ?_
          · refine (x_iconst f134_45 rfl).trans ?_
            exact x_kil f134_46 rfl
          · refine (x_iconst f134_41 rfl).trans ?_
            refine (x_goto (tg := 46) f134_42 rfl rfl).trans ?_
            exact x_kil f134_46 rfl
          refine m_I.trans ?_
          refine (x_invokevirtual (G := grd (kd 0 = 8) (bnI (sem 148 0 [aA 0, aI l1, aI (if l2 < l3 then 0 else 1)] [] s3) fun a6 s5 => sem 134 49 [aU, aU, aU, aU] [aI a6, aI l2] s5)) f134_46 rfl rfl).trans ?_
          refine (g_t rfl).trans ?_
          refine bI_h fun a6 s5 qs5 => ?_
          have rs5 := RefC.sem qs5 rfl rs3
          have ws5 := TwC.sem qs5 rfl ws3
          refine (x_imul f134_49 rfl).trans ?_
          exact x_ireturn f134_50 rfl
set_option maxRecDepth 10000 in
theorem g135_0 {t : Int} (ht : t = 32 ∨ t = 37) {s : SG} (hR : RefC s) (hw : TwC s t) (l1 l2 l3 : Int) : sem 135 0 [aA 0, aI l1, aI l2, aI l3, aU, aU, aU] [] s = bnI (sem 82 0 [aA t, aI l1] [] s) fun a2 s1 => if a2 = 0 then some (aI ((-1)), s1) else bnI (sem 144 0 [aI l2] [] s1) fun a4 s3 => if a4 = 0 then some (aI ((-2)), s3) else if l3 < 0 then some (aI ((-2)), s3) else if (999 : Int) < l3 then some (aI ((-2)), s3) else bnI (sem 148 0 [aA 0, aI l1, aI 0] [] s3) fun a6 s5 => bnI (sem 148 0 [aA 0, aI l1, aI 1] [] s5) fun a8 s7 => sem 135 53 [aU, aU, aI l2, aI l3, aI a6, aI a8, aI 0] [] s7 := by
  refine (x_aload f135_0 rfl rfl).trans ?_
  refine (y_get2 (ji := 9) rfl f135_1 rfl rfl).trans ?_
  refine (g_t rfl).trans ?_
  refine (g_t (by rw [show s 0 9 = t from hw.1]; omega)).trans ?_
  rw [show s 0 9 = t from hw.1]
  refine (x_iload f135_4 rfl rfl).trans ?_
  refine (x_invokevirtual (G := grd (kd t = 6) (bnI (sem 82 0 [aA t, aI l1] [] s) fun a2 s1 => sem 135 8 [aA 0, aI l1, aI l2, aI l3, aU, aU, aU] [aI a2] s1)) f135_5 rfl rfl).trans ?_
  refine (g_t ((kd_t ht).1)).trans ?_
  refine bI_h fun a2 s1 qs1 => ?_
  have rs1 := RefC.sem qs1 rfl hR
  have ws1 := TwC.sem qs1 rfl hw
  refine (x_if_ne (tg := 13) f135_8 rfl rfl).trans (i_c ?_ ?_)
  · refine (x_iconst f135_11 rfl).trans ?_
    exact x_ireturn f135_12 rfl
  · refine (x_iload f135_13 rfl rfl).trans ?_
    refine (x_invokestatic (G := bnI (sem 144 0 [aI l2] [] s1) fun a4 s3 => sem 135 17 [aA 0, aI l1, aI l2, aI l3, aU, aU, aU] [aI a4] s3) f135_14 rfl rfl).trans ?_
    refine bI_h fun a4 s3 qs3 => ?_
    have rs3 := RefC.sem qs3 rfl rs1
    have ws3 := TwC.sem qs3 rfl ws1
    refine (x_if_eq (tg := 31) f135_17 rfl rfl).trans (i_c ?_ ?_)
    · refine (x_kil (l2 := [aU, aU, aU, aU, aU, aU, aU]) f135_31 rfl).trans ?_
      refine (x_iconst f135_31 rfl).trans ?_
      exact x_ireturn f135_33 rfl
    · refine (x_iload f135_20 rfl rfl).trans ?_
      refine (x_if_lt (tg := 31) f135_21 rfl rfl).trans (i_c ?_ ?_)
      · refine (x_kil (l2 := [aU, aU, aU, aU, aU, aU, aU]) f135_31 rfl).trans ?_
        refine (x_iconst f135_31 rfl).trans ?_
        exact x_ireturn f135_33 rfl
      · refine (x_iload f135_24 rfl rfl).trans ?_
        refine (x_iconst f135_25 rfl).trans ?_
        refine (x_icmp_le (tg := 34) f135_28 rfl rfl).trans (i_c ?_ ?_)
        · refine (x_kil (l2 := [aU, aU, aU, aU, aU, aU, aU]) f135_31 rfl).trans ?_
          refine (x_iconst f135_31 rfl).trans ?_
          exact x_ireturn f135_33 rfl
        · refine (x_aload f135_34 rfl rfl).trans ?_
          refine (x_iload f135_35 rfl rfl).trans ?_
          refine (x_iconst f135_36 rfl).trans ?_
          refine (x_invokevirtual (G := grd (kd 0 = 8) (bnI (sem 148 0 [aA 0, aI l1, aI 0] [] s3) fun a6 s5 => sem 135 40 [aA 0, aI l1, aI l2, aI l3, aU, aU, aU] [aI a6] s5)) f135_37 rfl rfl).trans ?_
          refine (g_t rfl).trans ?_
          refine bI_h fun a6 s5 qs5 => ?_
          have rs5 := RefC.sem qs5 rfl rs3
          have ws5 := TwC.sem qs5 rfl ws3
          refine (x_istore (l2 := [aA 0, aI l1, aI l2, aI l3, aI a6, aU, aU]) f135_40 rfl rfl).trans ?_
          refine (x_aload f135_42 rfl rfl).trans ?_
          refine (x_iload f135_43 rfl rfl).trans ?_
          refine (x_iconst f135_44 rfl).trans ?_
          refine (x_invokevirtual (G := grd (kd 0 = 8) (bnI (sem 148 0 [aA 0, aI l1, aI 1] [] s5) fun a8 s7 => sem 135 48 [aA 0, aI l1, aI l2, aI l3, aI a6, aU, aU] [aI a8] s7)) f135_45 rfl rfl).trans ?_
          refine (g_t rfl).trans ?_
          refine bI_h fun a8 s7 qs7 => ?_
          have rs7 := RefC.sem qs7 rfl rs5
          have ws7 := TwC.sem qs7 rfl ws5
          refine (x_istore (l2 := [aA 0, aI l1, aI l2, aI l3, aI a6, aI a8, aU]) f135_48 rfl rfl).trans ?_
          refine (x_iconst f135_50 rfl).trans ?_
          refine (x_istore (l2 := [aA 0, aI l1, aI l2, aI l3, aI a6, aI a8, aI 0]) f135_51 rfl rfl).trans ?_
          exact x_kil f135_53 rfl
set_option maxRecDepth 10000 in
theorem g135_53 {t : Int} (ht : t = 32 ∨ t = 37) {s : SG} (hR : RefC s) (hw : TwC s t) (l2 l3 l4 l5 l6 : Int) : sem 135 53 [aU, aU, aI l2, aI l3, aI l4, aI l5, aI l6] [] s = if (20 : Int) < l6 then some (aI ((-9)), s) else if (w32 (l6 * (if l6 < l2 then l4 else l5))) < l3 then sem 135 53 [aU, aU, aI l2, aI l3, aI l4, aI l5, aI (w32 (l6 + 1))] [] s else some (aI l6, s) := by
  refine (x_iload f135_53 rfl rfl).trans ?_
  refine (x_iconst f135_55 rfl).trans ?_
  refine (x_icmp_gt (tg := 89) f135_57 rfl rfl).trans (i_c ?_ ?_)
  · refine (x_iconst f135_89 rfl).trans ?_
    exact x_ireturn f135_91 rfl
  · refine (x_iload f135_60 rfl rfl).trans ?_
    refine (x_iload f135_62 rfl rfl).trans ?_
    refine (x_iload f135_64 rfl rfl).trans ?_
    refine (x_icmp_lt (tg := 73) f135_65 rfl rfl).trans ?_
    refine Eq.trans (b := if l6 < l2 then sem 135 75 [aU, aU, aI l2, aI l3, aI l4, aI l5, aI l6] [aI l4, aI l6] s else sem 135 75 [aU, aU, aI l2, aI l3, aI l4, aI l5, aI l6] [aI l5, aI l6] s) (i_c ?_ ?_) ?_
    · refine (x_iload f135_73 rfl rfl).trans ?_
      rfl
    · refine (x_iload f135_68 rfl rfl).trans ?_
      refine (x_goto (tg := 75) f135_70 rfl rfl).trans ?_
      rfl
    refine m_I.trans ?_
    refine (x_imul f135_75 rfl).trans ?_
    refine (x_iload f135_76 rfl rfl).trans ?_
    refine (x_icmp_lt (tg := 83) f135_77 rfl rfl).trans (i_c ?_ ?_)
    · refine (x_iinc (l2 := [aU, aU, aI l2, aI l3, aI l4, aI l5, aI (w32 (l6 + 1))]) f135_83 rfl rfl rfl).trans ?_
      refine (x_goto (tg := 53) f135_86 rfl rfl).trans ?_
      rfl
    · refine (x_iload f135_80 rfl rfl).trans ?_
      exact x_ireturn f135_82 rfl
set_option maxRecDepth 10000 in
theorem g138_0 {s : SG} (hR : RefC s) (l1 : Int) : sem 138 0 [aA 0, aI l1] [] s = if l1 = 0 then bnI (sem 75 0 [aA 1] [] s) fun a2 s1 => some (aI a2, s1) else if l1 = 1 then bnI (sem 65 0 [aA 10] [] s) fun a4 s3 => some (aI a4, s3) else if l1 = 2 then some (aI (s 16 10), s) else if l1 = 3 then bnI (sem 27 0 [aA 16, aU, aU] [] s) fun a6 s5 => some (aI a6, s5) else some (aI ((-2)), s) := by
  refine (x_iload f138_0 rfl rfl).trans ?_
  refine (x_tsw f138_1 rfl).trans ?_
  refine Eq.trans (b := sem 138 (if l1 = 0 then 32 else if l1 = 1 then 40 else if l1 = 2 then 48 else if l1 = 3 then 56 else 64) [aA 0, aI l1] [] s) rfl ?_
  refine x_ite.trans (i_c ?_ ?_)
  · refine (x_aload f138_32 rfl rfl).trans ?_
    refine (y_get2 (ji := 0) rfl f138_33 rfl rfl).trans ?_
    refine (g_t rfl).trans ?_
    refine (g_t (by rw [show s 0 0 = 1 from hR.1]; decide)).trans ?_
    rw [show s 0 0 = 1 from hR.1]
    refine (x_invokevirtual (G := grd (kd 1 = 5) (bnI (sem 75 0 [aA 1] [] s) fun a2 s1 => sem 138 39 [aA 0, aI l1] [aI a2] s1)) f138_36 rfl rfl).trans ?_
    refine (g_t rfl).trans ?_
    refine bI_h fun a2 s1 qs1 => ?_
    have rs1 := RefC.sem qs1 rfl hR
    exact x_ireturn f138_39 rfl
  refine x_ite.trans (i_c ?_ ?_)
  · refine (x_aload f138_40 rfl rfl).trans ?_
    refine (y_get2 (ji := 3) rfl f138_41 rfl rfl).trans ?_
    refine (g_t rfl).trans ?_
    refine (g_t (by rw [show s 0 3 = 10 from hR.2.2.2.1]; decide)).trans ?_
    rw [show s 0 3 = 10 from hR.2.2.2.1]
    refine (x_invokevirtual (G := grd (kd 10 = 4) (bnI (sem 65 0 [aA 10] [] s) fun a4 s3 => sem 138 47 [aA 0, aI l1] [aI a4] s3)) f138_44 rfl rfl).trans ?_
    refine (g_t rfl).trans ?_
    refine bI_h fun a4 s3 qs3 => ?_
    have rs3 := RefC.sem qs3 rfl hR
    exact x_ireturn f138_47 rfl
  refine x_ite.trans (i_c ?_ ?_)
  · refine (x_aload f138_48 rfl rfl).trans ?_
    refine (y_get2 (ji := 5) rfl f138_49 rfl rfl).trans ?_
    refine (g_t rfl).trans ?_
    refine (g_t (by rw [show s 0 5 = 16 from hR.2.2.2.2.2.1]; decide)).trans ?_
    rw [show s 0 5 = 16 from hR.2.2.2.2.2.1]
    refine (y_get0 (ji := 10) rfl f138_52 rfl rfl).trans ?_
    refine (g_t rfl).trans ?_
    exact x_ireturn f138_55 rfl
  refine x_ite.trans (i_c ?_ ?_)
  · refine (x_aload f138_56 rfl rfl).trans ?_
    refine (y_get2 (ji := 5) rfl f138_57 rfl rfl).trans ?_
    refine (g_t rfl).trans ?_
    refine (g_t (by rw [show s 0 5 = 16 from hR.2.2.2.2.2.1]; decide)).trans ?_
    rw [show s 0 5 = 16 from hR.2.2.2.2.2.1]
    refine (x_invokevirtual (G := grd (kd 16 = 1) (bnI (sem 27 0 [aA 16, aU, aU] [] s) fun a6 s5 => sem 138 63 [aA 0, aI l1] [aI a6] s5)) f138_60 rfl rfl).trans ?_
    refine (g_t rfl).trans ?_
    refine bI_h fun a6 s5 qs5 => ?_
    have rs5 := RefC.sem qs5 rfl hR
    exact x_ireturn f138_63 rfl
  refine (x_iconst f138_64 rfl).trans ?_
  exact x_ireturn f138_66 rfl
set_option maxRecDepth 10000 in
theorem g145_0 {t : Int} (ht : t = 32 ∨ t = 37) {s : SG} (hR : RefC s) (hw : TwC s t) (l1 l2 : Int) : sem 145 0 [aA 0, aI l1, aI l2] [] s = bnI (sem 82 0 [aA t, aI l1] [] s) fun a2 s1 => if a2 = 0 then some (aI ((-1)), s1) else bnI (sem 143 0 [aI l2] [] s1) fun a4 s3 => if a4 = 0 then some (aI ((-2)), s3) else some (aI 0, s3) := by
  refine (x_aload f145_0 rfl rfl).trans ?_
  refine (y_get2 (ji := 9) rfl f145_1 rfl rfl).trans ?_
  refine (g_t rfl).trans ?_
  refine (g_t (by rw [show s 0 9 = t from hw.1]; omega)).trans ?_
  rw [show s 0 9 = t from hw.1]
  refine (x_iload f145_4 rfl rfl).trans ?_
  refine (x_invokevirtual (G := grd (kd t = 6) (bnI (sem 82 0 [aA t, aI l1] [] s) fun a2 s1 => sem 145 8 [aA 0, aI l1, aI l2] [aI a2] s1)) f145_5 rfl rfl).trans ?_
  refine (g_t ((kd_t ht).1)).trans ?_
  refine bI_h fun a2 s1 qs1 => ?_
  have rs1 := RefC.sem qs1 rfl hR
  have ws1 := TwC.sem qs1 rfl hw
  refine (x_if_ne (tg := 13) f145_8 rfl rfl).trans (i_c ?_ ?_)
  · refine (x_iconst f145_11 rfl).trans ?_
    exact x_ireturn f145_12 rfl
  · refine (x_iload f145_13 rfl rfl).trans ?_
    refine (x_invokestatic (G := bnI (sem 143 0 [aI l2] [] s1) fun a4 s3 => sem 145 17 [aA 0, aI l1, aI l2] [aI a4] s3) f145_14 rfl rfl).trans ?_
    refine bI_h fun a4 s3 qs3 => ?_
    have rs3 := RefC.sem qs3 rfl rs1
    have ws3 := TwC.sem qs3 rfl ws1
    refine (x_if_eq (tg := 24) f145_17 rfl rfl).trans (i_c ?_ ?_)
    · refine (x_iconst f145_24 rfl).trans ?_
      refine (x_kil (l2 := [aU, aU, aU]) f145_26 rfl).trans ?_
      exact x_ireturn f145_26 rfl
    · refine (x_iconst f145_20 rfl).trans ?_
      refine (x_goto (tg := 26) f145_21 rfl rfl).trans ?_
      refine (x_kil (l2 := [aU, aU, aU]) f145_26 rfl).trans ?_
      exact x_ireturn f145_26 rfl
set_option maxRecDepth 10000 in
theorem g146_0 {t : Int} (ht : t = 32 ∨ t = 37) {s : SG} (hR : RefC s) (hw : TwC s t) (l1 l2 l3 l4 l5 l6 : Int) : sem 146 0 [aA 0, aI l1, aI l2, aI l3, aI l4, aI l5, aI l6] [] s = if l1 < 0 then some (aI ((-1)), s) else bnI (sem 82 0 [aA t, aI (w32 (Int.tdiv l1 10))] [] s) fun a2 s1 => if a2 = 0 then some (aI ((-1)), s1) else bnI (sem 82 0 [aA t, aI (remA l1 10)] [] s1) fun a4 s3 => if a4 = 0 then some (aI ((-1)), s3) else bnI (sem 140 0 [aI l2] [] s3) fun a6 s5 => if a6 = 0 then some (aI ((-1)), s5) else if l3 < 0 then some (aI ((-2)), s5) else bnI (sem 91 0 [aI (w32 (Int.tdiv l3 100)), aI (remA l3 100), aI l4] [] s5) fun a8 s7 => if a8 = 0 then some (aI ((-2)), s7) else if l5 < l6 then some (aI ((-2)), s7) else if (6 : Int) < l5 then some (aI ((-2)), s7) else if (w32 (Int.tdiv l1 10)) = (remA l1 10) then some (aI ((-3)), s7) else some (aI 0, s7) := by
  refine (x_iload f146_0 rfl rfl).trans ?_
  refine (x_if_lt (tg := 39) f146_1 rfl rfl).trans (i_c ?_ ?_)
  · refine (x_kil (l2 := [aU, aU, aU, aU, aU, aU, aU]) f146_39 rfl).trans ?_
    refine (x_iconst f146_39 rfl).trans ?_
    exact x_ireturn f146_40 rfl
  · refine (x_aload f146_4 rfl rfl).trans ?_
    refine (y_get2 (ji := 9) rfl f146_5 rfl rfl).trans ?_
    refine (g_t rfl).trans ?_
    refine (g_t (by rw [show s 0 9 = t from hw.1]; omega)).trans ?_
    rw [show s 0 9 = t from hw.1]
    refine (x_iload f146_8 rfl rfl).trans ?_
    refine (x_iconst f146_9 rfl).trans ?_
    refine (x_idiv f146_11 rfl).trans ?_
    refine (g_t (by decide)).trans ?_
    refine (x_invokevirtual (G := grd (kd t = 6) (bnI (sem 82 0 [aA t, aI (w32 (Int.tdiv l1 10))] [] s) fun a2 s1 => sem 146 15 [aA 0, aI l1, aI l2, aI l3, aI l4, aI l5, aI l6] [aI a2] s1)) f146_12 rfl rfl).trans ?_
    refine (g_t ((kd_t ht).1)).trans ?_
    refine bI_h fun a2 s1 qs1 => ?_
    have rs1 := RefC.sem qs1 rfl hR
    have ws1 := TwC.sem qs1 rfl hw
    refine (x_if_eq (tg := 39) f146_15 rfl rfl).trans (i_c ?_ ?_)
    · refine (x_kil (l2 := [aU, aU, aU, aU, aU, aU, aU]) f146_39 rfl).trans ?_
      refine (x_iconst f146_39 rfl).trans ?_
      exact x_ireturn f146_40 rfl
    · refine (x_aload f146_18 rfl rfl).trans ?_
      refine (y_get2 (ji := 9) rfl f146_19 rfl rfl).trans ?_
      refine (g_t rfl).trans ?_
      refine (g_t (by rw [show s1 0 9 = t from ws1.1]; omega)).trans ?_
      rw [show s1 0 9 = t from ws1.1]
      refine (x_iload f146_22 rfl rfl).trans ?_
      refine (x_iconst f146_23 rfl).trans ?_
      refine (x_irem f146_25 rfl).trans ?_
      refine (g_t (by decide)).trans ?_
      refine (x_invokevirtual (G := grd (kd t = 6) (bnI (sem 82 0 [aA t, aI (remA l1 10)] [] s1) fun a4 s3 => sem 146 29 [aA 0, aI l1, aI l2, aI l3, aI l4, aI l5, aI l6] [aI a4] s3)) f146_26 rfl rfl).trans ?_
      refine (g_t ((kd_t ht).1)).trans ?_
      refine bI_h fun a4 s3 qs3 => ?_
      have rs3 := RefC.sem qs3 rfl rs1
      have ws3 := TwC.sem qs3 rfl ws1
      refine (x_if_eq (tg := 39) f146_29 rfl rfl).trans (i_c ?_ ?_)
      · refine (x_kil (l2 := [aU, aU, aU, aU, aU, aU, aU]) f146_39 rfl).trans ?_
        refine (x_iconst f146_39 rfl).trans ?_
        exact x_ireturn f146_40 rfl
      · refine (x_iload f146_32 rfl rfl).trans ?_
        refine (x_invokestatic (G := bnI (sem 140 0 [aI l2] [] s3) fun a6 s5 => sem 146 36 [aA 0, aI l1, aI l2, aI l3, aI l4, aI l5, aI l6] [aI a6] s5) f146_33 rfl rfl).trans ?_
        refine bI_h fun a6 s5 qs5 => ?_
        have rs5 := RefC.sem qs5 rfl rs3
        have ws5 := TwC.sem qs5 rfl ws3
        refine (x_if_ne (tg := 41) f146_36 rfl rfl).trans (i_c ?_ ?_)
        · refine (x_kil (l2 := [aU, aU, aU, aU, aU, aU, aU]) f146_39 rfl).trans ?_
          refine (x_iconst f146_39 rfl).trans ?_
          exact x_ireturn f146_40 rfl
        · refine (x_iload f146_41 rfl rfl).trans ?_
          refine (x_if_lt (tg := 75) f146_42 rfl rfl).trans (i_c ?_ ?_)
          · refine (x_kil (l2 := [aU, aU, aU, aU, aU, aU, aU]) f146_75 rfl).trans ?_
            refine (x_iconst f146_75 rfl).trans ?_
            exact x_ireturn f146_77 rfl
          · refine (x_iload f146_45 rfl rfl).trans ?_
            refine (x_iconst f146_46 rfl).trans ?_
            refine (x_idiv f146_48 rfl).trans ?_
            refine (g_t (by decide)).trans ?_
            refine (x_iload f146_49 rfl rfl).trans ?_
            refine (x_iconst f146_50 rfl).trans ?_
            refine (x_irem f146_52 rfl).trans ?_
            refine (g_t (by decide)).trans ?_
            refine (x_iload f146_53 rfl rfl).trans ?_
            refine (x_invokestatic (G := bnI (sem 91 0 [aI (w32 (Int.tdiv l3 100)), aI (remA l3 100), aI l4] [] s5) fun a8 s7 => sem 146 58 [aA 0, aI l1, aI l2, aI l3, aI l4, aI l5, aI l6] [aI a8] s7) f146_55 rfl rfl).trans ?_
            refine bI_h fun a8 s7 qs7 => ?_
            have rs7 := RefC.sem qs7 rfl rs5
            have ws7 := TwC.sem qs7 rfl ws5
            refine (x_if_eq (tg := 75) f146_58 rfl rfl).trans (i_c ?_ ?_)
            · refine (x_kil (l2 := [aU, aU, aU, aU, aU, aU, aU]) f146_75 rfl).trans ?_
              refine (x_iconst f146_75 rfl).trans ?_
              exact x_ireturn f146_77 rfl
            · refine (x_iload f146_61 rfl rfl).trans ?_
              refine (x_iload f146_63 rfl rfl).trans ?_
              refine (x_icmp_lt (tg := 75) f146_65 rfl rfl).trans (i_c ?_ ?_)
              · refine (x_kil (l2 := [aU, aU, aU, aU, aU, aU, aU]) f146_75 rfl).trans ?_
                refine (x_iconst f146_75 rfl).trans ?_
                exact x_ireturn f146_77 rfl
              · refine (x_iload f146_68 rfl rfl).trans ?_
                refine (x_iconst f146_70 rfl).trans ?_
                refine (x_icmp_le (tg := 78) f146_72 rfl rfl).trans (i_c ?_ ?_)
                · refine (x_kil (l2 := [aU, aU, aU, aU, aU, aU, aU]) f146_75 rfl).trans ?_
                  refine (x_iconst f146_75 rfl).trans ?_
                  exact x_ireturn f146_77 rfl
                · refine (x_iload f146_78 rfl rfl).trans ?_
                  refine (x_iconst f146_79 rfl).trans ?_
                  refine (x_idiv f146_81 rfl).trans ?_
                  refine (g_t (by decide)).trans ?_
                  refine (x_iload f146_82 rfl rfl).trans ?_
                  refine (x_iconst f146_83 rfl).trans ?_
                  refine (x_irem f146_85 rfl).trans ?_
                  refine (g_t (by decide)).trans ?_
                  refine (x_icmp_ne (tg := 94) f146_86 rfl rfl).trans (i_c ?_ ?_)
                  · refine (x_iconst f146_89 rfl).trans ?_
                    refine (x_goto (tg := 95) f146_91 rfl rfl).trans ?_
                    refine (x_kil (l2 := [aU, aU, aU, aU, aU, aU, aU]) f146_95 rfl).trans ?_
                    exact x_ireturn f146_95 rfl
                  · refine (x_iconst f146_94 rfl).trans ?_
                    refine (x_kil (l2 := [aU, aU, aU, aU, aU, aU, aU]) f146_95 rfl).trans ?_
                    exact x_ireturn f146_95 rfl
set_option maxRecDepth 10000 in
theorem g147_0 {t : Int} (ht : t = 32 ∨ t = 37) {s : SG} (hR : RefC s) (hw : TwC s t) : sem 147 0 [aA 0, aU, aU] [] s = bnV (sem 45 0 [aA 23, aA t, aA 16] [] s) fun s1 => sem 147 19 [aA 0, aI 0, aI 0] [] s1 := by
  refine (x_aload f147_0 rfl rfl).trans ?_
  refine (y_get2 (ji := 6) rfl f147_1 rfl rfl).trans ?_
  refine (g_t rfl).trans ?_
  refine (g_t (by rw [show s 0 6 = 23 from hR.2.2.2.2.2.2.1]; decide)).trans ?_
  rw [show s 0 6 = 23 from hR.2.2.2.2.2.2.1]
  refine (x_aload f147_4 rfl rfl).trans ?_
  refine (y_get2 (ji := 9) rfl f147_5 rfl rfl).trans ?_
  refine (g_t rfl).trans ?_
  refine (g_t (by rw [show s 0 9 = t from hw.1]; omega)).trans ?_
  rw [show s 0 9 = t from hw.1]
  refine (x_aload f147_8 rfl rfl).trans ?_
  refine (y_get2 (ji := 5) rfl f147_9 rfl rfl).trans ?_
  refine (g_t rfl).trans ?_
  refine (g_t (by rw [show s 0 5 = 16 from hR.2.2.2.2.2.1]; decide)).trans ?_
  rw [show s 0 5 = 16 from hR.2.2.2.2.2.1]
  refine (x_invokevirtual (G := grd (kd 23 = 3) (bnV (sem 45 0 [aA 23, aA t, aA 16] [] s) fun s1 => sem 147 15 [aA 0, aU, aU] [] s1)) f147_12 rfl rfl).trans ?_
  refine (g_t rfl).trans ?_
  refine bV_h fun s1 qs1 => ?_
  have rs1 := RefC.sem qs1 rfl hR
  have ws1 := TwC.sem qs1 rfl hw
  refine (x_iconst f147_15 rfl).trans ?_
  refine (x_istore (l2 := [aA 0, aI 0, aU]) f147_16 rfl rfl).trans ?_
  refine (x_iconst f147_17 rfl).trans ?_
  refine (x_istore (l2 := [aA 0, aI 0, aI 0]) f147_18 rfl rfl).trans ?_
  rfl
set_option maxRecDepth 10000 in
theorem g147_19 {t : Int} (ht : t = 32 ∨ t = 37) {s : SG} (hR : RefC s) (hw : TwC s t) (l1 l2 : Int) : sem 147 19 [aA 0, aI l1, aI l2] [] s = if l2 < (s t 4) then bnI (sem 58 0 [aA 23, aI l2, aU] [] s) fun a2 s1 => bnI (sem 28 0 [aA 16, aI l2, aI (if a2 = ((-9)) then 1 else 0), aU] [] s1) fun a4 s3 => if a4 = 0 then sem 147 19 [aA 0, aI l1, aI (w32 (l2 + 1))] [] s3 else sem 147 19 [aA 0, aI (w32 (l1 + 1)), aI (w32 (l2 + 1))] [] s3 else some (aI l1, s) := by
  refine (x_iload f147_19 rfl rfl).trans ?_
  refine (x_aload f147_20 rfl rfl).trans ?_
  refine (y_get2 (ji := 9) rfl f147_21 rfl rfl).trans ?_
  refine (g_t rfl).trans ?_
  refine (g_t (by rw [show s 0 9 = t from hw.1]; omega)).trans ?_
  rw [show s 0 9 = t from hw.1]
  refine (y_get0 (ji := 4) rfl f147_24 rfl rfl).trans ?_
  refine (g_t ((kd_t ht).1)).trans ?_
  refine (x_icmp_ge (tg := 68) f147_27 rfl rfl).trans (i_c ?_ ?_)
  · refine (x_aload f147_30 rfl rfl).trans ?_
    refine (y_get2 (ji := 5) rfl f147_31 rfl rfl).trans ?_
    refine (g_t rfl).trans ?_
    refine (g_t (by rw [show s 0 5 = 16 from hR.2.2.2.2.2.1]; decide)).trans ?_
    rw [show s 0 5 = 16 from hR.2.2.2.2.2.1]
    refine (x_iload f147_34 rfl rfl).trans ?_
    refine (x_aload f147_35 rfl rfl).trans ?_
    refine (y_get2 (ji := 6) rfl f147_36 rfl rfl).trans ?_
    refine (g_t rfl).trans ?_
    refine (g_t (by rw [show s 0 6 = 23 from hR.2.2.2.2.2.2.1]; decide)).trans ?_
    rw [show s 0 6 = 23 from hR.2.2.2.2.2.2.1]
    refine (x_iload f147_39 rfl rfl).trans ?_
    refine (x_invokevirtual (G := grd (kd 23 = 3) (bnI (sem 58 0 [aA 23, aI l2, aU] [] s) fun a2 s1 => sem 147 43 [aA 0, aI l1, aI l2] [aI a2, aI l2, aA 16] s1)) f147_40 rfl rfl).trans ?_
    refine (g_t rfl).trans ?_
    refine bI_h fun a2 s1 qs1 => ?_
    have rs1 := RefC.sem qs1 rfl hR
    have ws1 := TwC.sem qs1 rfl hw
    refine (x_iconst f147_43 rfl).trans ?_
    refine (x_icmp_ne (tg := 52) f147_45 rfl rfl).trans ?_
    refine Eq.trans (b := if a2 = ((-9)) then sem 147 53 [aA 0, aI l1, aI l2] [aI 1, aI l2, aA 16] s1 else sem 147 53 [aA 0, aI l1, aI l2] [aI 0, aI l2, aA 16] s1) (i_c ?_ ?_) ?_
    · refine (x_iconst f147_48 rfl).trans ?_
      refine (x_goto (tg := 53) f147_49 rfl rfl).trans ?_
      rfl
    · refine (x_iconst f147_52 rfl).trans ?_
      rfl
    refine m_I.trans ?_
    refine (x_invokevirtual (G := grd (kd 16 = 1) (bnI (sem 28 0 [aA 16, aI l2, aI (if a2 = ((-9)) then 1 else 0), aU] [] s1) fun a4 s3 => sem 147 56 [aA 0, aI l1, aI l2] [aI a4] s3)) f147_53 rfl rfl).trans ?_
    refine (g_t rfl).trans ?_
    refine bI_h fun a4 s3 qs3 => ?_
    have rs3 := RefC.sem qs3 rfl rs1
    have ws3 := TwC.sem qs3 rfl ws1
    refine (x_if_eq (tg := 62) f147_56 rfl rfl).trans (i_c ?_ ?_)
    · refine (x_iinc (l2 := [aA 0, aI l1, aI (w32 (l2 + 1))]) f147_62 rfl rfl rfl).trans ?_
      refine (x_goto (tg := 19) f147_65 rfl rfl).trans ?_
      rfl
    · refine (x_iinc (l2 := [aA 0, aI (w32 (l1 + 1)), aI l2]) f147_59 rfl rfl rfl).trans ?_
      refine (x_iinc (l2 := [aA 0, aI (w32 (l1 + 1)), aI (w32 (l2 + 1))]) f147_62 rfl rfl rfl).trans ?_
      refine (x_goto (tg := 19) f147_65 rfl rfl).trans ?_
      rfl
  · refine (x_iload f147_68 rfl rfl).trans ?_
    exact x_ireturn f147_69 rfl
set_option maxRecDepth 10000 in
theorem g148_0 {t : Int} (ht : t = 32 ∨ t = 37) {s : SG} (hR : RefC s) (hw : TwC s t) (l1 l2 : Int) : sem 148 0 [aA 0, aI l1, aI l2] [] s = if l2 = 0 then bnV (sem 45 0 [aA 23, aA t, aA 16] [] s) fun s1 => bnI (sem 57 0 [aA 23, aI l1, aI 5] [] s1) fun a3 s2 => some (aI a3, s2) else bnV (sem 46 0 [aA 23, aA t, aA 16, aI l1] [] s) fun s4 => bnI (sem 57 0 [aA 23, aI l1, aI 5] [] s4) fun a6 s5 => some (aI a6, s5) := by
  refine (x_iload f148_0 rfl rfl).trans ?_
  refine (x_if_eq (tg := 23) f148_1 rfl rfl).trans (i_c ?_ ?_)
  · refine (x_aload f148_23 rfl rfl).trans ?_
    refine (y_get2 (ji := 6) rfl f148_24 rfl rfl).trans ?_
    refine (g_t rfl).trans ?_
    refine (g_t (by rw [show s 0 6 = 23 from hR.2.2.2.2.2.2.1]; decide)).trans ?_
    rw [show s 0 6 = 23 from hR.2.2.2.2.2.2.1]
    refine (x_aload f148_27 rfl rfl).trans ?_
    refine (y_get2 (ji := 9) rfl f148_28 rfl rfl).trans ?_
    refine (g_t rfl).trans ?_
    refine (g_t (by rw [show s 0 9 = t from hw.1]; omega)).trans ?_
    rw [show s 0 9 = t from hw.1]
    refine (x_aload f148_31 rfl rfl).trans ?_
    refine (y_get2 (ji := 5) rfl f148_32 rfl rfl).trans ?_
    refine (g_t rfl).trans ?_
    refine (g_t (by rw [show s 0 5 = 16 from hR.2.2.2.2.2.1]; decide)).trans ?_
    rw [show s 0 5 = 16 from hR.2.2.2.2.2.1]
    refine (x_invokevirtual (G := grd (kd 23 = 3) (bnV (sem 45 0 [aA 23, aA t, aA 16] [] s) fun s1 => sem 148 38 [aA 0, aI l1, aI l2] [] s1)) f148_35 rfl rfl).trans ?_
    refine (g_t rfl).trans ?_
    refine bV_h fun s1 qs1 => ?_
    have rs1 := RefC.sem qs1 rfl hR
    have ws1 := TwC.sem qs1 rfl hw
    refine (x_kil (l2 := [aA 0, aI l1, aU]) f148_38 rfl).trans ?_
    refine (x_aload f148_38 rfl rfl).trans ?_
    refine (y_get2 (ji := 6) rfl f148_39 rfl rfl).trans ?_
    refine (g_t rfl).trans ?_
    refine (g_t (by rw [show s1 0 6 = 23 from rs1.2.2.2.2.2.2.1]; decide)).trans ?_
    rw [show s1 0 6 = 23 from rs1.2.2.2.2.2.2.1]
    refine (x_iload f148_42 rfl rfl).trans ?_
    refine (x_iconst f148_43 rfl).trans ?_
    refine (x_invokevirtual (G := grd (kd 23 = 3) (bnI (sem 57 0 [aA 23, aI l1, aI 5] [] s1) fun a3 s2 => sem 148 47 [aA 0, aI l1, aU] [aI a3] s2)) f148_44 rfl rfl).trans ?_
    refine (g_t rfl).trans ?_
    refine bI_h fun a3 s2 qs2 => ?_
    have rs2 := RefC.sem qs2 rfl rs1
    have ws2 := TwC.sem qs2 rfl ws1
    exact x_ireturn f148_47 rfl
  · refine (x_aload f148_4 rfl rfl).trans ?_
    refine (y_get2 (ji := 6) rfl f148_5 rfl rfl).trans ?_
    refine (g_t rfl).trans ?_
    refine (g_t (by rw [show s 0 6 = 23 from hR.2.2.2.2.2.2.1]; decide)).trans ?_
    rw [show s 0 6 = 23 from hR.2.2.2.2.2.2.1]
    refine (x_aload f148_8 rfl rfl).trans ?_
    refine (y_get2 (ji := 9) rfl f148_9 rfl rfl).trans ?_
    refine (g_t rfl).trans ?_
    refine (g_t (by rw [show s 0 9 = t from hw.1]; omega)).trans ?_
    rw [show s 0 9 = t from hw.1]
    refine (x_aload f148_12 rfl rfl).trans ?_
    refine (y_get2 (ji := 5) rfl f148_13 rfl rfl).trans ?_
    refine (g_t rfl).trans ?_
    refine (g_t (by rw [show s 0 5 = 16 from hR.2.2.2.2.2.1]; decide)).trans ?_
    rw [show s 0 5 = 16 from hR.2.2.2.2.2.1]
    refine (x_iload f148_16 rfl rfl).trans ?_
    refine (x_invokevirtual (G := grd (kd 23 = 3) (bnV (sem 46 0 [aA 23, aA t, aA 16, aI l1] [] s) fun s4 => sem 148 20 [aA 0, aI l1, aI l2] [] s4)) f148_17 rfl rfl).trans ?_
    refine (g_t rfl).trans ?_
    refine bV_h fun s4 qs4 => ?_
    have rs4 := RefC.sem qs4 rfl hR
    have ws4 := TwC.sem qs4 rfl hw
    refine (x_goto (tg := 38) f148_20 rfl rfl).trans ?_
    refine (x_kil (l2 := [aA 0, aI l1, aU]) f148_38 rfl).trans ?_
    refine (x_aload f148_38 rfl rfl).trans ?_
    refine (y_get2 (ji := 6) rfl f148_39 rfl rfl).trans ?_
    refine (g_t rfl).trans ?_
    refine (g_t (by rw [show s4 0 6 = 23 from rs4.2.2.2.2.2.2.1]; decide)).trans ?_
    rw [show s4 0 6 = 23 from rs4.2.2.2.2.2.2.1]
    refine (x_iload f148_42 rfl rfl).trans ?_
    refine (x_iconst f148_43 rfl).trans ?_
    refine (x_invokevirtual (G := grd (kd 23 = 3) (bnI (sem 57 0 [aA 23, aI l1, aI 5] [] s4) fun a6 s5 => sem 148 47 [aA 0, aI l1, aU] [aI a6] s5)) f148_44 rfl rfl).trans ?_
    refine (g_t rfl).trans ?_
    refine bI_h fun a6 s5 qs5 => ?_
    have rs5 := RefC.sem qs5 rfl rs4
    have ws5 := TwC.sem qs5 rfl ws4
    exact x_ireturn f148_47 rfl
set_option maxRecDepth 10000 in
theorem g153_0 {s : SG} (hR : RefC s) : sem 153 0 [aA 56, aU] [] s = sem 153 2 [aA 56, aI 0] [] s := by
  refine (x_iconst f153_0 rfl).trans ?_
  refine (x_istore (l2 := [aA 56, aI 0]) f153_1 rfl rfl).trans ?_
  rfl
set_option maxRecDepth 10000 in
theorem g153_2 {s : SG} (hR : RefC s) (l1 : Int) : sem 153 2 [aA 56, aI l1] [] s = if l1 < 28 then if (18 : Int) < l1 then grd ((0 : Int) ≤ l1 ∧ l1 < 28) (sem 153 2 [aA 56, aI (w32 (l1 + 1))] [] (up (up s 57 l1 5) 59 l1 0)) else if l1 = 6 then grd ((0 : Int) ≤ l1 ∧ l1 < 28) (sem 153 2 [aA 56, aI (w32 (l1 + 1))] [] (up (up s 57 l1 5) 59 l1 0)) else if (9 : Int) < l1 then grd ((0 : Int) ≤ l1 ∧ l1 < 28) (sem 153 2 [aA 56, aI (w32 (l1 + 1))] [] (up (up s 57 l1 1) 59 l1 0)) else bnI (sem 152 0 [aL l1, aU, aL 1, aU, aL 3, aU] [] s) fun a5 s4 => grd ((0 : Int) ≤ l1 ∧ l1 < 28) (sem 153 2 [aA 56, aI (w32 (l1 + 1))] [] (up (up s4 57 l1 (if a5 = 0 then if (6 : Int) < l1 then (-9) else if l1 = 4 then 10 else if l1 = 5 then 20 else 0 else 1)) 59 l1 0)) else some (aU, s) := by
  refine (x_iload f153_2 rfl rfl).trans ?_
  refine (x_iconst f153_3 rfl).trans ?_
  refine (x_icmp_ge (tg := 97) f153_5 rfl rfl).trans (i_c ?_ ?_)
  · refine (x_aload f153_8 rfl rfl).trans ?_
    refine (y_get2 (ji := 0) rfl f153_9 rfl rfl).trans ?_
    refine (g_t rfl).trans ?_
    refine (g_t (by rw [show s 56 0 = 57 from hR.2.2.2.2.2.2.2.2.2.2.2.2.2.2.2.2.2.2.2.2.2.2.2.2.2.2.2.2.2.2.2.2.2.2.2.2.2.2.2.2.2.2.2.2.2.2.2.2.2.2.2.2.2.1]; decide)).trans ?_
    rw [show s 56 0 = 57 from hR.2.2.2.2.2.2.2.2.2.2.2.2.2.2.2.2.2.2.2.2.2.2.2.2.2.2.2.2.2.2.2.2.2.2.2.2.2.2.2.2.2.2.2.2.2.2.2.2.2.2.2.2.2.1]
    refine (x_iload f153_12 rfl rfl).trans ?_
    refine (x_iload f153_13 rfl rfl).trans ?_
    refine (x_iconst f153_14 rfl).trans ?_
    refine (x_icmp_gt (tg := 25) f153_16 rfl rfl).trans (i_c ?_ ?_)
    · refine (x_iconst f153_25 rfl).trans ?_
      refine (x_goto (tg := 83) f153_26 rfl rfl).trans ?_
      refine (x_iastore f153_83 rfl).trans ?_
      refine (g_t rfl).trans ?_
      refine g_kl (n := 28) rfl fun hg1 => ?_
      refine (x_aload f153_84 rfl rfl).trans ?_
      refine (y_get2 (ji := 2) rfl f153_85 rfl rfl).trans ?_
      refine (g_t rfl).trans ?_
      refine (g_t (by rw [show (up s 57 l1 5) 56 2 = 59 from (by rw [up_ne (by decide)]; exact hR.2.2.2.2.2.2.2.2.2.2.2.2.2.2.2.2.2.2.2.2.2.2.2.2.2.2.2.2.2.2.2.2.2.2.2.2.2.2.2.2.2.2.2.2.2.2.2.2.2.2.2.2.2.2.2.1)]; decide)).trans ?_
      rw [show (up s 57 l1 5) 56 2 = 59 from (by rw [up_ne (by decide)]; exact hR.2.2.2.2.2.2.2.2.2.2.2.2.2.2.2.2.2.2.2.2.2.2.2.2.2.2.2.2.2.2.2.2.2.2.2.2.2.2.2.2.2.2.2.2.2.2.2.2.2.2.2.2.2.2.2.1)]
      refine (x_iload f153_88 rfl rfl).trans ?_
      refine (x_iconst f153_89 rfl).trans ?_
      refine (x_bastore f153_90 rfl).trans ?_
      refine (g_t rfl).trans ?_
      refine (g_kt (n := 28) rfl hg1).trans ?_
      refine (g_t (by decide)).trans ?_
      refine (x_iinc (l2 := [aA 56, aI (w32 (l1 + 1))]) f153_91 rfl rfl rfl).trans ?_
      refine (x_goto (tg := 2) f153_94 rfl rfl).trans ?_
      rfl
    · refine (x_iload f153_19 rfl rfl).trans ?_
      refine (x_iconst f153_20 rfl).trans ?_
      refine (x_icmp_ne (tg := 29) f153_22 rfl rfl).trans (i_c ?_ ?_)
      · refine (x_iconst f153_25 rfl).trans ?_
        refine (x_goto (tg := 83) f153_26 rfl rfl).trans ?_
        refine (x_iastore f153_83 rfl).trans ?_
        refine (g_t rfl).trans ?_
        refine g_kl (n := 28) rfl fun hg2 => ?_
        refine (x_aload f153_84 rfl rfl).trans ?_
        refine (y_get2 (ji := 2) rfl f153_85 rfl rfl).trans ?_
        refine (g_t rfl).trans ?_
        refine (g_t (by rw [show (up s 57 l1 5) 56 2 = 59 from (by rw [up_ne (by decide)]; exact hR.2.2.2.2.2.2.2.2.2.2.2.2.2.2.2.2.2.2.2.2.2.2.2.2.2.2.2.2.2.2.2.2.2.2.2.2.2.2.2.2.2.2.2.2.2.2.2.2.2.2.2.2.2.2.2.1)]; decide)).trans ?_
        rw [show (up s 57 l1 5) 56 2 = 59 from (by rw [up_ne (by decide)]; exact hR.2.2.2.2.2.2.2.2.2.2.2.2.2.2.2.2.2.2.2.2.2.2.2.2.2.2.2.2.2.2.2.2.2.2.2.2.2.2.2.2.2.2.2.2.2.2.2.2.2.2.2.2.2.2.2.1)]
        refine (x_iload f153_88 rfl rfl).trans ?_
        refine (x_iconst f153_89 rfl).trans ?_
        refine (x_bastore f153_90 rfl).trans ?_
        refine (g_t rfl).trans ?_
        refine (g_kt (n := 28) rfl hg2).trans ?_
        refine (g_t (by decide)).trans ?_
        refine (x_iinc (l2 := [aA 56, aI (w32 (l1 + 1))]) f153_91 rfl rfl rfl).trans ?_
        refine (x_goto (tg := 2) f153_94 rfl rfl).trans ?_
        rfl
      · refine (x_iload f153_29 rfl rfl).trans ?_
        refine (x_iconst f153_30 rfl).trans ?_
        refine (x_icmp_gt (tg := 47) f153_32 rfl rfl).trans (i_c ?_ ?_)
        · refine (x_iconst f153_47 rfl).trans ?_
          refine (x_goto (tg := 83) f153_48 rfl rfl).trans ?_
          refine (x_iastore f153_83 rfl).trans ?_
          refine (g_t rfl).trans ?_
          refine g_kl (n := 28) rfl fun hg3 => ?_
          refine (x_aload f153_84 rfl rfl).trans ?_
          refine (y_get2 (ji := 2) rfl f153_85 rfl rfl).trans ?_
          refine (g_t rfl).trans ?_
          refine (g_t (by rw [show (up s 57 l1 1) 56 2 = 59 from (by rw [up_ne (by decide)]; exact hR.2.2.2.2.2.2.2.2.2.2.2.2.2.2.2.2.2.2.2.2.2.2.2.2.2.2.2.2.2.2.2.2.2.2.2.2.2.2.2.2.2.2.2.2.2.2.2.2.2.2.2.2.2.2.2.1)]; decide)).trans ?_
          rw [show (up s 57 l1 1) 56 2 = 59 from (by rw [up_ne (by decide)]; exact hR.2.2.2.2.2.2.2.2.2.2.2.2.2.2.2.2.2.2.2.2.2.2.2.2.2.2.2.2.2.2.2.2.2.2.2.2.2.2.2.2.2.2.2.2.2.2.2.2.2.2.2.2.2.2.2.1)]
          refine (x_iload f153_88 rfl rfl).trans ?_
          refine (x_iconst f153_89 rfl).trans ?_
          refine (x_bastore f153_90 rfl).trans ?_
          refine (g_t rfl).trans ?_
          refine (g_kt (n := 28) rfl hg3).trans ?_
          refine (g_t (by decide)).trans ?_
          refine (x_iinc (l2 := [aA 56, aI (w32 (l1 + 1))]) f153_91 rfl rfl rfl).trans ?_
          refine (x_goto (tg := 2) f153_94 rfl rfl).trans ?_
          rfl
        · refine (x_iload f153_35 rfl rfl).trans ?_
          refine (x_i2l f153_36 rfl).trans ?_
          refine (x_lconst f153_37 rfl).trans ?_
          refine (x_lconst f153_38 rfl).trans ?_
          refine (x_invokestatic (G := bnI (sem 152 0 [aL l1, aU, aL 1, aU, aL 3, aU] [] s) fun a5 s4 => sem 153 44 [aA 56, aI l1] [aI a5, aI l1, aA 57] s4) f153_41 rfl rfl).trans ?_
          refine bI_h fun a5 s4 qs4 => ?_
          have rs4 := RefC.sem qs4 rfl hR
          refine (x_if_eq (tg := 51) f153_44 rfl rfl).trans ?_
          refine Eq.trans (b := if a5 = 0 then sem 153 83 [aA 56, aI l1] [aI (if (6 : Int) < l1 then (-9) else if l1 = 4 then 10 else if l1 = 5 then 20 else 0), aI l1, aA 57] s4 else sem 153 83 [aA 56, aI l1] [aI 1, aI l1, aA 57] s4) (i_c ?_ ?_) ?_
          · refine (x_iload f153_51 rfl rfl).trans ?_
            refine (x_iconst f153_52 rfl).trans ?_
            refine (x_icmp_le (tg := 62) f153_54 rfl rfl).trans ?_
            refine Eq.trans (b := if (6 : Int) < l1 then sem 153 83 [aA 56, aI l1] [aI ((-9)), aI l1, aA 57] s4 else sem 153 83 [aA 56, aI l1] [aI (if l1 = 4 then 10 else if l1 = 5 then 20 else 0), aI l1, aA 57] s4) (i_c ?_ ?_) ?_
            · refine (x_iconst f153_57 rfl).trans ?_
              refine (x_goto (tg := 83) f153_59 rfl rfl).trans ?_
              rfl
            · refine (x_iload f153_62 rfl rfl).trans ?_
              refine (x_iconst f153_63 rfl).trans ?_
              refine (x_icmp_ne (tg := 72) f153_64 rfl rfl).trans ?_
              refine Eq.trans (b := if l1 = 4 then sem 153 83 [aA 56, aI l1] [aI 10, aI l1, aA 57] s4 else sem 153 83 [aA 56, aI l1] [aI (if l1 = 5 then 20 else 0), aI l1, aA 57] s4) (i_c ?_ ?_) ?_
              · refine (x_iconst f153_67 rfl).trans ?_
                refine (x_goto (tg := 83) f153_69 rfl rfl).trans ?_
                rfl
              · refine (x_iload f153_72 rfl rfl).trans ?_
                refine (x_iconst f153_73 rfl).trans ?_
                refine (x_icmp_ne (tg := 82) f153_74 rfl rfl).trans ?_
                refine Eq.trans (b := if l1 = 5 then sem 153 83 [aA 56, aI l1] [aI 20, aI l1, aA 57] s4 else sem 153 83 [aA 56, aI l1] [aI 0, aI l1, aA 57] s4) (i_c ?_ ?_) ?_
                · refine (x_iconst f153_77 rfl).trans ?_
                  refine (x_goto (tg := 83) f153_79 rfl rfl).trans ?_
                  rfl
                · refine (x_iconst f153_82 rfl).trans ?_
                  rfl
                refine m_I.trans ?_
                rfl
              refine m_I.trans ?_
              rfl
            refine m_I.trans ?_
            rfl
          · refine (x_iconst f153_47 rfl).trans ?_
            refine (x_goto (tg := 83) f153_48 rfl rfl).trans ?_
            rfl
          refine m_I.trans ?_
          refine (x_iastore f153_83 rfl).trans ?_
          refine (g_t rfl).trans ?_
          refine g_kl (n := 28) rfl fun hg6 => ?_
          refine (x_aload f153_84 rfl rfl).trans ?_
          refine (y_get2 (ji := 2) rfl f153_85 rfl rfl).trans ?_
          refine (g_t rfl).trans ?_
          refine (g_t (by rw [show (up s4 57 l1 (if a5 = 0 then if (6 : Int) < l1 then (-9) else if l1 = 4 then 10 else if l1 = 5 then 20 else 0 else 1)) 56 2 = 59 from (by rw [up_ne (by decide)]; exact rs4.2.2.2.2.2.2.2.2.2.2.2.2.2.2.2.2.2.2.2.2.2.2.2.2.2.2.2.2.2.2.2.2.2.2.2.2.2.2.2.2.2.2.2.2.2.2.2.2.2.2.2.2.2.2.2.1)]; decide)).trans ?_
          rw [show (up s4 57 l1 (if a5 = 0 then if (6 : Int) < l1 then (-9) else if l1 = 4 then 10 else if l1 = 5 then 20 else 0 else 1)) 56 2 = 59 from (by rw [up_ne (by decide)]; exact rs4.2.2.2.2.2.2.2.2.2.2.2.2.2.2.2.2.2.2.2.2.2.2.2.2.2.2.2.2.2.2.2.2.2.2.2.2.2.2.2.2.2.2.2.2.2.2.2.2.2.2.2.2.2.2.2.1)]
          refine (x_iload f153_88 rfl rfl).trans ?_
          refine (x_iconst f153_89 rfl).trans ?_
          refine (x_bastore f153_90 rfl).trans ?_
          refine (g_t rfl).trans ?_
          refine (g_kt (n := 28) rfl hg6).trans ?_
          refine (g_t (by decide)).trans ?_
          refine (x_iinc (l2 := [aA 56, aI (w32 (l1 + 1))]) f153_91 rfl rfl rfl).trans ?_
          refine (x_goto (tg := 2) f153_94 rfl rfl).trans ?_
          rfl
  · exact x_return f153_97 rfl
set_option maxRecDepth 10000 in
theorem g154_0 {s : SG} (hR : RefC s) : sem 154 0 [aA 56, aU] [] s = sem 154 2 [aA 56, aI 0] [] s := by
  refine (x_iconst f154_0 rfl).trans ?_
  refine (x_istore (l2 := [aA 56, aI 0]) f154_1 rfl rfl).trans ?_
  rfl
set_option maxRecDepth 10000 in
theorem g154_2 {s : SG} (hR : RefC s) (l1 : Int) : sem 154 2 [aA 56, aI l1] [] s = if l1 < 28 then grd ((0 : Int) ≤ l1 ∧ l1 < 28) (sem 154 2 [aA 56, aI (w32 (l1 + 1))] [] (up s 58 l1 (s 57 l1))) else sem 154 72 [aA 56, aI 0] [] (up (up (up (up (up (up (up (up s 56 9 0) 79 0 0) 79 1 0) 56 15 0) 56 19 0) 56 20 0) 56 21 0) 56 22 0) := by
  refine (x_iload f154_2 rfl rfl).trans ?_
  refine (x_iconst f154_3 rfl).trans ?_
  refine (x_icmp_ge (tg := 26) f154_5 rfl rfl).trans (i_c ?_ ?_)
  · refine (x_aload f154_8 rfl rfl).trans ?_
    refine (y_get2 (ji := 1) rfl f154_9 rfl rfl).trans ?_
    refine (g_t rfl).trans ?_
    refine (g_t (by rw [show s 56 1 = 58 from hR.2.2.2.2.2.2.2.2.2.2.2.2.2.2.2.2.2.2.2.2.2.2.2.2.2.2.2.2.2.2.2.2.2.2.2.2.2.2.2.2.2.2.2.2.2.2.2.2.2.2.2.2.2.2.1]; decide)).trans ?_
    rw [show s 56 1 = 58 from hR.2.2.2.2.2.2.2.2.2.2.2.2.2.2.2.2.2.2.2.2.2.2.2.2.2.2.2.2.2.2.2.2.2.2.2.2.2.2.2.2.2.2.2.2.2.2.2.2.2.2.2.2.2.2.1]
    refine (x_iload f154_12 rfl rfl).trans ?_
    refine (x_aload f154_13 rfl rfl).trans ?_
    refine (y_get2 (ji := 0) rfl f154_14 rfl rfl).trans ?_
    refine (g_t rfl).trans ?_
    refine (g_t (by rw [show s 56 0 = 57 from hR.2.2.2.2.2.2.2.2.2.2.2.2.2.2.2.2.2.2.2.2.2.2.2.2.2.2.2.2.2.2.2.2.2.2.2.2.2.2.2.2.2.2.2.2.2.2.2.2.2.2.2.2.2.1]; decide)).trans ?_
    rw [show s 56 0 = 57 from hR.2.2.2.2.2.2.2.2.2.2.2.2.2.2.2.2.2.2.2.2.2.2.2.2.2.2.2.2.2.2.2.2.2.2.2.2.2.2.2.2.2.2.2.2.2.2.2.2.2.2.2.2.2.1]
    refine (x_iload f154_17 rfl rfl).trans ?_
    refine (x_iaload f154_18 rfl).trans ?_
    refine (g_t rfl).trans ?_
    refine g_kl (n := 28) rfl fun hg1 => ?_
    refine (x_iastore f154_19 rfl).trans ?_
    refine (g_t rfl).trans ?_
    refine (g_kt (n := 28) rfl hg1).trans ?_
    refine (x_iinc (l2 := [aA 56, aI (w32 (l1 + 1))]) f154_20 rfl rfl rfl).trans ?_
    refine (x_goto (tg := 2) f154_23 rfl rfl).trans ?_
    rfl
  · refine (x_aload f154_26 rfl rfl).trans ?_
    refine (x_iconst f154_27 rfl).trans ?_
    refine (y_put0 (ji := 9) rfl f154_28 rfl rfl).trans ?_
    refine (g_t rfl).trans ?_
    refine (x_aload f154_31 rfl rfl).trans ?_
    refine (y_get2 (ji := 39) rfl f154_32 rfl rfl).trans ?_
    refine (g_t rfl).trans ?_
    refine (g_t (by rw [show (up s 56 9 0) 56 39 = 79 from (by rw [up_ni (by decide)]; exact hR.2.2.2.2.2.2.2.2.2.2.2.2.2.2.2.2.2.2.2.2.2.2.2.2.2.2.2.2.2.2.2.2.2.2.2.2.2.2.2.2.2.2.2.2.2.2.2.2.2.2.2.2.2.2.2.2.2.2.2.2.2.2.2.2.2.2.2.2.2.2.2.2.2.2.2.1)]; decide)).trans ?_
    rw [show (up s 56 9 0) 56 39 = 79 from (by rw [up_ni (by decide)]; exact hR.2.2.2.2.2.2.2.2.2.2.2.2.2.2.2.2.2.2.2.2.2.2.2.2.2.2.2.2.2.2.2.2.2.2.2.2.2.2.2.2.2.2.2.2.2.2.2.2.2.2.2.2.2.2.2.2.2.2.2.2.2.2.2.2.2.2.2.2.2.2.2.2.2.2.2.1)]
    refine (x_iconst f154_35 rfl).trans ?_
    refine (x_iconst f154_36 rfl).trans ?_
    refine (x_bastore f154_37 rfl).trans ?_
    refine (g_t rfl).trans ?_
    refine (g_kt (n := 2) rfl (by decide)).trans ?_
    refine (g_t (by decide)).trans ?_
    refine (x_aload f154_38 rfl rfl).trans ?_
    refine (y_get2 (ji := 39) rfl f154_39 rfl rfl).trans ?_
    refine (g_t rfl).trans ?_
    refine (g_t (by rw [show (up (up s 56 9 0) 79 0 0) 56 39 = 79 from (by rw [up_ne (by decide), up_ni (by decide)]; exact hR.2.2.2.2.2.2.2.2.2.2.2.2.2.2.2.2.2.2.2.2.2.2.2.2.2.2.2.2.2.2.2.2.2.2.2.2.2.2.2.2.2.2.2.2.2.2.2.2.2.2.2.2.2.2.2.2.2.2.2.2.2.2.2.2.2.2.2.2.2.2.2.2.2.2.2.1)]; decide)).trans ?_
    rw [show (up (up s 56 9 0) 79 0 0) 56 39 = 79 from (by rw [up_ne (by decide), up_ni (by decide)]; exact hR.2.2.2.2.2.2.2.2.2.2.2.2.2.2.2.2.2.2.2.2.2.2.2.2.2.2.2.2.2.2.2.2.2.2.2.2.2.2.2.2.2.2.2.2.2.2.2.2.2.2.2.2.2.2.2.2.2.2.2.2.2.2.2.2.2.2.2.2.2.2.2.2.2.2.2.1)]
    refine (x_iconst f154_42 rfl).trans ?_
    refine (x_iconst f154_43 rfl).trans ?_
    refine (x_bastore f154_44 rfl).trans ?_
    refine (g_t rfl).trans ?_
    refine (g_kt (n := 2) rfl (by decide)).trans ?_
    refine (g_t (by decide)).trans ?_
    refine (x_aload f154_45 rfl rfl).trans ?_
    refine (x_iconst f154_46 rfl).trans ?_
    refine (y_put0 (ji := 15) rfl f154_47 rfl rfl).trans ?_
    refine (g_t rfl).trans ?_
    refine (x_aload f154_50 rfl rfl).trans ?_
    refine (x_iconst f154_51 rfl).trans ?_
    refine (y_put0 (ji := 19) rfl f154_52 rfl rfl).trans ?_
    refine (g_t rfl).trans ?_
    refine (x_aload f154_55 rfl rfl).trans ?_
    refine (x_iconst f154_56 rfl).trans ?_
    refine (y_put0 (ji := 20) rfl f154_57 rfl rfl).trans ?_
    refine (g_t rfl).trans ?_
    refine (x_aload f154_60 rfl rfl).trans ?_
    refine (x_iconst f154_61 rfl).trans ?_
    refine (y_put0 (ji := 21) rfl f154_62 rfl rfl).trans ?_
    refine (g_t rfl).trans ?_
    refine (x_aload f154_65 rfl rfl).trans ?_
    refine (x_iconst f154_66 rfl).trans ?_
    refine (y_put0 (ji := 22) rfl f154_67 rfl rfl).trans ?_
    refine (g_t rfl).trans ?_
    refine (x_iconst f154_70 rfl).trans ?_
    refine (x_istore (l2 := [aA 56, aI 0]) f154_71 rfl rfl).trans ?_
    rfl
set_option maxRecDepth 10000 in
theorem g154_72 {s : SG} (hR : RefC s) (l1 : Int) : sem 154 72 [aA 56, aI l1] [] s = if l1 < 3 then grd ((0 : Int) ≤ l1 ∧ l1 < 3) (sem 154 72 [aA 56, aI (w32 (l1 + 1))] [] (up (up (up s 66 l1 0) 67 l1 0) 68 l1 5)) else some (aU, s) := by
  refine (x_iload f154_72 rfl rfl).trans ?_
  refine (x_iconst f154_73 rfl).trans ?_
  refine (x_icmp_ge (tg := 104) f154_74 rfl rfl).trans (i_c ?_ ?_)
  · refine (x_aload f154_77 rfl rfl).trans ?_
    refine (y_get2 (ji := 16) rfl f154_78 rfl rfl).trans ?_
    refine (g_t rfl).trans ?_
    refine (g_t (by rw [show s 56 16 = 66 from hR.2.2.2.2.2.2.2.2.2.2.2.2.2.2.2.2.2.2.2.2.2.2.2.2.2.2.2.2.2.2.2.2.2.2.2.2.2.2.2.2.2.2.2.2.2.2.2.2.2.2.2.2.2.2.2.2.2.2.2.2.2.2.1]; decide)).trans ?_
    rw [show s 56 16 = 66 from hR.2.2.2.2.2.2.2.2.2.2.2.2.2.2.2.2.2.2.2.2.2.2.2.2.2.2.2.2.2.2.2.2.2.2.2.2.2.2.2.2.2.2.2.2.2.2.2.2.2.2.2.2.2.2.2.2.2.2.2.2.2.2.1]
    refine (x_iload f154_81 rfl rfl).trans ?_
    refine (x_iconst f154_82 rfl).trans ?_
    refine (x_iastore f154_83 rfl).trans ?_
    refine (g_t rfl).trans ?_
    refine g_kl (n := 3) rfl fun hg1 => ?_
    refine (x_aload f154_84 rfl rfl).trans ?_
    refine (y_get2 (ji := 17) rfl f154_85 rfl rfl).trans ?_
    refine (g_t rfl).trans ?_
    refine (g_t (by rw [show (up s 66 l1 0) 56 17 = 67 from (by rw [up_ne (by decide)]; exact hR.2.2.2.2.2.2.2.2.2.2.2.2.2.2.2.2.2.2.2.2.2.2.2.2.2.2.2.2.2.2.2.2.2.2.2.2.2.2.2.2.2.2.2.2.2.2.2.2.2.2.2.2.2.2.2.2.2.2.2.2.2.2.2.1)]; decide)).trans ?_
    rw [show (up s 66 l1 0) 56 17 = 67 from (by rw [up_ne (by decide)]; exact hR.2.2.2.2.2.2.2.2.2.2.2.2.2.2.2.2.2.2.2.2.2.2.2.2.2.2.2.2.2.2.2.2.2.2.2.2.2.2.2.2.2.2.2.2.2.2.2.2.2.2.2.2.2.2.2.2.2.2.2.2.2.2.2.1)]
    refine (x_iload f154_88 rfl rfl).trans ?_
    refine (x_iconst f154_89 rfl).trans ?_
    refine (x_iastore f154_90 rfl).trans ?_
    refine (g_t rfl).trans ?_
    refine (g_kt (n := 3) rfl hg1).trans ?_
    refine (x_aload f154_91 rfl rfl).trans ?_
    refine (y_get2 (ji := 18) rfl f154_92 rfl rfl).trans ?_
    refine (g_t rfl).trans ?_
    refine (g_t (by rw [show (up (up s 66 l1 0) 67 l1 0) 56 18 = 68 from (by rw [up_ne (by decide), up_ne (by decide)]; exact hR.2.2.2.2.2.2.2.2.2.2.2.2.2.2.2.2.2.2.2.2.2.2.2.2.2.2.2.2.2.2.2.2.2.2.2.2.2.2.2.2.2.2.2.2.2.2.2.2.2.2.2.2.2.2.2.2.2.2.2.2.2.2.2.2.1)]; decide)).trans ?_
    rw [show (up (up s 66 l1 0) 67 l1 0) 56 18 = 68 from (by rw [up_ne (by decide), up_ne (by decide)]; exact hR.2.2.2.2.2.2.2.2.2.2.2.2.2.2.2.2.2.2.2.2.2.2.2.2.2.2.2.2.2.2.2.2.2.2.2.2.2.2.2.2.2.2.2.2.2.2.2.2.2.2.2.2.2.2.2.2.2.2.2.2.2.2.2.2.1)]
    refine (x_iload f154_95 rfl rfl).trans ?_
    refine (x_iconst f154_96 rfl).trans ?_
    refine (x_iastore f154_97 rfl).trans ?_
    refine (g_t rfl).trans ?_
    refine (g_kt (n := 3) rfl hg1).trans ?_
    refine (x_iinc (l2 := [aA 56, aI (w32 (l1 + 1))]) f154_98 rfl rfl rfl).trans ?_
    refine (x_goto (tg := 72) f154_101 rfl rfl).trans ?_
    rfl
  · exact x_return f154_104 rfl
set_option maxRecDepth 10000 in
theorem g155_0 {s : SG} (hR : RefC s) (l1 l2 : Int) : sem 155 0 [aA 56, aI l1, aL l2, aU, aU] [] s = bnI (sem 152 0 [aL l1, aU, aL 1, aU, aL 8, aU] [] s) fun a2 s1 => if a2 = 0 then some (aI ((-2)), s1) else if (64 : Int) < (w32 ((s1 56 4) + l1)) then some (aI ((-4)), s1) else sem 155 34 [aA 56, aU, aL l2, aU, aI (w32 (l1 - 1))] [] s1 := by
  refine (x_iload f155_0 rfl rfl).trans ?_
  refine (x_i2l f155_1 rfl).trans ?_
  refine (x_lconst f155_2 rfl).trans ?_
  refine (x_lconst f155_3 rfl).trans ?_
  refine (x_invokestatic (G := bnI (sem 152 0 [aL l1, aU, aL 1, aU, aL 8, aU] [] s) fun a2 s1 => sem 155 9 [aA 56, aI l1, aL l2, aU, aU] [aI a2] s1) f155_6 rfl rfl).trans ?_
  refine bI_h fun a2 s1 qs1 => ?_
  have rs1 := RefC.sem qs1 rfl hR
  refine (x_if_ne (tg := 15) f155_9 rfl rfl).trans (i_c ?_ ?_)
  · refine (x_iconst f155_12 rfl).trans ?_
    exact x_ireturn f155_14 rfl
  · refine (x_aload f155_15 rfl rfl).trans ?_
    refine (y_get0 (ji := 4) rfl f155_16 rfl rfl).trans ?_
    refine (g_t rfl).trans ?_
    refine (x_iload f155_19 rfl rfl).trans ?_
    refine (x_iadd f155_20 rfl).trans ?_
    refine (x_iconst f155_21 rfl).trans ?_
    refine (x_icmp_le (tg := 29) f155_23 rfl rfl).trans (i_c ?_ ?_)
    · refine (x_iconst f155_26 rfl).trans ?_
      exact x_ireturn f155_28 rfl
    · refine (x_iload f155_29 rfl rfl).trans ?_
      refine (x_iconst f155_30 rfl).trans ?_
      refine (x_isub f155_31 rfl).trans ?_
      refine (x_istore (l2 := [aA 56, aI l1, aL l2, aU, aI (w32 (l1 - 1))]) f155_32 rfl rfl).trans ?_
      exact x_kil f155_34 rfl
set_option maxRecDepth 10000 in
theorem g155_34 {s : SG} (hR : RefC s) (l2 l4 : Int) : sem 155 34 [aA 56, aU, aL l2, aU, aI l4] [] s = if l4 < 0 then some (aI (s 56 4), s) else grd ((0 : Int) ≤ (s 56 4) ∧ (s 56 4) < 64) (sem 155 34 [aA 56, aU, aL l2, aU, aI (w32 (l4 + (-1)))] [] (up (up s 60 (s 56 4) (w32 (landA (lshrA l2 (w32 (8 * l4))) 255))) 56 4 (w32 ((s 56 4) + 1)))) := by
  refine (x_iload f155_34 rfl rfl).trans ?_
  refine (x_if_lt (tg := 76) f155_36 rfl rfl).trans (i_c ?_ ?_)
  · refine (x_aload f155_76 rfl rfl).trans ?_
    refine (y_get0 (ji := 4) rfl f155_77 rfl rfl).trans ?_
    refine (g_t rfl).trans ?_
    exact x_ireturn f155_80 rfl
  · refine (x_aload f155_39 rfl rfl).trans ?_
    refine (y_get2 (ji := 3) rfl f155_40 rfl rfl).trans ?_
    refine (g_t rfl).trans ?_
    refine (g_t (by rw [show s 56 3 = 60 from hR.2.2.2.2.2.2.2.2.2.2.2.2.2.2.2.2.2.2.2.2.2.2.2.2.2.2.2.2.2.2.2.2.2.2.2.2.2.2.2.2.2.2.2.2.2.2.2.2.2.2.2.2.2.2.2.2.1]; decide)).trans ?_
    rw [show s 56 3 = 60 from hR.2.2.2.2.2.2.2.2.2.2.2.2.2.2.2.2.2.2.2.2.2.2.2.2.2.2.2.2.2.2.2.2.2.2.2.2.2.2.2.2.2.2.2.2.2.2.2.2.2.2.2.2.2.2.2.2.1]
    refine (x_aload f155_43 rfl rfl).trans ?_
    refine (y_get0 (ji := 4) rfl f155_44 rfl rfl).trans ?_
    refine (g_t rfl).trans ?_
    refine (x_lload f155_47 rfl rfl).trans ?_
    refine (x_iconst f155_48 rfl).trans ?_
    refine (x_iload f155_50 rfl rfl).trans ?_
    refine (x_imul f155_52 rfl).trans ?_
    refine (x_lshr f155_53 rfl).trans ?_
    refine (x_lconst f155_54 rfl).trans ?_
    refine (x_land f155_57 rfl).trans ?_
    refine (x_l2i f155_58 rfl).trans ?_
    refine (x_iastore f155_59 rfl).trans ?_
    refine (g_t rfl).trans ?_
    refine g_kl (n := 64) rfl fun hg1 => ?_
    refine (x_aload f155_60 rfl rfl).trans ?_
    refine (x_dup f155_61 rfl rfl).trans ?_
    refine (y_get0 (ji := 4) rfl f155_62 rfl rfl).trans ?_
    refine (g_t rfl).trans ?_
    rw [show (up s 60 (s 56 4) (w32 (landA (lshrA l2 (w32 (8 * l4))) 255))) 56 4 = s 56 4 from by rw [up_ne (by decide)]]
    refine (x_iconst f155_65 rfl).trans ?_
    refine (x_iadd f155_66 rfl).trans ?_
    refine (y_put0 (ji := 4) rfl f155_67 rfl rfl).trans ?_
    refine (g_t rfl).trans ?_
    refine (x_iinc (l2 := [aA 56, aU, aL l2, aU, aI (w32 (l4 + (-1)))]) f155_70 rfl rfl rfl).trans ?_
    refine (x_goto (tg := 34) f155_73 rfl rfl).trans ?_
    rfl
set_option maxRecDepth 10000 in
theorem g156_0 {s : SG} (hR : RefC s) : sem 156 0 [aA 56, aU] [] s = some (aI (s 56 4), up s 56 4 0) := by
  refine (x_aload f156_0 rfl rfl).trans ?_
  refine (y_get0 (ji := 4) rfl f156_1 rfl rfl).trans ?_
  refine (g_t rfl).trans ?_
  refine (x_istore (l2 := [aA 56, aI (s 56 4)]) f156_4 rfl rfl).trans ?_
  refine (x_aload f156_5 rfl rfl).trans ?_
  refine (x_iconst f156_6 rfl).trans ?_
  refine (y_put0 (ji := 4) rfl f156_7 rfl rfl).trans ?_
  refine (g_t rfl).trans ?_
  refine (x_iload f156_10 rfl rfl).trans ?_
  exact x_ireturn f156_11 rfl
set_option maxRecDepth 10000 in
theorem g157_0 {s : SG} (hR : RefC s) (l1 : Int) : sem 157 0 [aA 56, aI l1, aU] [] s = if (s 56 6) = ((-9)) then if (s 56 5) < (s 56 4) then grd ((0 : Int) ≤ (s 56 5) ∧ (s 56 5) < 64) (sem 157 36 [aA 56, aI l1, aU] [aI (w32 ((s 60 (s 56 5)) - 48))] s) else sem 157 36 [aA 56, aI l1, aU] [aI ((-1))] s else sem 157 36 [aA 56, aI l1, aU] [aI ((-1))] s := by
  refine (x_aload f157_0 rfl rfl).trans ?_
  refine (y_get0 (ji := 6) rfl f157_1 rfl rfl).trans ?_
  refine (g_t rfl).trans ?_
  refine (x_iconst f157_4 rfl).trans ?_
  refine (x_icmp_ne (tg := 35) f157_6 rfl rfl).trans (i_c ?_ ?_)
  · refine (x_aload f157_9 rfl rfl).trans ?_
    refine (y_get0 (ji := 5) rfl f157_10 rfl rfl).trans ?_
    refine (g_t rfl).trans ?_
    refine (x_aload f157_13 rfl rfl).trans ?_
    refine (y_get0 (ji := 4) rfl f157_14 rfl rfl).trans ?_
    refine (g_t rfl).trans ?_
    refine (x_icmp_ge (tg := 35) f157_17 rfl rfl).trans (i_c ?_ ?_)
    · refine (x_aload f157_20 rfl rfl).trans ?_
      refine (y_get2 (ji := 3) rfl f157_21 rfl rfl).trans ?_
      refine (g_t rfl).trans ?_
      refine (g_t (by rw [show s 56 3 = 60 from hR.2.2.2.2.2.2.2.2.2.2.2.2.2.2.2.2.2.2.2.2.2.2.2.2.2.2.2.2.2.2.2.2.2.2.2.2.2.2.2.2.2.2.2.2.2.2.2.2.2.2.2.2.2.2.2.2.1]; decide)).trans ?_
      rw [show s 56 3 = 60 from hR.2.2.2.2.2.2.2.2.2.2.2.2.2.2.2.2.2.2.2.2.2.2.2.2.2.2.2.2.2.2.2.2.2.2.2.2.2.2.2.2.2.2.2.2.2.2.2.2.2.2.2.2.2.2.2.2.1]
      refine (x_aload f157_24 rfl rfl).trans ?_
      refine (y_get0 (ji := 5) rfl f157_25 rfl rfl).trans ?_
      refine (g_t rfl).trans ?_
      refine (x_iaload f157_28 rfl).trans ?_
      refine (g_t rfl).trans ?_
      refine g_kl (n := 64) rfl fun hg1 => ?_
      refine (x_iconst f157_29 rfl).trans ?_
      refine (x_isub f157_31 rfl).trans ?_
      refine (x_goto (tg := 36) f157_32 rfl rfl).trans ?_
      rfl
    · refine (x_iconst f157_35 rfl).trans ?_
      rfl
  · refine (x_iconst f157_35 rfl).trans ?_
    rfl
set_option maxRecDepth 10000 in
theorem g157_36 {s : SG} (hR : RefC s) (l1 v0 : Int) : sem 157 36 [aA 56, aI l1, aU] [aI v0] s = bnI (sem 152 0 [aL v0, aU, aL 0, aU, aL 9, aU] [] s) fun a2 s1 => if a2 = 0 then sem 157 57 [aA 56, aU, aU] [] s1 else if (iandA (ishrA l1 v0) 1) = 0 then sem 157 57 [aA 56, aU, aU] [] s1 else some (aI v0, up s1 56 5 (w32 ((s1 56 5) + 1))) := by
  refine (x_istore (l2 := [aA 56, aI l1, aI v0]) f157_36 rfl rfl).trans ?_
  refine (x_iload f157_37 rfl rfl).trans ?_
  refine (x_i2l f157_38 rfl).trans ?_
  refine (x_lconst f157_39 rfl).trans ?_
  refine (x_lconst f157_40 rfl).trans ?_
  refine (x_invokestatic (G := bnI (sem 152 0 [aL v0, aU, aL 0, aU, aL 9, aU] [] s) fun a2 s1 => sem 157 46 [aA 56, aI l1, aI v0] [aI a2] s1) f157_43 rfl rfl).trans ?_
  refine bI_h fun a2 s1 qs1 => ?_
  have rs1 := RefC.sem qs1 rfl hR
  refine (x_if_eq (tg := 57) f157_46 rfl rfl).trans (i_c ?_ ?_)
  · exact x_kil f157_57 rfl
  · refine (x_iload f157_49 rfl rfl).trans ?_
    refine (x_iload f157_50 rfl rfl).trans ?_
    refine (x_ishr f157_51 rfl).trans ?_
    refine (x_iconst f157_52 rfl).trans ?_
    refine (x_iand f157_53 rfl).trans ?_
    refine (x_if_ne (tg := 83) f157_54 rfl rfl).trans (i_c ?_ ?_)
    · exact x_kil f157_57 rfl
    · refine (x_aload f157_83 rfl rfl).trans ?_
      refine (x_dup f157_84 rfl rfl).trans ?_
      refine (y_get0 (ji := 5) rfl f157_85 rfl rfl).trans ?_
      refine (g_t rfl).trans ?_
      refine (x_iconst f157_88 rfl).trans ?_
      refine (x_iadd f157_89 rfl).trans ?_
      refine (y_put0 (ji := 5) rfl f157_90 rfl rfl).trans ?_
      refine (g_t rfl).trans ?_
      refine (x_iload f157_93 rfl rfl).trans ?_
      exact x_ireturn f157_94 rfl
set_option maxRecDepth 10000 in
theorem g157_57 {s : SG} (hR : RefC s) : sem 157 57 [aA 56, aU, aU] [] s = if (s 56 6) = ((-9)) then some (aI 0, up s 56 6 (s 56 5)) else some (aI 0, up s 56 6 (s 56 6)) := by
  refine (x_aload f157_57 rfl rfl).trans ?_
  refine (x_aload f157_58 rfl rfl).trans ?_
  refine (y_get0 (ji := 6) rfl f157_59 rfl rfl).trans ?_
  refine (g_t rfl).trans ?_
  refine (x_iconst f157_62 rfl).trans ?_
  refine (x_icmp_ne (tg := 74) f157_64 rfl rfl).trans (i_c ?_ ?_)
  · refine (x_aload f157_67 rfl rfl).trans ?_
    refine (y_get0 (ji := 5) rfl f157_68 rfl rfl).trans ?_
    refine (g_t rfl).trans ?_
    refine (x_goto (tg := 78) f157_71 rfl rfl).trans ?_
    refine (x_kil (l2 := [aU, aU, aU]) f157_78 rfl).trans ?_
    refine (y_put0 (ji := 6) rfl f157_78 rfl rfl).trans ?_
    refine (g_t rfl).trans ?_
    refine (x_iconst f157_81 rfl).trans ?_
    exact x_ireturn f157_82 rfl
  · refine (x_aload f157_74 rfl rfl).trans ?_
    refine (y_get0 (ji := 6) rfl f157_75 rfl rfl).trans ?_
    refine (g_t rfl).trans ?_
    refine (x_kil (l2 := [aU, aU, aU]) f157_78 rfl).trans ?_
    refine (y_put0 (ji := 6) rfl f157_78 rfl rfl).trans ?_
    refine (g_t rfl).trans ?_
    refine (x_iconst f157_81 rfl).trans ?_
    exact x_ireturn f157_82 rfl
set_option maxRecDepth 10000 in
theorem g158_0 {s : SG} (hR : RefC s) (l1 l2 : Int) : sem 158 0 [aA 56, aI l1, aI l2, aU, aU] [] s = sem 158 5 [aA 56, aI l1, aI l2, aI 0, aI 0] [] s := by
  refine (x_iconst f158_0 rfl).trans ?_
  refine (x_istore (l2 := [aA 56, aI l1, aI l2, aI 0, aU]) f158_1 rfl rfl).trans ?_
  refine (x_iconst f158_2 rfl).trans ?_
  refine (x_istore (l2 := [aA 56, aI l1, aI l2, aI 0, aI 0]) f158_3 rfl rfl).trans ?_
  rfl
set_option maxRecDepth 10000 in
theorem g158_5 {s : SG} (hR : RefC s) (l1 l2 l3 l4 : Int) : sem 158 5 [aA 56, aI l1, aI l2, aI l3, aI l4] [] s = if l4 < l2 then grd ((0 : Int) ≤ (w32 (l1 + l4)) ∧ (w32 (l1 + l4)) < 28) (sem 158 5 [aA 56, aI l1, aI l2, aI (iorA l3 (if (s 59 (w32 (l1 + l4))) = 0 then ishlA 1 l4 else 0)), aI (w32 (l4 + 1))] [] s) else some (aI l3, s) := by
  refine (x_iload f158_5 rfl rfl).trans ?_
  refine (x_iload f158_7 rfl rfl).trans ?_
  refine (x_icmp_ge (tg := 40) f158_8 rfl rfl).trans (i_c ?_ ?_)
  · refine (x_iload f158_11 rfl rfl).trans ?_
    refine (x_aload f158_12 rfl rfl).trans ?_
    refine (y_get2 (ji := 2) rfl f158_13 rfl rfl).trans ?_
    refine (g_t rfl).trans ?_
    refine (g_t (by rw [show s 56 2 = 59 from hR.2.2.2.2.2.2.2.2.2.2.2.2.2.2.2.2.2.2.2.2.2.2.2.2.2.2.2.2.2.2.2.2.2.2.2.2.2.2.2.2.2.2.2.2.2.2.2.2.2.2.2.2.2.2.2.1]; decide)).trans ?_
    rw [show s 56 2 = 59 from hR.2.2.2.2.2.2.2.2.2.2.2.2.2.2.2.2.2.2.2.2.2.2.2.2.2.2.2.2.2.2.2.2.2.2.2.2.2.2.2.2.2.2.2.2.2.2.2.2.2.2.2.2.2.2.2.1]
    refine (x_iload f158_16 rfl rfl).trans ?_
    refine (x_iload f158_17 rfl rfl).trans ?_
    refine (x_iadd f158_19 rfl).trans ?_
    refine (x_baload f158_20 rfl).trans ?_
    refine (g_t rfl).trans ?_
    refine g_kl (n := 28) rfl fun hg1 => ?_
    refine (x_if_eq (tg := 28) f158_21 rfl rfl).trans ?_
    refine Eq.trans (b := if (s 59 (w32 (l1 + l4))) = 0 then sem 158 32 [aA 56, aI l1, aI l2, aU, aI l4] [aI (ishlA 1 l4), aI l3] s else sem 158 32 [aA 56, aI l1, aI l2, aU, aI l4] [aI 0, aI l3] s) (i_c ?_ ?_) ?_
    · refine (x_iconst f158_28 rfl).trans ?_
      refine (x_iload f158_29 rfl rfl).trans ?_
      refine (x_ishl f158_31 rfl).trans ?_
      exact x_kil f158_32 rfl
    · refine (x_iconst f158_24 rfl).trans ?_
      refine (x_goto (tg := 32) f158_25 rfl rfl).trans ?_
      exact x_kil f158_32 rfl
    refine m_I.trans ?_
    refine (x_ior f158_32 rfl).trans ?_
    refine (x_istore (l2 := [aA 56, aI l1, aI l2, aI (iorA l3 (if (s 59 (w32 (l1 + l4))) = 0 then ishlA 1 l4 else 0)), aI l4]) f158_33 rfl rfl).trans ?_
    refine (x_iinc (l2 := [aA 56, aI l1, aI l2, aI (iorA l3 (if (s 59 (w32 (l1 + l4))) = 0 then ishlA 1 l4 else 0)), aI (w32 (l4 + 1))]) f158_34 rfl rfl rfl).trans ?_
    refine (x_goto (tg := 5) f158_37 rfl rfl).trans ?_
    rfl
  · refine (x_iload f158_40 rfl rfl).trans ?_
    exact x_ireturn f158_41 rfl
set_option maxRecDepth 10000 in
theorem g159_0 {s : SG} (hR : RefC s) : sem 159 0 [aA 56] [] s = bnV (sem 153 0 [aA 56, aU] [] s) fun s1 => if (s1 56 4) = 0 then some (aI 0, up (up (up s1 56 5 0) 56 6 ((-9))) 56 7 0) else if (s1 60 0) = 78 then bnI (sem 157 0 [aA 56, aI 14, aU] [] (up (up (up (up s1 56 5 0) 56 6 ((-9))) 56 7 0) 56 5 1)) fun a3 s2 => sem 159 62 [aA 56] [] (up (up s2 57 0 a3) 56 7 1) else some (aI 0, up (up (up s1 56 5 0) 56 6 ((-9))) 56 7 0) := by
  refine (x_aload f159_0 rfl rfl).trans ?_
  refine (x_invokevirtual (G := grd (kd 56 = 9) (bnV (sem 153 0 [aA 56, aU] [] s) fun s1 => sem 159 4 [aA 56] [] s1)) f159_1 rfl rfl).trans ?_
  refine (g_t rfl).trans ?_
  refine bV_h fun s1 qs1 => ?_
  have rs1 := RefC.sem qs1 rfl hR
  refine (x_aload f159_4 rfl rfl).trans ?_
  refine (x_iconst f159_5 rfl).trans ?_
  refine (y_put0 (ji := 5) rfl f159_6 rfl rfl).trans ?_
  refine (g_t rfl).trans ?_
  refine (x_aload f159_9 rfl rfl).trans ?_
  refine (x_iconst f159_10 rfl).trans ?_
  refine (y_put0 (ji := 6) rfl f159_12 rfl rfl).trans ?_
  refine (g_t rfl).trans ?_
  refine (x_aload f159_15 rfl rfl).trans ?_
  refine (x_iconst f159_16 rfl).trans ?_
  refine (y_put0 (ji := 7) rfl f159_17 rfl rfl).trans ?_
  refine (g_t rfl).trans ?_
  refine (x_aload f159_20 rfl rfl).trans ?_
  refine (y_get0 (ji := 4) rfl f159_21 rfl rfl).trans ?_
  refine (g_t rfl).trans ?_
  rw [show (up (up (up s1 56 5 0) 56 6 ((-9))) 56 7 0) 56 4 = s1 56 4 from by rw [up_ni (by decide), up_ni (by decide), up_ni (by decide)]]
  refine (x_if_eq (tg := 38) f159_24 rfl rfl).trans (i_c ?_ ?_)
  · refine (x_kil (l2 := [aU]) f159_38 rfl).trans ?_
    refine (x_iconst f159_38 rfl).trans ?_
    exact x_ireturn f159_39 rfl
  · refine (x_aload f159_27 rfl rfl).trans ?_
    refine (y_get2 (ji := 3) rfl f159_28 rfl rfl).trans ?_
    refine (g_t rfl).trans ?_
    refine (g_t (by rw [show (up (up (up s1 56 5 0) 56 6 ((-9))) 56 7 0) 56 3 = 60 from (by rw [up_ni (by decide), up_ni (by decide), up_ni (by decide)]; exact rs1.2.2.2.2.2.2.2.2.2.2.2.2.2.2.2.2.2.2.2.2.2.2.2.2.2.2.2.2.2.2.2.2.2.2.2.2.2.2.2.2.2.2.2.2.2.2.2.2.2.2.2.2.2.2.2.2.1)]; decide)).trans ?_
    rw [show (up (up (up s1 56 5 0) 56 6 ((-9))) 56 7 0) 56 3 = 60 from (by rw [up_ni (by decide), up_ni (by decide), up_ni (by decide)]; exact rs1.2.2.2.2.2.2.2.2.2.2.2.2.2.2.2.2.2.2.2.2.2.2.2.2.2.2.2.2.2.2.2.2.2.2.2.2.2.2.2.2.2.2.2.2.2.2.2.2.2.2.2.2.2.2.2.2.1)]
    refine (x_iconst f159_31 rfl).trans ?_
    refine (x_iaload f159_32 rfl).trans ?_
    refine (g_t rfl).trans ?_
    refine (g_kt (n := 64) rfl (by decide)).trans ?_
    rw [show (up (up (up s1 56 5 0) 56 6 ((-9))) 56 7 0) 60 0 = s1 60 0 from by rw [up_ne (by decide), up_ne (by decide), up_ne (by decide)]]
    refine (x_iconst f159_33 rfl).trans ?_
    refine (x_icmp_eq (tg := 40) f159_35 rfl rfl).trans (i_c ?_ ?_)
    · refine (x_aload f159_40 rfl rfl).trans ?_
      refine (x_iconst f159_41 rfl).trans ?_
      refine (y_put0 (ji := 5) rfl f159_42 rfl rfl).trans ?_
      refine (g_t rfl).trans ?_
      refine (x_aload f159_45 rfl rfl).trans ?_
      refine (y_get2 (ji := 0) rfl f159_46 rfl rfl).trans ?_
      refine (g_t rfl).trans ?_
      refine (g_t (by rw [show (up (up (up (up s1 56 5 0) 56 6 ((-9))) 56 7 0) 56 5 1) 56 0 = 57 from (by rw [up_ni (by decide), up_ni (by decide), up_ni (by decide), up_ni (by decide)]; exact rs1.2.2.2.2.2.2.2.2.2.2.2.2.2.2.2.2.2.2.2.2.2.2.2.2.2.2.2.2.2.2.2.2.2.2.2.2.2.2.2.2.2.2.2.2.2.2.2.2.2.2.2.2.2.1)]; decide)).trans ?_
      rw [show (up (up (up (up s1 56 5 0) 56 6 ((-9))) 56 7 0) 56 5 1) 56 0 = 57 from (by rw [up_ni (by decide), up_ni (by decide), up_ni (by decide), up_ni (by decide)]; exact rs1.2.2.2.2.2.2.2.2.2.2.2.2.2.2.2.2.2.2.2.2.2.2.2.2.2.2.2.2.2.2.2.2.2.2.2.2.2.2.2.2.2.2.2.2.2.2.2.2.2.2.2.2.2.1)]
      refine (x_iconst f159_49 rfl).trans ?_
      refine (x_aload f159_50 rfl rfl).trans ?_
      refine (x_iconst f159_51 rfl).trans ?_
      refine (x_invokevirtual (G := grd (kd 56 = 9) (bnI (sem 157 0 [aA 56, aI 14, aU] [] (up (up (up (up s1 56 5 0) 56 6 ((-9))) 56 7 0) 56 5 1)) fun a3 s2 => sem 159 56 [aA 56] [aI a3, aI 0, aA 57] s2)) f159_53 rfl rfl).trans ?_
      refine (g_t rfl).trans ?_
      refine bI_h fun a3 s2 qs2 => ?_
      have rs2 := RefC.sem qs2 rfl (RefC.upd (RefC.upd (RefC.upd (RefC.upd rs1 (rcb_f (c := 9) (j := 5) rfl (by decide) (by decide))) (rcb_f (c := 9) (j := 6) rfl (by decide) (by decide))) (rcb_f (c := 9) (j := 7) rfl (by decide) (by decide))) (rcb_f (c := 9) (j := 5) rfl (by decide) (by decide)))
      refine (x_iastore f159_56 rfl).trans ?_
      refine (g_t rfl).trans ?_
      refine (g_kt (n := 28) rfl (by decide)).trans ?_
      refine (x_aload f159_57 rfl rfl).trans ?_
      refine (x_iconst f159_58 rfl).trans ?_
      refine (y_put0 (ji := 7) rfl f159_59 rfl rfl).trans ?_
      refine (g_t rfl).trans ?_
      rfl
    · refine (x_kil (l2 := [aU]) f159_38 rfl).trans ?_
      refine (x_iconst f159_38 rfl).trans ?_
      exact x_ireturn f159_39 rfl
set_option maxRecDepth 10000 in
theorem g159_62 {s : SG} (hR : RefC s) : sem 159 62 [aA 56] [] s = if (s 56 6) = ((-9)) then if (s 56 5) < (s 56 4) then grd ((0 : Int) ≤ (s 56 5) ∧ (s 56 5) < 64) (bnV (sem 160 0 [aA 56, aI (s 60 (s 56 5)), aU, aU, aU, aU, aU] [] s) fun s2 => sem 159 62 [aA 56] [] (up s2 56 7 (w32 ((s2 56 7) + 1)))) else some (aI (s 56 6), s) else some (aI (s 56 6), s) := by
  refine (x_aload f159_62 rfl rfl).trans ?_
  refine (y_get0 (ji := 6) rfl f159_63 rfl rfl).trans ?_
  refine (g_t rfl).trans ?_
  refine (x_iconst f159_66 rfl).trans ?_
  refine (x_icmp_ne (tg := 108) f159_68 rfl rfl).trans (i_c ?_ ?_)
  · refine (x_aload f159_71 rfl rfl).trans ?_
    refine (y_get0 (ji := 5) rfl f159_72 rfl rfl).trans ?_
    refine (g_t rfl).trans ?_
    refine (x_aload f159_75 rfl rfl).trans ?_
    refine (y_get0 (ji := 4) rfl f159_76 rfl rfl).trans ?_
    refine (g_t rfl).trans ?_
    refine (x_icmp_ge (tg := 108) f159_79 rfl rfl).trans (i_c ?_ ?_)
    · refine (x_aload f159_82 rfl rfl).trans ?_
      refine (x_aload f159_83 rfl rfl).trans ?_
      refine (y_get2 (ji := 3) rfl f159_84 rfl rfl).trans ?_
      refine (g_t rfl).trans ?_
      refine (g_t (by rw [show s 56 3 = 60 from hR.2.2.2.2.2.2.2.2.2.2.2.2.2.2.2.2.2.2.2.2.2.2.2.2.2.2.2.2.2.2.2.2.2.2.2.2.2.2.2.2.2.2.2.2.2.2.2.2.2.2.2.2.2.2.2.2.1]; decide)).trans ?_
      rw [show s 56 3 = 60 from hR.2.2.2.2.2.2.2.2.2.2.2.2.2.2.2.2.2.2.2.2.2.2.2.2.2.2.2.2.2.2.2.2.2.2.2.2.2.2.2.2.2.2.2.2.2.2.2.2.2.2.2.2.2.2.2.2.1]
      refine (x_aload f159_87 rfl rfl).trans ?_
      refine (y_get0 (ji := 5) rfl f159_88 rfl rfl).trans ?_
      refine (g_t rfl).trans ?_
      refine (x_iaload f159_91 rfl).trans ?_
      refine (g_t rfl).trans ?_
      refine g_kl (n := 64) rfl fun hg1 => ?_
      refine (x_invokevirtual (G := grd (kd 56 = 9) (bnV (sem 160 0 [aA 56, aI (s 60 (s 56 5)), aU, aU, aU, aU, aU] [] s) fun s2 => sem 159 95 [aA 56] [] s2)) f159_92 rfl rfl).trans ?_
      refine (g_t rfl).trans ?_
      refine bV_h fun s2 qs2 => ?_
      have rs2 := RefC.sem qs2 rfl hR
      refine (x_aload f159_95 rfl rfl).trans ?_
      refine (x_dup f159_96 rfl rfl).trans ?_
      refine (y_get0 (ji := 7) rfl f159_97 rfl rfl).trans ?_
      refine (g_t rfl).trans ?_
      refine (x_iconst f159_100 rfl).trans ?_
      refine (x_iadd f159_101 rfl).trans ?_
      refine (y_put0 (ji := 7) rfl f159_102 rfl rfl).trans ?_
      refine (g_t rfl).trans ?_
      refine (x_goto (tg := 62) f159_105 rfl rfl).trans ?_
      rfl
    · refine (x_aload f159_108 rfl rfl).trans ?_
      refine (y_get0 (ji := 6) rfl f159_109 rfl rfl).trans ?_
      refine (g_t rfl).trans ?_
      exact x_ireturn f159_112 rfl
  · refine (x_aload f159_108 rfl rfl).trans ?_
    refine (y_get0 (ji := 6) rfl f159_109 rfl rfl).trans ?_
    refine (g_t rfl).trans ?_
    exact x_ireturn f159_112 rfl
set_option maxRecDepth 10000 in
theorem g160_0 {s : SG} (hR : RefC s) (l1 : Int) : sem 160 0 [aA 56, aI l1, aU, aU, aU, aU, aU] [] s = sem 160 12 [aA 56, aI l1, aI (s 57 0), aI 0, aI 0, aU, aU] [] s := by
  refine (x_aload f160_0 rfl rfl).trans ?_
  refine (y_get2 (ji := 0) rfl f160_1 rfl rfl).trans ?_
  refine (g_t rfl).trans ?_
  refine (g_t (by rw [show s 56 0 = 57 from hR.2.2.2.2.2.2.2.2.2.2.2.2.2.2.2.2.2.2.2.2.2.2.2.2.2.2.2.2.2.2.2.2.2.2.2.2.2.2.2.2.2.2.2.2.2.2.2.2.2.2.2.2.2.1]; decide)).trans ?_
  rw [show s 56 0 = 57 from hR.2.2.2.2.2.2.2.2.2.2.2.2.2.2.2.2.2.2.2.2.2.2.2.2.2.2.2.2.2.2.2.2.2.2.2.2.2.2.2.2.2.2.2.2.2.2.2.2.2.2.2.2.2.1]
  refine (x_iconst f160_4 rfl).trans ?_
  refine (x_iaload f160_5 rfl).trans ?_
  refine (g_t rfl).trans ?_
  refine (g_kt (n := 28) rfl (by decide)).trans ?_
  refine (x_istore (l2 := [aA 56, aI l1, aI (s 57 0), aU, aU, aU, aU]) f160_6 rfl rfl).trans ?_
  refine (x_iconst f160_7 rfl).trans ?_
  refine (x_istore (l2 := [aA 56, aI l1, aI (s 57 0), aI 0, aU, aU, aU]) f160_8 rfl rfl).trans ?_
  refine (x_iconst f160_9 rfl).trans ?_
  refine (x_istore (l2 := [aA 56, aI l1, aI (s 57 0), aI 0, aI 0, aU, aU]) f160_10 rfl rfl).trans ?_
  rfl
set_option maxRecDepth 10000 in
theorem g160_12 {s : SG} (hR : RefC s) (l1 l2 l3 l4 : Int) : sem 160 12 [aA 56, aI l1, aI l2, aI l3, aI l4, aU, aU] [] s = if l4 < l2 then bnI (sem 158 0 [aA 56, aI (w32 (10 + (w32 (3 * l4)))), aI 3, aU, aU] [] s) fun a2 s1 => sem 160 12 [aA 56, aI l1, aI l2, aI (iorA l3 (if a2 = 0 then 0 else ishlA 1 l4)), aI (w32 (l4 + 1)), aU, aU] [] s1 else if l1 = 75 then bnI (sem 158 0 [aA 56, aI 1, aI 3, aU, aU] [] s) fun a4 s3 => if a4 = 0 then sem 160 151 [aA 56, aI l1, aI l2, aI l3, aI (if l1 = 67 then 4 else if l1 = 80 then 5 else if l1 = 82 then 6 else (-9)), aU, aU] [] s3 else bnI (sem 158 0 [aA 56, aI 1, aI 3, aU, aU] [] (up s3 56 5 (w32 ((s3 56 5) + 1)))) fun a6 s5 => bnI (sem 157 0 [aA 56, aI a6, aU] [] s5) fun a8 s7 => grd ((0 : Int) ≤ (w32 (1 + a8)) ∧ (w32 (1 + a8)) < 28) (bnI (sem 157 0 [aA 56, aI 1022, aU] [] (up s7 59 (w32 (1 + a8)) 1)) fun a11 s10 => some (aU, up s10 57 (w32 (1 + a8)) a11)) else sem 160 151 [aA 56, aI l1, aI l2, aI l3, aI (if l1 = 67 then 4 else if l1 = 80 then 5 else if l1 = 82 then 6 else (-9)), aU, aU] [] s := by
  refine (x_iload f160_12 rfl rfl).trans ?_
  refine (x_iload f160_14 rfl rfl).trans ?_
  refine (x_icmp_ge (tg := 50) f160_15 rfl rfl).trans (i_c ?_ ?_)
  · refine (x_iload f160_18 rfl rfl).trans ?_
    refine (x_aload f160_19 rfl rfl).trans ?_
    refine (x_iconst f160_20 rfl).trans ?_
    refine (x_iconst f160_22 rfl).trans ?_
    refine (x_iload f160_23 rfl rfl).trans ?_
    refine (x_imul f160_25 rfl).trans ?_
    refine (x_iadd f160_26 rfl).trans ?_
    refine (x_iconst f160_27 rfl).trans ?_
    refine (x_invokevirtual (G := grd (kd 56 = 9) (bnI (sem 158 0 [aA 56, aI (w32 (10 + (w32 (3 * l4)))), aI 3, aU, aU] [] s) fun a2 s1 => sem 160 31 [aA 56, aI l1, aI l2, aI l3, aI l4, aU, aU] [aI a2, aI l3] s1)) f160_28 rfl rfl).trans ?_
    refine (g_t rfl).trans ?_
    refine bI_h fun a2 s1 qs1 => ?_
    have rs1 := RefC.sem qs1 rfl hR
    refine (x_if_eq (tg := 41) f160_31 rfl rfl).trans ?_
    refine Eq.trans (b := if a2 = 0 then sem 160 42 [aA 56, aI l1, aI l2, aU, aI l4, aU, aU] [aI 0, aI l3] s1 else sem 160 42 [aA 56, aI l1, aI l2, aU, aI l4, aU, aU] [aI (ishlA 1 l4), aI l3] s1) (i_c ?_ ?_) ?_
    · refine (x_iconst f160_41 rfl).trans ?_
      exact x_kil f160_42 rfl
    · refine (x_iconst f160_34 rfl).trans ?_
      refine (x_iload f160_35 rfl rfl).trans ?_
      refine (x_ishl f160_37 rfl).trans ?_
      refine (x_goto (tg := 42) f160_38 rfl rfl).trans ?_
      exact x_kil f160_42 rfl
    refine m_I.trans ?_
    refine (x_ior f160_42 rfl).trans ?_
    refine (x_istore (l2 := [aA 56, aI l1, aI l2, aI (iorA l3 (if a2 = 0 then 0 else ishlA 1 l4)), aI l4, aU, aU]) f160_43 rfl rfl).trans ?_
    refine (x_iinc (l2 := [aA 56, aI l1, aI l2, aI (iorA l3 (if a2 = 0 then 0 else ishlA 1 l4)), aI (w32 (l4 + 1)), aU, aU]) f160_44 rfl rfl rfl).trans ?_
    refine (x_goto (tg := 12) f160_47 rfl rfl).trans ?_
    rfl
  · refine (x_iload f160_50 rfl rfl).trans ?_
    refine (x_iconst f160_51 rfl).trans ?_
    refine (x_icmp_ne (tg := 60) f160_53 rfl rfl).trans ?_
    refine Eq.trans (b := if l1 = 67 then sem 160 83 [aA 56, aI l1, aI l2, aI l3, aU, aU, aU] [aI 4] s else sem 160 83 [aA 56, aI l1, aI l2, aI l3, aU, aU, aU] [aI (if l1 = 80 then 5 else if l1 = 82 then 6 else (-9))] s) (i_c ?_ ?_) ?_
    · refine (x_iconst f160_56 rfl).trans ?_
      refine (x_goto (tg := 83) f160_57 rfl rfl).trans ?_
      exact x_kil f160_83 rfl
    · refine (x_iload f160_60 rfl rfl).trans ?_
      refine (x_iconst f160_61 rfl).trans ?_
      refine (x_icmp_ne (tg := 70) f160_63 rfl rfl).trans ?_
      refine Eq.trans (b := if l1 = 80 then sem 160 83 [aA 56, aI l1, aI l2, aI l3, aU, aU, aU] [aI 5] s else sem 160 83 [aA 56, aI l1, aI l2, aI l3, aU, aU, aU] [aI (if l1 = 82 then 6 else (-9))] s) (i_c ?_ ?_) ?_
      · refine (x_iconst f160_66 rfl).trans ?_
        refine (x_goto (tg := 83) f160_67 rfl rfl).trans ?_
        exact x_kil f160_83 rfl
      · refine (x_iload f160_70 rfl rfl).trans ?_
        refine (x_iconst f160_71 rfl).trans ?_
        refine (x_icmp_ne (tg := 81) f160_73 rfl rfl).trans ?_
        refine Eq.trans (b := if l1 = 82 then sem 160 83 [aA 56, aI l1, aI l2, aI l3, aU, aU, aU] [aI 6] s else sem 160 83 [aA 56, aI l1, aI l2, aI l3, aU, aU, aU] [aI ((-9))] s) (i_c ?_ ?_) ?_
        · refine (x_iconst f160_76 rfl).trans ?_
          refine (x_goto (tg := 83) f160_78 rfl rfl).trans ?_
          exact x_kil f160_83 rfl
        · refine (x_iconst f160_81 rfl).trans ?_
          exact x_kil f160_83 rfl
        refine m_I.trans ?_
        rfl
      refine m_I.trans ?_
      rfl
    refine m_I.trans ?_
    refine (x_istore (l2 := [aA 56, aI l1, aI l2, aI l3, aI (if l1 = 67 then 4 else if l1 = 80 then 5 else if l1 = 82 then 6 else (-9)), aU, aU]) f160_83 rfl rfl).trans ?_
    refine (x_iload f160_85 rfl rfl).trans ?_
    refine (x_iconst f160_86 rfl).trans ?_
    refine (x_icmp_ne (tg := 151) f160_88 rfl rfl).trans (i_c ?_ ?_)
    · refine (x_aload f160_91 rfl rfl).trans ?_
      refine (x_iconst f160_92 rfl).trans ?_
      refine (x_iconst f160_93 rfl).trans ?_
      refine (x_invokevirtual (G := grd (kd 56 = 9) (bnI (sem 158 0 [aA 56, aI 1, aI 3, aU, aU] [] s) fun a4 s3 => sem 160 97 [aA 56, aI l1, aI l2, aI l3, aI (if l1 = 67 then 4 else if l1 = 80 then 5 else if l1 = 82 then 6 else (-9)), aU, aU] [aI a4] s3)) f160_94 rfl rfl).trans ?_
      refine (g_t rfl).trans ?_
      refine bI_h fun a4 s3 qs3 => ?_
      have rs3 := RefC.sem qs3 rfl hR
      refine (x_if_eq (tg := 151) f160_97 rfl rfl).trans (i_c ?_ ?_)
      · rfl
      · refine (x_aload f160_100 rfl rfl).trans ?_
        refine (x_dup f160_101 rfl rfl).trans ?_
        refine (y_get0 (ji := 5) rfl f160_102 rfl rfl).trans ?_
        refine (g_t rfl).trans ?_
        refine (x_iconst f160_105 rfl).trans ?_
        refine (x_iadd f160_106 rfl).trans ?_
        refine (y_put0 (ji := 5) rfl f160_107 rfl rfl).trans ?_
        refine (g_t rfl).trans ?_
        refine (x_aload f160_110 rfl rfl).trans ?_
        refine (x_aload f160_111 rfl rfl).trans ?_
        refine (x_iconst f160_112 rfl).trans ?_
        refine (x_iconst f160_113 rfl).trans ?_
        refine (x_invokevirtual (G := grd (kd 56 = 9) (bnI (sem 158 0 [aA 56, aI 1, aI 3, aU, aU] [] (up s3 56 5 (w32 ((s3 56 5) + 1)))) fun a6 s5 => sem 160 117 [aA 56, aI l1, aI l2, aI l3, aI (if l1 = 67 then 4 else if l1 = 80 then 5 else if l1 = 82 then 6 else (-9)), aU, aU] [aI a6, aA 56] s5)) f160_114 rfl rfl).trans ?_
        refine (g_t rfl).trans ?_
        refine bI_h fun a6 s5 qs5 => ?_
        have rs5 := RefC.sem qs5 rfl (RefC.upd rs3 (rcb_f (c := 9) (j := 5) rfl (by decide) (by decide)))
        refine (x_invokevirtual (G := grd (kd 56 = 9) (bnI (sem 157 0 [aA 56, aI a6, aU] [] s5) fun a8 s7 => sem 160 120 [aA 56, aI l1, aI l2, aI l3, aI (if l1 = 67 then 4 else if l1 = 80 then 5 else if l1 = 82 then 6 else (-9)), aU, aU] [aI a8] s7)) f160_117 rfl rfl).trans ?_
        refine (g_t rfl).trans ?_
        refine bI_h fun a8 s7 qs7 => ?_
        have rs7 := RefC.sem qs7 rfl rs5
        refine (x_istore (l2 := [aA 56, aI l1, aI l2, aI l3, aI (if l1 = 67 then 4 else if l1 = 80 then 5 else if l1 = 82 then 6 else (-9)), aI a8, aU]) f160_120 rfl rfl).trans ?_
        refine (x_aload f160_122 rfl rfl).trans ?_
        refine (y_get2 (ji := 2) rfl f160_123 rfl rfl).trans ?_
        refine (g_t rfl).trans ?_
        refine (g_t (by rw [show s7 56 2 = 59 from rs7.2.2.2.2.2.2.2.2.2.2.2.2.2.2.2.2.2.2.2.2.2.2.2.2.2.2.2.2.2.2.2.2.2.2.2.2.2.2.2.2.2.2.2.2.2.2.2.2.2.2.2.2.2.2.2.1]; decide)).trans ?_
        rw [show s7 56 2 = 59 from rs7.2.2.2.2.2.2.2.2.2.2.2.2.2.2.2.2.2.2.2.2.2.2.2.2.2.2.2.2.2.2.2.2.2.2.2.2.2.2.2.2.2.2.2.2.2.2.2.2.2.2.2.2.2.2.2.1]
        refine (x_iconst f160_126 rfl).trans ?_
        refine (x_iload f160_127 rfl rfl).trans ?_
        refine (x_iadd f160_129 rfl).trans ?_
        refine (x_iconst f160_130 rfl).trans ?_
        refine (x_bastore f160_131 rfl).trans ?_
        refine (g_t rfl).trans ?_
        refine g_kl (n := 28) rfl fun hg9 => ?_
        refine (g_t (by decide)).trans ?_
        refine (x_aload f160_132 rfl rfl).trans ?_
        refine (y_get2 (ji := 0) rfl f160_133 rfl rfl).trans ?_
        refine (g_t rfl).trans ?_
        refine (g_t (by rw [show (up s7 59 (w32 (1 + a8)) 1) 56 0 = 57 from (by rw [up_ne (by decide)]; exact rs7.2.2.2.2.2.2.2.2.2.2.2.2.2.2.2.2.2.2.2.2.2.2.2.2.2.2.2.2.2.2.2.2.2.2.2.2.2.2.2.2.2.2.2.2.2.2.2.2.2.2.2.2.2.1)]; decide)).trans ?_
        rw [show (up s7 59 (w32 (1 + a8)) 1) 56 0 = 57 from (by rw [up_ne (by decide)]; exact rs7.2.2.2.2.2.2.2.2.2.2.2.2.2.2.2.2.2.2.2.2.2.2.2.2.2.2.2.2.2.2.2.2.2.2.2.2.2.2.2.2.2.2.2.2.2.2.2.2.2.2.2.2.2.1)]
        refine (x_iconst f160_136 rfl).trans ?_
        refine (x_iload f160_137 rfl rfl).trans ?_
        refine (x_iadd f160_139 rfl).trans ?_
        refine (x_aload f160_140 rfl rfl).trans ?_
        refine (x_iconst f160_141 rfl).trans ?_
        refine (x_invokevirtual (G := grd (kd 56 = 9) (bnI (sem 157 0 [aA 56, aI 1022, aU] [] (up s7 59 (w32 (1 + a8)) 1)) fun a11 s10 => sem 160 147 [aA 56, aI l1, aI l2, aI l3, aI (if l1 = 67 then 4 else if l1 = 80 then 5 else if l1 = 82 then 6 else (-9)), aI a8, aU] [aI a11, aI (w32 (1 + a8)), aA 57] s10)) f160_144 rfl rfl).trans ?_
        refine (g_t rfl).trans ?_
        refine bI_h fun a11 s10 qs10 => ?_
        have rs10 := RefC.sem qs10 rfl (RefC.upd rs7 (rcb_a (by decide)))
        refine (x_iastore f160_147 rfl).trans ?_
        refine (g_t rfl).trans ?_
        refine (g_kt (n := 28) rfl hg9).trans ?_
        refine (x_goto (tg := 407) f160_148 rfl rfl).trans ?_
        refine (x_kil (l2 := [aU, aU, aU, aU, aU, aU, aU]) f160_407 rfl).trans ?_
        exact x_return f160_407 rfl
    · rfl
set_option maxRecDepth 10000 in
theorem g160_151 {s : SG} (hR : RefC s) (l1 l2 l3 l4 : Int) : sem 160 151 [aA 56, aI l1, aI l2, aI l3, aI l4, aU, aU] [] s = if l1 = 87 then if l3 = 0 then sem 160 248 [aA 56, aI l1, aI l2, aU, aI l4, aU, aU] [] s else bnI (sem 157 0 [aA 56, aI l3, aU] [] (up s 56 5 (w32 ((s 56 5) + 1)))) fun a2 s1 => bnI (sem 158 0 [aA 56, aI (w32 (10 + (w32 (3 * a2)))), aI 3, aU, aU] [] s1) fun a4 s3 => bnI (sem 157 0 [aA 56, aI a4, aU] [] s3) fun a6 s5 => grd ((0 : Int) ≤ (w32 (10 + (w32 ((w32 (3 * a2)) + a6)))) ∧ (w32 (10 + (w32 ((w32 (3 * a2)) + a6)))) < 28) (bnI (sem 157 0 [aA 56, aI 15, aU] [] (up s5 59 (w32 (10 + (w32 ((w32 (3 * a2)) + a6)))) 1)) fun a9 s8 => bnI (sem 157 0 [aA 56, aI 1023, aU] [] (up s8 57 (w32 (10 + (w32 ((w32 (3 * a2)) + a6)))) a9)) fun a11 s10 => grd ((0 : Int) ≤ (w32 (19 + (w32 ((w32 (3 * a2)) + a6)))) ∧ (w32 (19 + (w32 ((w32 (3 * a2)) + a6)))) < 28) (some (aU, up s10 57 (w32 (19 + (w32 ((w32 (3 * a2)) + a6)))) a11))) else sem 160 248 [aA 56, aI l1, aI l2, aU, aI l4, aU, aU] [] s := by
  refine (x_iload f160_151 rfl rfl).trans ?_
  refine (x_iconst f160_152 rfl).trans ?_
  refine (x_icmp_ne (tg := 248) f160_154 rfl rfl).trans (i_c ?_ ?_)
  · refine (x_iload f160_157 rfl rfl).trans ?_
    refine (x_if_eq (tg := 248) f160_158 rfl rfl).trans (i_c ?_ ?_)
    · exact x_kil f160_248 rfl
    · refine (x_aload f160_161 rfl rfl).trans ?_
      refine (x_dup f160_162 rfl rfl).trans ?_
      refine (y_get0 (ji := 5) rfl f160_163 rfl rfl).trans ?_
      refine (g_t rfl).trans ?_
      refine (x_iconst f160_166 rfl).trans ?_
      refine (x_iadd f160_167 rfl).trans ?_
      refine (y_put0 (ji := 5) rfl f160_168 rfl rfl).trans ?_
      refine (g_t rfl).trans ?_
      refine (x_aload f160_171 rfl rfl).trans ?_
      refine (x_iload f160_172 rfl rfl).trans ?_
      refine (x_invokevirtual (G := grd (kd 56 = 9) (bnI (sem 157 0 [aA 56, aI l3, aU] [] (up s 56 5 (w32 ((s 56 5) + 1)))) fun a2 s1 => sem 160 176 [aA 56, aI l1, aI l2, aI l3, aI l4, aU, aU] [aI a2] s1)) f160_173 rfl rfl).trans ?_
      refine (g_t rfl).trans ?_
      refine bI_h fun a2 s1 qs1 => ?_
      have rs1 := RefC.sem qs1 rfl (RefC.upd hR (rcb_f (c := 9) (j := 5) rfl (by decide) (by decide)))
      refine (x_istore (l2 := [aA 56, aI l1, aI l2, aI l3, aI l4, aI a2, aU]) f160_176 rfl rfl).trans ?_
      refine (x_iconst f160_178 rfl).trans ?_
      refine (x_iload f160_179 rfl rfl).trans ?_
      refine (x_imul f160_181 rfl).trans ?_
      refine (x_aload f160_182 rfl rfl).trans ?_
      refine (x_aload f160_183 rfl rfl).trans ?_
      refine (x_iconst f160_184 rfl).trans ?_
      refine (x_iconst f160_186 rfl).trans ?_
      refine (x_iload f160_187 rfl rfl).trans ?_
      refine (x_imul f160_189 rfl).trans ?_
      refine (x_iadd f160_190 rfl).trans ?_
      refine (x_iconst f160_191 rfl).trans ?_
      refine (x_invokevirtual (G := grd (kd 56 = 9) (bnI (sem 158 0 [aA 56, aI (w32 (10 + (w32 (3 * a2)))), aI 3, aU, aU] [] s1) fun a4 s3 => sem 160 195 [aA 56, aI l1, aI l2, aI l3, aI l4, aI a2, aU] [aI a4, aA 56, aI (w32 (3 * a2))] s3)) f160_192 rfl rfl).trans ?_
      refine (g_t rfl).trans ?_
      refine bI_h fun a4 s3 qs3 => ?_
      have rs3 := RefC.sem qs3 rfl rs1
      refine (x_invokevirtual (G := grd (kd 56 = 9) (bnI (sem 157 0 [aA 56, aI a4, aU] [] s3) fun a6 s5 => sem 160 198 [aA 56, aI l1, aI l2, aI l3, aI l4, aI a2, aU] [aI a6, aI (w32 (3 * a2))] s5)) f160_195 rfl rfl).trans ?_
      refine (g_t rfl).trans ?_
      refine bI_h fun a6 s5 qs5 => ?_
      have rs5 := RefC.sem qs5 rfl rs3
      refine (x_iadd f160_198 rfl).trans ?_
      refine (x_istore (l2 := [aA 56, aI l1, aI l2, aI l3, aI l4, aI a2, aI (w32 ((w32 (3 * a2)) + a6))]) f160_199 rfl rfl).trans ?_
      refine (x_aload f160_201 rfl rfl).trans ?_
      refine (y_get2 (ji := 2) rfl f160_202 rfl rfl).trans ?_
      refine (g_t rfl).trans ?_
      refine (g_t (by rw [show s5 56 2 = 59 from rs5.2.2.2.2.2.2.2.2.2.2.2.2.2.2.2.2.2.2.2.2.2.2.2.2.2.2.2.2.2.2.2.2.2.2.2.2.2.2.2.2.2.2.2.2.2.2.2.2.2.2.2.2.2.2.2.1]; decide)).trans ?_
      rw [show s5 56 2 = 59 from rs5.2.2.2.2.2.2.2.2.2.2.2.2.2.2.2.2.2.2.2.2.2.2.2.2.2.2.2.2.2.2.2.2.2.2.2.2.2.2.2.2.2.2.2.2.2.2.2.2.2.2.2.2.2.2.2.1]
      refine (x_iconst f160_205 rfl).trans ?_
      refine (x_iload f160_207 rfl rfl).trans ?_
      refine (x_iadd f160_209 rfl).trans ?_
      refine (x_iconst f160_210 rfl).trans ?_
      refine (x_bastore f160_211 rfl).trans ?_
      refine (g_t rfl).trans ?_
      refine g_kl (n := 28) rfl fun hg7 => ?_
      refine (g_t (by decide)).trans ?_
      refine (x_aload f160_212 rfl rfl).trans ?_
      refine (y_get2 (ji := 0) rfl f160_213 rfl rfl).trans ?_
      refine (g_t rfl).trans ?_
      refine (g_t (by rw [show (up s5 59 (w32 (10 + (w32 ((w32 (3 * a2)) + a6)))) 1) 56 0 = 57 from (by rw [up_ne (by decide)]; exact rs5.2.2.2.2.2.2.2.2.2.2.2.2.2.2.2.2.2.2.2.2.2.2.2.2.2.2.2.2.2.2.2.2.2.2.2.2.2.2.2.2.2.2.2.2.2.2.2.2.2.2.2.2.2.1)]; decide)).trans ?_
      rw [show (up s5 59 (w32 (10 + (w32 ((w32 (3 * a2)) + a6)))) 1) 56 0 = 57 from (by rw [up_ne (by decide)]; exact rs5.2.2.2.2.2.2.2.2.2.2.2.2.2.2.2.2.2.2.2.2.2.2.2.2.2.2.2.2.2.2.2.2.2.2.2.2.2.2.2.2.2.2.2.2.2.2.2.2.2.2.2.2.2.1)]
      refine (x_iconst f160_216 rfl).trans ?_
      refine (x_iload f160_218 rfl rfl).trans ?_
      refine (x_iadd f160_220 rfl).trans ?_
      refine (x_aload f160_221 rfl rfl).trans ?_
      refine (x_iconst f160_222 rfl).trans ?_
      refine (x_invokevirtual (G := grd (kd 56 = 9) (bnI (sem 157 0 [aA 56, aI 15, aU] [] (up s5 59 (w32 (10 + (w32 ((w32 (3 * a2)) + a6)))) 1)) fun a9 s8 => sem 160 227 [aA 56, aI l1, aI l2, aI l3, aI l4, aI a2, aI (w32 ((w32 (3 * a2)) + a6))] [aI a9, aI (w32 (10 + (w32 ((w32 (3 * a2)) + a6)))), aA 57] s8)) f160_224 rfl rfl).trans ?_
      refine (g_t rfl).trans ?_
      refine bI_h fun a9 s8 qs8 => ?_
      have rs8 := RefC.sem qs8 rfl (RefC.upd rs5 (rcb_a (by decide)))
      refine (x_iastore f160_227 rfl).trans ?_
      refine (g_t rfl).trans ?_
      refine (g_kt (n := 28) rfl hg7).trans ?_
      refine (x_aload f160_228 rfl rfl).trans ?_
      refine (y_get2 (ji := 0) rfl f160_229 rfl rfl).trans ?_
      refine (g_t rfl).trans ?_
      refine (g_t (by rw [show (up s8 57 (w32 (10 + (w32 ((w32 (3 * a2)) + a6)))) a9) 56 0 = 57 from (by rw [up_ne (by decide)]; exact rs8.2.2.2.2.2.2.2.2.2.2.2.2.2.2.2.2.2.2.2.2.2.2.2.2.2.2.2.2.2.2.2.2.2.2.2.2.2.2.2.2.2.2.2.2.2.2.2.2.2.2.2.2.2.1)]; decide)).trans ?_
      rw [show (up s8 57 (w32 (10 + (w32 ((w32 (3 * a2)) + a6)))) a9) 56 0 = 57 from (by rw [up_ne (by decide)]; exact rs8.2.2.2.2.2.2.2.2.2.2.2.2.2.2.2.2.2.2.2.2.2.2.2.2.2.2.2.2.2.2.2.2.2.2.2.2.2.2.2.2.2.2.2.2.2.2.2.2.2.2.2.2.2.1)]
      refine (x_iconst f160_232 rfl).trans ?_
      refine (x_iload f160_234 rfl rfl).trans ?_
      refine (x_iadd f160_236 rfl).trans ?_
      refine (x_aload f160_237 rfl rfl).trans ?_
      refine (x_iconst f160_238 rfl).trans ?_
      refine (x_invokevirtual (G := grd (kd 56 = 9) (bnI (sem 157 0 [aA 56, aI 1023, aU] [] (up s8 57 (w32 (10 + (w32 ((w32 (3 * a2)) + a6)))) a9)) fun a11 s10 => sem 160 244 [aA 56, aI l1, aI l2, aI l3, aI l4, aI a2, aI (w32 ((w32 (3 * a2)) + a6))] [aI a11, aI (w32 (19 + (w32 ((w32 (3 * a2)) + a6)))), aA 57] s10)) f160_241 rfl rfl).trans ?_
      refine (g_t rfl).trans ?_
      refine bI_h fun a11 s10 qs10 => ?_
      have rs10 := RefC.sem qs10 rfl (RefC.upd rs8 (rcb_a (by decide)))
      refine (x_iastore f160_244 rfl).trans ?_
      refine (g_t rfl).trans ?_
      refine g_kl (n := 28) rfl fun hg12 => ?_
      refine (x_goto (tg := 407) f160_245 rfl rfl).trans ?_
      refine (x_kil (l2 := [aU, aU, aU, aU, aU, aU, aU]) f160_407 rfl).trans ?_
      exact x_return f160_407 rfl
  · exact x_kil f160_248 rfl
set_option maxRecDepth 10000 in
theorem g160_248 {s : SG} (hR : RefC s) (l1 l2 l4 : Int) : sem 160 248 [aA 56, aI l1, aI l2, aU, aI l4, aU, aU] [] s = if l1 = 71 then if (1 : Int) < l2 then bnI (sem 158 0 [aA 56, aI 7, aI l2, aU, aU] [] s) fun a2 s1 => if a2 = 0 then sem 160 332 [aA 56, aU, aU, aU, aI l4, aU, aU] [] s1 else bnI (sem 158 0 [aA 56, aI 7, aI l2, aU, aU] [] (up s1 56 5 (w32 ((s1 56 5) + 1)))) fun a4 s3 => bnI (sem 157 0 [aA 56, aI a4, aU] [] s3) fun a6 s5 => grd ((0 : Int) ≤ (w32 (7 + a6)) ∧ (w32 (7 + a6)) < 28) (bnI (sem 157 0 [aA 56, aI (iandA (w32 ((ishlA 1 l2) - 1)) (ixorA (ishlA 1 a6) ((-1)))), aU] [] (up s5 59 (w32 (7 + a6)) 1)) fun a9 s8 => some (aU, up s8 57 (w32 (7 + a6)) a9)) else sem 160 332 [aA 56, aU, aU, aU, aI l4, aU, aU] [] s else sem 160 332 [aA 56, aU, aU, aU, aI l4, aU, aU] [] s := by
  refine (x_iload f160_248 rfl rfl).trans ?_
  refine (x_iconst f160_249 rfl).trans ?_
  refine (x_icmp_ne (tg := 332) f160_251 rfl rfl).trans (i_c ?_ ?_)
  · refine (x_iload f160_254 rfl rfl).trans ?_
    refine (x_iconst f160_255 rfl).trans ?_
    refine (x_icmp_le (tg := 332) f160_256 rfl rfl).trans (i_c ?_ ?_)
    · refine (x_aload f160_259 rfl rfl).trans ?_
      refine (x_iconst f160_260 rfl).trans ?_
      refine (x_iload f160_262 rfl rfl).trans ?_
      refine (x_invokevirtual (G := grd (kd 56 = 9) (bnI (sem 158 0 [aA 56, aI 7, aI l2, aU, aU] [] s) fun a2 s1 => sem 160 266 [aA 56, aI l1, aI l2, aU, aI l4, aU, aU] [aI a2] s1)) f160_263 rfl rfl).trans ?_
      refine (g_t rfl).trans ?_
      refine bI_h fun a2 s1 qs1 => ?_
      have rs1 := RefC.sem qs1 rfl hR
      refine (x_if_eq (tg := 332) f160_266 rfl rfl).trans (i_c ?_ ?_)
      · exact x_kil f160_332 rfl
      · refine (x_aload f160_269 rfl rfl).trans ?_
        refine (x_dup f160_270 rfl rfl).trans ?_
        refine (y_get0 (ji := 5) rfl f160_271 rfl rfl).trans ?_
        refine (g_t rfl).trans ?_
        refine (x_iconst f160_274 rfl).trans ?_
        refine (x_iadd f160_275 rfl).trans ?_
        refine (y_put0 (ji := 5) rfl f160_276 rfl rfl).trans ?_
        refine (g_t rfl).trans ?_
        refine (x_aload f160_279 rfl rfl).trans ?_
        refine (x_aload f160_280 rfl rfl).trans ?_
        refine (x_iconst f160_281 rfl).trans ?_
        refine (x_iload f160_283 rfl rfl).trans ?_
        refine (x_invokevirtual (G := grd (kd 56 = 9) (bnI (sem 158 0 [aA 56, aI 7, aI l2, aU, aU] [] (up s1 56 5 (w32 ((s1 56 5) + 1)))) fun a4 s3 => sem 160 287 [aA 56, aI l1, aI l2, aU, aI l4, aU, aU] [aI a4, aA 56] s3)) f160_284 rfl rfl).trans ?_
        refine (g_t rfl).trans ?_
        refine bI_h fun a4 s3 qs3 => ?_
        have rs3 := RefC.sem qs3 rfl (RefC.upd rs1 (rcb_f (c := 9) (j := 5) rfl (by decide) (by decide)))
        refine (x_invokevirtual (G := grd (kd 56 = 9) (bnI (sem 157 0 [aA 56, aI a4, aU] [] s3) fun a6 s5 => sem 160 290 [aA 56, aI l1, aI l2, aU, aI l4, aU, aU] [aI a6] s5)) f160_287 rfl rfl).trans ?_
        refine (g_t rfl).trans ?_
        refine bI_h fun a6 s5 qs5 => ?_
        have rs5 := RefC.sem qs5 rfl rs3
        refine (x_istore (l2 := [aA 56, aI l1, aI l2, aU, aI l4, aI a6, aU]) f160_290 rfl rfl).trans ?_
        refine (x_aload f160_292 rfl rfl).trans ?_
        refine (y_get2 (ji := 2) rfl f160_293 rfl rfl).trans ?_
        refine (g_t rfl).trans ?_
        refine (g_t (by rw [show s5 56 2 = 59 from rs5.2.2.2.2.2.2.2.2.2.2.2.2.2.2.2.2.2.2.2.2.2.2.2.2.2.2.2.2.2.2.2.2.2.2.2.2.2.2.2.2.2.2.2.2.2.2.2.2.2.2.2.2.2.2.2.1]; decide)).trans ?_
        rw [show s5 56 2 = 59 from rs5.2.2.2.2.2.2.2.2.2.2.2.2.2.2.2.2.2.2.2.2.2.2.2.2.2.2.2.2.2.2.2.2.2.2.2.2.2.2.2.2.2.2.2.2.2.2.2.2.2.2.2.2.2.2.2.1]
        refine (x_iconst f160_296 rfl).trans ?_
        refine (x_iload f160_298 rfl rfl).trans ?_
        refine (x_iadd f160_300 rfl).trans ?_
        refine (x_iconst f160_301 rfl).trans ?_
        refine (x_bastore f160_302 rfl).trans ?_
        refine (g_t rfl).trans ?_
        refine g_kl (n := 28) rfl fun hg7 => ?_
        refine (g_t (by decide)).trans ?_
        refine (x_aload f160_303 rfl rfl).trans ?_
        refine (y_get2 (ji := 0) rfl f160_304 rfl rfl).trans ?_
        refine (g_t rfl).trans ?_
        refine (g_t (by rw [show (up s5 59 (w32 (7 + a6)) 1) 56 0 = 57 from (by rw [up_ne (by decide)]; exact rs5.2.2.2.2.2.2.2.2.2.2.2.2.2.2.2.2.2.2.2.2.2.2.2.2.2.2.2.2.2.2.2.2.2.2.2.2.2.2.2.2.2.2.2.2.2.2.2.2.2.2.2.2.2.1)]; decide)).trans ?_
        rw [show (up s5 59 (w32 (7 + a6)) 1) 56 0 = 57 from (by rw [up_ne (by decide)]; exact rs5.2.2.2.2.2.2.2.2.2.2.2.2.2.2.2.2.2.2.2.2.2.2.2.2.2.2.2.2.2.2.2.2.2.2.2.2.2.2.2.2.2.2.2.2.2.2.2.2.2.2.2.2.2.1)]
        refine (x_iconst f160_307 rfl).trans ?_
        refine (x_iload f160_309 rfl rfl).trans ?_
        refine (x_iadd f160_311 rfl).trans ?_
        refine (x_aload f160_312 rfl rfl).trans ?_
        refine (x_iconst f160_313 rfl).trans ?_
        refine (x_iload f160_314 rfl rfl).trans ?_
        refine (x_ishl f160_315 rfl).trans ?_
        refine (x_iconst f160_316 rfl).trans ?_
        refine (x_isub f160_317 rfl).trans ?_
        refine (x_iconst f160_318 rfl).trans ?_
        refine (x_iload f160_319 rfl rfl).trans ?_
        refine (x_ishl f160_321 rfl).trans ?_
        refine (x_iconst f160_322 rfl).trans ?_
        refine (x_ixor f160_323 rfl).trans ?_
        refine (x_iand f160_324 rfl).trans ?_
        refine (x_invokevirtual (G := grd (kd 56 = 9) (bnI (sem 157 0 [aA 56, aI (iandA (w32 ((ishlA 1 l2) - 1)) (ixorA (ishlA 1 a6) ((-1)))), aU] [] (up s5 59 (w32 (7 + a6)) 1)) fun a9 s8 => sem 160 328 [aA 56, aI l1, aI l2, aU, aI l4, aI a6, aU] [aI a9, aI (w32 (7 + a6)), aA 57] s8)) f160_325 rfl rfl).trans ?_
        refine (g_t rfl).trans ?_
        refine bI_h fun a9 s8 qs8 => ?_
        have rs8 := RefC.sem qs8 rfl (RefC.upd rs5 (rcb_a (by decide)))
        refine (x_iastore f160_328 rfl).trans ?_
        refine (g_t rfl).trans ?_
        refine (g_kt (n := 28) rfl hg7).trans ?_
        refine (x_goto (tg := 407) f160_329 rfl rfl).trans ?_
        refine (x_kil (l2 := [aU, aU, aU, aU, aU, aU, aU]) f160_407 rfl).trans ?_
        exact x_return f160_407 rfl
    · exact x_kil f160_332 rfl
  · exact x_kil f160_332 rfl
set_option maxRecDepth 10000 in
theorem g160_332 {s : SG} (hR : RefC s) (l4 : Int) : sem 160 332 [aA 56, aU, aU, aU, aI l4, aU, aU] [] s = if l4 = ((-9)) then some (aU, up s 56 6 (s 56 5)) else grd ((0 : Int) ≤ l4 ∧ l4 < 28) (if (s 59 l4) = 0 then bnI (sem 157 0 [aA 56, aI 1023, aU] [] (up (up s 56 5 (w32 ((s 56 5) + 1))) 59 l4 1)) fun a3 s2 => bnI (sem 157 0 [aA 56, aI 1023, aU] [] s2) fun a5 s4 => some (aU, up s4 57 l4 (w32 ((w32 (10 * a3)) + a5))) else some (aU, up s 56 6 (s 56 5))) := by
  refine (x_iload f160_332 rfl rfl).trans ?_
  refine (x_iconst f160_334 rfl).trans ?_
  refine (x_icmp_eq (tg := 399) f160_336 rfl rfl).trans (i_c ?_ ?_)
  · refine (x_kil (l2 := [aA 56, aU, aU, aU, aU, aU, aU]) f160_399 rfl).trans ?_
    refine (x_aload f160_399 rfl rfl).trans ?_
    refine (x_aload f160_400 rfl rfl).trans ?_
    refine (y_get0 (ji := 5) rfl f160_401 rfl rfl).trans ?_
    refine (g_t rfl).trans ?_
    refine (y_put0 (ji := 6) rfl f160_404 rfl rfl).trans ?_
    refine (g_t rfl).trans ?_
    refine (x_kil (l2 := [aU, aU, aU, aU, aU, aU, aU]) f160_407 rfl).trans ?_
    exact x_return f160_407 rfl
  · refine (x_aload f160_339 rfl rfl).trans ?_
    refine (y_get2 (ji := 2) rfl f160_340 rfl rfl).trans ?_
    refine (g_t rfl).trans ?_
    refine (g_t (by rw [show s 56 2 = 59 from hR.2.2.2.2.2.2.2.2.2.2.2.2.2.2.2.2.2.2.2.2.2.2.2.2.2.2.2.2.2.2.2.2.2.2.2.2.2.2.2.2.2.2.2.2.2.2.2.2.2.2.2.2.2.2.2.1]; decide)).trans ?_
    rw [show s 56 2 = 59 from hR.2.2.2.2.2.2.2.2.2.2.2.2.2.2.2.2.2.2.2.2.2.2.2.2.2.2.2.2.2.2.2.2.2.2.2.2.2.2.2.2.2.2.2.2.2.2.2.2.2.2.2.2.2.2.2.1]
    refine (x_iload f160_343 rfl rfl).trans ?_
    refine (x_baload f160_345 rfl).trans ?_
    refine (g_t rfl).trans ?_
    refine g_kl (n := 28) rfl fun hg1 => ?_
    refine (x_if_ne (tg := 399) f160_346 rfl rfl).trans (i_c ?_ ?_)
    · refine (x_aload f160_349 rfl rfl).trans ?_
      refine (x_dup f160_350 rfl rfl).trans ?_
      refine (y_get0 (ji := 5) rfl f160_351 rfl rfl).trans ?_
      refine (g_t rfl).trans ?_
      refine (x_iconst f160_354 rfl).trans ?_
      refine (x_iadd f160_355 rfl).trans ?_
      refine (y_put0 (ji := 5) rfl f160_356 rfl rfl).trans ?_
      refine (g_t rfl).trans ?_
      refine (x_aload f160_359 rfl rfl).trans ?_
      refine (y_get2 (ji := 2) rfl f160_360 rfl rfl).trans ?_
      refine (g_t rfl).trans ?_
      refine (g_t (by rw [show (up s 56 5 (w32 ((s 56 5) + 1))) 56 2 = 59 from (by rw [up_ni (by decide)]; exact hR.2.2.2.2.2.2.2.2.2.2.2.2.2.2.2.2.2.2.2.2.2.2.2.2.2.2.2.2.2.2.2.2.2.2.2.2.2.2.2.2.2.2.2.2.2.2.2.2.2.2.2.2.2.2.2.1)]; decide)).trans ?_
      rw [show (up s 56 5 (w32 ((s 56 5) + 1))) 56 2 = 59 from (by rw [up_ni (by decide)]; exact hR.2.2.2.2.2.2.2.2.2.2.2.2.2.2.2.2.2.2.2.2.2.2.2.2.2.2.2.2.2.2.2.2.2.2.2.2.2.2.2.2.2.2.2.2.2.2.2.2.2.2.2.2.2.2.2.1)]
      refine (x_iload f160_363 rfl rfl).trans ?_
      refine (x_iconst f160_365 rfl).trans ?_
      refine (x_bastore f160_366 rfl).trans ?_
      refine (g_t rfl).trans ?_
      refine (g_kt (n := 28) rfl hg1).trans ?_
      refine (g_t (by decide)).trans ?_
      refine (x_aload f160_367 rfl rfl).trans ?_
      refine (x_iconst f160_368 rfl).trans ?_
      refine (x_invokevirtual (G := grd (kd 56 = 9) (bnI (sem 157 0 [aA 56, aI 1023, aU] [] (up (up s 56 5 (w32 ((s 56 5) + 1))) 59 l4 1)) fun a3 s2 => sem 160 374 [aA 56, aU, aU, aU, aI l4, aU, aU] [aI a3] s2)) f160_371 rfl rfl).trans ?_
      refine (g_t rfl).trans ?_
      refine bI_h fun a3 s2 qs2 => ?_
      have rs2 := RefC.sem qs2 rfl (RefC.upd (RefC.upd hR (rcb_f (c := 9) (j := 5) rfl (by decide) (by decide))) (rcb_a (by decide)))
      refine (x_istore (l2 := [aA 56, aU, aU, aU, aI l4, aI a3, aU]) f160_374 rfl rfl).trans ?_
      refine (x_aload f160_376 rfl rfl).trans ?_
      refine (y_get2 (ji := 0) rfl f160_377 rfl rfl).trans ?_
      refine (g_t rfl).trans ?_
      refine (g_t (by rw [show s2 56 0 = 57 from rs2.2.2.2.2.2.2.2.2.2.2.2.2.2.2.2.2.2.2.2.2.2.2.2.2.2.2.2.2.2.2.2.2.2.2.2.2.2.2.2.2.2.2.2.2.2.2.2.2.2.2.2.2.2.1]; decide)).trans ?_
      rw [show s2 56 0 = 57 from rs2.2.2.2.2.2.2.2.2.2.2.2.2.2.2.2.2.2.2.2.2.2.2.2.2.2.2.2.2.2.2.2.2.2.2.2.2.2.2.2.2.2.2.2.2.2.2.2.2.2.2.2.2.2.1]
      refine (x_iload f160_380 rfl rfl).trans ?_
      refine (x_iconst f160_382 rfl).trans ?_
      refine (x_iload f160_384 rfl rfl).trans ?_
      refine (x_imul f160_386 rfl).trans ?_
      refine (x_aload f160_387 rfl rfl).trans ?_
      refine (x_iconst f160_388 rfl).trans ?_
      refine (x_invokevirtual (G := grd (kd 56 = 9) (bnI (sem 157 0 [aA 56, aI 1023, aU] [] s2) fun a5 s4 => sem 160 394 [aA 56, aU, aU, aU, aI l4, aI a3, aU] [aI a5, aI (w32 (10 * a3)), aI l4, aA 57] s4)) f160_391 rfl rfl).trans ?_
      refine (g_t rfl).trans ?_
      refine bI_h fun a5 s4 qs4 => ?_
      have rs4 := RefC.sem qs4 rfl rs2
      refine (x_iadd f160_394 rfl).trans ?_
      refine (x_iastore f160_395 rfl).trans ?_
      refine (g_t rfl).trans ?_
      refine (g_kt (n := 28) rfl hg1).trans ?_
      refine (x_goto (tg := 407) f160_396 rfl rfl).trans ?_
      refine (x_kil (l2 := [aU, aU, aU, aU, aU, aU, aU]) f160_407 rfl).trans ?_
      exact x_return f160_407 rfl
    · refine (x_kil (l2 := [aA 56, aU, aU, aU, aU, aU, aU]) f160_399 rfl).trans ?_
      refine (x_aload f160_399 rfl rfl).trans ?_
      refine (x_aload f160_400 rfl rfl).trans ?_
      refine (y_get0 (ji := 5) rfl f160_401 rfl rfl).trans ?_
      refine (g_t rfl).trans ?_
      refine (y_put0 (ji := 6) rfl f160_404 rfl rfl).trans ?_
      refine (g_t rfl).trans ?_
      refine (x_kil (l2 := [aU, aU, aU, aU, aU, aU, aU]) f160_407 rfl).trans ?_
      exact x_return f160_407 rfl
