set_option maxRecDepth 10000 in
theorem g216_0 {s : SG} (hR : RefC s) (l1 l2 l3 : Int) : sem 216 0 [aA 56, aI l1, aI l2, aI l3] [] s = bnV (sem 205 0 [aA 56, aU, aU] [] (up (up (up s 56 37 0) 56 36 0) 56 38 (if l2 < l3 then (-1) else l1))) fun s1 => grd ((0 : Int) ≤ (w32 ((w32 (6 * l1)) + 5)) ∧ (w32 ((w32 (6 * l1)) + 5)) < 18) (some (aI (w32 (l2 * (s1 73 (w32 ((w32 (6 * l1)) + 5))))), s1)) := by
  refine (x_aload f216_0 rfl rfl).trans ?_
  refine (x_iconst f216_1 rfl).trans ?_
  refine (y_put0 (ji := 37) rfl f216_2 rfl rfl).trans ?_
  refine (g_t rfl).trans ?_
  refine (x_aload f216_5 rfl rfl).trans ?_
  refine (x_iconst f216_6 rfl).trans ?_
  refine (y_put0 (ji := 36) rfl f216_7 rfl rfl).trans ?_
  refine (g_t rfl).trans ?_
  refine (x_aload f216_10 rfl rfl).trans ?_
  refine (x_iload f216_11 rfl rfl).trans ?_
  refine (x_iload f216_12 rfl rfl).trans ?_
  refine (x_icmp_lt (tg := 20) f216_13 rfl rfl).trans ?_
  refine Eq.trans (b := if l2 < l3 then sem 216 21 [aA 56, aI l1, aI l2, aU] [aI ((-1)), aA 56] (up (up s 56 37 0) 56 36 0) else sem 216 21 [aA 56, aI l1, aI l2, aU] [aI l1, aA 56] (up (up s 56 37 0) 56 36 0)) (i_c ?_ ?_) ?_
  · refine (x_iconst f216_20 rfl).trans ?_
    exact x_kil f216_21 rfl
  · refine (x_iload f216_16 rfl rfl).trans ?_
    refine (x_goto (tg := 21) f216_17 rfl rfl).trans ?_
    exact x_kil f216_21 rfl
  refine m_I.trans ?_
  refine (y_put0 (ji := 38) rfl f216_21 rfl rfl).trans ?_
  refine (g_t rfl).trans ?_
  refine (x_aload f216_24 rfl rfl).trans ?_
  refine (x_invokevirtual (G := grd (kd 56 = 9) (bnV (sem 205 0 [aA 56, aU, aU] [] (up (up (up s 56 37 0) 56 36 0) 56 38 (if l2 < l3 then (-1) else l1))) fun s1 => sem 216 28 [aA 56, aI l1, aI l2, aU] [] s1)) f216_25 rfl rfl).trans ?_
  refine (g_t rfl).trans ?_
  refine bV_h fun s1 qs1 => ?_
  have rs1 := RefC.sem qs1 rfl (RefC.upd (RefC.upd (RefC.upd hR (rcb_f (c := 9) (j := 37) rfl (by decide) (by decide))) (rcb_f (c := 9) (j := 36) rfl (by decide) (by decide))) (rcb_f (c := 9) (j := 38) rfl (by decide) (by decide)))
  refine (x_iload f216_28 rfl rfl).trans ?_
  refine (x_aload f216_29 rfl rfl).trans ?_
  refine (y_get2 (ji := 27) rfl f216_30 rfl rfl).trans ?_
  refine (g_t rfl).trans ?_
  refine (g_t (by rw [show s1 56 27 = 73 from rs1.2.2.2.2.2.2.2.2.2.2.2.2.2.2.2.2.2.2.2.2.2.2.2.2.2.2.2.2.2.2.2.2.2.2.2.2.2.2.2.2.2.2.2.2.2.2.2.2.2.2.2.2.2.2.2.2.2.2.2.2.2.2.2.2.2.2.2.2.2.1]; decide)).trans ?_
  rw [show s1 56 27 = 73 from rs1.2.2.2.2.2.2.2.2.2.2.2.2.2.2.2.2.2.2.2.2.2.2.2.2.2.2.2.2.2.2.2.2.2.2.2.2.2.2.2.2.2.2.2.2.2.2.2.2.2.2.2.2.2.2.2.2.2.2.2.2.2.2.2.2.2.2.2.2.2.1]
  refine (x_iconst f216_33 rfl).trans ?_
  refine (x_iload f216_35 rfl rfl).trans ?_
  refine (x_imul f216_36 rfl).trans ?_
  refine (x_iconst f216_37 rfl).trans ?_
  refine (x_iadd f216_38 rfl).trans ?_
  refine (x_iaload f216_39 rfl).trans ?_
  refine (g_t rfl).trans ?_
  refine g_kl (n := 18) rfl fun hg2 => ?_
  refine (x_imul f216_40 rfl).trans ?_
  exact x_ireturn f216_41 rfl
set_option maxRecDepth 10000 in
theorem g217_0 {s : SG} (hR : RefC s) (l1 l2 l3 : Int) : sem 217 0 [aA 56, aI l1, aI l2, aI l3] [] s = bnI (sem 163 0 [aA 56, aI l1] [] s) fun a2 s1 => if a2 = 0 then some (aI ((-1)), s1) else bnI (sem 152 0 [aL l2, aU, aL 0, aU, aL 20, aU] [] s1) fun a4 s3 => if a4 = 0 then some (aI ((-2)), s3) else bnI (sem 152 0 [aL l3, aU, aL 0, aU, aL 21, aU] [] s3) fun a6 s5 => if a6 = 0 then some (aI ((-2)), s5) else bnI (sem 216 0 [aA 56, aI l1, aI l2, aI l3] [] s5) fun a8 s7 => some (aI a8, s7) := by
  refine (x_aload f217_0 rfl rfl).trans ?_
  refine (x_iload f217_1 rfl rfl).trans ?_
  refine (x_invokevirtual (G := grd (kd 56 = 9) (bnI (sem 163 0 [aA 56, aI l1] [] s) fun a2 s1 => sem 217 5 [aA 56, aI l1, aI l2, aI l3] [aI a2] s1)) f217_2 rfl rfl).trans ?_
  refine (g_t rfl).trans ?_
  refine bI_h fun a2 s1 qs1 => ?_
  have rs1 := RefC.sem qs1 rfl hR
  refine (x_if_ne (tg := 10) f217_5 rfl rfl).trans (i_c ?_ ?_)
  · refine (x_iconst f217_8 rfl).trans ?_
    exact x_ireturn f217_9 rfl
  · refine (x_iload f217_10 rfl rfl).trans ?_
    refine (x_i2l f217_11 rfl).trans ?_
    refine (x_lconst f217_12 rfl).trans ?_
    refine (x_lconst f217_13 rfl).trans ?_
    refine (x_invokestatic (G := bnI (sem 152 0 [aL l2, aU, aL 0, aU, aL 20, aU] [] s1) fun a4 s3 => sem 217 19 [aA 56, aI l1, aI l2, aI l3] [aI a4] s3) f217_16 rfl rfl).trans ?_
    refine bI_h fun a4 s3 qs3 => ?_
    have rs3 := RefC.sem qs3 rfl rs1
    refine (x_if_eq (tg := 44) f217_19 rfl rfl).trans (i_c ?_ ?_)
    · refine (x_kil (l2 := [aU, aU, aU, aU]) f217_44 rfl).trans ?_
      refine (x_iconst f217_44 rfl).trans ?_
      exact x_ireturn f217_46 rfl
    · refine (x_iload f217_22 rfl rfl).trans ?_
      refine (x_i2l f217_23 rfl).trans ?_
      refine (x_lconst f217_24 rfl).trans ?_
      refine (x_lconst f217_25 rfl).trans ?_
      refine (x_invokestatic (G := bnI (sem 152 0 [aL l3, aU, aL 0, aU, aL 21, aU] [] s3) fun a6 s5 => sem 217 31 [aA 56, aI l1, aI l2, aI l3] [aI a6] s5) f217_28 rfl rfl).trans ?_
      refine bI_h fun a6 s5 qs5 => ?_
      have rs5 := RefC.sem qs5 rfl rs3
      refine (x_if_eq (tg := 44) f217_31 rfl rfl).trans (i_c ?_ ?_)
      · refine (x_kil (l2 := [aU, aU, aU, aU]) f217_44 rfl).trans ?_
        refine (x_iconst f217_44 rfl).trans ?_
        exact x_ireturn f217_46 rfl
      · refine (x_aload f217_34 rfl rfl).trans ?_
        refine (x_iload f217_35 rfl rfl).trans ?_
        refine (x_iload f217_36 rfl rfl).trans ?_
        refine (x_iload f217_37 rfl rfl).trans ?_
        refine (x_invokevirtual (G := grd (kd 56 = 9) (bnI (sem 216 0 [aA 56, aI l1, aI l2, aI l3] [] s5) fun a8 s7 => sem 217 41 [aA 56, aI l1, aI l2, aI l3] [aI a8] s7)) f217_38 rfl rfl).trans ?_
        refine (g_t rfl).trans ?_
        refine bI_h fun a8 s7 qs7 => ?_
        have rs7 := RefC.sem qs7 rfl rs5
        refine (x_goto (tg := 46) f217_41 rfl rfl).trans ?_
        refine (x_kil (l2 := [aU, aU, aU, aU]) f217_46 rfl).trans ?_
        exact x_ireturn f217_46 rfl
set_option maxRecDepth 10000 in
theorem g218_0 {s : SG} (hR : RefC s) (l1 l2 l3 : Int) : sem 218 0 [aA 56, aI l1, aI l2, aI l3, aU] [] s = bnI (sem 163 0 [aA 56, aI l1] [] s) fun a2 s1 => if a2 = 0 then some (aI ((-1)), s1) else bnI (sem 152 0 [aL l2, aU, aL 0, aU, aL 21, aU] [] s1) fun a4 s3 => if a4 = 0 then some (aI ((-2)), s3) else bnI (sem 152 0 [aL l3, aU, aL 0, aU, aL 999, aU] [] s3) fun a6 s5 => if a6 = 0 then some (aI ((-2)), s5) else sem 218 40 [aA 56, aI l1, aI l2, aI l3, aI 0] [] s5 := by
  refine (x_aload f218_0 rfl rfl).trans ?_
  refine (x_iload f218_1 rfl rfl).trans ?_
  refine (x_invokevirtual (G := grd (kd 56 = 9) (bnI (sem 163 0 [aA 56, aI l1] [] s) fun a2 s1 => sem 218 5 [aA 56, aI l1, aI l2, aI l3, aU] [aI a2] s1)) f218_2 rfl rfl).trans ?_
  refine (g_t rfl).trans ?_
  refine bI_h fun a2 s1 qs1 => ?_
  have rs1 := RefC.sem qs1 rfl hR
  refine (x_if_ne (tg := 10) f218_5 rfl rfl).trans (i_c ?_ ?_)
  · refine (x_iconst f218_8 rfl).trans ?_
    exact x_ireturn f218_9 rfl
  · refine (x_iload f218_10 rfl rfl).trans ?_
    refine (x_i2l f218_11 rfl).trans ?_
    refine (x_lconst f218_12 rfl).trans ?_
    refine (x_lconst f218_13 rfl).trans ?_
    refine (x_invokestatic (G := bnI (sem 152 0 [aL l2, aU, aL 0, aU, aL 21, aU] [] s1) fun a4 s3 => sem 218 19 [aA 56, aI l1, aI l2, aI l3, aU] [aI a4] s3) f218_16 rfl rfl).trans ?_
    refine bI_h fun a4 s3 qs3 => ?_
    have rs3 := RefC.sem qs3 rfl rs1
    refine (x_if_eq (tg := 34) f218_19 rfl rfl).trans (i_c ?_ ?_)
    · refine (x_kil (l2 := [aU, aU, aU, aU, aU]) f218_34 rfl).trans ?_
      refine (x_iconst f218_34 rfl).trans ?_
      exact x_ireturn f218_36 rfl
    · refine (x_iload f218_22 rfl rfl).trans ?_
      refine (x_i2l f218_23 rfl).trans ?_
      refine (x_lconst f218_24 rfl).trans ?_
      refine (x_lconst f218_25 rfl).trans ?_
      refine (x_invokestatic (G := bnI (sem 152 0 [aL l3, aU, aL 0, aU, aL 999, aU] [] s3) fun a6 s5 => sem 218 31 [aA 56, aI l1, aI l2, aI l3, aU] [aI a6] s5) f218_28 rfl rfl).trans ?_
      refine bI_h fun a6 s5 qs5 => ?_
      have rs5 := RefC.sem qs5 rfl rs3
      refine (x_if_ne (tg := 37) f218_31 rfl rfl).trans (i_c ?_ ?_)
      · refine (x_kil (l2 := [aU, aU, aU, aU, aU]) f218_34 rfl).trans ?_
        refine (x_iconst f218_34 rfl).trans ?_
        exact x_ireturn f218_36 rfl
      · refine (x_iconst f218_37 rfl).trans ?_
        refine (x_istore (l2 := [aA 56, aI l1, aI l2, aI l3, aI 0]) f218_38 rfl rfl).trans ?_
        rfl
set_option maxRecDepth 10000 in
theorem g218_40 {s : SG} (hR : RefC s) (l1 l2 l3 l4 : Int) : sem 218 40 [aA 56, aI l1, aI l2, aI l3, aI l4] [] s = if l4 < 21 then bnI (sem 216 0 [aA 56, aI l1, aI l4, aI l2] [] s) fun a2 s1 => if a2 < l3 then sem 218 40 [aA 56, aI l1, aI l2, aI l3, aI (w32 (l4 + 1))] [] s1 else some (aI l4, s1) else some (aI ((-9)), s) := by
  refine (x_iload f218_40 rfl rfl).trans ?_
  refine (x_iconst f218_42 rfl).trans ?_
  refine (x_icmp_ge (tg := 68) f218_44 rfl rfl).trans (i_c ?_ ?_)
  · refine (x_aload f218_47 rfl rfl).trans ?_
    refine (x_iload f218_48 rfl rfl).trans ?_
    refine (x_iload f218_49 rfl rfl).trans ?_
    refine (x_iload f218_51 rfl rfl).trans ?_
    refine (x_invokevirtual (G := grd (kd 56 = 9) (bnI (sem 216 0 [aA 56, aI l1, aI l4, aI l2] [] s) fun a2 s1 => sem 218 55 [aA 56, aI l1, aI l2, aI l3, aI l4] [aI a2] s1)) f218_52 rfl rfl).trans ?_
    refine (g_t rfl).trans ?_
    refine bI_h fun a2 s1 qs1 => ?_
    have rs1 := RefC.sem qs1 rfl hR
    refine (x_iload f218_55 rfl rfl).trans ?_
    refine (x_icmp_lt (tg := 62) f218_56 rfl rfl).trans (i_c ?_ ?_)
    · refine (x_iinc (l2 := [aA 56, aI l1, aI l2, aI l3, aI (w32 (l4 + 1))]) f218_62 rfl rfl rfl).trans ?_
      refine (x_goto (tg := 40) f218_65 rfl rfl).trans ?_
      rfl
    · refine (x_iload f218_59 rfl rfl).trans ?_
      exact x_ireturn f218_61 rfl
  · refine (x_iconst f218_68 rfl).trans ?_
    exact x_ireturn f218_70 rfl
set_option maxRecDepth 10000 in
theorem g219_0 {s : SG} (hR : RefC s) (l1 : Int) : sem 219 0 [aA 56, aI l1, aU] [] s = bnI (sem 152 0 [aL l1, aU, aL 0, aU, aL 1, aU] [] s) fun a2 s1 => if a2 = 0 then some (aI ((-1)), s1) else grd ((0 : Int) ≤ l1 ∧ l1 < 2) (sem 219 21 [aA 56, aI l1, aI 0] [] (up s1 79 l1 1)) := by
  refine (x_iload f219_0 rfl rfl).trans ?_
  refine (x_i2l f219_1 rfl).trans ?_
  refine (x_lconst f219_2 rfl).trans ?_
  refine (x_lconst f219_3 rfl).trans ?_
  refine (x_invokestatic (G := bnI (sem 152 0 [aL l1, aU, aL 0, aU, aL 1, aU] [] s) fun a2 s1 => sem 219 7 [aA 56, aI l1, aU] [aI a2] s1) f219_4 rfl rfl).trans ?_
  refine bI_h fun a2 s1 qs1 => ?_
  have rs1 := RefC.sem qs1 rfl hR
  refine (x_if_ne (tg := 12) f219_7 rfl rfl).trans (i_c ?_ ?_)
  · refine (x_iconst f219_10 rfl).trans ?_
    exact x_ireturn f219_11 rfl
  · refine (x_aload f219_12 rfl rfl).trans ?_
    refine (y_get2 (ji := 39) rfl f219_13 rfl rfl).trans ?_
    refine (g_t rfl).trans ?_
    refine (g_t (by rw [show s1 56 39 = 79 from rs1.2.2.2.2.2.2.2.2.2.2.2.2.2.2.2.2.2.2.2.2.2.2.2.2.2.2.2.2.2.2.2.2.2.2.2.2.2.2.2.2.2.2.2.2.2.2.2.2.2.2.2.2.2.2.2.2.2.2.2.2.2.2.2.2.2.2.2.2.2.2.2.2.2.2.2.1]; decide)).trans ?_
    rw [show s1 56 39 = 79 from rs1.2.2.2.2.2.2.2.2.2.2.2.2.2.2.2.2.2.2.2.2.2.2.2.2.2.2.2.2.2.2.2.2.2.2.2.2.2.2.2.2.2.2.2.2.2.2.2.2.2.2.2.2.2.2.2.2.2.2.2.2.2.2.2.2.2.2.2.2.2.2.2.2.2.2.2.1]
    refine (x_iload f219_16 rfl rfl).trans ?_
    refine (x_iconst f219_17 rfl).trans ?_
    refine (x_bastore f219_18 rfl).trans ?_
    refine (g_t rfl).trans ?_
    refine g_kl (n := 2) rfl fun hg3 => ?_
    refine (g_t (by decide)).trans ?_
    refine (x_iconst f219_19 rfl).trans ?_
    refine (x_istore (l2 := [aA 56, aI l1, aI 0]) f219_20 rfl rfl).trans ?_
    rfl
set_option maxRecDepth 10000 in
theorem g219_21 {s : SG} (hR : RefC s) (l1 l2 : Int) : sem 219 21 [aA 56, aI l1, aI l2] [] s = if l2 < 3 then grd ((0 : Int) ≤ l2 ∧ l2 < 3) (grd ((0 : Int) ≤ (w32 ((w32 (3 * l1)) + l2)) ∧ (w32 ((w32 (3 * l1)) + l2)) < 6) (sem 219 21 [aA 56, aI l1, aI (w32 (l2 + 1))] [] (up (up (up s 80 (w32 ((w32 (3 * l1)) + l2)) (s 66 l2)) 81 (w32 ((w32 (3 * l1)) + l2)) (s 67 l2)) 82 (w32 ((w32 (3 * l1)) + l2)) (s 68 l2)))) else grd ((0 : Int) ≤ (w32 (5 * l1)) ∧ (w32 (5 * l1)) < 10) (grd ((0 : Int) ≤ (w32 ((w32 (5 * l1)) + 1)) ∧ (w32 ((w32 (5 * l1)) + 1)) < 10) (grd ((0 : Int) ≤ (w32 ((w32 (5 * l1)) + 2)) ∧ (w32 ((w32 (5 * l1)) + 2)) < 10) (grd ((0 : Int) ≤ (w32 ((w32 (5 * l1)) + 3)) ∧ (w32 ((w32 (5 * l1)) + 3)) < 10) (grd ((0 : Int) ≤ (w32 ((w32 (5 * l1)) + 4)) ∧ (w32 ((w32 (5 * l1)) + 4)) < 10) (sem 219 150 [aA 56, aI l1, aI 0] [] (up (up (up (up (up s 83 (w32 (5 * l1)) (s 56 15)) 83 (w32 ((w32 (5 * l1)) + 1)) (s 56 19)) 83 (w32 ((w32 (5 * l1)) + 2)) (s 56 20)) 83 (w32 ((w32 (5 * l1)) + 3)) (s 56 21)) 83 (w32 ((w32 (5 * l1)) + 4)) (s 56 22))))))) := by
  refine (x_iload f219_21 rfl rfl).trans ?_
  refine (x_iconst f219_22 rfl).trans ?_
  refine (x_icmp_ge (tg := 80) f219_23 rfl rfl).trans (i_c ?_ ?_)
  · refine (x_aload f219_26 rfl rfl).trans ?_
    refine (y_get2 (ji := 40) rfl f219_27 rfl rfl).trans ?_
    refine (g_t rfl).trans ?_
    refine (g_t (by rw [show s 56 40 = 80 from hR.2.2.2.2.2.2.2.2.2.2.2.2.2.2.2.2.2.2.2.2.2.2.2.2.2.2.2.2.2.2.2.2.2.2.2.2.2.2.2.2.2.2.2.2.2.2.2.2.2.2.2.2.2.2.2.2.2.2.2.2.2.2.2.2.2.2.2.2.2.2.2.2.2.2.2.2.1]; decide)).trans ?_
    rw [show s 56 40 = 80 from hR.2.2.2.2.2.2.2.2.2.2.2.2.2.2.2.2.2.2.2.2.2.2.2.2.2.2.2.2.2.2.2.2.2.2.2.2.2.2.2.2.2.2.2.2.2.2.2.2.2.2.2.2.2.2.2.2.2.2.2.2.2.2.2.2.2.2.2.2.2.2.2.2.2.2.2.2.1]
    refine (x_iconst f219_30 rfl).trans ?_
    refine (x_iload f219_31 rfl rfl).trans ?_
    refine (x_imul f219_32 rfl).trans ?_
    refine (x_iload f219_33 rfl rfl).trans ?_
    refine (x_iadd f219_34 rfl).trans ?_
    refine (x_aload f219_35 rfl rfl).trans ?_
    refine (y_get2 (ji := 16) rfl f219_36 rfl rfl).trans ?_
    refine (g_t rfl).trans ?_
    refine (g_t (by rw [show s 56 16 = 66 from hR.2.2.2.2.2.2.2.2.2.2.2.2.2.2.2.2.2.2.2.2.2.2.2.2.2.2.2.2.2.2.2.2.2.2.2.2.2.2.2.2.2.2.2.2.2.2.2.2.2.2.2.2.2.2.2.2.2.2.2.2.2.2.1]; decide)).trans ?_
    rw [show s 56 16 = 66 from hR.2.2.2.2.2.2.2.2.2.2.2.2.2.2.2.2.2.2.2.2.2.2.2.2.2.2.2.2.2.2.2.2.2.2.2.2.2.2.2.2.2.2.2.2.2.2.2.2.2.2.2.2.2.2.2.2.2.2.2.2.2.2.1]
    refine (x_iload f219_39 rfl rfl).trans ?_
    refine (x_iaload f219_40 rfl).trans ?_
    refine (g_t rfl).trans ?_
    refine g_kl (n := 3) rfl fun hg1 => ?_
    refine (x_iastore f219_41 rfl).trans ?_
    refine (g_t rfl).trans ?_
    refine g_kl (n := 6) rfl fun hg2 => ?_
    refine (x_aload f219_42 rfl rfl).trans ?_
    refine (y_get2 (ji := 41) rfl f219_43 rfl rfl).trans ?_
    refine (g_t rfl).trans ?_
    refine (g_t (by rw [show (up s 80 (w32 ((w32 (3 * l1)) + l2)) (s 66 l2)) 56 41 = 81 from (by rw [up_ne (by decide)]; exact hR.2.2.2.2.2.2.2.2.2.2.2.2.2.2.2.2.2.2.2.2.2.2.2.2.2.2.2.2.2.2.2.2.2.2.2.2.2.2.2.2.2.2.2.2.2.2.2.2.2.2.2.2.2.2.2.2.2.2.2.2.2.2.2.2.2.2.2.2.2.2.2.2.2.2.2.2.2.1)]; decide)).trans ?_
    rw [show (up s 80 (w32 ((w32 (3 * l1)) + l2)) (s 66 l2)) 56 41 = 81 from (by rw [up_ne (by decide)]; exact hR.2.2.2.2.2.2.2.2.2.2.2.2.2.2.2.2.2.2.2.2.2.2.2.2.2.2.2.2.2.2.2.2.2.2.2.2.2.2.2.2.2.2.2.2.2.2.2.2.2.2.2.2.2.2.2.2.2.2.2.2.2.2.2.2.2.2.2.2.2.2.2.2.2.2.2.2.2.1)]
    refine (x_iconst f219_46 rfl).trans ?_
    refine (x_iload f219_47 rfl rfl).trans ?_
    refine (x_imul f219_48 rfl).trans ?_
    refine (x_iload f219_49 rfl rfl).trans ?_
    refine (x_iadd f219_50 rfl).trans ?_
    refine (x_aload f219_51 rfl rfl).trans ?_
    refine (y_get2 (ji := 17) rfl f219_52 rfl rfl).trans ?_
    refine (g_t rfl).trans ?_
    refine (g_t (by rw [show (up s 80 (w32 ((w32 (3 * l1)) + l2)) (s 66 l2)) 56 17 = 67 from (by rw [up_ne (by decide)]; exact hR.2.2.2.2.2.2.2.2.2.2.2.2.2.2.2.2.2.2.2.2.2.2.2.2.2.2.2.2.2.2.2.2.2.2.2.2.2.2.2.2.2.2.2.2.2.2.2.2.2.2.2.2.2.2.2.2.2.2.2.2.2.2.2.1)]; decide)).trans ?_
    rw [show (up s 80 (w32 ((w32 (3 * l1)) + l2)) (s 66 l2)) 56 17 = 67 from (by rw [up_ne (by decide)]; exact hR.2.2.2.2.2.2.2.2.2.2.2.2.2.2.2.2.2.2.2.2.2.2.2.2.2.2.2.2.2.2.2.2.2.2.2.2.2.2.2.2.2.2.2.2.2.2.2.2.2.2.2.2.2.2.2.2.2.2.2.2.2.2.2.1)]
    refine (x_iload f219_55 rfl rfl).trans ?_
    refine (x_iaload f219_56 rfl).trans ?_
    refine (g_t rfl).trans ?_
    refine (g_kt (n := 3) rfl hg1).trans ?_
    rw [show (up s 80 (w32 ((w32 (3 * l1)) + l2)) (s 66 l2)) 67 l2 = s 67 l2 from by rw [up_ne (by decide)]]
    refine (x_iastore f219_57 rfl).trans ?_
    refine (g_t rfl).trans ?_
    refine (g_kt (n := 6) rfl hg2).trans ?_
    refine (x_aload f219_58 rfl rfl).trans ?_
    refine (y_get2 (ji := 42) rfl f219_59 rfl rfl).trans ?_
    refine (g_t rfl).trans ?_
    refine (g_t (by rw [show (up (up s 80 (w32 ((w32 (3 * l1)) + l2)) (s 66 l2)) 81 (w32 ((w32 (3 * l1)) + l2)) (s 67 l2)) 56 42 = 82 from (by rw [up_ne (by decide), up_ne (by decide)]; exact hR.2.2.2.2.2.2.2.2.2.2.2.2.2.2.2.2.2.2.2.2.2.2.2.2.2.2.2.2.2.2.2.2.2.2.2.2.2.2.2.2.2.2.2.2.2.2.2.2.2.2.2.2.2.2.2.2.2.2.2.2.2.2.2.2.2.2.2.2.2.2.2.2.2.2.2.2.2.2.1)]; decide)).trans ?_
    rw [show (up (up s 80 (w32 ((w32 (3 * l1)) + l2)) (s 66 l2)) 81 (w32 ((w32 (3 * l1)) + l2)) (s 67 l2)) 56 42 = 82 from (by rw [up_ne (by decide), up_ne (by decide)]; exact hR.2.2.2.2.2.2.2.2.2.2.2.2.2.2.2.2.2.2.2.2.2.2.2.2.2.2.2.2.2.2.2.2.2.2.2.2.2.2.2.2.2.2.2.2.2.2.2.2.2.2.2.2.2.2.2.2.2.2.2.2.2.2.2.2.2.2.2.2.2.2.2.2.2.2.2.2.2.2.1)]
    refine (x_iconst f219_62 rfl).trans ?_
    refine (x_iload f219_63 rfl rfl).trans ?_
    refine (x_imul f219_64 rfl).trans ?_
    refine (x_iload f219_65 rfl rfl).trans ?_
    refine (x_iadd f219_66 rfl).trans ?_
    refine (x_aload f219_67 rfl rfl).trans ?_
    refine (y_get2 (ji := 18) rfl f219_68 rfl rfl).trans ?_
    refine (g_t rfl).trans ?_
    refine (g_t (by rw [show (up (up s 80 (w32 ((w32 (3 * l1)) + l2)) (s 66 l2)) 81 (w32 ((w32 (3 * l1)) + l2)) (s 67 l2)) 56 18 = 68 from (by rw [up_ne (by decide), up_ne (by decide)]; exact hR.2.2.2.2.2.2.2.2.2.2.2.2.2.2.2.2.2.2.2.2.2.2.2.2.2.2.2.2.2.2.2.2.2.2.2.2.2.2.2.2.2.2.2.2.2.2.2.2.2.2.2.2.2.2.2.2.2.2.2.2.2.2.2.2.1)]; decide)).trans ?_
    rw [show (up (up s 80 (w32 ((w32 (3 * l1)) + l2)) (s 66 l2)) 81 (w32 ((w32 (3 * l1)) + l2)) (s 67 l2)) 56 18 = 68 from (by rw [up_ne (by decide), up_ne (by decide)]; exact hR.2.2.2.2.2.2.2.2.2.2.2.2.2.2.2.2.2.2.2.2.2.2.2.2.2.2.2.2.2.2.2.2.2.2.2.2.2.2.2.2.2.2.2.2.2.2.2.2.2.2.2.2.2.2.2.2.2.2.2.2.2.2.2.2.1)]
    refine (x_iload f219_71 rfl rfl).trans ?_
    refine (x_iaload f219_72 rfl).trans ?_
    refine (g_t rfl).trans ?_
    refine (g_kt (n := 3) rfl hg1).trans ?_
    rw [show (up (up s 80 (w32 ((w32 (3 * l1)) + l2)) (s 66 l2)) 81 (w32 ((w32 (3 * l1)) + l2)) (s 67 l2)) 68 l2 = s 68 l2 from by rw [up_ne (by decide), up_ne (by decide)]]
    refine (x_iastore f219_73 rfl).trans ?_
    refine (g_t rfl).trans ?_
    refine (g_kt (n := 6) rfl hg2).trans ?_
    refine (x_iinc (l2 := [aA 56, aI l1, aI (w32 (l2 + 1))]) f219_74 rfl rfl rfl).trans ?_
    refine (x_goto (tg := 21) f219_77 rfl rfl).trans ?_
    rfl
  · refine (x_aload f219_80 rfl rfl).trans ?_
    refine (y_get2 (ji := 43) rfl f219_81 rfl rfl).trans ?_
    refine (g_t rfl).trans ?_
    refine (g_t (by rw [show s 56 43 = 83 from hR.2.2.2.2.2.2.2.2.2.2.2.2.2.2.2.2.2.2.2.2.2.2.2.2.2.2.2.2.2.2.2.2.2.2.2.2.2.2.2.2.2.2.2.2.2.2.2.2.2.2.2.2.2.2.2.2.2.2.2.2.2.2.2.2.2.2.2.2.2.2.2.2.2.2.2.2.2.2.2.1]; decide)).trans ?_
    rw [show s 56 43 = 83 from hR.2.2.2.2.2.2.2.2.2.2.2.2.2.2.2.2.2.2.2.2.2.2.2.2.2.2.2.2.2.2.2.2.2.2.2.2.2.2.2.2.2.2.2.2.2.2.2.2.2.2.2.2.2.2.2.2.2.2.2.2.2.2.2.2.2.2.2.2.2.2.2.2.2.2.2.2.2.2.2.1]
    refine (x_iconst f219_84 rfl).trans ?_
    refine (x_iload f219_85 rfl rfl).trans ?_
    refine (x_imul f219_86 rfl).trans ?_
    refine (x_aload f219_87 rfl rfl).trans ?_
    refine (y_get0 (ji := 15) rfl f219_88 rfl rfl).trans ?_
    refine (g_t rfl).trans ?_
    refine (x_iastore f219_91 rfl).trans ?_
    refine (g_t rfl).trans ?_
    refine g_kl (n := 10) rfl fun hg3 => ?_
    refine (x_aload f219_92 rfl rfl).trans ?_
    refine (y_get2 (ji := 43) rfl f219_93 rfl rfl).trans ?_
    refine (g_t rfl).trans ?_
    refine (g_t (by rw [show (up s 83 (w32 (5 * l1)) (s 56 15)) 56 43 = 83 from (by rw [up_ne (by decide)]; exact hR.2.2.2.2.2.2.2.2.2.2.2.2.2.2.2.2.2.2.2.2.2.2.2.2.2.2.2.2.2.2.2.2.2.2.2.2.2.2.2.2.2.2.2.2.2.2.2.2.2.2.2.2.2.2.2.2.2.2.2.2.2.2.2.2.2.2.2.2.2.2.2.2.2.2.2.2.2.2.2.1)]; decide)).trans ?_
    rw [show (up s 83 (w32 (5 * l1)) (s 56 15)) 56 43 = 83 from (by rw [up_ne (by decide)]; exact hR.2.2.2.2.2.2.2.2.2.2.2.2.2.2.2.2.2.2.2.2.2.2.2.2.2.2.2.2.2.2.2.2.2.2.2.2.2.2.2.2.2.2.2.2.2.2.2.2.2.2.2.2.2.2.2.2.2.2.2.2.2.2.2.2.2.2.2.2.2.2.2.2.2.2.2.2.2.2.2.1)]
    refine (x_iconst f219_96 rfl).trans ?_
    refine (x_iload f219_97 rfl rfl).trans ?_
    refine (x_imul f219_98 rfl).trans ?_
    refine (x_iconst f219_99 rfl).trans ?_
    refine (x_iadd f219_100 rfl).trans ?_
    refine (x_aload f219_101 rfl rfl).trans ?_
    refine (y_get0 (ji := 19) rfl f219_102 rfl rfl).trans ?_
    refine (g_t rfl).trans ?_
    rw [show (up s 83 (w32 (5 * l1)) (s 56 15)) 56 19 = s 56 19 from by rw [up_ne (by decide)]]
    refine (x_iastore f219_105 rfl).trans ?_
    refine (g_t rfl).trans ?_
    refine g_kl (n := 10) rfl fun hg4 => ?_
    refine (x_aload f219_106 rfl rfl).trans ?_
    refine (y_get2 (ji := 43) rfl f219_107 rfl rfl).trans ?_
    refine (g_t rfl).trans ?_
    refine (g_t (by rw [show (up (up s 83 (w32 (5 * l1)) (s 56 15)) 83 (w32 ((w32 (5 * l1)) + 1)) (s 56 19)) 56 43 = 83 from (by rw [up_ne (by decide), up_ne (by decide)]; exact hR.2.2.2.2.2.2.2.2.2.2.2.2.2.2.2.2.2.2.2.2.2.2.2.2.2.2.2.2.2.2.2.2.2.2.2.2.2.2.2.2.2.2.2.2.2.2.2.2.2.2.2.2.2.2.2.2.2.2.2.2.2.2.2.2.2.2.2.2.2.2.2.2.2.2.2.2.2.2.2.1)]; decide)).trans ?_
    rw [show (up (up s 83 (w32 (5 * l1)) (s 56 15)) 83 (w32 ((w32 (5 * l1)) + 1)) (s 56 19)) 56 43 = 83 from (by rw [up_ne (by decide), up_ne (by decide)]; exact hR.2.2.2.2.2.2.2.2.2.2.2.2.2.2.2.2.2.2.2.2.2.2.2.2.2.2.2.2.2.2.2.2.2.2.2.2.2.2.2.2.2.2.2.2.2.2.2.2.2.2.2.2.2.2.2.2.2.2.2.2.2.2.2.2.2.2.2.2.2.2.2.2.2.2.2.2.2.2.2.1)]
    refine (x_iconst f219_110 rfl).trans ?_
    refine (x_iload f219_111 rfl rfl).trans ?_
    refine (x_imul f219_112 rfl).trans ?_
    refine (x_iconst f219_113 rfl).trans ?_
    refine (x_iadd f219_114 rfl).trans ?_
    refine (x_aload f219_115 rfl rfl).trans ?_
    refine (y_get0 (ji := 20) rfl f219_116 rfl rfl).trans ?_
    refine (g_t rfl).trans ?_
    rw [show (up (up s 83 (w32 (5 * l1)) (s 56 15)) 83 (w32 ((w32 (5 * l1)) + 1)) (s 56 19)) 56 20 = s 56 20 from by rw [up_ne (by decide), up_ne (by decide)]]
    refine (x_iastore f219_119 rfl).trans ?_
    refine (g_t rfl).trans ?_
    refine g_kl (n := 10) rfl fun hg5 => ?_
    refine (x_aload f219_120 rfl rfl).trans ?_
    refine (y_get2 (ji := 43) rfl f219_121 rfl rfl).trans ?_
    refine (g_t rfl).trans ?_
    refine (g_t (by rw [show (up (up (up s 83 (w32 (5 * l1)) (s 56 15)) 83 (w32 ((w32 (5 * l1)) + 1)) (s 56 19)) 83 (w32 ((w32 (5 * l1)) + 2)) (s 56 20)) 56 43 = 83 from (by rw [up_ne (by decide), up_ne (by decide), up_ne (by decide)]; exact hR.2.2.2.2.2.2.2.2.2.2.2.2.2.2.2.2.2.2.2.2.2.2.2.2.2.2.2.2.2.2.2.2.2.2.2.2.2.2.2.2.2.2.2.2.2.2.2.2.2.2.2.2.2.2.2.2.2.2.2.2.2.2.2.2.2.2.2.2.2.2.2.2.2.2.2.2.2.2.2.1)]; decide)).trans ?_
    rw [show (up (up (up s 83 (w32 (5 * l1)) (s 56 15)) 83 (w32 ((w32 (5 * l1)) + 1)) (s 56 19)) 83 (w32 ((w32 (5 * l1)) + 2)) (s 56 20)) 56 43 = 83 from (by rw [up_ne (by decide), up_ne (by decide), up_ne (by decide)]; exact hR.2.2.2.2.2.2.2.2.2.2.2.2.2.2.2.2.2.2.2.2.2.2.2.2.2.2.2.2.2.2.2.2.2.2.2.2.2.2.2.2.2.2.2.2.2.2.2.2.2.2.2.2.2.2.2.2.2.2.2.2.2.2.2.2.2.2.2.2.2.2.2.2.2.2.2.2.2.2.2.1)]
    refine (x_iconst f219_124 rfl).trans ?_
    refine (x_iload f219_125 rfl rfl).trans ?_
    refine (x_imul f219_126 rfl).trans ?_
    refine (x_iconst f219_127 rfl).trans ?_
    refine (x_iadd f219_128 rfl).trans ?_
    refine (x_aload f219_129 rfl rfl).trans ?_
    refine (y_get0 (ji := 21) rfl f219_130 rfl rfl).trans ?_
    refine (g_t rfl).trans ?_
    rw [show (up (up (up s 83 (w32 (5 * l1)) (s 56 15)) 83 (w32 ((w32 (5 * l1)) + 1)) (s 56 19)) 83 (w32 ((w32 (5 * l1)) + 2)) (s 56 20)) 56 21 = s 56 21 from by rw [up_ne (by decide), up_ne (by decide), up_ne (by decide)]]
    refine (x_iastore f219_133 rfl).trans ?_
    refine (g_t rfl).trans ?_
    refine g_kl (n := 10) rfl fun hg6 => ?_
    refine (x_aload f219_134 rfl rfl).trans ?_
    refine (y_get2 (ji := 43) rfl f219_135 rfl rfl).trans ?_
    refine (g_t rfl).trans ?_
    refine (g_t (by rw [show (up (up (up (up s 83 (w32 (5 * l1)) (s 56 15)) 83 (w32 ((w32 (5 * l1)) + 1)) (s 56 19)) 83 (w32 ((w32 (5 * l1)) + 2)) (s 56 20)) 83 (w32 ((w32 (5 * l1)) + 3)) (s 56 21)) 56 43 = 83 from (by rw [up_ne (by decide), up_ne (by decide), up_ne (by decide), up_ne (by decide)]; exact hR.2.2.2.2.2.2.2.2.2.2.2.2.2.2.2.2.2.2.2.2.2.2.2.2.2.2.2.2.2.2.2.2.2.2.2.2.2.2.2.2.2.2.2.2.2.2.2.2.2.2.2.2.2.2.2.2.2.2.2.2.2.2.2.2.2.2.2.2.2.2.2.2.2.2.2.2.2.2.2.1)]; decide)).trans ?_
    rw [show (up (up (up (up s 83 (w32 (5 * l1)) (s 56 15)) 83 (w32 ((w32 (5 * l1)) + 1)) (s 56 19)) 83 (w32 ((w32 (5 * l1)) + 2)) (s 56 20)) 83 (w32 ((w32 (5 * l1)) + 3)) (s 56 21)) 56 43 = 83 from (by rw [up_ne (by decide), up_ne (by decide), up_ne (by decide), up_ne (by decide)]; exact hR.2.2.2.2.2.2.2.2.2.2.2.2.2.2.2.2.2.2.2.2.2.2.2.2.2.2.2.2.2.2.2.2.2.2.2.2.2.2.2.2.2.2.2.2.2.2.2.2.2.2.2.2.2.2.2.2.2.2.2.2.2.2.2.2.2.2.2.2.2.2.2.2.2.2.2.2.2.2.2.1)]
    refine (x_iconst f219_138 rfl).trans ?_
    refine (x_iload f219_139 rfl rfl).trans ?_
    refine (x_imul f219_140 rfl).trans ?_
    refine (x_iconst f219_141 rfl).trans ?_
    refine (x_iadd f219_142 rfl).trans ?_
    refine (x_aload f219_143 rfl rfl).trans ?_
    refine (y_get0 (ji := 22) rfl f219_144 rfl rfl).trans ?_
    refine (g_t rfl).trans ?_
    rw [show (up (up (up (up s 83 (w32 (5 * l1)) (s 56 15)) 83 (w32 ((w32 (5 * l1)) + 1)) (s 56 19)) 83 (w32 ((w32 (5 * l1)) + 2)) (s 56 20)) 83 (w32 ((w32 (5 * l1)) + 3)) (s 56 21)) 56 22 = s 56 22 from by rw [up_ne (by decide), up_ne (by decide), up_ne (by decide), up_ne (by decide)]]
    refine (x_iastore f219_147 rfl).trans ?_
    refine (g_t rfl).trans ?_
    refine g_kl (n := 10) rfl fun hg7 => ?_
    refine (x_iconst f219_148 rfl).trans ?_
    refine (x_istore (l2 := [aA 56, aI l1, aI 0]) f219_149 rfl rfl).trans ?_
    rfl
set_option maxRecDepth 10000 in
theorem g219_150 {s : SG} (hR : RefC s) (l1 l2 : Int) : sem 219 150 [aA 56, aI l1, aI l2] [] s = if l2 < 6 then grd ((0 : Int) ≤ l2 ∧ l2 < 6) (grd ((0 : Int) ≤ (w32 ((w32 (18 * l1)) + (w32 (3 * l2)))) ∧ (w32 ((w32 (18 * l1)) + (w32 (3 * l2)))) < 36) (grd ((0 : Int) ≤ (w32 ((w32 ((w32 (18 * l1)) + (w32 (3 * l2)))) + 1)) ∧ (w32 ((w32 ((w32 (18 * l1)) + (w32 (3 * l2)))) + 1)) < 36) (grd ((0 : Int) ≤ (w32 ((w32 ((w32 (18 * l1)) + (w32 (3 * l2)))) + 2)) ∧ (w32 ((w32 ((w32 (18 * l1)) + (w32 (3 * l2)))) + 2)) < 36) (sem 219 150 [aA 56, aI l1, aI (w32 (l2 + 1))] [] (up (up (up s 84 (w32 ((w32 (18 * l1)) + (w32 (3 * l2)))) (s 69 l2)) 84 (w32 ((w32 ((w32 (18 * l1)) + (w32 (3 * l2)))) + 1)) (s 70 l2)) 84 (w32 ((w32 ((w32 (18 * l1)) + (w32 (3 * l2)))) + 2)) (s 71 l2)))))) else bnI (sem 209 0 [aA 56] [] s) fun a6 s5 => some (aI a6, s5) := by
  refine (x_iload f219_150 rfl rfl).trans ?_
  refine (x_iconst f219_151 rfl).trans ?_
  refine (x_icmp_ge (tg := 223) f219_153 rfl rfl).trans (i_c ?_ ?_)
  · refine (x_aload f219_156 rfl rfl).trans ?_
    refine (y_get2 (ji := 44) rfl f219_157 rfl rfl).trans ?_
    refine (g_t rfl).trans ?_
    refine (g_t (by rw [show s 56 44 = 84 from hR.2.2.2.2.2.2.2.2.2.2.2.2.2.2.2.2.2.2.2.2.2.2.2.2.2.2.2.2.2.2.2.2.2.2.2.2.2.2.2.2.2.2.2.2.2.2.2.2.2.2.2.2.2.2.2.2.2.2.2.2.2.2.2.2.2.2.2.2.2.2.2.2.2.2.2.2.2.2.2.2]; decide)).trans ?_
    rw [show s 56 44 = 84 from hR.2.2.2.2.2.2.2.2.2.2.2.2.2.2.2.2.2.2.2.2.2.2.2.2.2.2.2.2.2.2.2.2.2.2.2.2.2.2.2.2.2.2.2.2.2.2.2.2.2.2.2.2.2.2.2.2.2.2.2.2.2.2.2.2.2.2.2.2.2.2.2.2.2.2.2.2.2.2.2.2]
    refine (x_iconst f219_160 rfl).trans ?_
    refine (x_iload f219_162 rfl rfl).trans ?_
    refine (x_imul f219_163 rfl).trans ?_
    refine (x_iconst f219_164 rfl).trans ?_
    refine (x_iload f219_165 rfl rfl).trans ?_
    refine (x_imul f219_166 rfl).trans ?_
    refine (x_iadd f219_167 rfl).trans ?_
    refine (x_aload f219_168 rfl rfl).trans ?_
    refine (y_get2 (ji := 23) rfl f219_169 rfl rfl).trans ?_
    refine (g_t rfl).trans ?_
    refine (g_t (by rw [show s 56 23 = 69 from hR.2.2.2.2.2.2.2.2.2.2.2.2.2.2.2.2.2.2.2.2.2.2.2.2.2.2.2.2.2.2.2.2.2.2.2.2.2.2.2.2.2.2.2.2.2.2.2.2.2.2.2.2.2.2.2.2.2.2.2.2.2.2.2.2.2.1]; decide)).trans ?_
    rw [show s 56 23 = 69 from hR.2.2.2.2.2.2.2.2.2.2.2.2.2.2.2.2.2.2.2.2.2.2.2.2.2.2.2.2.2.2.2.2.2.2.2.2.2.2.2.2.2.2.2.2.2.2.2.2.2.2.2.2.2.2.2.2.2.2.2.2.2.2.2.2.2.1]
    refine (x_iload f219_172 rfl rfl).trans ?_
    refine (x_iaload f219_173 rfl).trans ?_
    refine (g_t rfl).trans ?_
    refine g_kl (n := 6) rfl fun hg1 => ?_
    refine (x_iastore f219_174 rfl).trans ?_
    refine (g_t rfl).trans ?_
    refine g_kl (n := 36) rfl fun hg2 => ?_
    refine (x_aload f219_175 rfl rfl).trans ?_
    refine (y_get2 (ji := 44) rfl f219_176 rfl rfl).trans ?_
    refine (g_t rfl).trans ?_
    refine (g_t (by rw [show (up s 84 (w32 ((w32 (18 * l1)) + (w32 (3 * l2)))) (s 69 l2)) 56 44 = 84 from (by rw [up_ne (by decide)]; exact hR.2.2.2.2.2.2.2.2.2.2.2.2.2.2.2.2.2.2.2.2.2.2.2.2.2.2.2.2.2.2.2.2.2.2.2.2.2.2.2.2.2.2.2.2.2.2.2.2.2.2.2.2.2.2.2.2.2.2.2.2.2.2.2.2.2.2.2.2.2.2.2.2.2.2.2.2.2.2.2.2)]; decide)).trans ?_
    rw [show (up s 84 (w32 ((w32 (18 * l1)) + (w32 (3 * l2)))) (s 69 l2)) 56 44 = 84 from (by rw [up_ne (by decide)]; exact hR.2.2.2.2.2.2.2.2.2.2.2.2.2.2.2.2.2.2.2.2.2.2.2.2.2.2.2.2.2.2.2.2.2.2.2.2.2.2.2.2.2.2.2.2.2.2.2.2.2.2.2.2.2.2.2.2.2.2.2.2.2.2.2.2.2.2.2.2.2.2.2.2.2.2.2.2.2.2.2.2)]
    refine (x_iconst f219_179 rfl).trans ?_
    refine (x_iload f219_181 rfl rfl).trans ?_
    refine (x_imul f219_182 rfl).trans ?_
    refine (x_iconst f219_183 rfl).trans ?_
    refine (x_iload f219_184 rfl rfl).trans ?_
    refine (x_imul f219_185 rfl).trans ?_
    refine (x_iadd f219_186 rfl).trans ?_
    refine (x_iconst f219_187 rfl).trans ?_
    refine (x_iadd f219_188 rfl).trans ?_
    refine (x_aload f219_189 rfl rfl).trans ?_
    refine (y_get2 (ji := 24) rfl f219_190 rfl rfl).trans ?_
    refine (g_t rfl).trans ?_
    refine (g_t (by rw [show (up s 84 (w32 ((w32 (18 * l1)) + (w32 (3 * l2)))) (s 69 l2)) 56 24 = 70 from (by rw [up_ne (by decide)]; exact hR.2.2.2.2.2.2.2.2.2.2.2.2.2.2.2.2.2.2.2.2.2.2.2.2.2.2.2.2.2.2.2.2.2.2.2.2.2.2.2.2.2.2.2.2.2.2.2.2.2.2.2.2.2.2.2.2.2.2.2.2.2.2.2.2.2.2.1)]; decide)).trans ?_
    rw [show (up s 84 (w32 ((w32 (18 * l1)) + (w32 (3 * l2)))) (s 69 l2)) 56 24 = 70 from (by rw [up_ne (by decide)]; exact hR.2.2.2.2.2.2.2.2.2.2.2.2.2.2.2.2.2.2.2.2.2.2.2.2.2.2.2.2.2.2.2.2.2.2.2.2.2.2.2.2.2.2.2.2.2.2.2.2.2.2.2.2.2.2.2.2.2.2.2.2.2.2.2.2.2.2.1)]
    refine (x_iload f219_193 rfl rfl).trans ?_
    refine (x_iaload f219_194 rfl).trans ?_
    refine (g_t rfl).trans ?_
    refine (g_kt (n := 6) rfl hg1).trans ?_
    rw [show (up s 84 (w32 ((w32 (18 * l1)) + (w32 (3 * l2)))) (s 69 l2)) 70 l2 = s 70 l2 from by rw [up_ne (by decide)]]
    refine (x_iastore f219_195 rfl).trans ?_
    refine (g_t rfl).trans ?_
    refine g_kl (n := 36) rfl fun hg3 => ?_
    refine (x_aload f219_196 rfl rfl).trans ?_
    refine (y_get2 (ji := 44) rfl f219_197 rfl rfl).trans ?_
    refine (g_t rfl).trans ?_
    refine (g_t (by rw [show (up (up s 84 (w32 ((w32 (18 * l1)) + (w32 (3 * l2)))) (s 69 l2)) 84 (w32 ((w32 ((w32 (18 * l1)) + (w32 (3 * l2)))) + 1)) (s 70 l2)) 56 44 = 84 from (by rw [up_ne (by decide), up_ne (by decide)]; exact hR.2.2.2.2.2.2.2.2.2.2.2.2.2.2.2.2.2.2.2.2.2.2.2.2.2.2.2.2.2.2.2.2.2.2.2.2.2.2.2.2.2.2.2.2.2.2.2.2.2.2.2.2.2.2.2.2.2.2.2.2.2.2.2.2.2.2.2.2.2.2.2.2.2.2.2.2.2.2.2.2)]; decide)).trans ?_
    rw [show (up (up s 84 (w32 ((w32 (18 * l1)) + (w32 (3 * l2)))) (s 69 l2)) 84 (w32 ((w32 ((w32 (18 * l1)) + (w32 (3 * l2)))) + 1)) (s 70 l2)) 56 44 = 84 from (by rw [up_ne (by decide), up_ne (by decide)]; exact hR.2.2.2.2.2.2.2.2.2.2.2.2.2.2.2.2.2.2.2.2.2.2.2.2.2.2.2.2.2.2.2.2.2.2.2.2.2.2.2.2.2.2.2.2.2.2.2.2.2.2.2.2.2.2.2.2.2.2.2.2.2.2.2.2.2.2.2.2.2.2.2.2.2.2.2.2.2.2.2.2)]
    refine (x_iconst f219_200 rfl).trans ?_
    refine (x_iload f219_202 rfl rfl).trans ?_
    refine (x_imul f219_203 rfl).trans ?_
    refine (x_iconst f219_204 rfl).trans ?_
    refine (x_iload f219_205 rfl rfl).trans ?_
    refine (x_imul f219_206 rfl).trans ?_
    refine (x_iadd f219_207 rfl).trans ?_
    refine (x_iconst f219_208 rfl).trans ?_
    refine (x_iadd f219_209 rfl).trans ?_
    refine (x_aload f219_210 rfl rfl).trans ?_
    refine (y_get2 (ji := 25) rfl f219_211 rfl rfl).trans ?_
    refine (g_t rfl).trans ?_
    refine (g_t (by rw [show (up (up s 84 (w32 ((w32 (18 * l1)) + (w32 (3 * l2)))) (s 69 l2)) 84 (w32 ((w32 ((w32 (18 * l1)) + (w32 (3 * l2)))) + 1)) (s 70 l2)) 56 25 = 71 from (by rw [up_ne (by decide), up_ne (by decide)]; exact hR.2.2.2.2.2.2.2.2.2.2.2.2.2.2.2.2.2.2.2.2.2.2.2.2.2.2.2.2.2.2.2.2.2.2.2.2.2.2.2.2.2.2.2.2.2.2.2.2.2.2.2.2.2.2.2.2.2.2.2.2.2.2.2.2.2.2.2.1)]; decide)).trans ?_
    rw [show (up (up s 84 (w32 ((w32 (18 * l1)) + (w32 (3 * l2)))) (s 69 l2)) 84 (w32 ((w32 ((w32 (18 * l1)) + (w32 (3 * l2)))) + 1)) (s 70 l2)) 56 25 = 71 from (by rw [up_ne (by decide), up_ne (by decide)]; exact hR.2.2.2.2.2.2.2.2.2.2.2.2.2.2.2.2.2.2.2.2.2.2.2.2.2.2.2.2.2.2.2.2.2.2.2.2.2.2.2.2.2.2.2.2.2.2.2.2.2.2.2.2.2.2.2.2.2.2.2.2.2.2.2.2.2.2.2.1)]
    refine (x_iload f219_214 rfl rfl).trans ?_
    refine (x_iaload f219_215 rfl).trans ?_
    refine (g_t rfl).trans ?_
    refine (g_kt (n := 6) rfl hg1).trans ?_
    rw [show (up (up s 84 (w32 ((w32 (18 * l1)) + (w32 (3 * l2)))) (s 69 l2)) 84 (w32 ((w32 ((w32 (18 * l1)) + (w32 (3 * l2)))) + 1)) (s 70 l2)) 71 l2 = s 71 l2 from by rw [up_ne (by decide), up_ne (by decide)]]
    refine (x_iastore f219_216 rfl).trans ?_
    refine (g_t rfl).trans ?_
    refine g_kl (n := 36) rfl fun hg4 => ?_
    refine (x_iinc (l2 := [aA 56, aI l1, aI (w32 (l2 + 1))]) f219_217 rfl rfl rfl).trans ?_
    refine (x_goto (tg := 150) f219_220 rfl rfl).trans ?_
    rfl
  · refine (x_aload f219_223 rfl rfl).trans ?_
    refine (x_invokevirtual (G := grd (kd 56 = 9) (bnI (sem 209 0 [aA 56] [] s) fun a6 s5 => sem 219 227 [aA 56, aI l1, aI l2] [aI a6] s5)) f219_224 rfl rfl).trans ?_
    refine (g_t rfl).trans ?_
    refine bI_h fun a6 s5 qs5 => ?_
    have rs5 := RefC.sem qs5 rfl hR
    exact x_ireturn f219_227 rfl
set_option maxRecDepth 10000 in
theorem g220_0 {s : SG} (hR : RefC s) (l1 : Int) : sem 220 0 [aA 56, aI l1, aU] [] s = bnI (sem 152 0 [aL l1, aU, aL 0, aU, aL 1, aU] [] s) fun a2 s1 => if a2 = 0 then some (aI ((-1)), s1) else grd ((0 : Int) ≤ l1 ∧ l1 < 2) (if (s1 79 l1) = 0 then some (aI ((-3)), s1) else sem 220 26 [aA 56, aI l1, aI 0] [] s1) := by
  refine (x_iload f220_0 rfl rfl).trans ?_
  refine (x_i2l f220_1 rfl).trans ?_
  refine (x_lconst f220_2 rfl).trans ?_
  refine (x_lconst f220_3 rfl).trans ?_
  refine (x_invokestatic (G := bnI (sem 152 0 [aL l1, aU, aL 0, aU, aL 1, aU] [] s) fun a2 s1 => sem 220 7 [aA 56, aI l1, aU] [aI a2] s1) f220_4 rfl rfl).trans ?_
  refine bI_h fun a2 s1 qs1 => ?_
  have rs1 := RefC.sem qs1 rfl hR
  refine (x_if_ne (tg := 12) f220_7 rfl rfl).trans (i_c ?_ ?_)
  · refine (x_iconst f220_10 rfl).trans ?_
    exact x_ireturn f220_11 rfl
  · refine (x_aload f220_12 rfl rfl).trans ?_
    refine (y_get2 (ji := 39) rfl f220_13 rfl rfl).trans ?_
    refine (g_t rfl).trans ?_
    refine (g_t (by rw [show s1 56 39 = 79 from rs1.2.2.2.2.2.2.2.2.2.2.2.2.2.2.2.2.2.2.2.2.2.2.2.2.2.2.2.2.2.2.2.2.2.2.2.2.2.2.2.2.2.2.2.2.2.2.2.2.2.2.2.2.2.2.2.2.2.2.2.2.2.2.2.2.2.2.2.2.2.2.2.2.2.2.2.1]; decide)).trans ?_
    rw [show s1 56 39 = 79 from rs1.2.2.2.2.2.2.2.2.2.2.2.2.2.2.2.2.2.2.2.2.2.2.2.2.2.2.2.2.2.2.2.2.2.2.2.2.2.2.2.2.2.2.2.2.2.2.2.2.2.2.2.2.2.2.2.2.2.2.2.2.2.2.2.2.2.2.2.2.2.2.2.2.2.2.2.1]
    refine (x_iload f220_16 rfl rfl).trans ?_
    refine (x_baload f220_17 rfl).trans ?_
    refine (g_t rfl).trans ?_
    refine g_kl (n := 2) rfl fun hg3 => ?_
    refine (x_if_ne (tg := 24) f220_18 rfl rfl).trans (i_c ?_ ?_)
    · refine (x_iconst f220_21 rfl).trans ?_
      exact x_ireturn f220_23 rfl
    · refine (x_iconst f220_24 rfl).trans ?_
      refine (x_istore (l2 := [aA 56, aI l1, aI 0]) f220_25 rfl rfl).trans ?_
      rfl
set_option maxRecDepth 10000 in
theorem g220_26 {s : SG} (hR : RefC s) (l1 l2 : Int) : sem 220 26 [aA 56, aI l1, aI l2] [] s = if l2 < 3 then grd ((0 : Int) ≤ (w32 ((w32 (3 * l1)) + l2)) ∧ (w32 ((w32 (3 * l1)) + l2)) < 6) (grd ((0 : Int) ≤ l2 ∧ l2 < 3) (sem 220 26 [aA 56, aI l1, aI (w32 (l2 + 1))] [] (up (up (up s 66 l2 (s 80 (w32 ((w32 (3 * l1)) + l2)))) 67 l2 (s 81 (w32 ((w32 (3 * l1)) + l2)))) 68 l2 (s 82 (w32 ((w32 (3 * l1)) + l2)))))) else grd ((0 : Int) ≤ (w32 (5 * l1)) ∧ (w32 (5 * l1)) < 10) (grd ((0 : Int) ≤ (w32 ((w32 (5 * l1)) + 1)) ∧ (w32 ((w32 (5 * l1)) + 1)) < 10) (grd ((0 : Int) ≤ (w32 ((w32 (5 * l1)) + 2)) ∧ (w32 ((w32 (5 * l1)) + 2)) < 10) (grd ((0 : Int) ≤ (w32 ((w32 (5 * l1)) + 3)) ∧ (w32 ((w32 (5 * l1)) + 3)) < 10) (grd ((0 : Int) ≤ (w32 ((w32 (5 * l1)) + 4)) ∧ (w32 ((w32 (5 * l1)) + 4)) < 10) (sem 220 155 [aA 56, aI l1, aI 0] [] (up (up (up (up (up s 56 15 (s 83 (w32 (5 * l1)))) 56 19 (s 83 (w32 ((w32 (5 * l1)) + 1)))) 56 20 (s 83 (w32 ((w32 (5 * l1)) + 2)))) 56 21 (s 83 (w32 ((w32 (5 * l1)) + 3)))) 56 22 (s 83 (w32 ((w32 (5 * l1)) + 4))))))))) := by
  refine (x_iload f220_26 rfl rfl).trans ?_
  refine (x_iconst f220_27 rfl).trans ?_
  refine (x_icmp_ge (tg := 85) f220_28 rfl rfl).trans (i_c ?_ ?_)
  · refine (x_aload f220_31 rfl rfl).trans ?_
    refine (y_get2 (ji := 16) rfl f220_32 rfl rfl).trans ?_
    refine (g_t rfl).trans ?_
    refine (g_t (by rw [show s 56 16 = 66 from hR.2.2.2.2.2.2.2.2.2.2.2.2.2.2.2.2.2.2.2.2.2.2.2.2.2.2.2.2.2.2.2.2.2.2.2.2.2.2.2.2.2.2.2.2.2.2.2.2.2.2.2.2.2.2.2.2.2.2.2.2.2.2.1]; decide)).trans ?_
    rw [show s 56 16 = 66 from hR.2.2.2.2.2.2.2.2.2.2.2.2.2.2.2.2.2.2.2.2.2.2.2.2.2.2.2.2.2.2.2.2.2.2.2.2.2.2.2.2.2.2.2.2.2.2.2.2.2.2.2.2.2.2.2.2.2.2.2.2.2.2.1]
    refine (x_iload f220_35 rfl rfl).trans ?_
    refine (x_aload f220_36 rfl rfl).trans ?_
    refine (y_get2 (ji := 40) rfl f220_37 rfl rfl).trans ?_
    refine (g_t rfl).trans ?_
    refine (g_t (by rw [show s 56 40 = 80 from hR.2.2.2.2.2.2.2.2.2.2.2.2.2.2.2.2.2.2.2.2.2.2.2.2.2.2.2.2.2.2.2.2.2.2.2.2.2.2.2.2.2.2.2.2.2.2.2.2.2.2.2.2.2.2.2.2.2.2.2.2.2.2.2.2.2.2.2.2.2.2.2.2.2.2.2.2.1]; decide)).trans ?_
    rw [show s 56 40 = 80 from hR.2.2.2.2.2.2.2.2.2.2.2.2.2.2.2.2.2.2.2.2.2.2.2.2.2.2.2.2.2.2.2.2.2.2.2.2.2.2.2.2.2.2.2.2.2.2.2.2.2.2.2.2.2.2.2.2.2.2.2.2.2.2.2.2.2.2.2.2.2.2.2.2.2.2.2.2.1]
    refine (x_iconst f220_40 rfl).trans ?_
    refine (x_iload f220_41 rfl rfl).trans ?_
    refine (x_imul f220_42 rfl).trans ?_
    refine (x_iload f220_43 rfl rfl).trans ?_
    refine (x_iadd f220_44 rfl).trans ?_
    refine (x_iaload f220_45 rfl).trans ?_
    refine (g_t rfl).trans ?_
    refine g_kl (n := 6) rfl fun hg1 => ?_
    refine (x_iastore f220_46 rfl).trans ?_
    refine (g_t rfl).trans ?_
    refine g_kl (n := 3) rfl fun hg2 => ?_
    refine (x_aload f220_47 rfl rfl).trans ?_
    refine (y_get2 (ji := 17) rfl f220_48 rfl rfl).trans ?_
    refine (g_t rfl).trans ?_
    refine (g_t (by rw [show (up s 66 l2 (s 80 (w32 ((w32 (3 * l1)) + l2)))) 56 17 = 67 from (by rw [up_ne (by decide)]; exact hR.2.2.2.2.2.2.2.2.2.2.2.2.2.2.2.2.2.2.2.2.2.2.2.2.2.2.2.2.2.2.2.2.2.2.2.2.2.2.2.2.2.2.2.2.2.2.2.2.2.2.2.2.2.2.2.2.2.2.2.2.2.2.2.1)]; decide)).trans ?_
    rw [show (up s 66 l2 (s 80 (w32 ((w32 (3 * l1)) + l2)))) 56 17 = 67 from (by rw [up_ne (by decide)]; exact hR.2.2.2.2.2.2.2.2.2.2.2.2.2.2.2.2.2.2.2.2.2.2.2.2.2.2.2.2.2.2.2.2.2.2.2.2.2.2.2.2.2.2.2.2.2.2.2.2.2.2.2.2.2.2.2.2.2.2.2.2.2.2.2.1)]
    refine (x_iload f220_51 rfl rfl).trans ?_
    refine (x_aload f220_52 rfl rfl).trans ?_
    refine (y_get2 (ji := 41) rfl f220_53 rfl rfl).trans ?_
    refine (g_t rfl).trans ?_
    refine (g_t (by rw [show (up s 66 l2 (s 80 (w32 ((w32 (3 * l1)) + l2)))) 56 41 = 81 from (by rw [up_ne (by decide)]; exact hR.2.2.2.2.2.2.2.2.2.2.2.2.2.2.2.2.2.2.2.2.2.2.2.2.2.2.2.2.2.2.2.2.2.2.2.2.2.2.2.2.2.2.2.2.2.2.2.2.2.2.2.2.2.2.2.2.2.2.2.2.2.2.2.2.2.2.2.2.2.2.2.2.2.2.2.2.2.1)]; decide)).trans ?_
    rw [show (up s 66 l2 (s 80 (w32 ((w32 (3 * l1)) + l2)))) 56 41 = 81 from (by rw [up_ne (by decide)]; exact hR.2.2.2.2.2.2.2.2.2.2.2.2.2.2.2.2.2.2.2.2.2.2.2.2.2.2.2.2.2.2.2.2.2.2.2.2.2.2.2.2.2.2.2.2.2.2.2.2.2.2.2.2.2.2.2.2.2.2.2.2.2.2.2.2.2.2.2.2.2.2.2.2.2.2.2.2.2.1)]
    refine (x_iconst f220_56 rfl).trans ?_
    refine (x_iload f220_57 rfl rfl).trans ?_
    refine (x_imul f220_58 rfl).trans ?_
    refine (x_iload f220_59 rfl rfl).trans ?_
    refine (x_iadd f220_60 rfl).trans ?_
    refine (x_iaload f220_61 rfl).trans ?_
    refine (g_t rfl).trans ?_
    refine (g_kt (n := 6) rfl hg1).trans ?_
    rw [show (up s 66 l2 (s 80 (w32 ((w32 (3 * l1)) + l2)))) 81 (w32 ((w32 (3 * l1)) + l2)) = s 81 (w32 ((w32 (3 * l1)) + l2)) from by rw [up_ne (by decide)]]
    refine (x_iastore f220_62 rfl).trans ?_
    refine (g_t rfl).trans ?_
    refine (g_kt (n := 3) rfl hg2).trans ?_
    refine (x_aload f220_63 rfl rfl).trans ?_
    refine (y_get2 (ji := 18) rfl f220_64 rfl rfl).trans ?_
    refine (g_t rfl).trans ?_
    refine (g_t (by rw [show (up (up s 66 l2 (s 80 (w32 ((w32 (3 * l1)) + l2)))) 67 l2 (s 81 (w32 ((w32 (3 * l1)) + l2)))) 56 18 = 68 from (by rw [up_ne (by decide), up_ne (by decide)]; exact hR.2.2.2.2.2.2.2.2.2.2.2.2.2.2.2.2.2.2.2.2.2.2.2.2.2.2.2.2.2.2.2.2.2.2.2.2.2.2.2.2.2.2.2.2.2.2.2.2.2.2.2.2.2.2.2.2.2.2.2.2.2.2.2.2.1)]; decide)).trans ?_
    rw [show (up (up s 66 l2 (s 80 (w32 ((w32 (3 * l1)) + l2)))) 67 l2 (s 81 (w32 ((w32 (3 * l1)) + l2)))) 56 18 = 68 from (by rw [up_ne (by decide), up_ne (by decide)]; exact hR.2.2.2.2.2.2.2.2.2.2.2.2.2.2.2.2.2.2.2.2.2.2.2.2.2.2.2.2.2.2.2.2.2.2.2.2.2.2.2.2.2.2.2.2.2.2.2.2.2.2.2.2.2.2.2.2.2.2.2.2.2.2.2.2.1)]
    refine (x_iload f220_67 rfl rfl).trans ?_
    refine (x_aload f220_68 rfl rfl).trans ?_
    refine (y_get2 (ji := 42) rfl f220_69 rfl rfl).trans ?_
    refine (g_t rfl).trans ?_
    refine (g_t (by rw [show (up (up s 66 l2 (s 80 (w32 ((w32 (3 * l1)) + l2)))) 67 l2 (s 81 (w32 ((w32 (3 * l1)) + l2)))) 56 42 = 82 from (by rw [up_ne (by decide), up_ne (by decide)]; exact hR.2.2.2.2.2.2.2.2.2.2.2.2.2.2.2.2.2.2.2.2.2.2.2.2.2.2.2.2.2.2.2.2.2.2.2.2.2.2.2.2.2.2.2.2.2.2.2.2.2.2.2.2.2.2.2.2.2.2.2.2.2.2.2.2.2.2.2.2.2.2.2.2.2.2.2.2.2.2.1)]; decide)).trans ?_
    rw [show (up (up s 66 l2 (s 80 (w32 ((w32 (3 * l1)) + l2)))) 67 l2 (s 81 (w32 ((w32 (3 * l1)) + l2)))) 56 42 = 82 from (by rw [up_ne (by decide), up_ne (by decide)]; exact hR.2.2.2.2.2.2.2.2.2.2.2.2.2.2.2.2.2.2.2.2.2.2.2.2.2.2.2.2.2.2.2.2.2.2.2.2.2.2.2.2.2.2.2.2.2.2.2.2.2.2.2.2.2.2.2.2.2.2.2.2.2.2.2.2.2.2.2.2.2.2.2.2.2.2.2.2.2.2.1)]
    refine (x_iconst f220_72 rfl).trans ?_
    refine (x_iload f220_73 rfl rfl).trans ?_
    refine (x_imul f220_74 rfl).trans ?_
    refine (x_iload f220_75 rfl rfl).trans ?_
    refine (x_iadd f220_76 rfl).trans ?_
    refine (x_iaload f220_77 rfl).trans ?_
    refine (g_t rfl).trans ?_
    refine (g_kt (n := 6) rfl hg1).trans ?_
    rw [show (up (up s 66 l2 (s 80 (w32 ((w32 (3 * l1)) + l2)))) 67 l2 (s 81 (w32 ((w32 (3 * l1)) + l2)))) 82 (w32 ((w32 (3 * l1)) + l2)) = s 82 (w32 ((w32 (3 * l1)) + l2)) from by rw [up_ne (by decide), up_ne (by decide)]]
    refine (x_iastore f220_78 rfl).trans ?_
    refine (g_t rfl).trans ?_
    refine (g_kt (n := 3) rfl hg2).trans ?_
    refine (x_iinc (l2 := [aA 56, aI l1, aI (w32 (l2 + 1))]) f220_79 rfl rfl rfl).trans ?_
    refine (x_goto (tg := 26) f220_82 rfl rfl).trans ?_
    rfl
  · refine (x_aload f220_85 rfl rfl).trans ?_
    refine (x_aload f220_86 rfl rfl).trans ?_
    refine (y_get2 (ji := 43) rfl f220_87 rfl rfl).trans ?_
    refine (g_t rfl).trans ?_
    refine (g_t (by rw [show s 56 43 = 83 from hR.2.2.2.2.2.2.2.2.2.2.2.2.2.2.2.2.2.2.2.2.2.2.2.2.2.2.2.2.2.2.2.2.2.2.2.2.2.2.2.2.2.2.2.2.2.2.2.2.2.2.2.2.2.2.2.2.2.2.2.2.2.2.2.2.2.2.2.2.2.2.2.2.2.2.2.2.2.2.2.1]; decide)).trans ?_
    rw [show s 56 43 = 83 from hR.2.2.2.2.2.2.2.2.2.2.2.2.2.2.2.2.2.2.2.2.2.2.2.2.2.2.2.2.2.2.2.2.2.2.2.2.2.2.2.2.2.2.2.2.2.2.2.2.2.2.2.2.2.2.2.2.2.2.2.2.2.2.2.2.2.2.2.2.2.2.2.2.2.2.2.2.2.2.2.1]
    refine (x_iconst f220_90 rfl).trans ?_
    refine (x_iload f220_91 rfl rfl).trans ?_
    refine (x_imul f220_92 rfl).trans ?_
    refine (x_iaload f220_93 rfl).trans ?_
    refine (g_t rfl).trans ?_
    refine g_kl (n := 10) rfl fun hg3 => ?_
    refine (y_put0 (ji := 15) rfl f220_94 rfl rfl).trans ?_
    refine (g_t rfl).trans ?_
    refine (x_aload f220_97 rfl rfl).trans ?_
    refine (x_aload f220_98 rfl rfl).trans ?_
    refine (y_get2 (ji := 43) rfl f220_99 rfl rfl).trans ?_
    refine (g_t rfl).trans ?_
    refine (g_t (by rw [show (up s 56 15 (s 83 (w32 (5 * l1)))) 56 43 = 83 from (by rw [up_ni (by decide)]; exact hR.2.2.2.2.2.2.2.2.2.2.2.2.2.2.2.2.2.2.2.2.2.2.2.2.2.2.2.2.2.2.2.2.2.2.2.2.2.2.2.2.2.2.2.2.2.2.2.2.2.2.2.2.2.2.2.2.2.2.2.2.2.2.2.2.2.2.2.2.2.2.2.2.2.2.2.2.2.2.2.1)]; decide)).trans ?_
    rw [show (up s 56 15 (s 83 (w32 (5 * l1)))) 56 43 = 83 from (by rw [up_ni (by decide)]; exact hR.2.2.2.2.2.2.2.2.2.2.2.2.2.2.2.2.2.2.2.2.2.2.2.2.2.2.2.2.2.2.2.2.2.2.2.2.2.2.2.2.2.2.2.2.2.2.2.2.2.2.2.2.2.2.2.2.2.2.2.2.2.2.2.2.2.2.2.2.2.2.2.2.2.2.2.2.2.2.2.1)]
    refine (x_iconst f220_102 rfl).trans ?_
    refine (x_iload f220_103 rfl rfl).trans ?_
    refine (x_imul f220_104 rfl).trans ?_
    refine (x_iconst f220_105 rfl).trans ?_
    refine (x_iadd f220_106 rfl).trans ?_
    refine (x_iaload f220_107 rfl).trans ?_
    refine (g_t rfl).trans ?_
    refine g_kl (n := 10) rfl fun hg4 => ?_
    rw [show (up s 56 15 (s 83 (w32 (5 * l1)))) 83 (w32 ((w32 (5 * l1)) + 1)) = s 83 (w32 ((w32 (5 * l1)) + 1)) from by rw [up_ne (by decide)]]
    refine (y_put0 (ji := 19) rfl f220_108 rfl rfl).trans ?_
    refine (g_t rfl).trans ?_
    refine (x_aload f220_111 rfl rfl).trans ?_
    refine (x_aload f220_112 rfl rfl).trans ?_
    refine (y_get2 (ji := 43) rfl f220_113 rfl rfl).trans ?_
    refine (g_t rfl).trans ?_
    refine (g_t (by rw [show (up (up s 56 15 (s 83 (w32 (5 * l1)))) 56 19 (s 83 (w32 ((w32 (5 * l1)) + 1)))) 56 43 = 83 from (by rw [up_ni (by decide), up_ni (by decide)]; exact hR.2.2.2.2.2.2.2.2.2.2.2.2.2.2.2.2.2.2.2.2.2.2.2.2.2.2.2.2.2.2.2.2.2.2.2.2.2.2.2.2.2.2.2.2.2.2.2.2.2.2.2.2.2.2.2.2.2.2.2.2.2.2.2.2.2.2.2.2.2.2.2.2.2.2.2.2.2.2.2.1)]; decide)).trans ?_
    rw [show (up (up s 56 15 (s 83 (w32 (5 * l1)))) 56 19 (s 83 (w32 ((w32 (5 * l1)) + 1)))) 56 43 = 83 from (by rw [up_ni (by decide), up_ni (by decide)]; exact hR.2.2.2.2.2.2.2.2.2.2.2.2.2.2.2.2.2.2.2.2.2.2.2.2.2.2.2.2.2.2.2.2.2.2.2.2.2.2.2.2.2.2.2.2.2.2.2.2.2.2.2.2.2.2.2.2.2.2.2.2.2.2.2.2.2.2.2.2.2.2.2.2.2.2.2.2.2.2.2.1)]
    refine (x_iconst f220_116 rfl).trans ?_
    refine (x_iload f220_117 rfl rfl).trans ?_
    refine (x_imul f220_118 rfl).trans ?_
    refine (x_iconst f220_119 rfl).trans ?_
    refine (x_iadd f220_120 rfl).trans ?_
    refine (x_iaload f220_121 rfl).trans ?_
    refine (g_t rfl).trans ?_
    refine g_kl (n := 10) rfl fun hg5 => ?_
    rw [show (up (up s 56 15 (s 83 (w32 (5 * l1)))) 56 19 (s 83 (w32 ((w32 (5 * l1)) + 1)))) 83 (w32 ((w32 (5 * l1)) + 2)) = s 83 (w32 ((w32 (5 * l1)) + 2)) from by rw [up_ne (by decide), up_ne (by decide)]]
    refine (y_put0 (ji := 20) rfl f220_122 rfl rfl).trans ?_
    refine (g_t rfl).trans ?_
    refine (x_aload f220_125 rfl rfl).trans ?_
    refine (x_aload f220_126 rfl rfl).trans ?_
    refine (y_get2 (ji := 43) rfl f220_127 rfl rfl).trans ?_
    refine (g_t rfl).trans ?_
    refine (g_t (by rw [show (up (up (up s 56 15 (s 83 (w32 (5 * l1)))) 56 19 (s 83 (w32 ((w32 (5 * l1)) + 1)))) 56 20 (s 83 (w32 ((w32 (5 * l1)) + 2)))) 56 43 = 83 from (by rw [up_ni (by decide), up_ni (by decide), up_ni (by decide)]; exact hR.2.2.2.2.2.2.2.2.2.2.2.2.2.2.2.2.2.2.2.2.2.2.2.2.2.2.2.2.2.2.2.2.2.2.2.2.2.2.2.2.2.2.2.2.2.2.2.2.2.2.2.2.2.2.2.2.2.2.2.2.2.2.2.2.2.2.2.2.2.2.2.2.2.2.2.2.2.2.2.1)]; decide)).trans ?_
    rw [show (up (up (up s 56 15 (s 83 (w32 (5 * l1)))) 56 19 (s 83 (w32 ((w32 (5 * l1)) + 1)))) 56 20 (s 83 (w32 ((w32 (5 * l1)) + 2)))) 56 43 = 83 from (by rw [up_ni (by decide), up_ni (by decide), up_ni (by decide)]; exact hR.2.2.2.2.2.2.2.2.2.2.2.2.2.2.2.2.2.2.2.2.2.2.2.2.2.2.2.2.2.2.2.2.2.2.2.2.2.2.2.2.2.2.2.2.2.2.2.2.2.2.2.2.2.2.2.2.2.2.2.2.2.2.2.2.2.2.2.2.2.2.2.2.2.2.2.2.2.2.2.1)]
    refine (x_iconst f220_130 rfl).trans ?_
    refine (x_iload f220_131 rfl rfl).trans ?_
    refine (x_imul f220_132 rfl).trans ?_
    refine (x_iconst f220_133 rfl).trans ?_
    refine (x_iadd f220_134 rfl).trans ?_
    refine (x_iaload f220_135 rfl).trans ?_
    refine (g_t rfl).trans ?_
    refine g_kl (n := 10) rfl fun hg6 => ?_
    rw [show (up (up (up s 56 15 (s 83 (w32 (5 * l1)))) 56 19 (s 83 (w32 ((w32 (5 * l1)) + 1)))) 56 20 (s 83 (w32 ((w32 (5 * l1)) + 2)))) 83 (w32 ((w32 (5 * l1)) + 3)) = s 83 (w32 ((w32 (5 * l1)) + 3)) from by rw [up_ne (by decide), up_ne (by decide), up_ne (by decide)]]
    refine (y_put0 (ji := 21) rfl f220_136 rfl rfl).trans ?_
    refine (g_t rfl).trans ?_
    refine (x_aload f220_139 rfl rfl).trans ?_
    refine (x_aload f220_140 rfl rfl).trans ?_
    refine (y_get2 (ji := 43) rfl f220_141 rfl rfl).trans ?_
    refine (g_t rfl).trans ?_
    refine (g_t (by rw [show (up (up (up (up s 56 15 (s 83 (w32 (5 * l1)))) 56 19 (s 83 (w32 ((w32 (5 * l1)) + 1)))) 56 20 (s 83 (w32 ((w32 (5 * l1)) + 2)))) 56 21 (s 83 (w32 ((w32 (5 * l1)) + 3)))) 56 43 = 83 from (by rw [up_ni (by decide), up_ni (by decide), up_ni (by decide), up_ni (by decide)]; exact hR.2.2.2.2.2.2.2.2.2.2.2.2.2.2.2.2.2.2.2.2.2.2.2.2.2.2.2.2.2.2.2.2.2.2.2.2.2.2.2.2.2.2.2.2.2.2.2.2.2.2.2.2.2.2.2.2.2.2.2.2.2.2.2.2.2.2.2.2.2.2.2.2.2.2.2.2.2.2.2.1)]; decide)).trans ?_
    rw [show (up (up (up (up s 56 15 (s 83 (w32 (5 * l1)))) 56 19 (s 83 (w32 ((w32 (5 * l1)) + 1)))) 56 20 (s 83 (w32 ((w32 (5 * l1)) + 2)))) 56 21 (s 83 (w32 ((w32 (5 * l1)) + 3)))) 56 43 = 83 from (by rw [up_ni (by decide), up_ni (by decide), up_ni (by decide), up_ni (by decide)]; exact hR.2.2.2.2.2.2.2.2.2.2.2.2.2.2.2.2.2.2.2.2.2.2.2.2.2.2.2.2.2.2.2.2.2.2.2.2.2.2.2.2.2.2.2.2.2.2.2.2.2.2.2.2.2.2.2.2.2.2.2.2.2.2.2.2.2.2.2.2.2.2.2.2.2.2.2.2.2.2.2.1)]
    refine (x_iconst f220_144 rfl).trans ?_
    refine (x_iload f220_145 rfl rfl).trans ?_
    refine (x_imul f220_146 rfl).trans ?_
    refine (x_iconst f220_147 rfl).trans ?_
    refine (x_iadd f220_148 rfl).trans ?_
    refine (x_iaload f220_149 rfl).trans ?_
    refine (g_t rfl).trans ?_
    refine g_kl (n := 10) rfl fun hg7 => ?_
    rw [show (up (up (up (up s 56 15 (s 83 (w32 (5 * l1)))) 56 19 (s 83 (w32 ((w32 (5 * l1)) + 1)))) 56 20 (s 83 (w32 ((w32 (5 * l1)) + 2)))) 56 21 (s 83 (w32 ((w32 (5 * l1)) + 3)))) 83 (w32 ((w32 (5 * l1)) + 4)) = s 83 (w32 ((w32 (5 * l1)) + 4)) from by rw [up_ne (by decide), up_ne (by decide), up_ne (by decide), up_ne (by decide)]]
    refine (y_put0 (ji := 22) rfl f220_150 rfl rfl).trans ?_
    refine (g_t rfl).trans ?_
    refine (x_iconst f220_153 rfl).trans ?_
    refine (x_istore (l2 := [aA 56, aI l1, aI 0]) f220_154 rfl rfl).trans ?_
    rfl
set_option maxRecDepth 10000 in
theorem g220_155 {s : SG} (hR : RefC s) (l1 l2 : Int) : sem 220 155 [aA 56, aI l1, aI l2] [] s = if l2 < 6 then grd ((0 : Int) ≤ (w32 ((w32 (18 * l1)) + (w32 (3 * l2)))) ∧ (w32 ((w32 (18 * l1)) + (w32 (3 * l2)))) < 36) (grd ((0 : Int) ≤ l2 ∧ l2 < 6) (grd ((0 : Int) ≤ (w32 ((w32 ((w32 (18 * l1)) + (w32 (3 * l2)))) + 1)) ∧ (w32 ((w32 ((w32 (18 * l1)) + (w32 (3 * l2)))) + 1)) < 36) (grd ((0 : Int) ≤ (w32 ((w32 ((w32 (18 * l1)) + (w32 (3 * l2)))) + 2)) ∧ (w32 ((w32 ((w32 (18 * l1)) + (w32 (3 * l2)))) + 2)) < 36) (sem 220 155 [aA 56, aI l1, aI (w32 (l2 + 1))] [] (up (up (up s 69 l2 (s 84 (w32 ((w32 (18 * l1)) + (w32 (3 * l2)))))) 70 l2 (s 84 (w32 ((w32 ((w32 (18 * l1)) + (w32 (3 * l2)))) + 1)))) 71 l2 (s 84 (w32 ((w32 ((w32 (18 * l1)) + (w32 (3 * l2)))) + 2)))))))) else bnI (sem 209 0 [aA 56] [] s) fun a6 s5 => some (aI a6, s5) := by
  refine (x_iload f220_155 rfl rfl).trans ?_
  refine (x_iconst f220_156 rfl).trans ?_
  refine (x_icmp_ge (tg := 228) f220_158 rfl rfl).trans (i_c ?_ ?_)
  · refine (x_aload f220_161 rfl rfl).trans ?_
    refine (y_get2 (ji := 23) rfl f220_162 rfl rfl).trans ?_
    refine (g_t rfl).trans ?_
    refine (g_t (by rw [show s 56 23 = 69 from hR.2.2.2.2.2.2.2.2.2.2.2.2.2.2.2.2.2.2.2.2.2.2.2.2.2.2.2.2.2.2.2.2.2.2.2.2.2.2.2.2.2.2.2.2.2.2.2.2.2.2.2.2.2.2.2.2.2.2.2.2.2.2.2.2.2.1]; decide)).trans ?_
    rw [show s 56 23 = 69 from hR.2.2.2.2.2.2.2.2.2.2.2.2.2.2.2.2.2.2.2.2.2.2.2.2.2.2.2.2.2.2.2.2.2.2.2.2.2.2.2.2.2.2.2.2.2.2.2.2.2.2.2.2.2.2.2.2.2.2.2.2.2.2.2.2.2.1]
    refine (x_iload f220_165 rfl rfl).trans ?_
    refine (x_aload f220_166 rfl rfl).trans ?_
    refine (y_get2 (ji := 44) rfl f220_167 rfl rfl).trans ?_
    refine (g_t rfl).trans ?_
    refine (g_t (by rw [show s 56 44 = 84 from hR.2.2.2.2.2.2.2.2.2.2.2.2.2.2.2.2.2.2.2.2.2.2.2.2.2.2.2.2.2.2.2.2.2.2.2.2.2.2.2.2.2.2.2.2.2.2.2.2.2.2.2.2.2.2.2.2.2.2.2.2.2.2.2.2.2.2.2.2.2.2.2.2.2.2.2.2.2.2.2.2]; decide)).trans ?_
    rw [show s 56 44 = 84 from hR.2.2.2.2.2.2.2.2.2.2.2.2.2.2.2.2.2.2.2.2.2.2.2.2.2.2.2.2.2.2.2.2.2.2.2.2.2.2.2.2.2.2.2.2.2.2.2.2.2.2.2.2.2.2.2.2.2.2.2.2.2.2.2.2.2.2.2.2.2.2.2.2.2.2.2.2.2.2.2.2]
    refine (x_iconst f220_170 rfl).trans ?_
    refine (x_iload f220_172 rfl rfl).trans ?_
    refine (x_imul f220_173 rfl).trans ?_
    refine (x_iconst f220_174 rfl).trans ?_
    refine (x_iload f220_175 rfl rfl).trans ?_
    refine (x_imul f220_176 rfl).trans ?_
    refine (x_iadd f220_177 rfl).trans ?_
    refine (x_iaload f220_178 rfl).trans ?_
    refine (g_t rfl).trans ?_
    refine g_kl (n := 36) rfl fun hg1 => ?_
    refine (x_iastore f220_179 rfl).trans ?_
    refine (g_t rfl).trans ?_
    refine g_kl (n := 6) rfl fun hg2 => ?_
    refine (x_aload f220_180 rfl rfl).trans ?_
    refine (y_get2 (ji := 24) rfl f220_181 rfl rfl).trans ?_
    refine (g_t rfl).trans ?_
    refine (g_t (by rw [show (up s 69 l2 (s 84 (w32 ((w32 (18 * l1)) + (w32 (3 * l2)))))) 56 24 = 70 from (by rw [up_ne (by decide)]; exact hR.2.2.2.2.2.2.2.2.2.2.2.2.2.2.2.2.2.2.2.2.2.2.2.2.2.2.2.2.2.2.2.2.2.2.2.2.2.2.2.2.2.2.2.2.2.2.2.2.2.2.2.2.2.2.2.2.2.2.2.2.2.2.2.2.2.2.1)]; decide)).trans ?_
    rw [show (up s 69 l2 (s 84 (w32 ((w32 (18 * l1)) + (w32 (3 * l2)))))) 56 24 = 70 from (by rw [up_ne (by decide)]; exact hR.2.2.2.2.2.2.2.2.2.2.2.2.2.2.2.2.2.2.2.2.2.2.2.2.2.2.2.2.2.2.2.2.2.2.2.2.2.2.2.2.2.2.2.2.2.2.2.2.2.2.2.2.2.2.2.2.2.2.2.2.2.2.2.2.2.2.1)]
    refine (x_iload f220_184 rfl rfl).trans ?_
    refine (x_aload f220_185 rfl rfl).trans ?_
    refine (y_get2 (ji := 44) rfl f220_186 rfl rfl).trans ?_
    refine (g_t rfl).trans ?_
    refine (g_t (by rw [show (up s 69 l2 (s 84 (w32 ((w32 (18 * l1)) + (w32 (3 * l2)))))) 56 44 = 84 from (by rw [up_ne (by decide)]; exact hR.2.2.2.2.2.2.2.2.2.2.2.2.2.2.2.2.2.2.2.2.2.2.2.2.2.2.2.2.2.2.2.2.2.2.2.2.2.2.2.2.2.2.2.2.2.2.2.2.2.2.2.2.2.2.2.2.2.2.2.2.2.2.2.2.2.2.2.2.2.2.2.2.2.2.2.2.2.2.2.2)]; decide)).trans ?_
    rw [show (up s 69 l2 (s 84 (w32 ((w32 (18 * l1)) + (w32 (3 * l2)))))) 56 44 = 84 from (by rw [up_ne (by decide)]; exact hR.2.2.2.2.2.2.2.2.2.2.2.2.2.2.2.2.2.2.2.2.2.2.2.2.2.2.2.2.2.2.2.2.2.2.2.2.2.2.2.2.2.2.2.2.2.2.2.2.2.2.2.2.2.2.2.2.2.2.2.2.2.2.2.2.2.2.2.2.2.2.2.2.2.2.2.2.2.2.2.2)]
    refine (x_iconst f220_189 rfl).trans ?_
    refine (x_iload f220_191 rfl rfl).trans ?_
    refine (x_imul f220_192 rfl).trans ?_
    refine (x_iconst f220_193 rfl).trans ?_
    refine (x_iload f220_194 rfl rfl).trans ?_
    refine (x_imul f220_195 rfl).trans ?_
    refine (x_iadd f220_196 rfl).trans ?_
    refine (x_iconst f220_197 rfl).trans ?_
    refine (x_iadd f220_198 rfl).trans ?_
    refine (x_iaload f220_199 rfl).trans ?_
    refine (g_t rfl).trans ?_
    refine g_kl (n := 36) rfl fun hg3 => ?_
    rw [show (up s 69 l2 (s 84 (w32 ((w32 (18 * l1)) + (w32 (3 * l2)))))) 84 (w32 ((w32 ((w32 (18 * l1)) + (w32 (3 * l2)))) + 1)) = s 84 (w32 ((w32 ((w32 (18 * l1)) + (w32 (3 * l2)))) + 1)) from by rw [up_ne (by decide)]]
    refine (x_iastore f220_200 rfl).trans ?_
    refine (g_t rfl).trans ?_
    refine (g_kt (n := 6) rfl hg2).trans ?_
    refine (x_aload f220_201 rfl rfl).trans ?_
    refine (y_get2 (ji := 25) rfl f220_202 rfl rfl).trans ?_
    refine (g_t rfl).trans ?_
    refine (g_t (by rw [show (up (up s 69 l2 (s 84 (w32 ((w32 (18 * l1)) + (w32 (3 * l2)))))) 70 l2 (s 84 (w32 ((w32 ((w32 (18 * l1)) + (w32 (3 * l2)))) + 1)))) 56 25 = 71 from (by rw [up_ne (by decide), up_ne (by decide)]; exact hR.2.2.2.2.2.2.2.2.2.2.2.2.2.2.2.2.2.2.2.2.2.2.2.2.2.2.2.2.2.2.2.2.2.2.2.2.2.2.2.2.2.2.2.2.2.2.2.2.2.2.2.2.2.2.2.2.2.2.2.2.2.2.2.2.2.2.2.1)]; decide)).trans ?_
    rw [show (up (up s 69 l2 (s 84 (w32 ((w32 (18 * l1)) + (w32 (3 * l2)))))) 70 l2 (s 84 (w32 ((w32 ((w32 (18 * l1)) + (w32 (3 * l2)))) + 1)))) 56 25 = 71 from (by rw [up_ne (by decide), up_ne (by decide)]; exact hR.2.2.2.2.2.2.2.2.2.2.2.2.2.2.2.2.2.2.2.2.2.2.2.2.2.2.2.2.2.2.2.2.2.2.2.2.2.2.2.2.2.2.2.2.2.2.2.2.2.2.2.2.2.2.2.2.2.2.2.2.2.2.2.2.2.2.2.1)]
    refine (x_iload f220_205 rfl rfl).trans ?_
    refine (x_aload f220_206 rfl rfl).trans ?_
    refine (y_get2 (ji := 44) rfl f220_207 rfl rfl).trans ?_
    refine (g_t rfl).trans ?_
    refine (g_t (by rw [show (up (up s 69 l2 (s 84 (w32 ((w32 (18 * l1)) + (w32 (3 * l2)))))) 70 l2 (s 84 (w32 ((w32 ((w32 (18 * l1)) + (w32 (3 * l2)))) + 1)))) 56 44 = 84 from (by rw [up_ne (by decide), up_ne (by decide)]; exact hR.2.2.2.2.2.2.2.2.2.2.2.2.2.2.2.2.2.2.2.2.2.2.2.2.2.2.2.2.2.2.2.2.2.2.2.2.2.2.2.2.2.2.2.2.2.2.2.2.2.2.2.2.2.2.2.2.2.2.2.2.2.2.2.2.2.2.2.2.2.2.2.2.2.2.2.2.2.2.2.2)]; decide)).trans ?_
    rw [show (up (up s 69 l2 (s 84 (w32 ((w32 (18 * l1)) + (w32 (3 * l2)))))) 70 l2 (s 84 (w32 ((w32 ((w32 (18 * l1)) + (w32 (3 * l2)))) + 1)))) 56 44 = 84 from (by rw [up_ne (by decide), up_ne (by decide)]; exact hR.2.2.2.2.2.2.2.2.2.2.2.2.2.2.2.2.2.2.2.2.2.2.2.2.2.2.2.2.2.2.2.2.2.2.2.2.2.2.2.2.2.2.2.2.2.2.2.2.2.2.2.2.2.2.2.2.2.2.2.2.2.2.2.2.2.2.2.2.2.2.2.2.2.2.2.2.2.2.2.2)]
    refine (x_iconst f220_210 rfl).trans ?_
    refine (x_iload f220_212 rfl rfl).trans ?_
    refine (x_imul f220_213 rfl).trans ?_
    refine (x_iconst f220_214 rfl).trans ?_
    refine (x_iload f220_215 rfl rfl).trans ?_
    refine (x_imul f220_216 rfl).trans ?_
    refine (x_iadd f220_217 rfl).trans ?_
    refine (x_iconst f220_218 rfl).trans ?_
    refine (x_iadd f220_219 rfl).trans ?_
    refine (x_iaload f220_220 rfl).trans ?_
    refine (g_t rfl).trans ?_
    refine g_kl (n := 36) rfl fun hg4 => ?_
    rw [show (up (up s 69 l2 (s 84 (w32 ((w32 (18 * l1)) + (w32 (3 * l2)))))) 70 l2 (s 84 (w32 ((w32 ((w32 (18 * l1)) + (w32 (3 * l2)))) + 1)))) 84 (w32 ((w32 ((w32 (18 * l1)) + (w32 (3 * l2)))) + 2)) = s 84 (w32 ((w32 ((w32 (18 * l1)) + (w32 (3 * l2)))) + 2)) from by rw [up_ne (by decide), up_ne (by decide)]]
    refine (x_iastore f220_221 rfl).trans ?_
    refine (g_t rfl).trans ?_
    refine (g_kt (n := 6) rfl hg2).trans ?_
    refine (x_iinc (l2 := [aA 56, aI l1, aI (w32 (l2 + 1))]) f220_222 rfl rfl rfl).trans ?_
    refine (x_goto (tg := 155) f220_225 rfl rfl).trans ?_
    rfl
  · refine (x_aload f220_228 rfl rfl).trans ?_
    refine (x_invokevirtual (G := grd (kd 56 = 9) (bnI (sem 209 0 [aA 56] [] s) fun a6 s5 => sem 220 232 [aA 56, aI l1, aI l2] [aI a6] s5)) f220_229 rfl rfl).trans ?_
    refine (g_t rfl).trans ?_
    refine bI_h fun a6 s5 qs5 => ?_
    have rs5 := RefC.sem qs5 rfl hR
    exact x_ireturn f220_232 rfl
set_option maxRecDepth 10000 in
theorem g221_0 {s : SG} (hR : RefC s) (l1 : Int) : sem 221 0 [aA 56, aI l1] [] s = if l1 = 0 then some (aI (s 56 4), s) else if l1 = 1 then some (aI (s 56 9), s) else if l1 = 2 then some (aI (s 56 22), s) else if l1 = 3 then bnI (sem 209 0 [aA 56] [] s) fun a2 s1 => some (aI a2, s1) else some (aI ((-2)), s) := by
  refine (x_iload f221_0 rfl rfl).trans ?_
  refine (x_tsw f221_1 rfl).trans ?_
  refine Eq.trans (b := sem 221 (if l1 = 0 then 32 else if l1 = 1 then 37 else if l1 = 2 then 42 else if l1 = 3 then 47 else 52) [aA 56, aI l1] [] s) rfl ?_
  refine x_ite.trans (i_c ?_ ?_)
  · refine (x_aload f221_32 rfl rfl).trans ?_
    refine (y_get0 (ji := 4) rfl f221_33 rfl rfl).trans ?_
    refine (g_t rfl).trans ?_
    exact x_ireturn f221_36 rfl
  refine x_ite.trans (i_c ?_ ?_)
  · refine (x_aload f221_37 rfl rfl).trans ?_
    refine (y_get0 (ji := 9) rfl f221_38 rfl rfl).trans ?_
    refine (g_t rfl).trans ?_
    exact x_ireturn f221_41 rfl
  refine x_ite.trans (i_c ?_ ?_)
  · refine (x_aload f221_42 rfl rfl).trans ?_
    refine (y_get0 (ji := 22) rfl f221_43 rfl rfl).trans ?_
    refine (g_t rfl).trans ?_
    exact x_ireturn f221_46 rfl
  refine x_ite.trans (i_c ?_ ?_)
  · refine (x_aload f221_47 rfl rfl).trans ?_
    refine (x_invokevirtual (G := grd (kd 56 = 9) (bnI (sem 209 0 [aA 56] [] s) fun a2 s1 => sem 221 51 [aA 56, aI l1] [aI a2] s1)) f221_48 rfl rfl).trans ?_
    refine (g_t rfl).trans ?_
    refine bI_h fun a2 s1 qs1 => ?_
    have rs1 := RefC.sem qs1 rfl hR
    exact x_ireturn f221_51 rfl
  refine (x_iconst f221_52 rfl).trans ?_
  exact x_ireturn f221_54 rfl
