set_option maxRecDepth 10000 in
theorem g161_0 {s : SG} (hR : RefC s) : sem 161 0 [aA 56] [] s = bnI (sem 159 0 [aA 56] [] s) fun a2 s1 => some (aI a2, s1) := by
  refine (x_aload f161_0 rfl rfl).trans ?_
  refine (x_invokevirtual (G := grd (kd 56 = 9) (bnI (sem 159 0 [aA 56] [] s) fun a2 s1 => sem 161 4 [aA 56] [aI a2] s1)) f161_1 rfl rfl).trans ?_
  refine (g_t rfl).trans ?_
  refine bI_h fun a2 s1 qs1 => ?_
  have rs1 := RefC.sem qs1 rfl hR
  exact x_ireturn f161_4 rfl
set_option maxRecDepth 10000 in
theorem g162_0 {s : SG} (hR : RefC s) : sem 162 0 [aA 56] [] s = bnI (sem 159 0 [aA 56] [] s) fun a2 s1 => if a2 = ((-9)) then bnV (sem 154 0 [aA 56, aU] [] s1) fun s3 => some (aI (s3 56 7), s3) else some (aI ((-3)), s1) := by
  refine (x_aload f162_0 rfl rfl).trans ?_
  refine (x_invokevirtual (G := grd (kd 56 = 9) (bnI (sem 159 0 [aA 56] [] s) fun a2 s1 => sem 162 4 [aA 56] [aI a2] s1)) f162_1 rfl rfl).trans ?_
  refine (g_t rfl).trans ?_
  refine bI_h fun a2 s1 qs1 => ?_
  have rs1 := RefC.sem qs1 rfl hR
  refine (x_iconst f162_4 rfl).trans ?_
  refine (x_icmp_eq (tg := 12) f162_6 rfl rfl).trans (i_c ?_ ?_)
  · refine (x_aload f162_12 rfl rfl).trans ?_
    refine (x_invokevirtual (G := grd (kd 56 = 9) (bnV (sem 154 0 [aA 56, aU] [] s1) fun s3 => sem 162 16 [aA 56] [] s3)) f162_13 rfl rfl).trans ?_
    refine (g_t rfl).trans ?_
    refine bV_h fun s3 qs3 => ?_
    have rs3 := RefC.sem qs3 rfl rs1
    refine (x_aload f162_16 rfl rfl).trans ?_
    refine (y_get0 (ji := 7) rfl f162_17 rfl rfl).trans ?_
    refine (g_t rfl).trans ?_
    exact x_ireturn f162_20 rfl
  · refine (x_iconst f162_9 rfl).trans ?_
    exact x_ireturn f162_11 rfl
set_option maxRecDepth 10000 in
theorem g163_0 {s : SG} (hR : RefC s) (l1 : Int) : sem 163 0 [aA 56, aI l1] [] s = bnI (sem 152 0 [aL l1, aU, aL 0, aU, aL (w32 ((s 58 0) - 1)), aU] [] s) fun a2 s1 => grd (a2 = 0 ∨ a2 = 1) (some (aI a2, s1)) := by
  refine (x_iload f163_0 rfl rfl).trans ?_
  refine (x_i2l f163_1 rfl).trans ?_
  refine (x_lconst f163_2 rfl).trans ?_
  refine (x_aload f163_3 rfl rfl).trans ?_
  refine (y_get2 (ji := 1) rfl f163_4 rfl rfl).trans ?_
  refine (g_t rfl).trans ?_
  refine (g_t (by rw [show s 56 1 = 58 from hR.2.2.2.2.2.2.2.2.2.2.2.2.2.2.2.2.2.2.2.2.2.2.2.2.2.2.2.2.2.2.2.2.2.2.2.2.2.2.2.2.2.2.2.2.2.2.2.2.2.2.2.2.2.2.1]; decide)).trans ?_
  rw [show s 56 1 = 58 from hR.2.2.2.2.2.2.2.2.2.2.2.2.2.2.2.2.2.2.2.2.2.2.2.2.2.2.2.2.2.2.2.2.2.2.2.2.2.2.2.2.2.2.2.2.2.2.2.2.2.2.2.2.2.2.1]
  refine (x_iconst f163_7 rfl).trans ?_
  refine (x_iaload f163_8 rfl).trans ?_
  refine (g_t rfl).trans ?_
  refine (g_kt (n := 28) rfl (by decide)).trans ?_
  refine (x_iconst f163_9 rfl).trans ?_
  refine (x_isub f163_10 rfl).trans ?_
  refine (x_i2l f163_11 rfl).trans ?_
  refine (x_invokestatic (G := bnI (sem 152 0 [aL l1, aU, aL 0, aU, aL (w32 ((s 58 0) - 1)), aU] [] s) fun a2 s1 => sem 163 15 [aA 56, aI l1] [aI a2] s1) f163_12 rfl rfl).trans ?_
  refine bI_h fun a2 s1 qs1 => ?_
  have rs1 := RefC.sem qs1 rfl hR
  exact x_zreturn f163_15 rfl
set_option maxRecDepth 10000 in
theorem g165_0 {s : SG} (hR : RefC s) (l1 l2 l3 : Int) : sem 165 0 [aA 56, aI l1, aI l2, aI l3] [] s = bnI (sem 163 0 [aA 56, aI l1] [] s) fun a2 s1 => if a2 = 0 then some (aI ((-1)), s1) else bnI (sem 164 0 [aI l2] [] s1) fun a4 s3 => if a4 = 0 then some (aI ((-1)), s3) else if l3 = 0 then grd ((0 : Int) ≤ (w32 ((w32 (10 + (w32 (3 * l1)))) + l2)) ∧ (w32 ((w32 (10 + (w32 (3 * l1)))) + l2)) < 28) (some (aI (s3 58 (w32 ((w32 (10 + (w32 (3 * l1)))) + l2))), s3)) else if l3 = 1 then grd ((0 : Int) ≤ (w32 ((w32 (19 + (w32 (3 * l1)))) + l2)) ∧ (w32 ((w32 (19 + (w32 (3 * l1)))) + l2)) < 28) (some (aI (s3 58 (w32 ((w32 (19 + (w32 (3 * l1)))) + l2))), s3)) else some (aI ((-2)), s3) := by
  refine (x_aload f165_0 rfl rfl).trans ?_
  refine (x_iload f165_1 rfl rfl).trans ?_
  refine (x_invokevirtual (G := grd (kd 56 = 9) (bnI (sem 163 0 [aA 56, aI l1] [] s) fun a2 s1 => sem 165 5 [aA 56, aI l1, aI l2, aI l3] [aI a2] s1)) f165_2 rfl rfl).trans ?_
  refine (g_t rfl).trans ?_
  refine bI_h fun a2 s1 qs1 => ?_
  have rs1 := RefC.sem qs1 rfl hR
  refine (x_if_eq (tg := 15) f165_5 rfl rfl).trans (i_c ?_ ?_)
  · refine (x_kil (l2 := [aU, aU, aU, aU]) f165_15 rfl).trans ?_
    refine (x_iconst f165_15 rfl).trans ?_
    exact x_ireturn f165_16 rfl
  · refine (x_iload f165_8 rfl rfl).trans ?_
    refine (x_invokestatic (G := bnI (sem 164 0 [aI l2] [] s1) fun a4 s3 => sem 165 12 [aA 56, aI l1, aI l2, aI l3] [aI a4] s3) f165_9 rfl rfl).trans ?_
    refine bI_h fun a4 s3 qs3 => ?_
    have rs3 := RefC.sem qs3 rfl rs1
    refine (x_if_ne (tg := 17) f165_12 rfl rfl).trans (i_c ?_ ?_)
    · refine (x_kil (l2 := [aU, aU, aU, aU]) f165_15 rfl).trans ?_
      refine (x_iconst f165_15 rfl).trans ?_
      exact x_ireturn f165_16 rfl
    · refine (x_iload f165_17 rfl rfl).trans ?_
      refine (x_if_ne (tg := 37) f165_18 rfl rfl).trans (i_c ?_ ?_)
      · refine (x_aload f165_21 rfl rfl).trans ?_
        refine (y_get2 (ji := 1) rfl f165_22 rfl rfl).trans ?_
        refine (g_t rfl).trans ?_
        refine (g_t (by rw [show s3 56 1 = 58 from rs3.2.2.2.2.2.2.2.2.2.2.2.2.2.2.2.2.2.2.2.2.2.2.2.2.2.2.2.2.2.2.2.2.2.2.2.2.2.2.2.2.2.2.2.2.2.2.2.2.2.2.2.2.2.2.1]; decide)).trans ?_
        rw [show s3 56 1 = 58 from rs3.2.2.2.2.2.2.2.2.2.2.2.2.2.2.2.2.2.2.2.2.2.2.2.2.2.2.2.2.2.2.2.2.2.2.2.2.2.2.2.2.2.2.2.2.2.2.2.2.2.2.2.2.2.2.1]
        refine (x_iconst f165_25 rfl).trans ?_
        refine (x_iconst f165_27 rfl).trans ?_
        refine (x_iload f165_28 rfl rfl).trans ?_
        refine (x_imul f165_29 rfl).trans ?_
        refine (x_iadd f165_30 rfl).trans ?_
        refine (x_iload f165_31 rfl rfl).trans ?_
        refine (x_iadd f165_32 rfl).trans ?_
        refine (x_iaload f165_33 rfl).trans ?_
        refine (g_t rfl).trans ?_
        refine g_kl (n := 28) rfl fun hg5 => ?_
        refine (x_goto (tg := 60) f165_34 rfl rfl).trans ?_
        refine (x_kil (l2 := [aU, aU, aU, aU]) f165_60 rfl).trans ?_
        exact x_ireturn f165_60 rfl
      · refine (x_iload f165_37 rfl rfl).trans ?_
        refine (x_iconst f165_38 rfl).trans ?_
        refine (x_icmp_ne (tg := 58) f165_39 rfl rfl).trans (i_c ?_ ?_)
        · refine (x_aload f165_42 rfl rfl).trans ?_
          refine (y_get2 (ji := 1) rfl f165_43 rfl rfl).trans ?_
          refine (g_t rfl).trans ?_
          refine (g_t (by rw [show s3 56 1 = 58 from rs3.2.2.2.2.2.2.2.2.2.2.2.2.2.2.2.2.2.2.2.2.2.2.2.2.2.2.2.2.2.2.2.2.2.2.2.2.2.2.2.2.2.2.2.2.2.2.2.2.2.2.2.2.2.2.1]; decide)).trans ?_
          rw [show s3 56 1 = 58 from rs3.2.2.2.2.2.2.2.2.2.2.2.2.2.2.2.2.2.2.2.2.2.2.2.2.2.2.2.2.2.2.2.2.2.2.2.2.2.2.2.2.2.2.2.2.2.2.2.2.2.2.2.2.2.2.1]
          refine (x_iconst f165_46 rfl).trans ?_
          refine (x_iconst f165_48 rfl).trans ?_
          refine (x_iload f165_49 rfl rfl).trans ?_
          refine (x_imul f165_50 rfl).trans ?_
          refine (x_iadd f165_51 rfl).trans ?_
          refine (x_iload f165_52 rfl rfl).trans ?_
          refine (x_iadd f165_53 rfl).trans ?_
          refine (x_iaload f165_54 rfl).trans ?_
          refine (g_t rfl).trans ?_
          refine g_kl (n := 28) rfl fun hg6 => ?_
          refine (x_goto (tg := 60) f165_55 rfl rfl).trans ?_
          refine (x_kil (l2 := [aU, aU, aU, aU]) f165_60 rfl).trans ?_
          exact x_ireturn f165_60 rfl
        · refine (x_iconst f165_58 rfl).trans ?_
          refine (x_kil (l2 := [aU, aU, aU, aU]) f165_60 rfl).trans ?_
          exact x_ireturn f165_60 rfl
set_option maxRecDepth 10000 in
theorem g166_0 {s : SG} (hR : RefC s) (l1 : Int) : sem 166 0 [aA 56, aI l1] [] s = bnI (sem 152 0 [aL l1, aU, aL 0, aU, aL 9, aU] [] s) fun a2 s1 => if a2 = 0 then some (aI ((-2)), s1) else if (6 : Int) < l1 then bnI (sem 163 0 [aA 56, aI (w32 (l1 - 7))] [] s1) fun a4 s3 => if a4 = 0 then some (aI ((-1)), s3) else grd ((0 : Int) ≤ l1 ∧ l1 < 28) (some (aI (s3 58 l1), s3)) else grd ((0 : Int) ≤ l1 ∧ l1 < 28) (some (aI (s1 58 l1), s1)) := by
  refine (x_iload f166_0 rfl rfl).trans ?_
  refine (x_i2l f166_1 rfl).trans ?_
  refine (x_lconst f166_2 rfl).trans ?_
  refine (x_lconst f166_3 rfl).trans ?_
  refine (x_invokestatic (G := bnI (sem 152 0 [aL l1, aU, aL 0, aU, aL 9, aU] [] s) fun a2 s1 => sem 166 9 [aA 56, aI l1] [aI a2] s1) f166_6 rfl rfl).trans ?_
  refine bI_h fun a2 s1 qs1 => ?_
  have rs1 := RefC.sem qs1 rfl hR
  refine (x_if_ne (tg := 15) f166_9 rfl rfl).trans (i_c ?_ ?_)
  · refine (x_iconst f166_12 rfl).trans ?_
    exact x_ireturn f166_14 rfl
  · refine (x_iload f166_15 rfl rfl).trans ?_
    refine (x_iconst f166_16 rfl).trans ?_
    refine (x_icmp_le (tg := 36) f166_18 rfl rfl).trans (i_c ?_ ?_)
    · refine (x_aload f166_21 rfl rfl).trans ?_
      refine (x_iload f166_22 rfl rfl).trans ?_
      refine (x_iconst f166_23 rfl).trans ?_
      refine (x_isub f166_25 rfl).trans ?_
      refine (x_invokevirtual (G := grd (kd 56 = 9) (bnI (sem 163 0 [aA 56, aI (w32 (l1 - 7))] [] s1) fun a4 s3 => sem 166 29 [aA 56, aI l1] [aI a4] s3)) f166_26 rfl rfl).trans ?_
      refine (g_t rfl).trans ?_
      refine bI_h fun a4 s3 qs3 => ?_
      have rs3 := RefC.sem qs3 rfl rs1
      refine (x_if_ne (tg := 36) f166_29 rfl rfl).trans (i_c ?_ ?_)
      · refine (x_iconst f166_32 rfl).trans ?_
        refine (x_goto (tg := 42) f166_33 rfl rfl).trans ?_
        refine (x_kil (l2 := [aU, aU]) f166_42 rfl).trans ?_
        exact x_ireturn f166_42 rfl
      · refine (x_aload f166_36 rfl rfl).trans ?_
        refine (y_get2 (ji := 1) rfl f166_37 rfl rfl).trans ?_
        refine (g_t rfl).trans ?_
        refine (g_t (by rw [show s3 56 1 = 58 from rs3.2.2.2.2.2.2.2.2.2.2.2.2.2.2.2.2.2.2.2.2.2.2.2.2.2.2.2.2.2.2.2.2.2.2.2.2.2.2.2.2.2.2.2.2.2.2.2.2.2.2.2.2.2.2.1]; decide)).trans ?_
        rw [show s3 56 1 = 58 from rs3.2.2.2.2.2.2.2.2.2.2.2.2.2.2.2.2.2.2.2.2.2.2.2.2.2.2.2.2.2.2.2.2.2.2.2.2.2.2.2.2.2.2.2.2.2.2.2.2.2.2.2.2.2.2.1]
        refine (x_iload f166_40 rfl rfl).trans ?_
        refine (x_iaload f166_41 rfl).trans ?_
        refine (g_t rfl).trans ?_
        refine g_kl (n := 28) rfl fun hg5 => ?_
        refine (x_kil (l2 := [aU, aU]) f166_42 rfl).trans ?_
        exact x_ireturn f166_42 rfl
    · refine (x_aload f166_36 rfl rfl).trans ?_
      refine (y_get2 (ji := 1) rfl f166_37 rfl rfl).trans ?_
      refine (g_t rfl).trans ?_
      refine (g_t (by rw [show s1 56 1 = 58 from rs1.2.2.2.2.2.2.2.2.2.2.2.2.2.2.2.2.2.2.2.2.2.2.2.2.2.2.2.2.2.2.2.2.2.2.2.2.2.2.2.2.2.2.2.2.2.2.2.2.2.2.2.2.2.2.1]; decide)).trans ?_
      rw [show s1 56 1 = 58 from rs1.2.2.2.2.2.2.2.2.2.2.2.2.2.2.2.2.2.2.2.2.2.2.2.2.2.2.2.2.2.2.2.2.2.2.2.2.2.2.2.2.2.2.2.2.2.2.2.2.2.2.2.2.2.2.1]
      refine (x_iload f166_40 rfl rfl).trans ?_
      refine (x_iaload f166_41 rfl).trans ?_
      refine (g_t rfl).trans ?_
      refine g_kl (n := 28) rfl fun hg6 => ?_
      refine (x_kil (l2 := [aU, aU]) f166_42 rfl).trans ?_
      exact x_ireturn f166_42 rfl
set_option maxRecDepth 10000 in
theorem g167_0 {s : SG} (hR : RefC s) : sem 167 0 [aA 56] [] s = some (aL (w64 (1000000 * (w32 ((w32 ((s 58 1) + (s 58 2))) + (s 58 3))))), s) := by
  refine (x_lconst f167_0 rfl).trans ?_
  refine (x_aload f167_3 rfl rfl).trans ?_
  refine (y_get2 (ji := 1) rfl f167_4 rfl rfl).trans ?_
  refine (g_t rfl).trans ?_
  refine (g_t (by rw [show s 56 1 = 58 from hR.2.2.2.2.2.2.2.2.2.2.2.2.2.2.2.2.2.2.2.2.2.2.2.2.2.2.2.2.2.2.2.2.2.2.2.2.2.2.2.2.2.2.2.2.2.2.2.2.2.2.2.2.2.2.1]; decide)).trans ?_
  rw [show s 56 1 = 58 from hR.2.2.2.2.2.2.2.2.2.2.2.2.2.2.2.2.2.2.2.2.2.2.2.2.2.2.2.2.2.2.2.2.2.2.2.2.2.2.2.2.2.2.2.2.2.2.2.2.2.2.2.2.2.2.1]
  refine (x_iconst f167_7 rfl).trans ?_
  refine (x_iaload f167_8 rfl).trans ?_
  refine (g_t rfl).trans ?_
  refine (g_kt (n := 28) rfl (by decide)).trans ?_
  refine (x_aload f167_9 rfl rfl).trans ?_
  refine (y_get2 (ji := 1) rfl f167_10 rfl rfl).trans ?_
  refine (g_t rfl).trans ?_
  refine (g_t (by rw [show s 56 1 = 58 from hR.2.2.2.2.2.2.2.2.2.2.2.2.2.2.2.2.2.2.2.2.2.2.2.2.2.2.2.2.2.2.2.2.2.2.2.2.2.2.2.2.2.2.2.2.2.2.2.2.2.2.2.2.2.2.1]; decide)).trans ?_
  rw [show s 56 1 = 58 from hR.2.2.2.2.2.2.2.2.2.2.2.2.2.2.2.2.2.2.2.2.2.2.2.2.2.2.2.2.2.2.2.2.2.2.2.2.2.2.2.2.2.2.2.2.2.2.2.2.2.2.2.2.2.2.1]
  refine (x_iconst f167_13 rfl).trans ?_
  refine (x_iaload f167_14 rfl).trans ?_
  refine (g_t rfl).trans ?_
  refine (g_kt (n := 28) rfl (by decide)).trans ?_
  refine (x_iadd f167_15 rfl).trans ?_
  refine (x_aload f167_16 rfl rfl).trans ?_
  refine (y_get2 (ji := 1) rfl f167_17 rfl rfl).trans ?_
  refine (g_t rfl).trans ?_
  refine (g_t (by rw [show s 56 1 = 58 from hR.2.2.2.2.2.2.2.2.2.2.2.2.2.2.2.2.2.2.2.2.2.2.2.2.2.2.2.2.2.2.2.2.2.2.2.2.2.2.2.2.2.2.2.2.2.2.2.2.2.2.2.2.2.2.1]; decide)).trans ?_
  rw [show s 56 1 = 58 from hR.2.2.2.2.2.2.2.2.2.2.2.2.2.2.2.2.2.2.2.2.2.2.2.2.2.2.2.2.2.2.2.2.2.2.2.2.2.2.2.2.2.2.2.2.2.2.2.2.2.2.2.2.2.2.1]
  refine (x_iconst f167_20 rfl).trans ?_
  refine (x_iaload f167_21 rfl).trans ?_
  refine (g_t rfl).trans ?_
  refine (g_kt (n := 28) rfl (by decide)).trans ?_
  refine (x_iadd f167_22 rfl).trans ?_
  refine (x_i2l f167_23 rfl).trans ?_
  refine (x_lmul f167_24 rfl).trans ?_
  exact x_lreturn f167_25 rfl
set_option maxRecDepth 10000 in
theorem g168_0 {s : SG} (hR : RefC s) (l1 l2 l3 : Int) : sem 168 0 [aA 56, aI l1, aI l2, aI l3, aU, aU, aU, aU, aU] [] s = grd ((0 : Int) ≤ (w32 ((w32 (19 + (w32 (3 * l1)))) + l2)) ∧ (w32 ((w32 (19 + (w32 (3 * l1)))) + l2)) < 28) (sem 168 21 [aU, aU, aU, aI l3, aI (s 58 (w32 ((w32 (19 + (w32 (3 * l1)))) + l2))), aL 1, aU, aI 0, aU] [] s) := by
  refine (x_aload f168_0 rfl rfl).trans ?_
  refine (y_get2 (ji := 1) rfl f168_1 rfl rfl).trans ?_
  refine (g_t rfl).trans ?_
  refine (g_t (by rw [show s 56 1 = 58 from hR.2.2.2.2.2.2.2.2.2.2.2.2.2.2.2.2.2.2.2.2.2.2.2.2.2.2.2.2.2.2.2.2.2.2.2.2.2.2.2.2.2.2.2.2.2.2.2.2.2.2.2.2.2.2.1]; decide)).trans ?_
  rw [show s 56 1 = 58 from hR.2.2.2.2.2.2.2.2.2.2.2.2.2.2.2.2.2.2.2.2.2.2.2.2.2.2.2.2.2.2.2.2.2.2.2.2.2.2.2.2.2.2.2.2.2.2.2.2.2.2.2.2.2.2.1]
  refine (x_iconst f168_4 rfl).trans ?_
  refine (x_iconst f168_6 rfl).trans ?_
  refine (x_iload f168_7 rfl rfl).trans ?_
  refine (x_imul f168_8 rfl).trans ?_
  refine (x_iadd f168_9 rfl).trans ?_
  refine (x_iload f168_10 rfl rfl).trans ?_
  refine (x_iadd f168_11 rfl).trans ?_
  refine (x_iaload f168_12 rfl).trans ?_
  refine (g_t rfl).trans ?_
  refine g_kl (n := 28) rfl fun hg1 => ?_
  refine (x_istore (l2 := [aA 56, aI l1, aI l2, aI l3, aI (s 58 (w32 ((w32 (19 + (w32 (3 * l1)))) + l2))), aU, aU, aU, aU]) f168_13 rfl rfl).trans ?_
  refine (x_lconst f168_15 rfl).trans ?_
  refine (x_lstore (l2 := [aA 56, aI l1, aI l2, aI l3, aI (s 58 (w32 ((w32 (19 + (w32 (3 * l1)))) + l2))), aL 1, aU, aU, aU]) f168_16 rfl rfl).trans ?_
  refine (x_iconst f168_18 rfl).trans ?_
  refine (x_istore (l2 := [aA 56, aI l1, aI l2, aI l3, aI (s 58 (w32 ((w32 (19 + (w32 (3 * l1)))) + l2))), aL 1, aU, aI 0, aU]) f168_19 rfl rfl).trans ?_
  exact x_kil f168_21 rfl
set_option maxRecDepth 10000 in
theorem g168_21 {s : SG} (hR : RefC s) (l3 l4 l5 l7 : Int) : sem 168 21 [aU, aU, aU, aI l3, aI l4, aL l5, aU, aI l7, aU] [] s = if l7 < 6 then sem 168 21 [aU, aU, aU, aI l3, aI l4, aL (w64 (l5 * (if l7 < l3 then l4 else w32 (10 - l4)))), aU, aI (w32 (l7 + 1)), aU] [] s else some (aL (w64 (l5 * (if l3 = 0 then 1 else if l3 = 6 then 1 else if l3 = 1 then 6 else if l3 = 5 then 6 else if l3 = 3 then 20 else 15))), s) := by
  refine (x_iload f168_21 rfl rfl).trans ?_
  refine (x_iconst f168_23 rfl).trans ?_
  refine (x_icmp_ge (tg := 57) f168_25 rfl rfl).trans (i_c ?_ ?_)
  · refine (x_lload f168_28 rfl rfl).trans ?_
    refine (x_iload f168_30 rfl rfl).trans ?_
    refine (x_iload f168_32 rfl rfl).trans ?_
    refine (x_icmp_ge (tg := 42) f168_33 rfl rfl).trans ?_
    refine Eq.trans (b := if l7 < l3 then sem 168 48 [aU, aU, aU, aI l3, aI l4, aU, aU, aI l7, aU] [aL l4, aL l5] s else sem 168 48 [aU, aU, aU, aI l3, aI l4, aU, aU, aI l7, aU] [aL (w32 (10 - l4)), aL l5] s) (i_c ?_ ?_) ?_
    · refine (x_iload f168_36 rfl rfl).trans ?_
      refine (x_i2l f168_38 rfl).trans ?_
      refine (x_goto (tg := 48) f168_39 rfl rfl).trans ?_
      exact x_kil f168_48 rfl
    · refine (x_iconst f168_42 rfl).trans ?_
      refine (x_iload f168_44 rfl rfl).trans ?_
      refine (x_isub f168_46 rfl).trans ?_
      refine (x_i2l f168_47 rfl).trans ?_
      exact x_kil f168_48 rfl
    refine m_L.trans ?_
    refine (x_lmul f168_48 rfl).trans ?_
    refine (x_lstore (l2 := [aU, aU, aU, aI l3, aI l4, aL (w64 (l5 * (if l7 < l3 then l4 else w32 (10 - l4)))), aU, aI l7, aU]) f168_49 rfl rfl).trans ?_
    refine (x_iinc (l2 := [aU, aU, aU, aI l3, aI l4, aL (w64 (l5 * (if l7 < l3 then l4 else w32 (10 - l4)))), aU, aI (w32 (l7 + 1)), aU]) f168_51 rfl rfl rfl).trans ?_
    refine (x_goto (tg := 21) f168_54 rfl rfl).trans ?_
    rfl
  · refine (x_iload f168_57 rfl rfl).trans ?_
    refine (x_if_eq (tg := 67) f168_58 rfl rfl).trans ?_
    refine Eq.trans (b := if l3 = 0 then sem 168 101 [aU, aU, aU, aU, aU, aL l5, aU, aU, aU] [aL 1] s else sem 168 101 [aU, aU, aU, aU, aU, aL l5, aU, aU, aU] [aL (if l3 = 6 then 1 else if l3 = 1 then 6 else if l3 = 5 then 6 else if l3 = 3 then 20 else 15)] s) (i_c ?_ ?_) ?_
    · refine (x_kil (l2 := [aU, aU, aU, aU, aU, aL l5, aU, aU, aU]) f168_67 rfl).trans ?_
      refine (x_lconst f168_67 rfl).trans ?_
      refine (x_goto (tg := 101) f168_68 rfl rfl).trans ?_
      rfl
    · refine (x_iload f168_61 rfl rfl).trans ?_
      refine (x_iconst f168_62 rfl).trans ?_
      refine (x_icmp_ne (tg := 71) f168_64 rfl rfl).trans ?_
      refine Eq.trans (b := if l3 = 6 then sem 168 101 [aU, aU, aU, aU, aU, aL l5, aU, aU, aU] [aL 1] s else sem 168 101 [aU, aU, aU, aU, aU, aL l5, aU, aU, aU] [aL (if l3 = 1 then 6 else if l3 = 5 then 6 else if l3 = 3 then 20 else 15)] s) (i_c ?_ ?_) ?_
      · refine (x_kil (l2 := [aU, aU, aU, aU, aU, aL l5, aU, aU, aU]) f168_67 rfl).trans ?_
        refine (x_lconst f168_67 rfl).trans ?_
        refine (x_goto (tg := 101) f168_68 rfl rfl).trans ?_
        rfl
      · refine (x_iload f168_71 rfl rfl).trans ?_
        refine (x_iconst f168_72 rfl).trans ?_
        refine (x_icmp_eq (tg := 81) f168_73 rfl rfl).trans ?_
        refine Eq.trans (b := if l3 = 1 then sem 168 101 [aU, aU, aU, aU, aU, aL l5, aU, aU, aU] [aL 6] s else sem 168 101 [aU, aU, aU, aU, aU, aL l5, aU, aU, aU] [aL (if l3 = 5 then 6 else if l3 = 3 then 20 else 15)] s) (i_c ?_ ?_) ?_
        · refine (x_kil (l2 := [aU, aU, aU, aU, aU, aL l5, aU, aU, aU]) f168_81 rfl).trans ?_
          refine (x_lconst f168_81 rfl).trans ?_
          refine (x_goto (tg := 101) f168_84 rfl rfl).trans ?_
          rfl
        · refine (x_iload f168_76 rfl rfl).trans ?_
          refine (x_iconst f168_77 rfl).trans ?_
          refine (x_icmp_ne (tg := 87) f168_78 rfl rfl).trans ?_
          refine Eq.trans (b := if l3 = 5 then sem 168 101 [aU, aU, aU, aU, aU, aL l5, aU, aU, aU] [aL 6] s else sem 168 101 [aU, aU, aU, aU, aU, aL l5, aU, aU, aU] [aL (if l3 = 3 then 20 else 15)] s) (i_c ?_ ?_) ?_
          · refine (x_kil (l2 := [aU, aU, aU, aU, aU, aL l5, aU, aU, aU]) f168_81 rfl).trans ?_
            refine (x_lconst f168_81 rfl).trans ?_
            refine (x_goto (tg := 101) f168_84 rfl rfl).trans ?_
            rfl
          · refine (x_iload f168_87 rfl rfl).trans ?_
            refine (x_iconst f168_88 rfl).trans ?_
            refine (x_icmp_ne (tg := 98) f168_89 rfl rfl).trans ?_
            refine Eq.trans (b := if l3 = 3 then sem 168 101 [aU, aU, aU, aU, aU, aL l5, aU, aU, aU] [aL 20] s else sem 168 101 [aU, aU, aU, aU, aU, aL l5, aU, aU, aU] [aL 15] s) (i_c ?_ ?_) ?_
            · refine (x_lconst f168_92 rfl).trans ?_
              refine (x_goto (tg := 101) f168_95 rfl rfl).trans ?_
              exact x_kil f168_101 rfl
            · refine (x_lconst f168_98 rfl).trans ?_
              exact x_kil f168_101 rfl
            refine m_L.trans ?_
            rfl
          refine m_L.trans ?_
          rfl
        refine m_L.trans ?_
        rfl
      refine m_L.trans ?_
      rfl
    refine m_L.trans ?_
    refine (x_lstore (l2 := [aU, aU, aU, aU, aU, aL l5, aU, aL (if l3 = 0 then 1 else if l3 = 6 then 1 else if l3 = 1 then 6 else if l3 = 5 then 6 else if l3 = 3 then 20 else 15), aU]) f168_101 rfl rfl).trans ?_
    refine (x_lload f168_103 rfl rfl).trans ?_
    refine (x_lload f168_105 rfl rfl).trans ?_
    refine (x_lmul f168_107 rfl).trans ?_
    exact x_lreturn f168_108 rfl
set_option maxRecDepth 10000 in
theorem g169_0 {s : SG} (hR : RefC s) (l1 l2 l3 : Int) : sem 169 0 [aA 56, aI l1, aI l2, aI l3, aU, aU, aU, aU, aU, aU, aU] [] s = sem 169 6 [aA 56, aI l1, aI l2, aI l3, aL 0, aU, aI 0, aU, aU, aU, aU] [] s := by
  refine (x_lconst f169_0 rfl).trans ?_
  refine (x_lstore (l2 := [aA 56, aI l1, aI l2, aI l3, aL 0, aU, aU, aU, aU, aU, aU]) f169_1 rfl rfl).trans ?_
  refine (x_iconst f169_3 rfl).trans ?_
  refine (x_istore (l2 := [aA 56, aI l1, aI l2, aI l3, aL 0, aU, aI 0, aU, aU, aU, aU]) f169_4 rfl rfl).trans ?_
  rfl
set_option maxRecDepth 10000 in
theorem g169_6 {s : SG} (hR : RefC s) (l1 l2 l3 l4 l6 : Int) : sem 169 6 [aA 56, aI l1, aI l2, aI l3, aL l4, aU, aI l6, aU, aU, aU, aU] [] s = if l6 < 3 then sem 169 15 [aA 56, aI l1, aI l2, aI l3, aL l4, aU, aI l6, aI 0, aU, aU, aU] [] s else some (aL l4, s) := by
  refine (x_iload f169_6 rfl rfl).trans ?_
  refine (x_iconst f169_8 rfl).trans ?_
  refine (x_icmp_ge (tg := 118) f169_9 rfl rfl).trans (i_c ?_ ?_)
  · refine (x_iconst f169_12 rfl).trans ?_
    refine (x_istore (l2 := [aA 56, aI l1, aI l2, aI l3, aL l4, aU, aI l6, aI 0, aU, aU, aU]) f169_13 rfl rfl).trans ?_
    rfl
  · refine (x_lload f169_118 rfl rfl).trans ?_
    exact x_lreturn f169_120 rfl
set_option maxRecDepth 10000 in
theorem g169_15 {s : SG} (hR : RefC s) (l1 l2 l3 l4 l6 l7 : Int) : sem 169 15 [aA 56, aI l1, aI l2, aI l3, aL l4, aU, aI l6, aI l7, aU, aU, aU] [] s = if l7 < 7 then grd ((0 : Int) ≤ (w32 ((w32 (10 + (w32 (3 * l1)))) + l6)) ∧ (w32 ((w32 (10 + (w32 (3 * l1)))) + l6)) < 28) (grd ((0 : Int) ≤ (w32 (1 + l6)) ∧ (w32 (1 + l6)) < 28) (bnL (sem 168 0 [aA 56, aI l1, aI l6, aI l7, aU, aU, aU, aU, aU] [] s) fun a4 s3 => sem 169 15 [aA 56, aI l1, aI l2, aI l3, aL (w64 (l4 + (w64 ((w64 ((s 58 (w32 (1 + l6))) * a4)) * (if l3 = 0 then if (w32 ((w32 (6 * (s 58 (w32 ((w32 (10 + (w32 (3 * l1)))) + l6))))) + l7)) < l2 then w32 ((w32 (6 * (s 58 (w32 ((w32 (10 + (w32 (3 * l1)))) + l6))))) + l7) else l2 else if l2 < (w32 ((w32 (6 * (s 58 (w32 ((w32 (10 + (w32 (3 * l1)))) + l6))))) + l7)) then 1 else 0))))), aU, aI l6, aI (w32 (l7 + 1)), aU, aU, aU] [] s3)) else sem 169 6 [aA 56, aI l1, aI l2, aI l3, aL l4, aU, aI (w32 (l6 + 1)), aU, aU, aU, aU] [] s := by
  refine (x_iload f169_15 rfl rfl).trans ?_
  refine (x_iconst f169_17 rfl).trans ?_
  refine (x_icmp_ge (tg := 112) f169_19 rfl rfl).trans (i_c ?_ ?_)
  · refine (x_iconst f169_22 rfl).trans ?_
    refine (x_aload f169_24 rfl rfl).trans ?_
    refine (y_get2 (ji := 1) rfl f169_25 rfl rfl).trans ?_
    refine (g_t rfl).trans ?_
    refine (g_t (by rw [show s 56 1 = 58 from hR.2.2.2.2.2.2.2.2.2.2.2.2.2.2.2.2.2.2.2.2.2.2.2.2.2.2.2.2.2.2.2.2.2.2.2.2.2.2.2.2.2.2.2.2.2.2.2.2.2.2.2.2.2.2.1]; decide)).trans ?_
    rw [show s 56 1 = 58 from hR.2.2.2.2.2.2.2.2.2.2.2.2.2.2.2.2.2.2.2.2.2.2.2.2.2.2.2.2.2.2.2.2.2.2.2.2.2.2.2.2.2.2.2.2.2.2.2.2.2.2.2.2.2.2.1]
    refine (x_iconst f169_28 rfl).trans ?_
    refine (x_iconst f169_30 rfl).trans ?_
    refine (x_iload f169_31 rfl rfl).trans ?_
    refine (x_imul f169_32 rfl).trans ?_
    refine (x_iadd f169_33 rfl).trans ?_
    refine (x_iload f169_34 rfl rfl).trans ?_
    refine (x_iadd f169_36 rfl).trans ?_
    refine (x_iaload f169_37 rfl).trans ?_
    refine (g_t rfl).trans ?_
    refine g_kl (n := 28) rfl fun hg1 => ?_
    refine (x_imul f169_38 rfl).trans ?_
    refine (x_iload f169_39 rfl rfl).trans ?_
    refine (x_iadd f169_41 rfl).trans ?_
    refine (x_istore (l2 := [aA 56, aI l1, aI l2, aI l3, aL l4, aU, aI l6, aI l7, aI (w32 ((w32 (6 * (s 58 (w32 ((w32 (10 + (w32 (3 * l1)))) + l6))))) + l7)), aU, aU]) f169_42 rfl rfl).trans ?_
    refine (x_iload f169_44 rfl rfl).trans ?_
    refine (x_if_eq (tg := 62) f169_45 rfl rfl).trans ?_
    refine Eq.trans (b := if l3 = 0 then sem 169 76 [aA 56, aI l1, aI l2, aI l3, aL l4, aU, aI l6, aI l7, aU, aU, aU] [aL (if (w32 ((w32 (6 * (s 58 (w32 ((w32 (10 + (w32 (3 * l1)))) + l6))))) + l7)) < l2 then w32 ((w32 (6 * (s 58 (w32 ((w32 (10 + (w32 (3 * l1)))) + l6))))) + l7) else l2)] s else sem 169 76 [aA 56, aI l1, aI l2, aI l3, aL l4, aU, aI l6, aI l7, aU, aU, aU] [aL (if l2 < (w32 ((w32 (6 * (s 58 (w32 ((w32 (10 + (w32 (3 * l1)))) + l6))))) + l7)) then 1 else 0)] s) (i_c ?_ ?_) ?_
    · refine (x_iload f169_62 rfl rfl).trans ?_
      refine (x_iload f169_64 rfl rfl).trans ?_
      refine (x_icmp_ge (tg := 74) f169_65 rfl rfl).trans ?_
      refine Eq.trans (b := if (w32 ((w32 (6 * (s 58 (w32 ((w32 (10 + (w32 (3 * l1)))) + l6))))) + l7)) < l2 then sem 169 76 [aA 56, aI l1, aI l2, aI l3, aL l4, aU, aI l6, aI l7, aU, aU, aU] [aL (w32 ((w32 (6 * (s 58 (w32 ((w32 (10 + (w32 (3 * l1)))) + l6))))) + l7))] s else sem 169 76 [aA 56, aI l1, aI l2, aI l3, aL l4, aU, aI l6, aI l7, aU, aU, aU] [aL l2] s) (i_c ?_ ?_) ?_
      · refine (x_iload f169_68 rfl rfl).trans ?_
        refine (x_i2l f169_70 rfl).trans ?_
        refine (x_goto (tg := 76) f169_71 rfl rfl).trans ?_
        exact x_kil f169_76 rfl
      · refine (x_iload f169_74 rfl rfl).trans ?_
        refine (x_i2l f169_75 rfl).trans ?_
        exact x_kil f169_76 rfl
      refine m_L.trans ?_
      rfl
    · refine (x_iload f169_48 rfl rfl).trans ?_
      refine (x_iload f169_50 rfl rfl).trans ?_
      refine (x_icmp_le (tg := 58) f169_51 rfl rfl).trans ?_
      refine Eq.trans (b := if l2 < (w32 ((w32 (6 * (s 58 (w32 ((w32 (10 + (w32 (3 * l1)))) + l6))))) + l7)) then sem 169 76 [aA 56, aI l1, aI l2, aI l3, aL l4, aU, aI l6, aI l7, aU, aU, aU] [aL 1] s else sem 169 76 [aA 56, aI l1, aI l2, aI l3, aL l4, aU, aI l6, aI l7, aU, aU, aU] [aL 0] s) (i_c ?_ ?_) ?_
      · refine (x_lconst f169_54 rfl).trans ?_
        refine (x_goto (tg := 76) f169_55 rfl rfl).trans ?_
        exact x_kil f169_76 rfl
      · refine (x_lconst f169_58 rfl).trans ?_
        refine (x_goto (tg := 76) f169_59 rfl rfl).trans ?_
        exact x_kil f169_76 rfl
      refine m_L.trans ?_
      rfl
    refine m_L.trans ?_
    refine (x_lstore (l2 := [aA 56, aI l1, aI l2, aI l3, aL l4, aU, aI l6, aI l7, aU, aL (if l3 = 0 then if (w32 ((w32 (6 * (s 58 (w32 ((w32 (10 + (w32 (3 * l1)))) + l6))))) + l7)) < l2 then w32 ((w32 (6 * (s 58 (w32 ((w32 (10 + (w32 (3 * l1)))) + l6))))) + l7) else l2 else if l2 < (w32 ((w32 (6 * (s 58 (w32 ((w32 (10 + (w32 (3 * l1)))) + l6))))) + l7)) then 1 else 0), aU]) f169_76 rfl rfl).trans ?_
    refine (x_lload f169_78 rfl rfl).trans ?_
    refine (x_aload f169_80 rfl rfl).trans ?_
    refine (y_get2 (ji := 1) rfl f169_81 rfl rfl).trans ?_
    refine (g_t rfl).trans ?_
    refine (g_t (by rw [show s 56 1 = 58 from hR.2.2.2.2.2.2.2.2.2.2.2.2.2.2.2.2.2.2.2.2.2.2.2.2.2.2.2.2.2.2.2.2.2.2.2.2.2.2.2.2.2.2.2.2.2.2.2.2.2.2.2.2.2.2.1]; decide)).trans ?_
    rw [show s 56 1 = 58 from hR.2.2.2.2.2.2.2.2.2.2.2.2.2.2.2.2.2.2.2.2.2.2.2.2.2.2.2.2.2.2.2.2.2.2.2.2.2.2.2.2.2.2.2.2.2.2.2.2.2.2.2.2.2.2.1]
    refine (x_iconst f169_84 rfl).trans ?_
    refine (x_iload f169_85 rfl rfl).trans ?_
    refine (x_iadd f169_87 rfl).trans ?_
    refine (x_iaload f169_88 rfl).trans ?_
    refine (g_t rfl).trans ?_
    refine g_kl (n := 28) rfl fun hg2 => ?_
    refine (x_i2l f169_89 rfl).trans ?_
    refine (x_aload f169_90 rfl rfl).trans ?_
    refine (x_iload f169_91 rfl rfl).trans ?_
    refine (x_iload f169_92 rfl rfl).trans ?_
    refine (x_iload f169_94 rfl rfl).trans ?_
    refine (x_invokevirtual (G := grd (kd 56 = 9) (bnL (sem 168 0 [aA 56, aI l1, aI l6, aI l7, aU, aU, aU, aU, aU] [] s) fun a4 s3 => sem 169 99 [aA 56, aI l1, aI l2, aI l3, aL l4, aU, aI l6, aI l7, aU, aL (if l3 = 0 then if (w32 ((w32 (6 * (s 58 (w32 ((w32 (10 + (w32 (3 * l1)))) + l6))))) + l7)) < l2 then w32 ((w32 (6 * (s 58 (w32 ((w32 (10 + (w32 (3 * l1)))) + l6))))) + l7) else l2 else if l2 < (w32 ((w32 (6 * (s 58 (w32 ((w32 (10 + (w32 (3 * l1)))) + l6))))) + l7)) then 1 else 0), aU] [aL a4, aL (s 58 (w32 (1 + l6))), aL l4] s3)) f169_96 rfl rfl).trans ?_
    refine (g_t rfl).trans ?_
    refine bL_h fun a4 s3 qs3 => ?_
    have rs3 := RefC.sem qs3 rfl hR
    refine (x_lmul f169_99 rfl).trans ?_
    refine (x_lload f169_100 rfl rfl).trans ?_
    refine (x_lmul f169_102 rfl).trans ?_
    refine (x_ladd f169_103 rfl).trans ?_
    refine (x_lstore (l2 := [aA 56, aI l1, aI l2, aI l3, aL (w64 (l4 + (w64 ((w64 ((s 58 (w32 (1 + l6))) * a4)) * (if l3 = 0 then if (w32 ((w32 (6 * (s 58 (w32 ((w32 (10 + (w32 (3 * l1)))) + l6))))) + l7)) < l2 then w32 ((w32 (6 * (s 58 (w32 ((w32 (10 + (w32 (3 * l1)))) + l6))))) + l7) else l2 else if l2 < (w32 ((w32 (6 * (s 58 (w32 ((w32 (10 + (w32 (3 * l1)))) + l6))))) + l7)) then 1 else 0))))), aU, aI l6, aI l7, aU, aL (if l3 = 0 then if (w32 ((w32 (6 * (s 58 (w32 ((w32 (10 + (w32 (3 * l1)))) + l6))))) + l7)) < l2 then w32 ((w32 (6 * (s 58 (w32 ((w32 (10 + (w32 (3 * l1)))) + l6))))) + l7) else l2 else if l2 < (w32 ((w32 (6 * (s 58 (w32 ((w32 (10 + (w32 (3 * l1)))) + l6))))) + l7)) then 1 else 0), aU]) f169_104 rfl rfl).trans ?_
    refine (x_iinc (l2 := [aA 56, aI l1, aI l2, aI l3, aL (w64 (l4 + (w64 ((w64 ((s 58 (w32 (1 + l6))) * a4)) * (if l3 = 0 then if (w32 ((w32 (6 * (s 58 (w32 ((w32 (10 + (w32 (3 * l1)))) + l6))))) + l7)) < l2 then w32 ((w32 (6 * (s 58 (w32 ((w32 (10 + (w32 (3 * l1)))) + l6))))) + l7) else l2 else if l2 < (w32 ((w32 (6 * (s 58 (w32 ((w32 (10 + (w32 (3 * l1)))) + l6))))) + l7)) then 1 else 0))))), aU, aI l6, aI (w32 (l7 + 1)), aU, aL (if l3 = 0 then if (w32 ((w32 (6 * (s 58 (w32 ((w32 (10 + (w32 (3 * l1)))) + l6))))) + l7)) < l2 then w32 ((w32 (6 * (s 58 (w32 ((w32 (10 + (w32 (3 * l1)))) + l6))))) + l7) else l2 else if l2 < (w32 ((w32 (6 * (s 58 (w32 ((w32 (10 + (w32 (3 * l1)))) + l6))))) + l7)) then 1 else 0), aU]) f169_106 rfl rfl rfl).trans ?_
    refine (x_goto (tg := 15) f169_109 rfl rfl).trans ?_
    exact x_kil f169_15 rfl
  · refine (x_iinc (l2 := [aA 56, aI l1, aI l2, aI l3, aL l4, aU, aI (w32 (l6 + 1)), aI l7, aU, aU, aU]) f169_112 rfl rfl rfl).trans ?_
    refine (x_goto (tg := 6) f169_115 rfl rfl).trans ?_
    exact x_kil f169_6 rfl
set_option maxRecDepth 10000 in
theorem g171_0 {s : SG} (hR : RefC s) (l1 l2 l3 : Int) : sem 171 0 [aA 56, aI l1, aI l2, aI l3] [] s = bnI (sem 163 0 [aA 56, aI l1] [] s) fun a2 s1 => if a2 = 0 then some (aL ((-1)), s1) else bnI (sem 152 0 [aL l2, aU, aL 0, aU, aL 60, aU] [] s1) fun a4 s3 => if a4 = 0 then some (aL ((-2)), s3) else bnL (sem 169 0 [aA 56, aI l1, aI l2, aI 0, aU, aU, aU, aU, aU, aU, aU] [] s3) fun a6 s5 => bnL (sem 167 0 [aA 56] [] s5) fun a8 s7 => bnL (sem 170 0 [aL a6, aU, aL a8, aU, aI l3, aU, aU, aU, aU, aU, aU] [] s7) fun a10 s9 => some (aL a10, s9) := by
  refine (x_aload f171_0 rfl rfl).trans ?_
  refine (x_iload f171_1 rfl rfl).trans ?_
  refine (x_invokevirtual (G := grd (kd 56 = 9) (bnI (sem 163 0 [aA 56, aI l1] [] s) fun a2 s1 => sem 171 5 [aA 56, aI l1, aI l2, aI l3] [aI a2] s1)) f171_2 rfl rfl).trans ?_
  refine (g_t rfl).trans ?_
  refine bI_h fun a2 s1 qs1 => ?_
  have rs1 := RefC.sem qs1 rfl hR
  refine (x_if_ne (tg := 12) f171_5 rfl rfl).trans (i_c ?_ ?_)
  · refine (x_lconst f171_8 rfl).trans ?_
    exact x_lreturn f171_11 rfl
  · refine (x_iload f171_12 rfl rfl).trans ?_
    refine (x_i2l f171_13 rfl).trans ?_
    refine (x_lconst f171_14 rfl).trans ?_
    refine (x_lconst f171_15 rfl).trans ?_
    refine (x_invokestatic (G := bnI (sem 152 0 [aL l2, aU, aL 0, aU, aL 60, aU] [] s1) fun a4 s3 => sem 171 21 [aA 56, aI l1, aI l2, aI l3] [aI a4] s3) f171_18 rfl rfl).trans ?_
    refine bI_h fun a4 s3 qs3 => ?_
    have rs3 := RefC.sem qs3 rfl rs1
    refine (x_if_eq (tg := 42) f171_21 rfl rfl).trans (i_c ?_ ?_)
    · refine (x_lconst f171_42 rfl).trans ?_
      refine (x_kil (l2 := [aU, aU, aU, aU]) f171_45 rfl).trans ?_
      exact x_lreturn f171_45 rfl
    · refine (x_aload f171_24 rfl rfl).trans ?_
      refine (x_iload f171_25 rfl rfl).trans ?_
      refine (x_iload f171_26 rfl rfl).trans ?_
      refine (x_iconst f171_27 rfl).trans ?_
      refine (x_invokevirtual (G := grd (kd 56 = 9) (bnL (sem 169 0 [aA 56, aI l1, aI l2, aI 0, aU, aU, aU, aU, aU, aU, aU] [] s3) fun a6 s5 => sem 171 31 [aA 56, aI l1, aI l2, aI l3] [aL a6] s5)) f171_28 rfl rfl).trans ?_
      refine (g_t rfl).trans ?_
      refine bL_h fun a6 s5 qs5 => ?_
      have rs5 := RefC.sem qs5 rfl rs3
      refine (x_aload f171_31 rfl rfl).trans ?_
      refine (x_invokevirtual (G := grd (kd 56 = 9) (bnL (sem 167 0 [aA 56] [] s5) fun a8 s7 => sem 171 35 [aA 56, aI l1, aI l2, aI l3] [aL a8, aL a6] s7)) f171_32 rfl rfl).trans ?_
      refine (g_t rfl).trans ?_
      refine bL_h fun a8 s7 qs7 => ?_
      have rs7 := RefC.sem qs7 rfl rs5
      refine (x_iload f171_35 rfl rfl).trans ?_
      refine (x_invokestatic (G := bnL (sem 170 0 [aL a6, aU, aL a8, aU, aI l3, aU, aU, aU, aU, aU, aU] [] s7) fun a10 s9 => sem 171 39 [aA 56, aI l1, aI l2, aI l3] [aL a10] s9) f171_36 rfl rfl).trans ?_
      refine bL_h fun a10 s9 qs9 => ?_
      have rs9 := RefC.sem qs9 rfl rs7
      refine (x_goto (tg := 45) f171_39 rfl rfl).trans ?_
      refine (x_kil (l2 := [aU, aU, aU, aU]) f171_45 rfl).trans ?_
      exact x_lreturn f171_45 rfl
set_option maxRecDepth 10000 in
theorem g172_0 {s : SG} (hR : RefC s) (l1 l2 l3 : Int) : sem 172 0 [aA 56, aI l1, aI l2, aI l3] [] s = bnI (sem 163 0 [aA 56, aI l1] [] s) fun a2 s1 => if a2 = 0 then some (aL ((-1)), s1) else bnI (sem 152 0 [aL l2, aU, aL 0, aU, aL 60, aU] [] s1) fun a4 s3 => if a4 = 0 then some (aL ((-2)), s3) else bnL (sem 169 0 [aA 56, aI l1, aI l2, aI 1, aU, aU, aU, aU, aU, aU, aU] [] s3) fun a6 s5 => bnL (sem 167 0 [aA 56] [] s5) fun a8 s7 => bnL (sem 170 0 [aL a6, aU, aL a8, aU, aI l3, aU, aU, aU, aU, aU, aU] [] s7) fun a10 s9 => some (aL a10, s9) := by
  refine (x_aload f172_0 rfl rfl).trans ?_
  refine (x_iload f172_1 rfl rfl).trans ?_
  refine (x_invokevirtual (G := grd (kd 56 = 9) (bnI (sem 163 0 [aA 56, aI l1] [] s) fun a2 s1 => sem 172 5 [aA 56, aI l1, aI l2, aI l3] [aI a2] s1)) f172_2 rfl rfl).trans ?_
  refine (g_t rfl).trans ?_
  refine bI_h fun a2 s1 qs1 => ?_
  have rs1 := RefC.sem qs1 rfl hR
  refine (x_if_ne (tg := 12) f172_5 rfl rfl).trans (i_c ?_ ?_)
  · refine (x_lconst f172_8 rfl).trans ?_
    exact x_lreturn f172_11 rfl
  · refine (x_iload f172_12 rfl rfl).trans ?_
    refine (x_i2l f172_13 rfl).trans ?_
    refine (x_lconst f172_14 rfl).trans ?_
    refine (x_lconst f172_15 rfl).trans ?_
    refine (x_invokestatic (G := bnI (sem 152 0 [aL l2, aU, aL 0, aU, aL 60, aU] [] s1) fun a4 s3 => sem 172 21 [aA 56, aI l1, aI l2, aI l3] [aI a4] s3) f172_18 rfl rfl).trans ?_
    refine bI_h fun a4 s3 qs3 => ?_
    have rs3 := RefC.sem qs3 rfl rs1
    refine (x_if_eq (tg := 42) f172_21 rfl rfl).trans (i_c ?_ ?_)
    · refine (x_lconst f172_42 rfl).trans ?_
      refine (x_kil (l2 := [aU, aU, aU, aU]) f172_45 rfl).trans ?_
      exact x_lreturn f172_45 rfl
    · refine (x_aload f172_24 rfl rfl).trans ?_
      refine (x_iload f172_25 rfl rfl).trans ?_
      refine (x_iload f172_26 rfl rfl).trans ?_
      refine (x_iconst f172_27 rfl).trans ?_
      refine (x_invokevirtual (G := grd (kd 56 = 9) (bnL (sem 169 0 [aA 56, aI l1, aI l2, aI 1, aU, aU, aU, aU, aU, aU, aU] [] s3) fun a6 s5 => sem 172 31 [aA 56, aI l1, aI l2, aI l3] [aL a6] s5)) f172_28 rfl rfl).trans ?_
      refine (g_t rfl).trans ?_
      refine bL_h fun a6 s5 qs5 => ?_
      have rs5 := RefC.sem qs5 rfl rs3
      refine (x_aload f172_31 rfl rfl).trans ?_
      refine (x_invokevirtual (G := grd (kd 56 = 9) (bnL (sem 167 0 [aA 56] [] s5) fun a8 s7 => sem 172 35 [aA 56, aI l1, aI l2, aI l3] [aL a8, aL a6] s7)) f172_32 rfl rfl).trans ?_
      refine (g_t rfl).trans ?_
      refine bL_h fun a8 s7 qs7 => ?_
      have rs7 := RefC.sem qs7 rfl rs5
      refine (x_iload f172_35 rfl rfl).trans ?_
      refine (x_invokestatic (G := bnL (sem 170 0 [aL a6, aU, aL a8, aU, aI l3, aU, aU, aU, aU, aU, aU] [] s7) fun a10 s9 => sem 172 39 [aA 56, aI l1, aI l2, aI l3] [aL a10] s9) f172_36 rfl rfl).trans ?_
      refine bL_h fun a10 s9 qs9 => ?_
      have rs9 := RefC.sem qs9 rfl rs7
      refine (x_goto (tg := 45) f172_39 rfl rfl).trans ?_
      refine (x_kil (l2 := [aU, aU, aU, aU]) f172_45 rfl).trans ?_
      exact x_lreturn f172_45 rfl
set_option maxRecDepth 10000 in
theorem g173_0 {s : SG} (hR : RefC s) (l1 l2 : Int) : sem 173 0 [aA 56, aI l1, aI l2, aU, aU, aU, aU, aU, aU, aU] [] s = sem 173 2 [aA 56, aI l1, aI l2, aI 0, aU, aU, aU, aU, aU, aU] [] s := by
  refine (x_iconst f173_0 rfl).trans ?_
  refine (x_istore (l2 := [aA 56, aI l1, aI l2, aI 0, aU, aU, aU, aU, aU, aU]) f173_1 rfl rfl).trans ?_
  rfl
set_option maxRecDepth 10000 in
theorem g173_2 {s : SG} (hR : RefC s) (l1 l2 l3 : Int) : sem 173 2 [aA 56, aI l1, aI l2, aI l3, aU, aU, aU, aU, aU, aU] [] s = if l3 < 3 then grd ((0 : Int) ≤ l3 ∧ l3 < 3) (sem 173 2 [aA 56, aI l1, aI l2, aI (w32 (l3 + 1)), aU, aU, aU, aU, aU, aU] [] (up s 61 l3 0)) else sem 173 22 [aA 56, aI l1, aI l2, aI 0, aU, aU, aU, aU, aU, aU] [] s := by
  refine (x_iload f173_2 rfl rfl).trans ?_
  refine (x_iconst f173_3 rfl).trans ?_
  refine (x_icmp_ge (tg := 20) f173_4 rfl rfl).trans (i_c ?_ ?_)
  · refine (x_aload f173_7 rfl rfl).trans ?_
    refine (y_get2 (ji := 8) rfl f173_8 rfl rfl).trans ?_
    refine (g_t rfl).trans ?_
    refine (g_t (by rw [show s 56 8 = 61 from hR.2.2.2.2.2.2.2.2.2.2.2.2.2.2.2.2.2.2.2.2.2.2.2.2.2.2.2.2.2.2.2.2.2.2.2.2.2.2.2.2.2.2.2.2.2.2.2.2.2.2.2.2.2.2.2.2.2.1]; decide)).trans ?_
    rw [show s 56 8 = 61 from hR.2.2.2.2.2.2.2.2.2.2.2.2.2.2.2.2.2.2.2.2.2.2.2.2.2.2.2.2.2.2.2.2.2.2.2.2.2.2.2.2.2.2.2.2.2.2.2.2.2.2.2.2.2.2.2.2.2.1]
    refine (x_iload f173_11 rfl rfl).trans ?_
    refine (x_iconst f173_12 rfl).trans ?_
    refine (x_iastore f173_13 rfl).trans ?_
    refine (g_t rfl).trans ?_
    refine g_kl (n := 3) rfl fun hg1 => ?_
    refine (x_iinc (l2 := [aA 56, aI l1, aI l2, aI (w32 (l3 + 1)), aU, aU, aU, aU, aU, aU]) f173_14 rfl rfl rfl).trans ?_
    refine (x_goto (tg := 2) f173_17 rfl rfl).trans ?_
    rfl
  · refine (x_iconst f173_20 rfl).trans ?_
    refine (x_istore (l2 := [aA 56, aI l1, aI l2, aI 0, aU, aU, aU, aU, aU, aU]) f173_21 rfl rfl).trans ?_
    rfl
set_option maxRecDepth 10000 in
theorem g173_22 {s : SG} (hR : RefC s) (l1 l2 l3 : Int) : sem 173 22 [aA 56, aI l1, aI l2, aI l3, aU, aU, aU, aU, aU, aU] [] s = if l3 < l1 then sem 173 39 [aA 56, aI l1, aI l2, aI l3, aI ((-9)), aL ((-1)), aU, aI 0, aU, aU] [] s else some (aU, s) := by
  refine (x_iload f173_22 rfl rfl).trans ?_
  refine (x_iload f173_23 rfl rfl).trans ?_
  refine (x_icmp_ge (tg := 142) f173_24 rfl rfl).trans (i_c ?_ ?_)
  · refine (x_iconst f173_27 rfl).trans ?_
    refine (x_istore (l2 := [aA 56, aI l1, aI l2, aI l3, aI ((-9)), aU, aU, aU, aU, aU]) f173_29 rfl rfl).trans ?_
    refine (x_lconst f173_31 rfl).trans ?_
    refine (x_lstore (l2 := [aA 56, aI l1, aI l2, aI l3, aI ((-9)), aL ((-1)), aU, aU, aU, aU]) f173_34 rfl rfl).trans ?_
    refine (x_iconst f173_36 rfl).trans ?_
    refine (x_istore (l2 := [aA 56, aI l1, aI l2, aI l3, aI ((-9)), aL ((-1)), aU, aI 0, aU, aU]) f173_37 rfl rfl).trans ?_
    rfl
  · exact x_return f173_142 rfl
set_option maxRecDepth 10000 in
theorem g173_39 {s : SG} (hR : RefC s) (l1 l2 l3 l4 l5 l7 : Int) : sem 173 39 [aA 56, aI l1, aI l2, aI l3, aI l4, aL l5, aU, aI l7, aU, aU] [] s = if l7 < (s 58 0) then if l7 = l2 then sem 173 76 [aA 56, aI l1, aI l2, aI l3, aI l4, aL l5, aU, aI l7, aU, aU] [aL ((-1))] s else grd ((0 : Int) ≤ l7 ∧ l7 < 3) (bnL (sem 169 0 [aA 56, aI l7, aI (s 61 l7), aI 1, aU, aU, aU, aU, aU, aU, aU] [] s) fun a3 s2 => sem 173 76 [aA 56, aI l1, aI l2, aI l3, aI l4, aL l5, aU, aI l7, aU, aU] [aL a3] s2) else if l4 = ((-9)) then sem 173 22 [aA 56, aI l1, aI l2, aI (w32 (l3 + 1)), aU, aU, aU, aU, aU, aU] [] s else grd ((0 : Int) ≤ l4 ∧ l4 < 3) (sem 173 22 [aA 56, aI l1, aI l2, aI (w32 (l3 + 1)), aU, aU, aU, aU, aU, aU] [] (up s 61 l4 (w32 ((s 61 l4) + 1)))) := by
  refine (x_iload f173_39 rfl rfl).trans ?_
  refine (x_aload f173_41 rfl rfl).trans ?_
  refine (y_get2 (ji := 1) rfl f173_42 rfl rfl).trans ?_
  refine (g_t rfl).trans ?_
  refine (g_t (by rw [show s 56 1 = 58 from hR.2.2.2.2.2.2.2.2.2.2.2.2.2.2.2.2.2.2.2.2.2.2.2.2.2.2.2.2.2.2.2.2.2.2.2.2.2.2.2.2.2.2.2.2.2.2.2.2.2.2.2.2.2.2.1]; decide)).trans ?_
  rw [show s 56 1 = 58 from hR.2.2.2.2.2.2.2.2.2.2.2.2.2.2.2.2.2.2.2.2.2.2.2.2.2.2.2.2.2.2.2.2.2.2.2.2.2.2.2.2.2.2.2.2.2.2.2.2.2.2.2.2.2.2.1]
  refine (x_iconst f173_45 rfl).trans ?_
  refine (x_iaload f173_46 rfl).trans ?_
  refine (g_t rfl).trans ?_
  refine (g_kt (n := 28) rfl (by decide)).trans ?_
  refine (x_icmp_ge (tg := 118) f173_47 rfl rfl).trans (i_c ?_ ?_)
  · refine (x_iload f173_50 rfl rfl).trans ?_
    refine (x_iload f173_52 rfl rfl).trans ?_
    refine (x_icmp_ne (tg := 62) f173_53 rfl rfl).trans (i_c ?_ ?_)
    · refine (x_lconst f173_56 rfl).trans ?_
      refine (x_goto (tg := 76) f173_59 rfl rfl).trans ?_
      rfl
    · refine (x_aload f173_62 rfl rfl).trans ?_
      refine (x_iload f173_63 rfl rfl).trans ?_
      refine (x_aload f173_65 rfl rfl).trans ?_
      refine (y_get2 (ji := 8) rfl f173_66 rfl rfl).trans ?_
      refine (g_t rfl).trans ?_
      refine (g_t (by rw [show s 56 8 = 61 from hR.2.2.2.2.2.2.2.2.2.2.2.2.2.2.2.2.2.2.2.2.2.2.2.2.2.2.2.2.2.2.2.2.2.2.2.2.2.2.2.2.2.2.2.2.2.2.2.2.2.2.2.2.2.2.2.2.2.1]; decide)).trans ?_
      rw [show s 56 8 = 61 from hR.2.2.2.2.2.2.2.2.2.2.2.2.2.2.2.2.2.2.2.2.2.2.2.2.2.2.2.2.2.2.2.2.2.2.2.2.2.2.2.2.2.2.2.2.2.2.2.2.2.2.2.2.2.2.2.2.2.1]
      refine (x_iload f173_69 rfl rfl).trans ?_
      refine (x_iaload f173_71 rfl).trans ?_
      refine (g_t rfl).trans ?_
      refine g_kl (n := 3) rfl fun hg1 => ?_
      refine (x_iconst f173_72 rfl).trans ?_
      refine (x_invokevirtual (G := grd (kd 56 = 9) (bnL (sem 169 0 [aA 56, aI l7, aI (s 61 l7), aI 1, aU, aU, aU, aU, aU, aU, aU] [] s) fun a3 s2 => sem 173 76 [aA 56, aI l1, aI l2, aI l3, aI l4, aL l5, aU, aI l7, aU, aU] [aL a3] s2)) f173_73 rfl rfl).trans ?_
      refine (g_t rfl).trans ?_
      refine bL_h fun a3 s2 qs2 => ?_
      have rs2 := RefC.sem qs2 rfl hR
      rfl
  · refine (x_iload f173_118 rfl rfl).trans ?_
    refine (x_iconst f173_120 rfl).trans ?_
    refine (x_icmp_eq (tg := 136) f173_122 rfl rfl).trans (i_c ?_ ?_)
    · refine (x_kil (l2 := [aA 56, aI l1, aI l2, aI l3, aU, aU, aU, aU, aU, aU]) f173_136 rfl).trans ?_
      refine (x_iinc (l2 := [aA 56, aI l1, aI l2, aI (w32 (l3 + 1)), aU, aU, aU, aU, aU, aU]) f173_136 rfl rfl rfl).trans ?_
      refine (x_goto (tg := 22) f173_139 rfl rfl).trans ?_
      rfl
    · refine (x_aload f173_125 rfl rfl).trans ?_
      refine (y_get2 (ji := 8) rfl f173_126 rfl rfl).trans ?_
      refine (g_t rfl).trans ?_
      refine (g_t (by rw [show s 56 8 = 61 from hR.2.2.2.2.2.2.2.2.2.2.2.2.2.2.2.2.2.2.2.2.2.2.2.2.2.2.2.2.2.2.2.2.2.2.2.2.2.2.2.2.2.2.2.2.2.2.2.2.2.2.2.2.2.2.2.2.2.1]; decide)).trans ?_
      rw [show s 56 8 = 61 from hR.2.2.2.2.2.2.2.2.2.2.2.2.2.2.2.2.2.2.2.2.2.2.2.2.2.2.2.2.2.2.2.2.2.2.2.2.2.2.2.2.2.2.2.2.2.2.2.2.2.2.2.2.2.2.2.2.2.1]
      refine (x_iload f173_129 rfl rfl).trans ?_
      refine (x_dup2 f173_131 rfl rfl).trans ?_
      refine (x_iaload f173_132 rfl).trans ?_
      refine (g_t rfl).trans ?_
      refine g_kl (n := 3) rfl fun hg4 => ?_
      refine (x_iconst f173_133 rfl).trans ?_
      refine (x_iadd f173_134 rfl).trans ?_
      refine (x_iastore f173_135 rfl).trans ?_
      refine (g_t rfl).trans ?_
      refine (g_kt (n := 3) rfl hg4).trans ?_
      refine (x_kil (l2 := [aA 56, aI l1, aI l2, aI l3, aU, aU, aU, aU, aU, aU]) f173_136 rfl).trans ?_
      refine (x_iinc (l2 := [aA 56, aI l1, aI l2, aI (w32 (l3 + 1)), aU, aU, aU, aU, aU, aU]) f173_136 rfl rfl rfl).trans ?_
      refine (x_goto (tg := 22) f173_139 rfl rfl).trans ?_
      rfl
set_option maxRecDepth 10000 in
theorem g173_76 {s : SG} (hR : RefC s) (l1 l2 l3 l4 l5 l7 v0 : Int) : sem 173 76 [aA 56, aI l1, aI l2, aI l3, aI l4, aL l5, aU, aI l7, aU, aU] [aL v0] s = sem 173 39 [aA 56, aI l1, aI l2, aI l3, aI (if (0 : Int) < (cmpL v0 l5) then l7 else l4), aL (if (0 : Int) < (cmpL v0 l5) then v0 else l5), aU, aI (w32 (l7 + 1)), aU, aU] [] s := by
  refine (x_lstore (l2 := [aA 56, aI l1, aI l2, aI l3, aI l4, aL l5, aU, aI l7, aL v0, aU]) f173_76 rfl rfl).trans ?_
  refine (x_lload f173_78 rfl rfl).trans ?_
  refine (x_lload f173_80 rfl rfl).trans ?_
  refine (x_lcmp f173_82 rfl).trans ?_
  refine (x_if_le (tg := 91) f173_83 rfl rfl).trans ?_
  refine Eq.trans (b := if (0 : Int) < (cmpL v0 l5) then sem 173 93 [aA 56, aI l1, aI l2, aI l3, aU, aL l5, aU, aI l7, aL v0, aU] [aI l7] s else sem 173 93 [aA 56, aI l1, aI l2, aI l3, aU, aL l5, aU, aI l7, aL v0, aU] [aI l4] s) (i_c ?_ ?_) ?_
  · refine (x_iload f173_86 rfl rfl).trans ?_
    refine (x_goto (tg := 93) f173_88 rfl rfl).trans ?_
    exact x_kil f173_93 rfl
  · refine (x_iload f173_91 rfl rfl).trans ?_
    exact x_kil f173_93 rfl
  refine m_I.trans ?_
  refine (x_istore (l2 := [aA 56, aI l1, aI l2, aI l3, aI (if (0 : Int) < (cmpL v0 l5) then l7 else l4), aL l5, aU, aI l7, aL v0, aU]) f173_93 rfl rfl).trans ?_
  refine (x_lload f173_95 rfl rfl).trans ?_
  refine (x_lload f173_97 rfl rfl).trans ?_
  refine (x_lcmp f173_99 rfl).trans ?_
  refine (x_if_le (tg := 108) f173_100 rfl rfl).trans ?_
  refine Eq.trans (b := if (0 : Int) < (cmpL v0 l5) then sem 173 110 [aA 56, aI l1, aI l2, aI l3, aI (if (0 : Int) < (cmpL v0 l5) then l7 else l4), aU, aU, aI l7, aU, aU] [aL v0] s else sem 173 110 [aA 56, aI l1, aI l2, aI l3, aI (if (0 : Int) < (cmpL v0 l5) then l7 else l4), aU, aU, aI l7, aU, aU] [aL l5] s) (i_c ?_ ?_) ?_
  · refine (x_lload f173_103 rfl rfl).trans ?_
    refine (x_goto (tg := 110) f173_105 rfl rfl).trans ?_
    exact x_kil f173_110 rfl
  · refine (x_lload f173_108 rfl rfl).trans ?_
    exact x_kil f173_110 rfl
  refine m_L.trans ?_
  refine (x_lstore (l2 := [aA 56, aI l1, aI l2, aI l3, aI (if (0 : Int) < (cmpL v0 l5) then l7 else l4), aL (if (0 : Int) < (cmpL v0 l5) then v0 else l5), aU, aI l7, aU, aU]) f173_110 rfl rfl).trans ?_
  refine (x_iinc (l2 := [aA 56, aI l1, aI l2, aI l3, aI (if (0 : Int) < (cmpL v0 l5) then l7 else l4), aL (if (0 : Int) < (cmpL v0 l5) then v0 else l5), aU, aI (w32 (l7 + 1)), aU, aU]) f173_112 rfl rfl rfl).trans ?_
  refine (x_goto (tg := 39) f173_115 rfl rfl).trans ?_
  rfl
set_option maxRecDepth 10000 in
theorem g174_0 {s : SG} (hR : RefC s) (l1 : Int) : sem 174 0 [aA 56, aI l1, aU, aU, aU] [] s = sem 174 5 [aA 56, aI l1, aL 0, aU, aI 0] [] s := by
  refine (x_lconst f174_0 rfl).trans ?_
  refine (x_lstore (l2 := [aA 56, aI l1, aL 0, aU, aU]) f174_1 rfl rfl).trans ?_
  refine (x_iconst f174_2 rfl).trans ?_
  refine (x_istore (l2 := [aA 56, aI l1, aL 0, aU, aI 0]) f174_3 rfl rfl).trans ?_
  rfl
set_option maxRecDepth 10000 in
theorem g174_5 {s : SG} (hR : RefC s) (l1 l2 l4 : Int) : sem 174 5 [aA 56, aI l1, aL l2, aU, aI l4] [] s = if l4 < (s 58 0) then grd ((0 : Int) ≤ l4 ∧ l4 < 3) (bnL (sem 169 0 [aA 56, aI l4, aI (s 61 l4), aI 0, aU, aU, aU, aU, aU, aU, aU] [] s) fun a3 s2 => sem 174 5 [aA 56, aI l1, aL (w64 (l2 + a3)), aU, aI (w32 (l4 + 1))] [] s2) else bnL (sem 167 0 [aA 56] [] s) fun a5 s4 => bnL (sem 167 0 [aA 56] [] s4) fun a7 s6 => some (aL (w64 ((w64 ((w64 (l2 * (s 58 5))) + (w64 ((w64 ((w64 (l1 * a5)) - l2)) * (s4 58 6))))) - (w64 ((w64 (l1 * a7)) * (s6 58 4))))), s6) := by
  refine (x_iload f174_5 rfl rfl).trans ?_
  refine (x_aload f174_7 rfl rfl).trans ?_
  refine (y_get2 (ji := 1) rfl f174_8 rfl rfl).trans ?_
  refine (g_t rfl).trans ?_
  refine (g_t (by rw [show s 56 1 = 58 from hR.2.2.2.2.2.2.2.2.2.2.2.2.2.2.2.2.2.2.2.2.2.2.2.2.2.2.2.2.2.2.2.2.2.2.2.2.2.2.2.2.2.2.2.2.2.2.2.2.2.2.2.2.2.2.1]; decide)).trans ?_
  rw [show s 56 1 = 58 from hR.2.2.2.2.2.2.2.2.2.2.2.2.2.2.2.2.2.2.2.2.2.2.2.2.2.2.2.2.2.2.2.2.2.2.2.2.2.2.2.2.2.2.2.2.2.2.2.2.2.2.2.2.2.2.1]
  refine (x_iconst f174_11 rfl).trans ?_
  refine (x_iaload f174_12 rfl).trans ?_
  refine (g_t rfl).trans ?_
  refine (g_kt (n := 28) rfl (by decide)).trans ?_
  refine (x_icmp_ge (tg := 39) f174_13 rfl rfl).trans (i_c ?_ ?_)
  · refine (x_lload f174_16 rfl rfl).trans ?_
    refine (x_aload f174_17 rfl rfl).trans ?_
    refine (x_iload f174_18 rfl rfl).trans ?_
    refine (x_aload f174_20 rfl rfl).trans ?_
    refine (y_get2 (ji := 8) rfl f174_21 rfl rfl).trans ?_
    refine (g_t rfl).trans ?_
    refine (g_t (by rw [show s 56 8 = 61 from hR.2.2.2.2.2.2.2.2.2.2.2.2.2.2.2.2.2.2.2.2.2.2.2.2.2.2.2.2.2.2.2.2.2.2.2.2.2.2.2.2.2.2.2.2.2.2.2.2.2.2.2.2.2.2.2.2.2.1]; decide)).trans ?_
    rw [show s 56 8 = 61 from hR.2.2.2.2.2.2.2.2.2.2.2.2.2.2.2.2.2.2.2.2.2.2.2.2.2.2.2.2.2.2.2.2.2.2.2.2.2.2.2.2.2.2.2.2.2.2.2.2.2.2.2.2.2.2.2.2.2.1]
    refine (x_iload f174_24 rfl rfl).trans ?_
    refine (x_iaload f174_26 rfl).trans ?_
    refine (g_t rfl).trans ?_
    refine g_kl (n := 3) rfl fun hg1 => ?_
    refine (x_iconst f174_27 rfl).trans ?_
    refine (x_invokevirtual (G := grd (kd 56 = 9) (bnL (sem 169 0 [aA 56, aI l4, aI (s 61 l4), aI 0, aU, aU, aU, aU, aU, aU, aU] [] s) fun a3 s2 => sem 174 31 [aA 56, aI l1, aL l2, aU, aI l4] [aL a3, aL l2] s2)) f174_28 rfl rfl).trans ?_
    refine (g_t rfl).trans ?_
    refine bL_h fun a3 s2 qs2 => ?_
    have rs2 := RefC.sem qs2 rfl hR
    refine (x_ladd f174_31 rfl).trans ?_
    refine (x_lstore (l2 := [aA 56, aI l1, aL (w64 (l2 + a3)), aU, aI l4]) f174_32 rfl rfl).trans ?_
    refine (x_iinc (l2 := [aA 56, aI l1, aL (w64 (l2 + a3)), aU, aI (w32 (l4 + 1))]) f174_33 rfl rfl rfl).trans ?_
    refine (x_goto (tg := 5) f174_36 rfl rfl).trans ?_
    rfl
  · refine (x_lload f174_39 rfl rfl).trans ?_
    refine (x_aload f174_40 rfl rfl).trans ?_
    refine (y_get2 (ji := 1) rfl f174_41 rfl rfl).trans ?_
    refine (g_t rfl).trans ?_
    refine (g_t (by rw [show s 56 1 = 58 from hR.2.2.2.2.2.2.2.2.2.2.2.2.2.2.2.2.2.2.2.2.2.2.2.2.2.2.2.2.2.2.2.2.2.2.2.2.2.2.2.2.2.2.2.2.2.2.2.2.2.2.2.2.2.2.1]; decide)).trans ?_
    rw [show s 56 1 = 58 from hR.2.2.2.2.2.2.2.2.2.2.2.2.2.2.2.2.2.2.2.2.2.2.2.2.2.2.2.2.2.2.2.2.2.2.2.2.2.2.2.2.2.2.2.2.2.2.2.2.2.2.2.2.2.2.1]
    refine (x_iconst f174_44 rfl).trans ?_
    refine (x_iaload f174_45 rfl).trans ?_
    refine (g_t rfl).trans ?_
    refine (g_kt (n := 28) rfl (by decide)).trans ?_
    refine (x_i2l f174_46 rfl).trans ?_
    refine (x_lmul f174_47 rfl).trans ?_
    refine (x_iload f174_48 rfl rfl).trans ?_
    refine (x_i2l f174_49 rfl).trans ?_
    refine (x_aload f174_50 rfl rfl).trans ?_
    refine (x_invokevirtual (G := grd (kd 56 = 9) (bnL (sem 167 0 [aA 56] [] s) fun a5 s4 => sem 174 54 [aA 56, aI l1, aL l2, aU, aI l4] [aL a5, aL l1, aL (w64 (l2 * (s 58 5)))] s4)) f174_51 rfl rfl).trans ?_
    refine (g_t rfl).trans ?_
    refine bL_h fun a5 s4 qs4 => ?_
    have rs4 := RefC.sem qs4 rfl hR
    refine (x_lmul f174_54 rfl).trans ?_
    refine (x_lload f174_55 rfl rfl).trans ?_
    refine (x_lsub f174_56 rfl).trans ?_
    refine (x_aload f174_57 rfl rfl).trans ?_
    refine (y_get2 (ji := 1) rfl f174_58 rfl rfl).trans ?_
    refine (g_t rfl).trans ?_
    refine (g_t (by rw [show s4 56 1 = 58 from rs4.2.2.2.2.2.2.2.2.2.2.2.2.2.2.2.2.2.2.2.2.2.2.2.2.2.2.2.2.2.2.2.2.2.2.2.2.2.2.2.2.2.2.2.2.2.2.2.2.2.2.2.2.2.2.1]; decide)).trans ?_
    rw [show s4 56 1 = 58 from rs4.2.2.2.2.2.2.2.2.2.2.2.2.2.2.2.2.2.2.2.2.2.2.2.2.2.2.2.2.2.2.2.2.2.2.2.2.2.2.2.2.2.2.2.2.2.2.2.2.2.2.2.2.2.2.1]
    refine (x_iconst f174_61 rfl).trans ?_
    refine (x_iaload f174_63 rfl).trans ?_
    refine (g_t rfl).trans ?_
    refine (g_kt (n := 28) rfl (by decide)).trans ?_
    refine (x_i2l f174_64 rfl).trans ?_
    refine (x_lmul f174_65 rfl).trans ?_
    refine (x_ladd f174_66 rfl).trans ?_
    refine (x_iload f174_67 rfl rfl).trans ?_
    refine (x_i2l f174_68 rfl).trans ?_
    refine (x_aload f174_69 rfl rfl).trans ?_
    refine (x_invokevirtual (G := grd (kd 56 = 9) (bnL (sem 167 0 [aA 56] [] s4) fun a7 s6 => sem 174 73 [aA 56, aI l1, aL l2, aU, aI l4] [aL a7, aL l1, aL (w64 ((w64 (l2 * (s 58 5))) + (w64 ((w64 ((w64 (l1 * a5)) - l2)) * (s4 58 6)))))] s6)) f174_70 rfl rfl).trans ?_
    refine (g_t rfl).trans ?_
    refine bL_h fun a7 s6 qs6 => ?_
    have rs6 := RefC.sem qs6 rfl rs4
    refine (x_lmul f174_73 rfl).trans ?_
    refine (x_aload f174_74 rfl rfl).trans ?_
    refine (y_get2 (ji := 1) rfl f174_75 rfl rfl).trans ?_
    refine (g_t rfl).trans ?_
    refine (g_t (by rw [show s6 56 1 = 58 from rs6.2.2.2.2.2.2.2.2.2.2.2.2.2.2.2.2.2.2.2.2.2.2.2.2.2.2.2.2.2.2.2.2.2.2.2.2.2.2.2.2.2.2.2.2.2.2.2.2.2.2.2.2.2.2.1]; decide)).trans ?_
    rw [show s6 56 1 = 58 from rs6.2.2.2.2.2.2.2.2.2.2.2.2.2.2.2.2.2.2.2.2.2.2.2.2.2.2.2.2.2.2.2.2.2.2.2.2.2.2.2.2.2.2.2.2.2.2.2.2.2.2.2.2.2.2.1]
    refine (x_iconst f174_78 rfl).trans ?_
    refine (x_iaload f174_79 rfl).trans ?_
    refine (g_t rfl).trans ?_
    refine (g_kt (n := 28) rfl (by decide)).trans ?_
    refine (x_i2l f174_80 rfl).trans ?_
    refine (x_lmul f174_81 rfl).trans ?_
    refine (x_lsub f174_82 rfl).trans ?_
    exact x_lreturn f174_83 rfl
set_option maxRecDepth 10000 in
theorem g175_0 {s : SG} (hR : RefC s) (l1 l2 : Int) : sem 175 0 [aA 56, aI l1, aI l2] [] s = bnI (sem 163 0 [aA 56, aI l2] [] s) fun a2 s1 => if a2 = 0 then some (aI ((-1)), s1) else bnI (sem 152 0 [aL l1, aU, aL 0, aU, aL 60, aU] [] s1) fun a4 s3 => if a4 = 0 then some (aI ((-2)), s3) else bnV (sem 173 0 [aA 56, aI l1, aI ((-1)), aU, aU, aU, aU, aU, aU, aU] [] s3) fun s5 => grd ((0 : Int) ≤ l2 ∧ l2 < 3) (some (aI (s5 61 l2), s5)) := by
  refine (x_aload f175_0 rfl rfl).trans ?_
  refine (x_iload f175_1 rfl rfl).trans ?_
  refine (x_invokevirtual (G := grd (kd 56 = 9) (bnI (sem 163 0 [aA 56, aI l2] [] s) fun a2 s1 => sem 175 5 [aA 56, aI l1, aI l2] [aI a2] s1)) f175_2 rfl rfl).trans ?_
  refine (g_t rfl).trans ?_
  refine bI_h fun a2 s1 qs1 => ?_
  have rs1 := RefC.sem qs1 rfl hR
  refine (x_if_ne (tg := 10) f175_5 rfl rfl).trans (i_c ?_ ?_)
  · refine (x_iconst f175_8 rfl).trans ?_
    exact x_ireturn f175_9 rfl
  · refine (x_iload f175_10 rfl rfl).trans ?_
    refine (x_i2l f175_11 rfl).trans ?_
    refine (x_lconst f175_12 rfl).trans ?_
    refine (x_lconst f175_13 rfl).trans ?_
    refine (x_invokestatic (G := bnI (sem 152 0 [aL l1, aU, aL 0, aU, aL 60, aU] [] s1) fun a4 s3 => sem 175 19 [aA 56, aI l1, aI l2] [aI a4] s3) f175_16 rfl rfl).trans ?_
    refine bI_h fun a4 s3 qs3 => ?_
    have rs3 := RefC.sem qs3 rfl rs1
    refine (x_if_ne (tg := 25) f175_19 rfl rfl).trans (i_c ?_ ?_)
    · refine (x_iconst f175_22 rfl).trans ?_
      exact x_ireturn f175_24 rfl
    · refine (x_aload f175_25 rfl rfl).trans ?_
      refine (x_iload f175_26 rfl rfl).trans ?_
      refine (x_iconst f175_27 rfl).trans ?_
      refine (x_invokevirtual (G := grd (kd 56 = 9) (bnV (sem 173 0 [aA 56, aI l1, aI ((-1)), aU, aU, aU, aU, aU, aU, aU] [] s3) fun s5 => sem 175 31 [aA 56, aI l1, aI l2] [] s5)) f175_28 rfl rfl).trans ?_
      refine (g_t rfl).trans ?_
      refine bV_h fun s5 qs5 => ?_
      have rs5 := RefC.sem qs5 rfl rs3
      refine (x_aload f175_31 rfl rfl).trans ?_
      refine (y_get2 (ji := 8) rfl f175_32 rfl rfl).trans ?_
      refine (g_t rfl).trans ?_
      refine (g_t (by rw [show s5 56 8 = 61 from rs5.2.2.2.2.2.2.2.2.2.2.2.2.2.2.2.2.2.2.2.2.2.2.2.2.2.2.2.2.2.2.2.2.2.2.2.2.2.2.2.2.2.2.2.2.2.2.2.2.2.2.2.2.2.2.2.2.2.1]; decide)).trans ?_
      rw [show s5 56 8 = 61 from rs5.2.2.2.2.2.2.2.2.2.2.2.2.2.2.2.2.2.2.2.2.2.2.2.2.2.2.2.2.2.2.2.2.2.2.2.2.2.2.2.2.2.2.2.2.2.2.2.2.2.2.2.2.2.2.2.2.2.1]
      refine (x_iload f175_35 rfl rfl).trans ?_
      refine (x_iaload f175_36 rfl).trans ?_
      refine (g_t rfl).trans ?_
      refine g_kl (n := 3) rfl fun hg6 => ?_
      exact x_ireturn f175_37 rfl
set_option maxRecDepth 10000 in
theorem g176_0 {s : SG} (hR : RefC s) (l1 l2 : Int) : sem 176 0 [aA 56, aI l1, aI l2, aU, aU] [] s = bnI (sem 152 0 [aL l1, aU, aL 0, aU, aL 60, aU] [] s) fun a2 s1 => if a2 = 0 then some (aL ((-2)), s1) else bnV (sem 173 0 [aA 56, aI l1, aI ((-1)), aU, aU, aU, aU, aU, aU, aU] [] s1) fun s3 => bnL (sem 174 0 [aA 56, aI l1, aU, aU, aU] [] s3) fun a5 s4 => bnL (sem 167 0 [aA 56] [] s4) fun a7 s6 => bnL (sem 170 0 [aL a5, aU, aL a7, aU, aI l2, aU, aU, aU, aU, aU, aU] [] s6) fun a9 s8 => if l2 = 0 then some (aL a9, s8) else some (aL (w64 (1000000 + a9)), s8) := by
  refine (x_iload f176_0 rfl rfl).trans ?_
  refine (x_i2l f176_1 rfl).trans ?_
  refine (x_lconst f176_2 rfl).trans ?_
  refine (x_lconst f176_3 rfl).trans ?_
  refine (x_invokestatic (G := bnI (sem 152 0 [aL l1, aU, aL 0, aU, aL 60, aU] [] s) fun a2 s1 => sem 176 9 [aA 56, aI l1, aI l2, aU, aU] [aI a2] s1) f176_6 rfl rfl).trans ?_
  refine bI_h fun a2 s1 qs1 => ?_
  have rs1 := RefC.sem qs1 rfl hR
  refine (x_if_ne (tg := 16) f176_9 rfl rfl).trans (i_c ?_ ?_)
  · refine (x_lconst f176_12 rfl).trans ?_
    exact x_lreturn f176_15 rfl
  · refine (x_aload f176_16 rfl rfl).trans ?_
    refine (x_iload f176_17 rfl rfl).trans ?_
    refine (x_iconst f176_18 rfl).trans ?_
    refine (x_invokevirtual (G := grd (kd 56 = 9) (bnV (sem 173 0 [aA 56, aI l1, aI ((-1)), aU, aU, aU, aU, aU, aU, aU] [] s1) fun s3 => sem 176 22 [aA 56, aI l1, aI l2, aU, aU] [] s3)) f176_19 rfl rfl).trans ?_
    refine (g_t rfl).trans ?_
    refine bV_h fun s3 qs3 => ?_
    have rs3 := RefC.sem qs3 rfl rs1
    refine (x_aload f176_22 rfl rfl).trans ?_
    refine (x_iload f176_23 rfl rfl).trans ?_
    refine (x_invokevirtual (G := grd (kd 56 = 9) (bnL (sem 174 0 [aA 56, aI l1, aU, aU, aU] [] s3) fun a5 s4 => sem 176 27 [aA 56, aI l1, aI l2, aU, aU] [aL a5] s4)) f176_24 rfl rfl).trans ?_
    refine (g_t rfl).trans ?_
    refine bL_h fun a5 s4 qs4 => ?_
    have rs4 := RefC.sem qs4 rfl rs3
    refine (x_aload f176_27 rfl rfl).trans ?_
    refine (x_invokevirtual (G := grd (kd 56 = 9) (bnL (sem 167 0 [aA 56] [] s4) fun a7 s6 => sem 176 31 [aA 56, aI l1, aI l2, aU, aU] [aL a7, aL a5] s6)) f176_28 rfl rfl).trans ?_
    refine (g_t rfl).trans ?_
    refine bL_h fun a7 s6 qs6 => ?_
    have rs6 := RefC.sem qs6 rfl rs4
    refine (x_iload f176_31 rfl rfl).trans ?_
    refine (x_invokestatic (G := bnL (sem 170 0 [aL a5, aU, aL a7, aU, aI l2, aU, aU, aU, aU, aU, aU] [] s6) fun a9 s8 => sem 176 35 [aA 56, aI l1, aI l2, aU, aU] [aL a9] s8) f176_32 rfl rfl).trans ?_
    refine bL_h fun a9 s8 qs8 => ?_
    have rs8 := RefC.sem qs8 rfl rs6
    refine (x_lstore (l2 := [aA 56, aI l1, aI l2, aL a9, aU]) f176_35 rfl rfl).trans ?_
    refine (x_iload f176_36 rfl rfl).trans ?_
    refine (x_if_eq (tg := 48) f176_37 rfl rfl).trans (i_c ?_ ?_)
    · refine (x_lload f176_48 rfl rfl).trans ?_
      refine (x_kil (l2 := [aU, aU, aU, aU, aU]) f176_49 rfl).trans ?_
      exact x_lreturn f176_49 rfl
    · refine (x_lconst f176_40 rfl).trans ?_
      refine (x_lload f176_43 rfl rfl).trans ?_
      refine (x_ladd f176_44 rfl).trans ?_
      refine (x_goto (tg := 49) f176_45 rfl rfl).trans ?_
      refine (x_kil (l2 := [aU, aU, aU, aU, aU]) f176_49 rfl).trans ?_
      exact x_lreturn f176_49 rfl
set_option maxRecDepth 10000 in
theorem g177_0 {s : SG} (hR : RefC s) : sem 177 0 [aA 56, aU, aU, aU, aU, aU, aU] [] s = sem 177 7 [aA 56, aI 0, aL 0, aU, aI 0, aU, aU] [] s := by
  refine (x_iconst f177_0 rfl).trans ?_
  refine (x_istore (l2 := [aA 56, aI 0, aU, aU, aU, aU, aU]) f177_1 rfl rfl).trans ?_
  refine (x_lconst f177_2 rfl).trans ?_
  refine (x_lstore (l2 := [aA 56, aI 0, aL 0, aU, aU, aU, aU]) f177_3 rfl rfl).trans ?_
  refine (x_iconst f177_4 rfl).trans ?_
  refine (x_istore (l2 := [aA 56, aI 0, aL 0, aU, aI 0, aU, aU]) f177_5 rfl rfl).trans ?_
  rfl
set_option maxRecDepth 10000 in
theorem g177_7 {s : SG} (hR : RefC s) (l1 l2 l4 : Int) : sem 177 7 [aA 56, aI l1, aL l2, aU, aI l4, aU, aU] [] s = if l4 < 61 then bnV (sem 173 0 [aA 56, aI l4, aI ((-1)), aU, aU, aU, aU, aU, aU, aU] [] s) fun s1 => bnL (sem 174 0 [aA 56, aI l4, aU, aU, aU] [] s1) fun a3 s2 => sem 177 7 [aA 56, aI (if l4 = 0 then l4 else if (0 : Int) < (cmpL a3 l2) then l4 else l1), aL (if l4 = 0 then a3 else if (0 : Int) < (cmpL a3 l2) then a3 else l2), aU, aI (w32 (l4 + 1)), aU, aU] [] s2 else some (aI l1, s) := by
  refine (x_iload f177_7 rfl rfl).trans ?_
  refine (x_iconst f177_9 rfl).trans ?_
  refine (x_icmp_ge (tg := 73) f177_11 rfl rfl).trans (i_c ?_ ?_)
  · refine (x_aload f177_14 rfl rfl).trans ?_
    refine (x_iload f177_15 rfl rfl).trans ?_
    refine (x_iconst f177_17 rfl).trans ?_
    refine (x_invokevirtual (G := grd (kd 56 = 9) (bnV (sem 173 0 [aA 56, aI l4, aI ((-1)), aU, aU, aU, aU, aU, aU, aU] [] s) fun s1 => sem 177 21 [aA 56, aI l1, aL l2, aU, aI l4, aU, aU] [] s1)) f177_18 rfl rfl).trans ?_
    refine (g_t rfl).trans ?_
    refine bV_h fun s1 qs1 => ?_
    have rs1 := RefC.sem qs1 rfl hR
    refine (x_aload f177_21 rfl rfl).trans ?_
    refine (x_iload f177_22 rfl rfl).trans ?_
    refine (x_invokevirtual (G := grd (kd 56 = 9) (bnL (sem 174 0 [aA 56, aI l4, aU, aU, aU] [] s1) fun a3 s2 => sem 177 27 [aA 56, aI l1, aL l2, aU, aI l4, aU, aU] [aL a3] s2)) f177_24 rfl rfl).trans ?_
    refine (g_t rfl).trans ?_
    refine bL_h fun a3 s2 qs2 => ?_
    have rs2 := RefC.sem qs2 rfl rs1
    refine (x_lstore (l2 := [aA 56, aI l1, aL l2, aU, aI l4, aL a3, aU]) f177_27 rfl rfl).trans ?_
    refine (x_iload f177_29 rfl rfl).trans ?_
    refine (x_if_eq (tg := 41) f177_31 rfl rfl).trans ?_
    refine Eq.trans (b := if l4 = 0 then sem 177 47 [aA 56, aU, aL l2, aU, aI l4, aL a3, aU] [aI l4] s2 else sem 177 47 [aA 56, aU, aL l2, aU, aI l4, aL a3, aU] [aI (if (0 : Int) < (cmpL a3 l2) then l4 else l1)] s2) (i_c ?_ ?_) ?_
    · refine (x_kil (l2 := [aA 56, aU, aL l2, aU, aI l4, aL a3, aU]) f177_41 rfl).trans ?_
      refine (x_iload f177_41 rfl rfl).trans ?_
      refine (x_goto (tg := 47) f177_43 rfl rfl).trans ?_
      rfl
    · refine (x_lload f177_34 rfl rfl).trans ?_
      refine (x_lload f177_36 rfl rfl).trans ?_
      refine (x_lcmp f177_37 rfl).trans ?_
      refine (x_if_le (tg := 46) f177_38 rfl rfl).trans ?_
      refine Eq.trans (b := if (0 : Int) < (cmpL a3 l2) then sem 177 47 [aA 56, aU, aL l2, aU, aI l4, aL a3, aU] [aI l4] s2 else sem 177 47 [aA 56, aU, aL l2, aU, aI l4, aL a3, aU] [aI l1] s2) (i_c ?_ ?_) ?_
      · refine (x_kil (l2 := [aA 56, aU, aL l2, aU, aI l4, aL a3, aU]) f177_41 rfl).trans ?_
        refine (x_iload f177_41 rfl rfl).trans ?_
        refine (x_goto (tg := 47) f177_43 rfl rfl).trans ?_
        rfl
      · refine (x_iload f177_46 rfl rfl).trans ?_
        exact x_kil f177_47 rfl
      refine m_I.trans ?_
      rfl
    refine m_I.trans ?_
    refine (x_istore (l2 := [aA 56, aI (if l4 = 0 then l4 else if (0 : Int) < (cmpL a3 l2) then l4 else l1), aL l2, aU, aI l4, aL a3, aU]) f177_47 rfl rfl).trans ?_
    refine (x_iload f177_48 rfl rfl).trans ?_
    refine (x_if_eq (tg := 60) f177_50 rfl rfl).trans ?_
    refine Eq.trans (b := if l4 = 0 then sem 177 66 [aA 56, aI (if l4 = 0 then l4 else if (0 : Int) < (cmpL a3 l2) then l4 else l1), aU, aU, aI l4, aU, aU] [aL a3] s2 else sem 177 66 [aA 56, aI (if l4 = 0 then l4 else if (0 : Int) < (cmpL a3 l2) then l4 else l1), aU, aU, aI l4, aU, aU] [aL (if (0 : Int) < (cmpL a3 l2) then a3 else l2)] s2) (i_c ?_ ?_) ?_
    · refine (x_kil (l2 := [aA 56, aI (if l4 = 0 then l4 else if (0 : Int) < (cmpL a3 l2) then l4 else l1), aU, aU, aI l4, aL a3, aU]) f177_60 rfl).trans ?_
      refine (x_lload f177_60 rfl rfl).trans ?_
      refine (x_goto (tg := 66) f177_62 rfl rfl).trans ?_
      exact x_kil f177_66 rfl
    · refine (x_lload f177_53 rfl rfl).trans ?_
      refine (x_lload f177_55 rfl rfl).trans ?_
      refine (x_lcmp f177_56 rfl).trans ?_
      refine (x_if_le (tg := 65) f177_57 rfl rfl).trans ?_
      refine Eq.trans (b := if (0 : Int) < (cmpL a3 l2) then sem 177 66 [aA 56, aI (if l4 = 0 then l4 else if (0 : Int) < (cmpL a3 l2) then l4 else l1), aU, aU, aI l4, aU, aU] [aL a3] s2 else sem 177 66 [aA 56, aI (if l4 = 0 then l4 else if (0 : Int) < (cmpL a3 l2) then l4 else l1), aU, aU, aI l4, aU, aU] [aL l2] s2) (i_c ?_ ?_) ?_
      · refine (x_kil (l2 := [aA 56, aI (if l4 = 0 then l4 else if (0 : Int) < (cmpL a3 l2) then l4 else l1), aU, aU, aI l4, aL a3, aU]) f177_60 rfl).trans ?_
        refine (x_lload f177_60 rfl rfl).trans ?_
        refine (x_goto (tg := 66) f177_62 rfl rfl).trans ?_
        exact x_kil f177_66 rfl
      · refine (x_lload f177_65 rfl rfl).trans ?_
        exact x_kil f177_66 rfl
      refine m_L.trans ?_
      rfl
    refine m_L.trans ?_
    refine (x_lstore (l2 := [aA 56, aI (if l4 = 0 then l4 else if (0 : Int) < (cmpL a3 l2) then l4 else l1), aL (if l4 = 0 then a3 else if (0 : Int) < (cmpL a3 l2) then a3 else l2), aU, aI l4, aU, aU]) f177_66 rfl rfl).trans ?_
    refine (x_iinc (l2 := [aA 56, aI (if l4 = 0 then l4 else if (0 : Int) < (cmpL a3 l2) then l4 else l1), aL (if l4 = 0 then a3 else if (0 : Int) < (cmpL a3 l2) then a3 else l2), aU, aI (w32 (l4 + 1)), aU, aU]) f177_67 rfl rfl rfl).trans ?_
    refine (x_goto (tg := 7) f177_70 rfl rfl).trans ?_
    rfl
  · refine (x_iload f177_73 rfl rfl).trans ?_
    exact x_ireturn f177_74 rfl
set_option maxRecDepth 10000 in
theorem g178_0 {s : SG} (hR : RefC s) (l1 l2 l3 l4 : Int) : sem 178 0 [aA 56, aI l1, aI l2, aI l3, aI l4, aU, aU] [] s = bnI (sem 163 0 [aA 56, aI l2] [] s) fun a2 s1 => if a2 = 0 then some (aL ((-1)), s1) else bnI (sem 152 0 [aL l1, aU, aL 0, aU, aL 60, aU] [] s1) fun a4 s3 => if a4 = 0 then some (aL ((-2)), s3) else bnI (sem 152 0 [aL l3, aU, aL 0, aU, aL l1, aU] [] s3) fun a6 s5 => if a6 = 0 then some (aL ((-2)), s5) else bnV (sem 173 0 [aA 56, aI l1, aI ((-1)), aU, aU, aU, aU, aU, aU, aU] [] s5) fun s7 => bnL (sem 174 0 [aA 56, aI l1, aU, aU, aU] [] s7) fun a9 s8 => bnV (sem 173 0 [aA 56, aI (w32 (l1 - l3)), aI l2, aU, aU, aU, aU, aU, aU, aU] [] s8) fun s10 => grd ((0 : Int) ≤ l2 ∧ l2 < 3) (bnL (sem 174 0 [aA 56, aI l1, aU, aU, aU] [] (up s10 61 l2 l3)) fun a13 s12 => bnL (sem 167 0 [aA 56] [] s12) fun a15 s14 => bnL (sem 170 0 [aL (w64 (a9 - a13)), aU, aL a15, aU, aI l4, aU, aU, aU, aU, aU, aU] [] s14) fun a17 s16 => some (aL a17, s16)) := by
  refine (x_aload f178_0 rfl rfl).trans ?_
  refine (x_iload f178_1 rfl rfl).trans ?_
  refine (x_invokevirtual (G := grd (kd 56 = 9) (bnI (sem 163 0 [aA 56, aI l2] [] s) fun a2 s1 => sem 178 5 [aA 56, aI l1, aI l2, aI l3, aI l4, aU, aU] [aI a2] s1)) f178_2 rfl rfl).trans ?_
  refine (g_t rfl).trans ?_
  refine bI_h fun a2 s1 qs1 => ?_
  have rs1 := RefC.sem qs1 rfl hR
  refine (x_if_ne (tg := 12) f178_5 rfl rfl).trans (i_c ?_ ?_)
  · refine (x_lconst f178_8 rfl).trans ?_
    exact x_lreturn f178_11 rfl
  · refine (x_iload f178_12 rfl rfl).trans ?_
    refine (x_i2l f178_13 rfl).trans ?_
    refine (x_lconst f178_14 rfl).trans ?_
    refine (x_lconst f178_15 rfl).trans ?_
    refine (x_invokestatic (G := bnI (sem 152 0 [aL l1, aU, aL 0, aU, aL 60, aU] [] s1) fun a4 s3 => sem 178 21 [aA 56, aI l1, aI l2, aI l3, aI l4, aU, aU] [aI a4] s3) f178_18 rfl rfl).trans ?_
    refine bI_h fun a4 s3 qs3 => ?_
    have rs3 := RefC.sem qs3 rfl rs1
    refine (x_if_eq (tg := 35) f178_21 rfl rfl).trans (i_c ?_ ?_)
    · refine (x_kil (l2 := [aU, aU, aU, aU, aU, aU, aU]) f178_35 rfl).trans ?_
      refine (x_lconst f178_35 rfl).trans ?_
      exact x_lreturn f178_38 rfl
    · refine (x_iload f178_24 rfl rfl).trans ?_
      refine (x_i2l f178_25 rfl).trans ?_
      refine (x_lconst f178_26 rfl).trans ?_
      refine (x_iload f178_27 rfl rfl).trans ?_
      refine (x_i2l f178_28 rfl).trans ?_
      refine (x_invokestatic (G := bnI (sem 152 0 [aL l3, aU, aL 0, aU, aL l1, aU] [] s3) fun a6 s5 => sem 178 32 [aA 56, aI l1, aI l2, aI l3, aI l4, aU, aU] [aI a6] s5) f178_29 rfl rfl).trans ?_
      refine bI_h fun a6 s5 qs5 => ?_
      have rs5 := RefC.sem qs5 rfl rs3
      refine (x_if_ne (tg := 39) f178_32 rfl rfl).trans (i_c ?_ ?_)
      · refine (x_kil (l2 := [aU, aU, aU, aU, aU, aU, aU]) f178_35 rfl).trans ?_
        refine (x_lconst f178_35 rfl).trans ?_
        exact x_lreturn f178_38 rfl
      · refine (x_aload f178_39 rfl rfl).trans ?_
        refine (x_iload f178_40 rfl rfl).trans ?_
        refine (x_iconst f178_41 rfl).trans ?_
        refine (x_invokevirtual (G := grd (kd 56 = 9) (bnV (sem 173 0 [aA 56, aI l1, aI ((-1)), aU, aU, aU, aU, aU, aU, aU] [] s5) fun s7 => sem 178 45 [aA 56, aI l1, aI l2, aI l3, aI l4, aU, aU] [] s7)) f178_42 rfl rfl).trans ?_
        refine (g_t rfl).trans ?_
        refine bV_h fun s7 qs7 => ?_
        have rs7 := RefC.sem qs7 rfl rs5
        refine (x_aload f178_45 rfl rfl).trans ?_
        refine (x_iload f178_46 rfl rfl).trans ?_
        refine (x_invokevirtual (G := grd (kd 56 = 9) (bnL (sem 174 0 [aA 56, aI l1, aU, aU, aU] [] s7) fun a9 s8 => sem 178 50 [aA 56, aI l1, aI l2, aI l3, aI l4, aU, aU] [aL a9] s8)) f178_47 rfl rfl).trans ?_
        refine (g_t rfl).trans ?_
        refine bL_h fun a9 s8 qs8 => ?_
        have rs8 := RefC.sem qs8 rfl rs7
        refine (x_lstore (l2 := [aA 56, aI l1, aI l2, aI l3, aI l4, aL a9, aU]) f178_50 rfl rfl).trans ?_
        refine (x_aload f178_52 rfl rfl).trans ?_
        refine (x_iload f178_53 rfl rfl).trans ?_
        refine (x_iload f178_54 rfl rfl).trans ?_
        refine (x_isub f178_55 rfl).trans ?_
        refine (x_iload f178_56 rfl rfl).trans ?_
        refine (x_invokevirtual (G := grd (kd 56 = 9) (bnV (sem 173 0 [aA 56, aI (w32 (l1 - l3)), aI l2, aU, aU, aU, aU, aU, aU, aU] [] s8) fun s10 => sem 178 60 [aA 56, aI l1, aI l2, aI l3, aI l4, aL a9, aU] [] s10)) f178_57 rfl rfl).trans ?_
        refine (g_t rfl).trans ?_
        refine bV_h fun s10 qs10 => ?_
        have rs10 := RefC.sem qs10 rfl rs8
        refine (x_aload f178_60 rfl rfl).trans ?_
        refine (y_get2 (ji := 8) rfl f178_61 rfl rfl).trans ?_
        refine (g_t rfl).trans ?_
        refine (g_t (by rw [show s10 56 8 = 61 from rs10.2.2.2.2.2.2.2.2.2.2.2.2.2.2.2.2.2.2.2.2.2.2.2.2.2.2.2.2.2.2.2.2.2.2.2.2.2.2.2.2.2.2.2.2.2.2.2.2.2.2.2.2.2.2.2.2.2.1]; decide)).trans ?_
        rw [show s10 56 8 = 61 from rs10.2.2.2.2.2.2.2.2.2.2.2.2.2.2.2.2.2.2.2.2.2.2.2.2.2.2.2.2.2.2.2.2.2.2.2.2.2.2.2.2.2.2.2.2.2.2.2.2.2.2.2.2.2.2.2.2.2.1]
        refine (x_iload f178_64 rfl rfl).trans ?_
        refine (x_iload f178_65 rfl rfl).trans ?_
        refine (x_iastore f178_66 rfl).trans ?_
        refine (g_t rfl).trans ?_
        refine g_kl (n := 3) rfl fun hg11 => ?_
        refine (x_lload f178_67 rfl rfl).trans ?_
        refine (x_aload f178_69 rfl rfl).trans ?_
        refine (x_iload f178_70 rfl rfl).trans ?_
        refine (x_invokevirtual (G := grd (kd 56 = 9) (bnL (sem 174 0 [aA 56, aI l1, aU, aU, aU] [] (up s10 61 l2 l3)) fun a13 s12 => sem 178 74 [aA 56, aI l1, aI l2, aI l3, aI l4, aL a9, aU] [aL a13, aL a9] s12)) f178_71 rfl rfl).trans ?_
        refine (g_t rfl).trans ?_
        refine bL_h fun a13 s12 qs12 => ?_
        have rs12 := RefC.sem qs12 rfl (RefC.upd rs10 (rcb_a (by decide)))
        refine (x_lsub f178_74 rfl).trans ?_
        refine (x_aload f178_75 rfl rfl).trans ?_
        refine (x_invokevirtual (G := grd (kd 56 = 9) (bnL (sem 167 0 [aA 56] [] s12) fun a15 s14 => sem 178 79 [aA 56, aI l1, aI l2, aI l3, aI l4, aL a9, aU] [aL a15, aL (w64 (a9 - a13))] s14)) f178_76 rfl rfl).trans ?_
        refine (g_t rfl).trans ?_
        refine bL_h fun a15 s14 qs14 => ?_
        have rs14 := RefC.sem qs14 rfl rs12
        refine (x_iload f178_79 rfl rfl).trans ?_
        refine (x_invokestatic (G := bnL (sem 170 0 [aL (w64 (a9 - a13)), aU, aL a15, aU, aI l4, aU, aU, aU, aU, aU, aU] [] s14) fun a17 s16 => sem 178 84 [aA 56, aI l1, aI l2, aI l3, aI l4, aL a9, aU] [aL a17] s16) f178_81 rfl rfl).trans ?_
        refine bL_h fun a17 s16 qs16 => ?_
        have rs16 := RefC.sem qs16 rfl rs14
        exact x_lreturn f178_84 rfl
set_option maxRecDepth 10000 in
theorem g179_0 {s : SG} (hR : RefC s) (l1 l2 : Int) : sem 179 0 [aA 56, aI l1, aI l2] [] s = bnI (sem 163 0 [aA 56, aI l1] [] s) fun a2 s1 => if a2 = 0 then some (aI ((-1)), s1) else bnI (sem 152 0 [aL l2, aU, aL 0, aU, aL 9, aU] [] s1) fun a4 s3 => if a4 = 0 then some (aI ((-2)), s3) else if (s3 56 9) = 8 then some (aI ((-4)), s3) else grd ((0 : Int) ≤ (s3 56 9) ∧ (s3 56 9) < 8) (some (aI (w32 ((s3 56 9) + 1)), up (up (up s3 62 (s3 56 9) l1) 63 (s3 56 9) l2) 56 9 (w32 ((s3 56 9) + 1)))) := by
  refine (x_aload f179_0 rfl rfl).trans ?_
  refine (x_iload f179_1 rfl rfl).trans ?_
  refine (x_invokevirtual (G := grd (kd 56 = 9) (bnI (sem 163 0 [aA 56, aI l1] [] s) fun a2 s1 => sem 179 5 [aA 56, aI l1, aI l2] [aI a2] s1)) f179_2 rfl rfl).trans ?_
  refine (g_t rfl).trans ?_
  refine bI_h fun a2 s1 qs1 => ?_
  have rs1 := RefC.sem qs1 rfl hR
  refine (x_if_ne (tg := 10) f179_5 rfl rfl).trans (i_c ?_ ?_)
  · refine (x_iconst f179_8 rfl).trans ?_
    exact x_ireturn f179_9 rfl
  · refine (x_iload f179_10 rfl rfl).trans ?_
    refine (x_i2l f179_11 rfl).trans ?_
    refine (x_lconst f179_12 rfl).trans ?_
    refine (x_lconst f179_13 rfl).trans ?_
    refine (x_invokestatic (G := bnI (sem 152 0 [aL l2, aU, aL 0, aU, aL 9, aU] [] s1) fun a4 s3 => sem 179 19 [aA 56, aI l1, aI l2] [aI a4] s3) f179_16 rfl rfl).trans ?_
    refine bI_h fun a4 s3 qs3 => ?_
    have rs3 := RefC.sem qs3 rfl rs1
    refine (x_if_ne (tg := 25) f179_19 rfl rfl).trans (i_c ?_ ?_)
    · refine (x_iconst f179_22 rfl).trans ?_
      exact x_ireturn f179_24 rfl
    · refine (x_aload f179_25 rfl rfl).trans ?_
      refine (y_get0 (ji := 9) rfl f179_26 rfl rfl).trans ?_
      refine (g_t rfl).trans ?_
      refine (x_iconst f179_29 rfl).trans ?_
      refine (x_icmp_ne (tg := 37) f179_31 rfl rfl).trans (i_c ?_ ?_)
      · refine (x_iconst f179_34 rfl).trans ?_
        exact x_ireturn f179_36 rfl
      · refine (x_aload f179_37 rfl rfl).trans ?_
        refine (y_get2 (ji := 10) rfl f179_38 rfl rfl).trans ?_
        refine (g_t rfl).trans ?_
        refine (g_t (by rw [show s3 56 10 = 62 from rs3.2.2.2.2.2.2.2.2.2.2.2.2.2.2.2.2.2.2.2.2.2.2.2.2.2.2.2.2.2.2.2.2.2.2.2.2.2.2.2.2.2.2.2.2.2.2.2.2.2.2.2.2.2.2.2.2.2.2.1]; decide)).trans ?_
        rw [show s3 56 10 = 62 from rs3.2.2.2.2.2.2.2.2.2.2.2.2.2.2.2.2.2.2.2.2.2.2.2.2.2.2.2.2.2.2.2.2.2.2.2.2.2.2.2.2.2.2.2.2.2.2.2.2.2.2.2.2.2.2.2.2.2.2.1]
        refine (x_aload f179_41 rfl rfl).trans ?_
        refine (y_get0 (ji := 9) rfl f179_42 rfl rfl).trans ?_
        refine (g_t rfl).trans ?_
        refine (x_iload f179_45 rfl rfl).trans ?_
        refine (x_iastore f179_46 rfl).trans ?_
        refine (g_t rfl).trans ?_
        refine g_kl (n := 8) rfl fun hg5 => ?_
        refine (x_aload f179_47 rfl rfl).trans ?_
        refine (y_get2 (ji := 11) rfl f179_48 rfl rfl).trans ?_
        refine (g_t rfl).trans ?_
        refine (g_t (by rw [show (up s3 62 (s3 56 9) l1) 56 11 = 63 from (by rw [up_ne (by decide)]; exact rs3.2.2.2.2.2.2.2.2.2.2.2.2.2.2.2.2.2.2.2.2.2.2.2.2.2.2.2.2.2.2.2.2.2.2.2.2.2.2.2.2.2.2.2.2.2.2.2.2.2.2.2.2.2.2.2.2.2.2.2.1)]; decide)).trans ?_
        rw [show (up s3 62 (s3 56 9) l1) 56 11 = 63 from (by rw [up_ne (by decide)]; exact rs3.2.2.2.2.2.2.2.2.2.2.2.2.2.2.2.2.2.2.2.2.2.2.2.2.2.2.2.2.2.2.2.2.2.2.2.2.2.2.2.2.2.2.2.2.2.2.2.2.2.2.2.2.2.2.2.2.2.2.2.1)]
        refine (x_aload f179_51 rfl rfl).trans ?_
        refine (y_get0 (ji := 9) rfl f179_52 rfl rfl).trans ?_
        refine (g_t rfl).trans ?_
        rw [show (up s3 62 (s3 56 9) l1) 56 9 = s3 56 9 from by rw [up_ne (by decide)]]
        refine (x_iload f179_55 rfl rfl).trans ?_
        refine (x_iastore f179_56 rfl).trans ?_
        refine (g_t rfl).trans ?_
        refine (g_kt (n := 8) rfl hg5).trans ?_
        refine (x_aload f179_57 rfl rfl).trans ?_
        refine (x_dup f179_58 rfl rfl).trans ?_
        refine (y_get0 (ji := 9) rfl f179_59 rfl rfl).trans ?_
        refine (g_t rfl).trans ?_
        rw [show (up (up s3 62 (s3 56 9) l1) 63 (s3 56 9) l2) 56 9 = s3 56 9 from by rw [up_ne (by decide), up_ne (by decide)]]
        refine (x_iconst f179_62 rfl).trans ?_
        refine (x_iadd f179_63 rfl).trans ?_
        refine (y_put0 (ji := 9) rfl f179_64 rfl rfl).trans ?_
        refine (g_t rfl).trans ?_
        refine (x_aload f179_67 rfl rfl).trans ?_
        refine (y_get0 (ji := 9) rfl f179_68 rfl rfl).trans ?_
        refine (g_t rfl).trans ?_
        rw [show (up (up (up s3 62 (s3 56 9) l1) 63 (s3 56 9) l2) 56 9 (w32 ((s3 56 9) + 1))) 56 9 = w32 ((s3 56 9) + 1) from by rw [up_at]]
        exact x_ireturn f179_71 rfl
set_option maxRecDepth 10000 in
theorem g180_0 {s : SG} (hR : RefC s) : sem 180 0 [aA 56, aU] [] s = some (aI (s 56 9), up s 56 9 0) := by
  refine (x_aload f180_0 rfl rfl).trans ?_
  refine (y_get0 (ji := 9) rfl f180_1 rfl rfl).trans ?_
  refine (g_t rfl).trans ?_
  refine (x_istore (l2 := [aA 56, aI (s 56 9)]) f180_4 rfl rfl).trans ?_
  refine (x_aload f180_5 rfl rfl).trans ?_
  refine (x_iconst f180_6 rfl).trans ?_
  refine (y_put0 (ji := 9) rfl f180_7 rfl rfl).trans ?_
  refine (g_t rfl).trans ?_
  refine (x_iload f180_10 rfl rfl).trans ?_
  exact x_ireturn f180_11 rfl
set_option maxRecDepth 10000 in
theorem g181_0 {s : SG} (hR : RefC s) (l1 : Int) : sem 181 0 [aA 56, aI l1, aU, aU, aU, aU, aU] [] s = grd ((0 : Int) ≤ (w32 (1 + l1)) ∧ (w32 (1 + l1)) < 28) (sem 181 13 [aA 56, aI l1, aL (s 58 (w32 (1 + l1))), aU, aI 0, aU, aU] [] s) := by
  refine (x_aload f181_0 rfl rfl).trans ?_
  refine (y_get2 (ji := 1) rfl f181_1 rfl rfl).trans ?_
  refine (g_t rfl).trans ?_
  refine (g_t (by rw [show s 56 1 = 58 from hR.2.2.2.2.2.2.2.2.2.2.2.2.2.2.2.2.2.2.2.2.2.2.2.2.2.2.2.2.2.2.2.2.2.2.2.2.2.2.2.2.2.2.2.2.2.2.2.2.2.2.2.2.2.2.1]; decide)).trans ?_
  rw [show s 56 1 = 58 from hR.2.2.2.2.2.2.2.2.2.2.2.2.2.2.2.2.2.2.2.2.2.2.2.2.2.2.2.2.2.2.2.2.2.2.2.2.2.2.2.2.2.2.2.2.2.2.2.2.2.2.2.2.2.2.1]
  refine (x_iconst f181_4 rfl).trans ?_
  refine (x_iload f181_5 rfl rfl).trans ?_
  refine (x_iadd f181_6 rfl).trans ?_
  refine (x_iaload f181_7 rfl).trans ?_
  refine (g_t rfl).trans ?_
  refine g_kl (n := 28) rfl fun hg1 => ?_
  refine (x_i2l f181_8 rfl).trans ?_
  refine (x_lstore (l2 := [aA 56, aI l1, aL (s 58 (w32 (1 + l1))), aU, aU, aU, aU]) f181_9 rfl rfl).trans ?_
  refine (x_iconst f181_10 rfl).trans ?_
  refine (x_istore (l2 := [aA 56, aI l1, aL (s 58 (w32 (1 + l1))), aU, aI 0, aU, aU]) f181_11 rfl rfl).trans ?_
  rfl
set_option maxRecDepth 10000 in
theorem g181_13 {s : SG} (hR : RefC s) (l1 l2 l4 : Int) : sem 181 13 [aA 56, aI l1, aL l2, aU, aI l4, aU, aU] [] s = if l4 < (s 56 9) then grd ((0 : Int) ≤ l4 ∧ l4 < 8) (grd ((0 : Int) ≤ (w32 ((w32 (10 + (w32 (3 * (s 62 l4))))) + l1)) ∧ (w32 ((w32 (10 + (w32 (3 * (s 62 l4))))) + l1)) < 28) (grd ((0 : Int) ≤ (w32 ((w32 (19 + (w32 (3 * (s 62 l4))))) + l1)) ∧ (w32 ((w32 (19 + (w32 (3 * (s 62 l4))))) + l1)) < 28) (if (s 63 l4) = (w32 ((s 58 (w32 ((w32 (10 + (w32 (3 * (s 62 l4))))) + l1))) + 1)) then sem 181 13 [aA 56, aI l1, aL (w64 (l2 * (s 58 (w32 ((w32 (19 + (w32 (3 * (s 62 l4))))) + l1))))), aU, aI (w32 (l4 + 1)), aU, aU] [] s else sem 181 13 [aA 56, aI l1, aL (w64 (l2 * (if (s 63 l4) = (s 58 (w32 ((w32 (10 + (w32 (3 * (s 62 l4))))) + l1))) then w32 (10 - (s 58 (w32 ((w32 (19 + (w32 (3 * (s 62 l4))))) + l1)))) else 0))), aU, aI (w32 (l4 + 1)), aU, aU] [] s))) else some (aL l2, s) := by
  refine (x_iload f181_13 rfl rfl).trans ?_
  refine (x_aload f181_15 rfl rfl).trans ?_
  refine (y_get0 (ji := 9) rfl f181_16 rfl rfl).trans ?_
  refine (g_t rfl).trans ?_
  refine (x_icmp_ge (tg := 115) f181_19 rfl rfl).trans (i_c ?_ ?_)
  · refine (x_aload f181_22 rfl rfl).trans ?_
    refine (y_get2 (ji := 1) rfl f181_23 rfl rfl).trans ?_
    refine (g_t rfl).trans ?_
    refine (g_t (by rw [show s 56 1 = 58 from hR.2.2.2.2.2.2.2.2.2.2.2.2.2.2.2.2.2.2.2.2.2.2.2.2.2.2.2.2.2.2.2.2.2.2.2.2.2.2.2.2.2.2.2.2.2.2.2.2.2.2.2.2.2.2.1]; decide)).trans ?_
    rw [show s 56 1 = 58 from hR.2.2.2.2.2.2.2.2.2.2.2.2.2.2.2.2.2.2.2.2.2.2.2.2.2.2.2.2.2.2.2.2.2.2.2.2.2.2.2.2.2.2.2.2.2.2.2.2.2.2.2.2.2.2.1]
    refine (x_iconst f181_26 rfl).trans ?_
    refine (x_iconst f181_28 rfl).trans ?_
    refine (x_aload f181_29 rfl rfl).trans ?_
    refine (y_get2 (ji := 10) rfl f181_30 rfl rfl).trans ?_
    refine (g_t rfl).trans ?_
    refine (g_t (by rw [show s 56 10 = 62 from hR.2.2.2.2.2.2.2.2.2.2.2.2.2.2.2.2.2.2.2.2.2.2.2.2.2.2.2.2.2.2.2.2.2.2.2.2.2.2.2.2.2.2.2.2.2.2.2.2.2.2.2.2.2.2.2.2.2.2.1]; decide)).trans ?_
    rw [show s 56 10 = 62 from hR.2.2.2.2.2.2.2.2.2.2.2.2.2.2.2.2.2.2.2.2.2.2.2.2.2.2.2.2.2.2.2.2.2.2.2.2.2.2.2.2.2.2.2.2.2.2.2.2.2.2.2.2.2.2.2.2.2.2.1]
    refine (x_iload f181_33 rfl rfl).trans ?_
    refine (x_iaload f181_35 rfl).trans ?_
    refine (g_t rfl).trans ?_
    refine g_kl (n := 8) rfl fun hg1 => ?_
    refine (x_imul f181_36 rfl).trans ?_
    refine (x_iadd f181_37 rfl).trans ?_
    refine (x_iload f181_38 rfl rfl).trans ?_
    refine (x_iadd f181_39 rfl).trans ?_
    refine (x_iaload f181_40 rfl).trans ?_
    refine (g_t rfl).trans ?_
    refine g_kl (n := 28) rfl fun hg2 => ?_
    refine (x_istore (l2 := [aA 56, aI l1, aL l2, aU, aI l4, aI (s 58 (w32 ((w32 (10 + (w32 (3 * (s 62 l4))))) + l1))), aU]) f181_41 rfl rfl).trans ?_
    refine (x_aload f181_43 rfl rfl).trans ?_
    refine (y_get2 (ji := 1) rfl f181_44 rfl rfl).trans ?_
    refine (g_t rfl).trans ?_
    refine (g_t (by rw [show s 56 1 = 58 from hR.2.2.2.2.2.2.2.2.2.2.2.2.2.2.2.2.2.2.2.2.2.2.2.2.2.2.2.2.2.2.2.2.2.2.2.2.2.2.2.2.2.2.2.2.2.2.2.2.2.2.2.2.2.2.1]; decide)).trans ?_
    rw [show s 56 1 = 58 from hR.2.2.2.2.2.2.2.2.2.2.2.2.2.2.2.2.2.2.2.2.2.2.2.2.2.2.2.2.2.2.2.2.2.2.2.2.2.2.2.2.2.2.2.2.2.2.2.2.2.2.2.2.2.2.1]
    refine (x_iconst f181_47 rfl).trans ?_
    refine (x_iconst f181_49 rfl).trans ?_
    refine (x_aload f181_50 rfl rfl).trans ?_
    refine (y_get2 (ji := 10) rfl f181_51 rfl rfl).trans ?_
    refine (g_t rfl).trans ?_
    refine (g_t (by rw [show s 56 10 = 62 from hR.2.2.2.2.2.2.2.2.2.2.2.2.2.2.2.2.2.2.2.2.2.2.2.2.2.2.2.2.2.2.2.2.2.2.2.2.2.2.2.2.2.2.2.2.2.2.2.2.2.2.2.2.2.2.2.2.2.2.1]; decide)).trans ?_
    rw [show s 56 10 = 62 from hR.2.2.2.2.2.2.2.2.2.2.2.2.2.2.2.2.2.2.2.2.2.2.2.2.2.2.2.2.2.2.2.2.2.2.2.2.2.2.2.2.2.2.2.2.2.2.2.2.2.2.2.2.2.2.2.2.2.2.1]
    refine (x_iload f181_54 rfl rfl).trans ?_
    refine (x_iaload f181_56 rfl).trans ?_
    refine (g_t rfl).trans ?_
    refine (g_kt (n := 8) rfl hg1).trans ?_
    refine (x_imul f181_57 rfl).trans ?_
    refine (x_iadd f181_58 rfl).trans ?_
    refine (x_iload f181_59 rfl rfl).trans ?_
    refine (x_iadd f181_60 rfl).trans ?_
    refine (x_iaload f181_61 rfl).trans ?_
    refine (g_t rfl).trans ?_
    refine g_kl (n := 28) rfl fun hg3 => ?_
    refine (x_istore (l2 := [aA 56, aI l1, aL l2, aU, aI l4, aI (s 58 (w32 ((w32 (10 + (w32 (3 * (s 62 l4))))) + l1))), aI (s 58 (w32 ((w32 (19 + (w32 (3 * (s 62 l4))))) + l1)))]) f181_62 rfl rfl).trans ?_
    refine (x_lload f181_64 rfl rfl).trans ?_
    refine (x_aload f181_65 rfl rfl).trans ?_
    refine (y_get2 (ji := 11) rfl f181_66 rfl rfl).trans ?_
    refine (g_t rfl).trans ?_
    refine (g_t (by rw [show s 56 11 = 63 from hR.2.2.2.2.2.2.2.2.2.2.2.2.2.2.2.2.2.2.2.2.2.2.2.2.2.2.2.2.2.2.2.2.2.2.2.2.2.2.2.2.2.2.2.2.2.2.2.2.2.2.2.2.2.2.2.2.2.2.2.1]; decide)).trans ?_
    rw [show s 56 11 = 63 from hR.2.2.2.2.2.2.2.2.2.2.2.2.2.2.2.2.2.2.2.2.2.2.2.2.2.2.2.2.2.2.2.2.2.2.2.2.2.2.2.2.2.2.2.2.2.2.2.2.2.2.2.2.2.2.2.2.2.2.2.1]
    refine (x_iload f181_69 rfl rfl).trans ?_
    refine (x_iaload f181_71 rfl).trans ?_
    refine (g_t rfl).trans ?_
    refine (g_kt (n := 8) rfl hg1).trans ?_
    refine (x_iload f181_72 rfl rfl).trans ?_
    refine (x_iconst f181_74 rfl).trans ?_
    refine (x_iadd f181_75 rfl).trans ?_
    refine (x_icmp_ne (tg := 85) f181_76 rfl rfl).trans (i_c ?_ ?_)
    · refine (x_iload f181_79 rfl rfl).trans ?_
      refine (x_i2l f181_81 rfl).trans ?_
      refine (x_goto (tg := 107) f181_82 rfl rfl).trans ?_
      refine (x_kil (l2 := [aA 56, aI l1, aU, aU, aI l4, aU, aU]) f181_107 rfl).trans ?_
      refine (x_lmul f181_107 rfl).trans ?_
      refine (x_lstore (l2 := [aA 56, aI l1, aL (w64 (l2 * (s 58 (w32 ((w32 (19 + (w32 (3 * (s 62 l4))))) + l1))))), aU, aI l4, aU, aU]) f181_108 rfl rfl).trans ?_
      refine (x_iinc (l2 := [aA 56, aI l1, aL (w64 (l2 * (s 58 (w32 ((w32 (19 + (w32 (3 * (s 62 l4))))) + l1))))), aU, aI (w32 (l4 + 1)), aU, aU]) f181_109 rfl rfl rfl).trans ?_
      refine (x_goto (tg := 13) f181_112 rfl rfl).trans ?_
      rfl
    · refine (x_aload f181_85 rfl rfl).trans ?_
      refine (y_get2 (ji := 11) rfl f181_86 rfl rfl).trans ?_
      refine (g_t rfl).trans ?_
      refine (g_t (by rw [show s 56 11 = 63 from hR.2.2.2.2.2.2.2.2.2.2.2.2.2.2.2.2.2.2.2.2.2.2.2.2.2.2.2.2.2.2.2.2.2.2.2.2.2.2.2.2.2.2.2.2.2.2.2.2.2.2.2.2.2.2.2.2.2.2.2.1]; decide)).trans ?_
      rw [show s 56 11 = 63 from hR.2.2.2.2.2.2.2.2.2.2.2.2.2.2.2.2.2.2.2.2.2.2.2.2.2.2.2.2.2.2.2.2.2.2.2.2.2.2.2.2.2.2.2.2.2.2.2.2.2.2.2.2.2.2.2.2.2.2.2.1]
      refine (x_iload f181_89 rfl rfl).trans ?_
      refine (x_iaload f181_91 rfl).trans ?_
      refine (g_t rfl).trans ?_
      refine (g_kt (n := 8) rfl hg1).trans ?_
      refine (x_iload f181_92 rfl rfl).trans ?_
      refine (x_icmp_ne (tg := 106) f181_94 rfl rfl).trans ?_
      refine Eq.trans (b := if (s 63 l4) = (s 58 (w32 ((w32 (10 + (w32 (3 * (s 62 l4))))) + l1))) then sem 181 107 [aA 56, aI l1, aU, aU, aI l4, aU, aU] [aL (w32 (10 - (s 58 (w32 ((w32 (19 + (w32 (3 * (s 62 l4))))) + l1))))), aL l2] s else sem 181 107 [aA 56, aI l1, aU, aU, aI l4, aU, aU] [aL 0, aL l2] s) (i_c ?_ ?_) ?_
      · refine (x_iconst f181_97 rfl).trans ?_
        refine (x_iload f181_99 rfl rfl).trans ?_
        refine (x_isub f181_101 rfl).trans ?_
        refine (x_i2l f181_102 rfl).trans ?_
        refine (x_goto (tg := 107) f181_103 rfl rfl).trans ?_
        exact x_kil f181_107 rfl
      · refine (x_lconst f181_106 rfl).trans ?_
        exact x_kil f181_107 rfl
      refine m_L.trans ?_
      refine (x_lmul f181_107 rfl).trans ?_
      refine (x_lstore (l2 := [aA 56, aI l1, aL (w64 (l2 * (if (s 63 l4) = (s 58 (w32 ((w32 (10 + (w32 (3 * (s 62 l4))))) + l1))) then w32 (10 - (s 58 (w32 ((w32 (19 + (w32 (3 * (s 62 l4))))) + l1)))) else 0))), aU, aI l4, aU, aU]) f181_108 rfl rfl).trans ?_
      refine (x_iinc (l2 := [aA 56, aI l1, aL (w64 (l2 * (if (s 63 l4) = (s 58 (w32 ((w32 (10 + (w32 (3 * (s 62 l4))))) + l1))) then w32 (10 - (s 58 (w32 ((w32 (19 + (w32 (3 * (s 62 l4))))) + l1)))) else 0))), aU, aI (w32 (l4 + 1)), aU, aU]) f181_109 rfl rfl rfl).trans ?_
      refine (x_goto (tg := 13) f181_112 rfl rfl).trans ?_
      rfl
  · refine (x_lload f181_115 rfl rfl).trans ?_
    exact x_lreturn f181_116 rfl
set_option maxRecDepth 10000 in
theorem g182_0 {s : SG} (hR : RefC s) : sem 182 0 [aA 56] [] s = bnL (sem 181 0 [aA 56, aI 0, aU, aU, aU, aU, aU] [] s) fun a2 s1 => bnL (sem 181 0 [aA 56, aI 1, aU, aU, aU, aU, aU] [] s1) fun a4 s3 => bnL (sem 181 0 [aA 56, aI 2, aU, aU, aU, aU, aU] [] s3) fun a6 s5 => some (aL (w64 ((w64 (a2 + a4)) + a6)), s5) := by
  refine (x_aload f182_0 rfl rfl).trans ?_
  refine (x_iconst f182_1 rfl).trans ?_
  refine (x_invokevirtual (G := grd (kd 56 = 9) (bnL (sem 181 0 [aA 56, aI 0, aU, aU, aU, aU, aU] [] s) fun a2 s1 => sem 182 5 [aA 56] [aL a2] s1)) f182_2 rfl rfl).trans ?_
  refine (g_t rfl).trans ?_
  refine bL_h fun a2 s1 qs1 => ?_
  have rs1 := RefC.sem qs1 rfl hR
  refine (x_aload f182_5 rfl rfl).trans ?_
  refine (x_iconst f182_6 rfl).trans ?_
  refine (x_invokevirtual (G := grd (kd 56 = 9) (bnL (sem 181 0 [aA 56, aI 1, aU, aU, aU, aU, aU] [] s1) fun a4 s3 => sem 182 10 [aA 56] [aL a4, aL a2] s3)) f182_7 rfl rfl).trans ?_
  refine (g_t rfl).trans ?_
  refine bL_h fun a4 s3 qs3 => ?_
  have rs3 := RefC.sem qs3 rfl rs1
  refine (x_ladd f182_10 rfl).trans ?_
  refine (x_aload f182_11 rfl rfl).trans ?_
  refine (x_iconst f182_12 rfl).trans ?_
  refine (x_invokevirtual (G := grd (kd 56 = 9) (bnL (sem 181 0 [aA 56, aI 2, aU, aU, aU, aU, aU] [] s3) fun a6 s5 => sem 182 16 [aA 56] [aL a6, aL (w64 (a2 + a4))] s5)) f182_13 rfl rfl).trans ?_
  refine (g_t rfl).trans ?_
  refine bL_h fun a6 s5 qs5 => ?_
  have rs5 := RefC.sem qs5 rfl rs3
  refine (x_ladd f182_16 rfl).trans ?_
  exact x_lreturn f182_17 rfl
set_option maxRecDepth 10000 in
theorem g183_0 {s : SG} (hR : RefC s) (l1 l2 : Int) : sem 183 0 [aA 56, aI l1, aI l2] [] s = bnI (sem 164 0 [aI l1] [] s) fun a2 s1 => if a2 = 0 then some (aL ((-1)), s1) else bnL (sem 182 0 [aA 56] [] s1) fun a4 s3 => if (cmpL a4 0) = 0 then some (aL ((-3)), s3) else bnL (sem 181 0 [aA 56, aI l1, aU, aU, aU, aU, aU] [] s3) fun a6 s5 => bnL (sem 182 0 [aA 56] [] s5) fun a8 s7 => bnL (sem 170 0 [aL a6, aU, aL a8, aU, aI l2, aU, aU, aU, aU, aU, aU] [] s7) fun a10 s9 => some (aL a10, s9) := by
  refine (x_iload f183_0 rfl rfl).trans ?_
  refine (x_invokestatic (G := bnI (sem 164 0 [aI l1] [] s) fun a2 s1 => sem 183 4 [aA 56, aI l1, aI l2] [aI a2] s1) f183_1 rfl rfl).trans ?_
  refine bI_h fun a2 s1 qs1 => ?_
  have rs1 := RefC.sem qs1 rfl hR
  refine (x_if_ne (tg := 11) f183_4 rfl rfl).trans (i_c ?_ ?_)
  · refine (x_lconst f183_7 rfl).trans ?_
    exact x_lreturn f183_10 rfl
  · refine (x_aload f183_11 rfl rfl).trans ?_
    refine (x_invokevirtual (G := grd (kd 56 = 9) (bnL (sem 182 0 [aA 56] [] s1) fun a4 s3 => sem 183 15 [aA 56, aI l1, aI l2] [aL a4] s3)) f183_12 rfl rfl).trans ?_
    refine (g_t rfl).trans ?_
    refine bL_h fun a4 s3 qs3 => ?_
    have rs3 := RefC.sem qs3 rfl rs1
    refine (x_lconst f183_15 rfl).trans ?_
    refine (x_lcmp f183_16 rfl).trans ?_
    refine (x_if_ne (tg := 26) f183_17 rfl rfl).trans (i_c ?_ ?_)
    · refine (x_lconst f183_20 rfl).trans ?_
      refine (x_goto (tg := 39) f183_23 rfl rfl).trans ?_
      refine (x_kil (l2 := [aU, aU, aU]) f183_39 rfl).trans ?_
      exact x_lreturn f183_39 rfl
    · refine (x_aload f183_26 rfl rfl).trans ?_
      refine (x_iload f183_27 rfl rfl).trans ?_
      refine (x_invokevirtual (G := grd (kd 56 = 9) (bnL (sem 181 0 [aA 56, aI l1, aU, aU, aU, aU, aU] [] s3) fun a6 s5 => sem 183 31 [aA 56, aI l1, aI l2] [aL a6] s5)) f183_28 rfl rfl).trans ?_
      refine (g_t rfl).trans ?_
      refine bL_h fun a6 s5 qs5 => ?_
      have rs5 := RefC.sem qs5 rfl rs3
      refine (x_aload f183_31 rfl rfl).trans ?_
      refine (x_invokevirtual (G := grd (kd 56 = 9) (bnL (sem 182 0 [aA 56] [] s5) fun a8 s7 => sem 183 35 [aA 56, aI l1, aI l2] [aL a8, aL a6] s7)) f183_32 rfl rfl).trans ?_
      refine (g_t rfl).trans ?_
      refine bL_h fun a8 s7 qs7 => ?_
      have rs7 := RefC.sem qs7 rfl rs5
      refine (x_iload f183_35 rfl rfl).trans ?_
      refine (x_invokestatic (G := bnL (sem 170 0 [aL a6, aU, aL a8, aU, aI l2, aU, aU, aU, aU, aU, aU] [] s7) fun a10 s9 => sem 183 39 [aA 56, aI l1, aI l2] [aL a10] s9) f183_36 rfl rfl).trans ?_
      refine bL_h fun a10 s9 qs9 => ?_
      have rs9 := RefC.sem qs9 rfl rs7
      refine (x_kil (l2 := [aU, aU, aU]) f183_39 rfl).trans ?_
      exact x_lreturn f183_39 rfl
set_option maxRecDepth 10000 in
theorem g184_0 {s : SG} (hR : RefC s) : sem 184 0 [aA 56, aU] [] s = bnL (sem 182 0 [aA 56] [] s) fun a2 s1 => if (cmpL a2 0) = 0 then some (aI ((-3)), s1) else bnL (sem 181 0 [aA 56, aI 1, aU, aU, aU, aU, aU] [] s1) fun a4 s3 => bnL (sem 181 0 [aA 56, aI 0, aU, aU, aU, aU, aU] [] s3) fun a6 s5 => bnL (sem 181 0 [aA 56, aI 2, aU, aU, aU, aU, aU] [] s5) fun a8 s7 => bnL (sem 181 0 [aA 56, aI (if (0 : Int) < (cmpL a4 a6) then 1 else 0), aU, aU, aU, aU, aU] [] s7) fun a10 s9 => if (0 : Int) < (cmpL a8 a10) then some (aI 2, s9) else some (aI (if (0 : Int) < (cmpL a4 a6) then 1 else 0), s9) := by
  refine (x_aload f184_0 rfl rfl).trans ?_
  refine (x_invokevirtual (G := grd (kd 56 = 9) (bnL (sem 182 0 [aA 56] [] s) fun a2 s1 => sem 184 4 [aA 56, aU] [aL a2] s1)) f184_1 rfl rfl).trans ?_
  refine (g_t rfl).trans ?_
  refine bL_h fun a2 s1 qs1 => ?_
  have rs1 := RefC.sem qs1 rfl hR
  refine (x_lconst f184_4 rfl).trans ?_
  refine (x_lcmp f184_5 rfl).trans ?_
  refine (x_if_ne (tg := 12) f184_6 rfl rfl).trans (i_c ?_ ?_)
  · refine (x_iconst f184_9 rfl).trans ?_
    exact x_ireturn f184_11 rfl
  · refine (x_aload f184_12 rfl rfl).trans ?_
    refine (x_iconst f184_13 rfl).trans ?_
    refine (x_invokevirtual (G := grd (kd 56 = 9) (bnL (sem 181 0 [aA 56, aI 1, aU, aU, aU, aU, aU] [] s1) fun a4 s3 => sem 184 17 [aA 56, aU] [aL a4] s3)) f184_14 rfl rfl).trans ?_
    refine (g_t rfl).trans ?_
    refine bL_h fun a4 s3 qs3 => ?_
    have rs3 := RefC.sem qs3 rfl rs1
    refine (x_aload f184_17 rfl rfl).trans ?_
    refine (x_iconst f184_18 rfl).trans ?_
    refine (x_invokevirtual (G := grd (kd 56 = 9) (bnL (sem 181 0 [aA 56, aI 0, aU, aU, aU, aU, aU] [] s3) fun a6 s5 => sem 184 22 [aA 56, aU] [aL a6, aL a4] s5)) f184_19 rfl rfl).trans ?_
    refine (g_t rfl).trans ?_
    refine bL_h fun a6 s5 qs5 => ?_
    have rs5 := RefC.sem qs5 rfl rs3
    refine (x_lcmp f184_22 rfl).trans ?_
    refine (x_if_le (tg := 30) f184_23 rfl rfl).trans ?_
    refine Eq.trans (b := if (0 : Int) < (cmpL a4 a6) then sem 184 31 [aA 56, aU] [aI 1] s5 else sem 184 31 [aA 56, aU] [aI 0] s5) (i_c ?_ ?_) ?_
    · refine (x_iconst f184_26 rfl).trans ?_
      refine (x_goto (tg := 31) f184_27 rfl rfl).trans ?_
      rfl
    · refine (x_iconst f184_30 rfl).trans ?_
      rfl
    refine m_I.trans ?_
    refine (x_istore (l2 := [aA 56, aI (if (0 : Int) < (cmpL a4 a6) then 1 else 0)]) f184_31 rfl rfl).trans ?_
    refine (x_aload f184_32 rfl rfl).trans ?_
    refine (x_iconst f184_33 rfl).trans ?_
    refine (x_invokevirtual (G := grd (kd 56 = 9) (bnL (sem 181 0 [aA 56, aI 2, aU, aU, aU, aU, aU] [] s5) fun a8 s7 => sem 184 37 [aA 56, aI (if (0 : Int) < (cmpL a4 a6) then 1 else 0)] [aL a8] s7)) f184_34 rfl rfl).trans ?_
    refine (g_t rfl).trans ?_
    refine bL_h fun a8 s7 qs7 => ?_
    have rs7 := RefC.sem qs7 rfl rs5
    refine (x_aload f184_37 rfl rfl).trans ?_
    refine (x_iload f184_38 rfl rfl).trans ?_
    refine (x_invokevirtual (G := grd (kd 56 = 9) (bnL (sem 181 0 [aA 56, aI (if (0 : Int) < (cmpL a4 a6) then 1 else 0), aU, aU, aU, aU, aU] [] s7) fun a10 s9 => sem 184 42 [aA 56, aI (if (0 : Int) < (cmpL a4 a6) then 1 else 0)] [aL a10, aL a8] s9)) f184_39 rfl rfl).trans ?_
    refine (g_t rfl).trans ?_
    refine bL_h fun a10 s9 qs9 => ?_
    have rs9 := RefC.sem qs9 rfl rs7
    refine (x_lcmp f184_42 rfl).trans ?_
    refine (x_if_le (tg := 50) f184_43 rfl rfl).trans (i_c ?_ ?_)
    · refine (x_iconst f184_46 rfl).trans ?_
      refine (x_goto (tg := 51) f184_47 rfl rfl).trans ?_
      refine (x_kil (l2 := [aU, aU]) f184_51 rfl).trans ?_
      exact x_ireturn f184_51 rfl
    · refine (x_iload f184_50 rfl rfl).trans ?_
      refine (x_kil (l2 := [aU, aU]) f184_51 rfl).trans ?_
      exact x_ireturn f184_51 rfl
set_option maxRecDepth 10000 in
theorem g185_0 {s : SG} (hR : RefC s) (l1 l2 : Int) : sem 185 0 [aA 56, aI l1, aI l2] [] s = grd ((0 : Int) ≤ (w32 ((w32 (10 + (w32 (3 * l1)))) + l2)) ∧ (w32 ((w32 (10 + (w32 (3 * l1)))) + l2)) < 28) (grd ((0 : Int) ≤ (w32 ((w32 (19 + (w32 (3 * l1)))) + l2)) ∧ (w32 ((w32 (19 + (w32 (3 * l1)))) + l2)) < 28) (some (aI (w32 ((w32 (10 * (s 58 (w32 ((w32 (10 + (w32 (3 * l1)))) + l2))))) + (s 58 (w32 ((w32 (19 + (w32 (3 * l1)))) + l2))))), s))) := by
  refine (x_iconst f185_0 rfl).trans ?_
  refine (x_aload f185_2 rfl rfl).trans ?_
  refine (y_get2 (ji := 1) rfl f185_3 rfl rfl).trans ?_
  refine (g_t rfl).trans ?_
  refine (g_t (by rw [show s 56 1 = 58 from hR.2.2.2.2.2.2.2.2.2.2.2.2.2.2.2.2.2.2.2.2.2.2.2.2.2.2.2.2.2.2.2.2.2.2.2.2.2.2.2.2.2.2.2.2.2.2.2.2.2.2.2.2.2.2.1]; decide)).trans ?_
  rw [show s 56 1 = 58 from hR.2.2.2.2.2.2.2.2.2.2.2.2.2.2.2.2.2.2.2.2.2.2.2.2.2.2.2.2.2.2.2.2.2.2.2.2.2.2.2.2.2.2.2.2.2.2.2.2.2.2.2.2.2.2.1]
  refine (x_iconst f185_6 rfl).trans ?_
  refine (x_iconst f185_8 rfl).trans ?_
  refine (x_iload f185_9 rfl rfl).trans ?_
  refine (x_imul f185_10 rfl).trans ?_
  refine (x_iadd f185_11 rfl).trans ?_
  refine (x_iload f185_12 rfl rfl).trans ?_
  refine (x_iadd f185_13 rfl).trans ?_
  refine (x_iaload f185_14 rfl).trans ?_
  refine (g_t rfl).trans ?_
  refine g_kl (n := 28) rfl fun hg1 => ?_
  refine (x_imul f185_15 rfl).trans ?_
  refine (x_aload f185_16 rfl rfl).trans ?_
  refine (y_get2 (ji := 1) rfl f185_17 rfl rfl).trans ?_
  refine (g_t rfl).trans ?_
  refine (g_t (by rw [show s 56 1 = 58 from hR.2.2.2.2.2.2.2.2.2.2.2.2.2.2.2.2.2.2.2.2.2.2.2.2.2.2.2.2.2.2.2.2.2.2.2.2.2.2.2.2.2.2.2.2.2.2.2.2.2.2.2.2.2.2.1]; decide)).trans ?_
  rw [show s 56 1 = 58 from hR.2.2.2.2.2.2.2.2.2.2.2.2.2.2.2.2.2.2.2.2.2.2.2.2.2.2.2.2.2.2.2.2.2.2.2.2.2.2.2.2.2.2.2.2.2.2.2.2.2.2.2.2.2.2.1]
  refine (x_iconst f185_20 rfl).trans ?_
  refine (x_iconst f185_22 rfl).trans ?_
  refine (x_iload f185_23 rfl rfl).trans ?_
  refine (x_imul f185_24 rfl).trans ?_
  refine (x_iadd f185_25 rfl).trans ?_
  refine (x_iload f185_26 rfl rfl).trans ?_
  refine (x_iadd f185_27 rfl).trans ?_
  refine (x_iaload f185_28 rfl).trans ?_
  refine (g_t rfl).trans ?_
  refine g_kl (n := 28) rfl fun hg2 => ?_
  refine (x_iadd f185_29 rfl).trans ?_
  exact x_ireturn f185_30 rfl
set_option maxRecDepth 10000 in
theorem g186_0 {s : SG} (hR : RefC s) : sem 186 0 [aA 56, aU, aU, aU, aU, aU, aU, aU] [] s = bnL (sem 182 0 [aA 56] [] s) fun a2 s1 => if (cmpL a2 0) = 0 then some (aI ((-3)), s1) else sem 186 18 [aA 56, aI 0, aI 0, aI 0, aU, aU, aU, aU] [] s1 := by
  refine (x_aload f186_0 rfl rfl).trans ?_
  refine (x_invokevirtual (G := grd (kd 56 = 9) (bnL (sem 182 0 [aA 56] [] s) fun a2 s1 => sem 186 4 [aA 56, aU, aU, aU, aU, aU, aU, aU] [aL a2] s1)) f186_1 rfl rfl).trans ?_
  refine (g_t rfl).trans ?_
  refine bL_h fun a2 s1 qs1 => ?_
  have rs1 := RefC.sem qs1 rfl hR
  refine (x_lconst f186_4 rfl).trans ?_
  refine (x_lcmp f186_5 rfl).trans ?_
  refine (x_if_ne (tg := 12) f186_6 rfl rfl).trans (i_c ?_ ?_)
  · refine (x_iconst f186_9 rfl).trans ?_
    exact x_ireturn f186_11 rfl
  · refine (x_iconst f186_12 rfl).trans ?_
    refine (x_istore (l2 := [aA 56, aI 0, aU, aU, aU, aU, aU, aU]) f186_13 rfl rfl).trans ?_
    refine (x_iconst f186_14 rfl).trans ?_
    refine (x_istore (l2 := [aA 56, aI 0, aI 0, aU, aU, aU, aU, aU]) f186_15 rfl rfl).trans ?_
    refine (x_iconst f186_16 rfl).trans ?_
    refine (x_istore (l2 := [aA 56, aI 0, aI 0, aI 0, aU, aU, aU, aU]) f186_17 rfl rfl).trans ?_
    rfl
set_option maxRecDepth 10000 in
theorem g186_18 {s : SG} (hR : RefC s) (l1 l2 l3 : Int) : sem 186 18 [aA 56, aI l1, aI l2, aI l3, aU, aU, aU, aU] [] s = if l3 < (s 58 0) then sem 186 34 [aA 56, aI l1, aI l2, aI l3, aI 0, aI 0, aU, aU] [] s else some (aI l1, s) := by
  refine (x_iload f186_18 rfl rfl).trans ?_
  refine (x_aload f186_19 rfl rfl).trans ?_
  refine (y_get2 (ji := 1) rfl f186_20 rfl rfl).trans ?_
  refine (g_t rfl).trans ?_
  refine (g_t (by rw [show s 56 1 = 58 from hR.2.2.2.2.2.2.2.2.2.2.2.2.2.2.2.2.2.2.2.2.2.2.2.2.2.2.2.2.2.2.2.2.2.2.2.2.2.2.2.2.2.2.2.2.2.2.2.2.2.2.2.2.2.2.1]; decide)).trans ?_
  rw [show s 56 1 = 58 from hR.2.2.2.2.2.2.2.2.2.2.2.2.2.2.2.2.2.2.2.2.2.2.2.2.2.2.2.2.2.2.2.2.2.2.2.2.2.2.2.2.2.2.2.2.2.2.2.2.2.2.2.2.2.2.1]
  refine (x_iconst f186_23 rfl).trans ?_
  refine (x_iaload f186_24 rfl).trans ?_
  refine (g_t rfl).trans ?_
  refine (g_kt (n := 28) rfl (by decide)).trans ?_
  refine (x_icmp_ge (tg := 166) f186_25 rfl rfl).trans (i_c ?_ ?_)
  · refine (x_iconst f186_28 rfl).trans ?_
    refine (x_istore (l2 := [aA 56, aI l1, aI l2, aI l3, aI 0, aU, aU, aU]) f186_29 rfl rfl).trans ?_
    refine (x_iconst f186_31 rfl).trans ?_
    refine (x_istore (l2 := [aA 56, aI l1, aI l2, aI l3, aI 0, aI 0, aU, aU]) f186_32 rfl rfl).trans ?_
    rfl
  · refine (x_iload f186_166 rfl rfl).trans ?_
    exact x_ireturn f186_167 rfl
set_option maxRecDepth 10000 in
theorem g186_34 {s : SG} (hR : RefC s) (l1 l2 l3 l4 l5 : Int) : sem 186 34 [aA 56, aI l1, aI l2, aI l3, aI l4, aI l5, aU, aU] [] s = if l5 < 3 then bnL (sem 181 0 [aA 56, aI l5, aU, aU, aU, aU, aU] [] s) fun a2 s1 => sem 186 61 [aA 56, aI l1, aI l2, aI l3, aI l4, aI l5, aI (if (0 : Int) < (cmpL a2 0) then 1 else 0), aI 0] [] s1 else sem 186 18 [aA 56, aI (if l2 < l4 then l3 else l1), aI (if l2 < l4 then l4 else l2), aI (w32 (l3 + 1)), aU, aU, aU, aU] [] s := by
  refine (x_iload f186_34 rfl rfl).trans ?_
  refine (x_iconst f186_36 rfl).trans ?_
  refine (x_icmp_ge (tg := 135) f186_37 rfl rfl).trans (i_c ?_ ?_)
  · refine (x_aload f186_40 rfl rfl).trans ?_
    refine (x_iload f186_41 rfl rfl).trans ?_
    refine (x_invokevirtual (G := grd (kd 56 = 9) (bnL (sem 181 0 [aA 56, aI l5, aU, aU, aU, aU, aU] [] s) fun a2 s1 => sem 186 46 [aA 56, aI l1, aI l2, aI l3, aI l4, aI l5, aU, aU] [aL a2] s1)) f186_43 rfl rfl).trans ?_
    refine (g_t rfl).trans ?_
    refine bL_h fun a2 s1 qs1 => ?_
    have rs1 := RefC.sem qs1 rfl hR
    refine (x_lconst f186_46 rfl).trans ?_
    refine (x_lcmp f186_47 rfl).trans ?_
    refine (x_if_le (tg := 55) f186_48 rfl rfl).trans ?_
    refine Eq.trans (b := if (0 : Int) < (cmpL a2 0) then sem 186 56 [aA 56, aI l1, aI l2, aI l3, aI l4, aI l5, aU, aU] [aI 1] s1 else sem 186 56 [aA 56, aI l1, aI l2, aI l3, aI l4, aI l5, aU, aU] [aI 0] s1) (i_c ?_ ?_) ?_
    · refine (x_iconst f186_51 rfl).trans ?_
      refine (x_goto (tg := 56) f186_52 rfl rfl).trans ?_
      rfl
    · refine (x_iconst f186_55 rfl).trans ?_
      rfl
    refine m_I.trans ?_
    refine (x_istore (l2 := [aA 56, aI l1, aI l2, aI l3, aI l4, aI l5, aI (if (0 : Int) < (cmpL a2 0) then 1 else 0), aU]) f186_56 rfl rfl).trans ?_
    refine (x_iconst f186_58 rfl).trans ?_
    refine (x_istore (l2 := [aA 56, aI l1, aI l2, aI l3, aI l4, aI l5, aI (if (0 : Int) < (cmpL a2 0) then 1 else 0), aI 0]) f186_59 rfl rfl).trans ?_
    rfl
  · refine (x_iload f186_135 rfl rfl).trans ?_
    refine (x_iload f186_137 rfl rfl).trans ?_
    refine (x_icmp_le (tg := 145) f186_138 rfl rfl).trans ?_
    refine Eq.trans (b := if l2 < l4 then sem 186 146 [aA 56, aU, aI l2, aI l3, aI l4, aU, aU, aU] [aI l3] s else sem 186 146 [aA 56, aU, aI l2, aI l3, aI l4, aU, aU, aU] [aI l1] s) (i_c ?_ ?_) ?_
    · refine (x_iload f186_141 rfl rfl).trans ?_
      refine (x_goto (tg := 146) f186_142 rfl rfl).trans ?_
      exact x_kil f186_146 rfl
    · refine (x_iload f186_145 rfl rfl).trans ?_
      exact x_kil f186_146 rfl
    refine m_I.trans ?_
    refine (x_istore (l2 := [aA 56, aI (if l2 < l4 then l3 else l1), aI l2, aI l3, aI l4, aU, aU, aU]) f186_146 rfl rfl).trans ?_
    refine (x_iload f186_147 rfl rfl).trans ?_
    refine (x_iload f186_149 rfl rfl).trans ?_
    refine (x_icmp_le (tg := 158) f186_150 rfl rfl).trans ?_
    refine Eq.trans (b := if l2 < l4 then sem 186 159 [aA 56, aI (if l2 < l4 then l3 else l1), aU, aI l3, aU, aU, aU, aU] [aI l4] s else sem 186 159 [aA 56, aI (if l2 < l4 then l3 else l1), aU, aI l3, aU, aU, aU, aU] [aI l2] s) (i_c ?_ ?_) ?_
    · refine (x_iload f186_153 rfl rfl).trans ?_
      refine (x_goto (tg := 159) f186_155 rfl rfl).trans ?_
      exact x_kil f186_159 rfl
    · refine (x_iload f186_158 rfl rfl).trans ?_
      exact x_kil f186_159 rfl
    refine m_I.trans ?_
    refine (x_istore (l2 := [aA 56, aI (if l2 < l4 then l3 else l1), aI (if l2 < l4 then l4 else l2), aI l3, aU, aU, aU, aU]) f186_159 rfl rfl).trans ?_
    refine (x_iinc (l2 := [aA 56, aI (if l2 < l4 then l3 else l1), aI (if l2 < l4 then l4 else l2), aI (w32 (l3 + 1)), aU, aU, aU, aU]) f186_160 rfl rfl rfl).trans ?_
    refine (x_goto (tg := 18) f186_163 rfl rfl).trans ?_
    rfl
set_option maxRecDepth 10000 in
theorem g186_61 {s : SG} (hR : RefC s) (l1 l2 l3 l4 l5 l6 l7 : Int) : sem 186 61 [aA 56, aI l1, aI l2, aI l3, aI l4, aI l5, aI l6, aI l7] [] s = if l7 < l5 then if l6 = 0 then sem 186 61 [aA 56, aI l1, aI l2, aI l3, aI l4, aI l5, aI 0, aI (w32 (l7 + 1))] [] s else bnL (sem 181 0 [aA 56, aI l7, aU, aU, aU, aU, aU] [] s) fun a2 s1 => if (cmpL a2 0) = 0 then sem 186 61 [aA 56, aI l1, aI l2, aI l3, aI l4, aI l5, aI 1, aI (w32 (l7 + 1))] [] s1 else bnI (sem 185 0 [aA 56, aI l3, aI l7] [] s1) fun a4 s3 => bnI (sem 185 0 [aA 56, aI l3, aI l5] [] s3) fun a6 s5 => sem 186 61 [aA 56, aI l1, aI l2, aI l3, aI l4, aI l5, aI (if a4 = a6 then 0 else 1), aI (w32 (l7 + 1))] [] s5 else sem 186 34 [aA 56, aI l1, aI l2, aI l3, aI (w32 (l4 + (if l6 = 0 then 0 else 1))), aI (w32 (l5 + 1)), aU, aU] [] s := by
  refine (x_iload f186_61 rfl rfl).trans ?_
  refine (x_iload f186_63 rfl rfl).trans ?_
  refine (x_icmp_ge (tg := 114) f186_65 rfl rfl).trans (i_c ?_ ?_)
  · refine (x_iload f186_68 rfl rfl).trans ?_
    refine (x_if_eq (tg := 105) f186_70 rfl rfl).trans (i_c ?_ ?_)
    · refine (x_kil (l2 := [aA 56, aI l1, aI l2, aI l3, aI l4, aI l5, aU, aI l7]) f186_105 rfl).trans ?_
      refine (x_iconst f186_105 rfl).trans ?_
      refine (x_istore (l2 := [aA 56, aI l1, aI l2, aI l3, aI l4, aI l5, aI 0, aI l7]) f186_106 rfl rfl).trans ?_
      refine (x_iinc (l2 := [aA 56, aI l1, aI l2, aI l3, aI l4, aI l5, aI 0, aI (w32 (l7 + 1))]) f186_108 rfl rfl rfl).trans ?_
      refine (x_goto (tg := 61) f186_111 rfl rfl).trans ?_
      rfl
    · refine (x_aload f186_73 rfl rfl).trans ?_
      refine (x_iload f186_74 rfl rfl).trans ?_
      refine (x_invokevirtual (G := grd (kd 56 = 9) (bnL (sem 181 0 [aA 56, aI l7, aU, aU, aU, aU, aU] [] s) fun a2 s1 => sem 186 79 [aA 56, aI l1, aI l2, aI l3, aI l4, aI l5, aI l6, aI l7] [aL a2] s1)) f186_76 rfl rfl).trans ?_
      refine (g_t rfl).trans ?_
      refine bL_h fun a2 s1 qs1 => ?_
      have rs1 := RefC.sem qs1 rfl hR
      refine (x_lconst f186_79 rfl).trans ?_
      refine (x_lcmp f186_80 rfl).trans ?_
      refine (x_if_eq (tg := 101) f186_81 rfl rfl).trans (i_c ?_ ?_)
      · refine (x_kil (l2 := [aA 56, aI l1, aI l2, aI l3, aI l4, aI l5, aU, aI l7]) f186_101 rfl).trans ?_
        refine (x_iconst f186_101 rfl).trans ?_
        refine (x_goto (tg := 106) f186_102 rfl rfl).trans ?_
        refine (x_istore (l2 := [aA 56, aI l1, aI l2, aI l3, aI l4, aI l5, aI 1, aI l7]) f186_106 rfl rfl).trans ?_
        refine (x_iinc (l2 := [aA 56, aI l1, aI l2, aI l3, aI l4, aI l5, aI 1, aI (w32 (l7 + 1))]) f186_108 rfl rfl rfl).trans ?_
        refine (x_goto (tg := 61) f186_111 rfl rfl).trans ?_
        rfl
      · refine (x_aload f186_84 rfl rfl).trans ?_
        refine (x_iload f186_85 rfl rfl).trans ?_
        refine (x_iload f186_86 rfl rfl).trans ?_
        refine (x_invokevirtual (G := grd (kd 56 = 9) (bnI (sem 185 0 [aA 56, aI l3, aI l7] [] s1) fun a4 s3 => sem 186 91 [aA 56, aI l1, aI l2, aI l3, aI l4, aI l5, aI l6, aI l7] [aI a4] s3)) f186_88 rfl rfl).trans ?_
        refine (g_t rfl).trans ?_
        refine bI_h fun a4 s3 qs3 => ?_
        have rs3 := RefC.sem qs3 rfl rs1
        refine (x_aload f186_91 rfl rfl).trans ?_
        refine (x_iload f186_92 rfl rfl).trans ?_
        refine (x_iload f186_93 rfl rfl).trans ?_
        refine (x_invokevirtual (G := grd (kd 56 = 9) (bnI (sem 185 0 [aA 56, aI l3, aI l5] [] s3) fun a6 s5 => sem 186 98 [aA 56, aI l1, aI l2, aI l3, aI l4, aI l5, aI l6, aI l7] [aI a6, aI a4] s5)) f186_95 rfl rfl).trans ?_
        refine (g_t rfl).trans ?_
        refine bI_h fun a6 s5 qs5 => ?_
        have rs5 := RefC.sem qs5 rfl rs3
        refine (x_icmp_eq (tg := 105) f186_98 rfl rfl).trans ?_
        refine Eq.trans (b := if a4 = a6 then sem 186 106 [aA 56, aI l1, aI l2, aI l3, aI l4, aI l5, aU, aI l7] [aI 0] s5 else sem 186 106 [aA 56, aI l1, aI l2, aI l3, aI l4, aI l5, aU, aI l7] [aI 1] s5) (i_c ?_ ?_) ?_
        · refine (x_kil (l2 := [aA 56, aI l1, aI l2, aI l3, aI l4, aI l5, aU, aI l7]) f186_105 rfl).trans ?_
          refine (x_iconst f186_105 rfl).trans ?_
          rfl
        · refine (x_kil (l2 := [aA 56, aI l1, aI l2, aI l3, aI l4, aI l5, aU, aI l7]) f186_101 rfl).trans ?_
          refine (x_iconst f186_101 rfl).trans ?_
          refine (x_goto (tg := 106) f186_102 rfl rfl).trans ?_
          rfl
        refine m_I.trans ?_
        refine (x_istore (l2 := [aA 56, aI l1, aI l2, aI l3, aI l4, aI l5, aI (if a4 = a6 then 0 else 1), aI l7]) f186_106 rfl rfl).trans ?_
        refine (x_iinc (l2 := [aA 56, aI l1, aI l2, aI l3, aI l4, aI l5, aI (if a4 = a6 then 0 else 1), aI (w32 (l7 + 1))]) f186_108 rfl rfl rfl).trans ?_
        refine (x_goto (tg := 61) f186_111 rfl rfl).trans ?_
        rfl
  · refine (x_iload f186_114 rfl rfl).trans ?_
    refine (x_iload f186_116 rfl rfl).trans ?_
    refine (x_if_eq (tg := 125) f186_118 rfl rfl).trans ?_
    refine Eq.trans (b := if l6 = 0 then sem 186 126 [aA 56, aI l1, aI l2, aI l3, aU, aI l5, aU, aU] [aI 0, aI l4] s else sem 186 126 [aA 56, aI l1, aI l2, aI l3, aU, aI l5, aU, aU] [aI 1, aI l4] s) (i_c ?_ ?_) ?_
    · refine (x_iconst f186_125 rfl).trans ?_
      exact x_kil f186_126 rfl
    · refine (x_iconst f186_121 rfl).trans ?_
      refine (x_goto (tg := 126) f186_122 rfl rfl).trans ?_
      exact x_kil f186_126 rfl
    refine m_I.trans ?_
    refine (x_iadd f186_126 rfl).trans ?_
    refine (x_istore (l2 := [aA 56, aI l1, aI l2, aI l3, aI (w32 (l4 + (if l6 = 0 then 0 else 1))), aI l5, aU, aU]) f186_127 rfl rfl).trans ?_
    refine (x_iinc (l2 := [aA 56, aI l1, aI l2, aI l3, aI (w32 (l4 + (if l6 = 0 then 0 else 1))), aI (w32 (l5 + 1)), aU, aU]) f186_129 rfl rfl rfl).trans ?_
    refine (x_goto (tg := 34) f186_132 rfl rfl).trans ?_
    rfl
set_option maxRecDepth 10000 in
theorem g189_0 {s : SG} (hR : RefC s) (l1 l2 l3 l4 l5 l6 l7 : Int) : sem 189 0 [aA 56, aI l1, aI l2, aI l3, aI l4, aI l5, aI l6, aL l7, aU, aU, aU, aU, aU, aU, aU, aU, aU, aU, aU] [] s = grd ((0 : Int) ≤ (w32 ((w32 (10 + (w32 (3 * l1)))) + l3)) ∧ (w32 ((w32 (10 + (w32 (3 * l1)))) + l3)) < 28) (grd ((0 : Int) ≤ (w32 ((w32 (19 + (w32 (3 * l1)))) + l3)) ∧ (w32 ((w32 (19 + (w32 (3 * l1)))) + l3)) < 28) (grd ((0 : Int) ≤ (w32 ((w32 (10 + (w32 (3 * l2)))) + l3)) ∧ (w32 ((w32 (10 + (w32 (3 * l2)))) + l3)) < 28) (grd ((0 : Int) ≤ (w32 ((w32 (19 + (w32 (3 * l2)))) + l3)) ∧ (w32 ((w32 (19 + (w32 (3 * l2)))) + l3)) < 28) (sem 189 66 [aA 56, aU, aU, aU, aI l4, aI l5, aI l6, aL l7, aU, aI (s 58 (w32 ((w32 (10 + (w32 (3 * l1)))) + l3))), aI (s 58 (w32 ((w32 (19 + (w32 (3 * l1)))) + l3))), aI (s 58 (w32 ((w32 (10 + (w32 (3 * l2)))) + l3))), aI (s 58 (w32 ((w32 (19 + (w32 (3 * l2)))) + l3))), aL 0, aU, aI 0, aU, aU, aU] [] s)))) := by
  refine (x_aload f189_0 rfl rfl).trans ?_
  refine (y_get2 (ji := 1) rfl f189_1 rfl rfl).trans ?_
  refine (g_t rfl).trans ?_
  refine (g_t (by rw [show s 56 1 = 58 from hR.2.2.2.2.2.2.2.2.2.2.2.2.2.2.2.2.2.2.2.2.2.2.2.2.2.2.2.2.2.2.2.2.2.2.2.2.2.2.2.2.2.2.2.2.2.2.2.2.2.2.2.2.2.2.1]; decide)).trans ?_
  rw [show s 56 1 = 58 from hR.2.2.2.2.2.2.2.2.2.2.2.2.2.2.2.2.2.2.2.2.2.2.2.2.2.2.2.2.2.2.2.2.2.2.2.2.2.2.2.2.2.2.2.2.2.2.2.2.2.2.2.2.2.2.1]
  refine (x_iconst f189_4 rfl).trans ?_
  refine (x_iconst f189_6 rfl).trans ?_
  refine (x_iload f189_7 rfl rfl).trans ?_
  refine (x_imul f189_8 rfl).trans ?_
  refine (x_iadd f189_9 rfl).trans ?_
  refine (x_iload f189_10 rfl rfl).trans ?_
  refine (x_iadd f189_11 rfl).trans ?_
  refine (x_iaload f189_12 rfl).trans ?_
  refine (g_t rfl).trans ?_
  refine g_kl (n := 28) rfl fun hg1 => ?_
  refine (x_istore (l2 := [aA 56, aI l1, aI l2, aI l3, aI l4, aI l5, aI l6, aL l7, aU, aI (s 58 (w32 ((w32 (10 + (w32 (3 * l1)))) + l3))), aU, aU, aU, aU, aU, aU, aU, aU, aU]) f189_13 rfl rfl).trans ?_
  refine (x_aload f189_15 rfl rfl).trans ?_
  refine (y_get2 (ji := 1) rfl f189_16 rfl rfl).trans ?_
  refine (g_t rfl).trans ?_
  refine (g_t (by rw [show s 56 1 = 58 from hR.2.2.2.2.2.2.2.2.2.2.2.2.2.2.2.2.2.2.2.2.2.2.2.2.2.2.2.2.2.2.2.2.2.2.2.2.2.2.2.2.2.2.2.2.2.2.2.2.2.2.2.2.2.2.1]; decide)).trans ?_
  rw [show s 56 1 = 58 from hR.2.2.2.2.2.2.2.2.2.2.2.2.2.2.2.2.2.2.2.2.2.2.2.2.2.2.2.2.2.2.2.2.2.2.2.2.2.2.2.2.2.2.2.2.2.2.2.2.2.2.2.2.2.2.1]
  refine (x_iconst f189_19 rfl).trans ?_
  refine (x_iconst f189_21 rfl).trans ?_
  refine (x_iload f189_22 rfl rfl).trans ?_
  refine (x_imul f189_23 rfl).trans ?_
  refine (x_iadd f189_24 rfl).trans ?_
  refine (x_iload f189_25 rfl rfl).trans ?_
  refine (x_iadd f189_26 rfl).trans ?_
  refine (x_iaload f189_27 rfl).trans ?_
  refine (g_t rfl).trans ?_
  refine g_kl (n := 28) rfl fun hg2 => ?_
  refine (x_istore (l2 := [aA 56, aI l1, aI l2, aI l3, aI l4, aI l5, aI l6, aL l7, aU, aI (s 58 (w32 ((w32 (10 + (w32 (3 * l1)))) + l3))), aI (s 58 (w32 ((w32 (19 + (w32 (3 * l1)))) + l3))), aU, aU, aU, aU, aU, aU, aU, aU]) f189_28 rfl rfl).trans ?_
  refine (x_aload f189_30 rfl rfl).trans ?_
  refine (y_get2 (ji := 1) rfl f189_31 rfl rfl).trans ?_
  refine (g_t rfl).trans ?_
  refine (g_t (by rw [show s 56 1 = 58 from hR.2.2.2.2.2.2.2.2.2.2.2.2.2.2.2.2.2.2.2.2.2.2.2.2.2.2.2.2.2.2.2.2.2.2.2.2.2.2.2.2.2.2.2.2.2.2.2.2.2.2.2.2.2.2.1]; decide)).trans ?_
  rw [show s 56 1 = 58 from hR.2.2.2.2.2.2.2.2.2.2.2.2.2.2.2.2.2.2.2.2.2.2.2.2.2.2.2.2.2.2.2.2.2.2.2.2.2.2.2.2.2.2.2.2.2.2.2.2.2.2.2.2.2.2.1]
  refine (x_iconst f189_34 rfl).trans ?_
  refine (x_iconst f189_36 rfl).trans ?_
  refine (x_iload f189_37 rfl rfl).trans ?_
  refine (x_imul f189_38 rfl).trans ?_
  refine (x_iadd f189_39 rfl).trans ?_
  refine (x_iload f189_40 rfl rfl).trans ?_
  refine (x_iadd f189_41 rfl).trans ?_
  refine (x_iaload f189_42 rfl).trans ?_
  refine (g_t rfl).trans ?_
  refine g_kl (n := 28) rfl fun hg3 => ?_
  refine (x_istore (l2 := [aA 56, aI l1, aI l2, aI l3, aI l4, aI l5, aI l6, aL l7, aU, aI (s 58 (w32 ((w32 (10 + (w32 (3 * l1)))) + l3))), aI (s 58 (w32 ((w32 (19 + (w32 (3 * l1)))) + l3))), aI (s 58 (w32 ((w32 (10 + (w32 (3 * l2)))) + l3))), aU, aU, aU, aU, aU, aU, aU]) f189_43 rfl rfl).trans ?_
  refine (x_aload f189_45 rfl rfl).trans ?_
  refine (y_get2 (ji := 1) rfl f189_46 rfl rfl).trans ?_
  refine (g_t rfl).trans ?_
  refine (g_t (by rw [show s 56 1 = 58 from hR.2.2.2.2.2.2.2.2.2.2.2.2.2.2.2.2.2.2.2.2.2.2.2.2.2.2.2.2.2.2.2.2.2.2.2.2.2.2.2.2.2.2.2.2.2.2.2.2.2.2.2.2.2.2.1]; decide)).trans ?_
  rw [show s 56 1 = 58 from hR.2.2.2.2.2.2.2.2.2.2.2.2.2.2.2.2.2.2.2.2.2.2.2.2.2.2.2.2.2.2.2.2.2.2.2.2.2.2.2.2.2.2.2.2.2.2.2.2.2.2.2.2.2.2.1]
  refine (x_iconst f189_49 rfl).trans ?_
  refine (x_iconst f189_51 rfl).trans ?_
  refine (x_iload f189_52 rfl rfl).trans ?_
  refine (x_imul f189_53 rfl).trans ?_
  refine (x_iadd f189_54 rfl).trans ?_
  refine (x_iload f189_55 rfl rfl).trans ?_
  refine (x_iadd f189_56 rfl).trans ?_
  refine (x_iaload f189_57 rfl).trans ?_
  refine (g_t rfl).trans ?_
  refine g_kl (n := 28) rfl fun hg4 => ?_
  refine (x_istore (l2 := [aA 56, aI l1, aI l2, aI l3, aI l4, aI l5, aI l6, aL l7, aU, aI (s 58 (w32 ((w32 (10 + (w32 (3 * l1)))) + l3))), aI (s 58 (w32 ((w32 (19 + (w32 (3 * l1)))) + l3))), aI (s 58 (w32 ((w32 (10 + (w32 (3 * l2)))) + l3))), aI (s 58 (w32 ((w32 (19 + (w32 (3 * l2)))) + l3))), aU, aU, aU, aU, aU, aU]) f189_58 rfl rfl).trans ?_
  refine (x_lconst f189_60 rfl).trans ?_
  refine (x_lstore (l2 := [aA 56, aI l1, aI l2, aI l3, aI l4, aI l5, aI l6, aL l7, aU, aI (s 58 (w32 ((w32 (10 + (w32 (3 * l1)))) + l3))), aI (s 58 (w32 ((w32 (19 + (w32 (3 * l1)))) + l3))), aI (s 58 (w32 ((w32 (10 + (w32 (3 * l2)))) + l3))), aI (s 58 (w32 ((w32 (19 + (w32 (3 * l2)))) + l3))), aL 0, aU, aU, aU, aU, aU]) f189_61 rfl rfl).trans ?_
  refine (x_iconst f189_63 rfl).trans ?_
  refine (x_istore (l2 := [aA 56, aI l1, aI l2, aI l3, aI l4, aI l5, aI l6, aL l7, aU, aI (s 58 (w32 ((w32 (10 + (w32 (3 * l1)))) + l3))), aI (s 58 (w32 ((w32 (19 + (w32 (3 * l1)))) + l3))), aI (s 58 (w32 ((w32 (10 + (w32 (3 * l2)))) + l3))), aI (s 58 (w32 ((w32 (19 + (w32 (3 * l2)))) + l3))), aL 0, aU, aI 0, aU, aU, aU]) f189_64 rfl rfl).trans ?_
  exact x_kil f189_66 rfl
set_option maxRecDepth 10000 in
theorem g189_66 {s : SG} (hR : RefC s) (l4 l5 l6 l7 l9 l10 l11 l12 l13 l15 : Int) : sem 189 66 [aA 56, aU, aU, aU, aI l4, aI l5, aI l6, aL l7, aU, aI l9, aI l10, aI l11, aI l12, aL l13, aU, aI l15, aU, aU, aU] [] s = if l15 < 4 then bnI (sem 188 0 [aI l4, aI (w32 (l9 + (remA l15 2)))] [] s) fun a2 s1 => bnI (sem 188 0 [aI l5, aI (w32 (l11 + (w32 (Int.tdiv l15 2))))] [] s1) fun a4 s3 => bnI (sem 187 0 [aI (w32 (l4 - a2)), aI (w32 (l5 - a4)), aI l6] [] s3) fun a6 s5 => grd ((0 : Int) ≤ a6 ∧ a6 < 2197) (sem 189 66 [aA 56, aU, aU, aU, aI l4, aI l5, aI l6, aL l7, aU, aI l9, aI l10, aI l11, aI l12, aL (w64 (l13 + (w64 ((w32 ((if (remA l15 2) = 0 then w32 (10 - l10) else l10) * (if (w32 (Int.tdiv l15 2)) = 0 then w32 (10 - l12) else l12))) * (w64 ((w64 ((w32 (a2 + a4)) * l7)) + (s5 65 a6))))))), aU, aI (w32 (l15 + 1)), aU, aU, aU] [] s5) else some (aL l13, s) := by
  refine (x_iload f189_66 rfl rfl).trans ?_
  refine (x_iconst f189_68 rfl).trans ?_
  refine (x_icmp_ge (tg := 182) f189_69 rfl rfl).trans (i_c ?_ ?_)
  · refine (x_iload f189_72 rfl rfl).trans ?_
    refine (x_iconst f189_74 rfl).trans ?_
    refine (x_irem f189_75 rfl).trans ?_
    refine (g_t (by decide)).trans ?_
    refine (x_if_ne (tg := 87) f189_76 rfl rfl).trans ?_
    refine Eq.trans (b := if (remA l15 2) = 0 then sem 189 89 [aA 56, aU, aU, aU, aI l4, aI l5, aI l6, aL l7, aU, aI l9, aI l10, aI l11, aI l12, aL l13, aU, aI l15, aU, aU, aU] [aI (w32 (10 - l10))] s else sem 189 89 [aA 56, aU, aU, aU, aI l4, aI l5, aI l6, aL l7, aU, aI l9, aI l10, aI l11, aI l12, aL l13, aU, aI l15, aU, aU, aU] [aI l10] s) (i_c ?_ ?_) ?_
    · refine (x_iconst f189_79 rfl).trans ?_
      refine (x_iload f189_81 rfl rfl).trans ?_
      refine (x_isub f189_83 rfl).trans ?_
      refine (x_goto (tg := 89) f189_84 rfl rfl).trans ?_
      rfl
    · refine (x_iload f189_87 rfl rfl).trans ?_
      rfl
    refine m_I.trans ?_
    refine (x_iload f189_89 rfl rfl).trans ?_
    refine (x_iconst f189_91 rfl).trans ?_
    refine (x_idiv f189_92 rfl).trans ?_
    refine (g_t (by decide)).trans ?_
    refine (x_if_ne (tg := 104) f189_93 rfl rfl).trans ?_
    refine Eq.trans (b := if (w32 (Int.tdiv l15 2)) = 0 then sem 189 106 [aA 56, aU, aU, aU, aI l4, aI l5, aI l6, aL l7, aU, aI l9, aI l10, aI l11, aI l12, aL l13, aU, aI l15, aU, aU, aU] [aI (w32 (10 - l12)), aI (if (remA l15 2) = 0 then w32 (10 - l10) else l10)] s else sem 189 106 [aA 56, aU, aU, aU, aI l4, aI l5, aI l6, aL l7, aU, aI l9, aI l10, aI l11, aI l12, aL l13, aU, aI l15, aU, aU, aU] [aI l12, aI (if (remA l15 2) = 0 then w32 (10 - l10) else l10)] s) (i_c ?_ ?_) ?_
    · refine (x_iconst f189_96 rfl).trans ?_
      refine (x_iload f189_98 rfl rfl).trans ?_
      refine (x_isub f189_100 rfl).trans ?_
      refine (x_goto (tg := 106) f189_101 rfl rfl).trans ?_
      rfl
    · refine (x_iload f189_104 rfl rfl).trans ?_
      rfl
    refine m_I.trans ?_
    refine (x_imul f189_106 rfl).trans ?_
    refine (x_istore (l2 := [aA 56, aU, aU, aU, aI l4, aI l5, aI l6, aL l7, aU, aI l9, aI l10, aI l11, aI l12, aL l13, aU, aI l15, aI (w32 ((if (remA l15 2) = 0 then w32 (10 - l10) else l10) * (if (w32 (Int.tdiv l15 2)) = 0 then w32 (10 - l12) else l12))), aU, aU]) f189_107 rfl rfl).trans ?_
    refine (x_iload f189_109 rfl rfl).trans ?_
    refine (x_iload f189_111 rfl rfl).trans ?_
    refine (x_iload f189_113 rfl rfl).trans ?_
    refine (x_iconst f189_115 rfl).trans ?_
    refine (x_irem f189_116 rfl).trans ?_
    refine (g_t (by decide)).trans ?_
    refine (x_iadd f189_117 rfl).trans ?_
    refine (x_invokestatic (G := bnI (sem 188 0 [aI l4, aI (w32 (l9 + (remA l15 2)))] [] s) fun a2 s1 => sem 189 121 [aA 56, aU, aU, aU, aI l4, aI l5, aI l6, aL l7, aU, aI l9, aI l10, aI l11, aI l12, aL l13, aU, aI l15, aI (w32 ((if (remA l15 2) = 0 then w32 (10 - l10) else l10) * (if (w32 (Int.tdiv l15 2)) = 0 then w32 (10 - l12) else l12))), aU, aU] [aI a2] s1) f189_118 rfl rfl).trans ?_
    refine bI_h fun a2 s1 qs1 => ?_
    have rs1 := RefC.sem qs1 rfl hR
    refine (x_istore (l2 := [aA 56, aU, aU, aU, aI l4, aI l5, aI l6, aL l7, aU, aI l9, aI l10, aI l11, aI l12, aL l13, aU, aI l15, aI (w32 ((if (remA l15 2) = 0 then w32 (10 - l10) else l10) * (if (w32 (Int.tdiv l15 2)) = 0 then w32 (10 - l12) else l12))), aI a2, aU]) f189_121 rfl rfl).trans ?_
    refine (x_iload f189_123 rfl rfl).trans ?_
    refine (x_iload f189_125 rfl rfl).trans ?_
    refine (x_iload f189_127 rfl rfl).trans ?_
    refine (x_iconst f189_129 rfl).trans ?_
    refine (x_idiv f189_130 rfl).trans ?_
    refine (g_t (by decide)).trans ?_
    refine (x_iadd f189_131 rfl).trans ?_
    refine (x_invokestatic (G := bnI (sem 188 0 [aI l5, aI (w32 (l11 + (w32 (Int.tdiv l15 2))))] [] s1) fun a4 s3 => sem 189 135 [aA 56, aU, aU, aU, aI l4, aI l5, aI l6, aL l7, aU, aI l9, aI l10, aI l11, aI l12, aL l13, aU, aI l15, aI (w32 ((if (remA l15 2) = 0 then w32 (10 - l10) else l10) * (if (w32 (Int.tdiv l15 2)) = 0 then w32 (10 - l12) else l12))), aI a2, aU] [aI a4] s3) f189_132 rfl rfl).trans ?_
    refine bI_h fun a4 s3 qs3 => ?_
    have rs3 := RefC.sem qs3 rfl rs1
    refine (x_istore (l2 := [aA 56, aU, aU, aU, aI l4, aI l5, aI l6, aL l7, aU, aI l9, aI l10, aI l11, aI l12, aL l13, aU, aI l15, aI (w32 ((if (remA l15 2) = 0 then w32 (10 - l10) else l10) * (if (w32 (Int.tdiv l15 2)) = 0 then w32 (10 - l12) else l12))), aI a2, aI a4]) f189_135 rfl rfl).trans ?_
    refine (x_lload f189_137 rfl rfl).trans ?_
    refine (x_iload f189_139 rfl rfl).trans ?_
    refine (x_i2l f189_141 rfl).trans ?_
    refine (x_iload f189_142 rfl rfl).trans ?_
    refine (x_iload f189_144 rfl rfl).trans ?_
    refine (x_iadd f189_146 rfl).trans ?_
    refine (x_i2l f189_147 rfl).trans ?_
    refine (x_lload f189_148 rfl rfl).trans ?_
    refine (x_lmul f189_150 rfl).trans ?_
    refine (x_aload f189_151 rfl rfl).trans ?_
    refine (y_get2 (ji := 13) rfl f189_152 rfl rfl).trans ?_
    refine (g_t rfl).trans ?_
    refine (g_t (by rw [show s3 56 13 = 65 from rs3.2.2.2.2.2.2.2.2.2.2.2.2.2.2.2.2.2.2.2.2.2.2.2.2.2.2.2.2.2.2.2.2.2.2.2.2.2.2.2.2.2.2.2.2.2.2.2.2.2.2.2.2.2.2.2.2.2.2.2.2.2.1]; decide)).trans ?_
    rw [show s3 56 13 = 65 from rs3.2.2.2.2.2.2.2.2.2.2.2.2.2.2.2.2.2.2.2.2.2.2.2.2.2.2.2.2.2.2.2.2.2.2.2.2.2.2.2.2.2.2.2.2.2.2.2.2.2.2.2.2.2.2.2.2.2.2.2.2.2.1]
    refine (x_iload f189_155 rfl rfl).trans ?_
    refine (x_iload f189_157 rfl rfl).trans ?_
    refine (x_isub f189_159 rfl).trans ?_
    refine (x_iload f189_160 rfl rfl).trans ?_
    refine (x_iload f189_162 rfl rfl).trans ?_
    refine (x_isub f189_164 rfl).trans ?_
    refine (x_iload f189_165 rfl rfl).trans ?_
    refine (x_invokestatic (G := bnI (sem 187 0 [aI (w32 (l4 - a2)), aI (w32 (l5 - a4)), aI l6] [] s3) fun a6 s5 => sem 189 170 [aA 56, aU, aU, aU, aI l4, aI l5, aI l6, aL l7, aU, aI l9, aI l10, aI l11, aI l12, aL l13, aU, aI l15, aI (w32 ((if (remA l15 2) = 0 then w32 (10 - l10) else l10) * (if (w32 (Int.tdiv l15 2)) = 0 then w32 (10 - l12) else l12))), aI a2, aI a4] [aI a6, aA 65, aL (w64 ((w32 (a2 + a4)) * l7)), aL (w32 ((if (remA l15 2) = 0 then w32 (10 - l10) else l10) * (if (w32 (Int.tdiv l15 2)) = 0 then w32 (10 - l12) else l12))), aL l13] s5) f189_167 rfl rfl).trans ?_
    refine bI_h fun a6 s5 qs5 => ?_
    have rs5 := RefC.sem qs5 rfl rs3
    refine (x_laload f189_170 rfl).trans ?_
    refine (g_t rfl).trans ?_
    refine g_kl (n := 2197) rfl fun hg7 => ?_
    refine (x_ladd f189_171 rfl).trans ?_
    refine (x_lmul f189_172 rfl).trans ?_
    refine (x_ladd f189_173 rfl).trans ?_
    refine (x_lstore (l2 := [aA 56, aU, aU, aU, aI l4, aI l5, aI l6, aL l7, aU, aI l9, aI l10, aI l11, aI l12, aL (w64 (l13 + (w64 ((w32 ((if (remA l15 2) = 0 then w32 (10 - l10) else l10) * (if (w32 (Int.tdiv l15 2)) = 0 then w32 (10 - l12) else l12))) * (w64 ((w64 ((w32 (a2 + a4)) * l7)) + (s5 65 a6))))))), aU, aI l15, aI (w32 ((if (remA l15 2) = 0 then w32 (10 - l10) else l10) * (if (w32 (Int.tdiv l15 2)) = 0 then w32 (10 - l12) else l12))), aI a2, aI a4]) f189_174 rfl rfl).trans ?_
    refine (x_iinc (l2 := [aA 56, aU, aU, aU, aI l4, aI l5, aI l6, aL l7, aU, aI l9, aI l10, aI l11, aI l12, aL (w64 (l13 + (w64 ((w32 ((if (remA l15 2) = 0 then w32 (10 - l10) else l10) * (if (w32 (Int.tdiv l15 2)) = 0 then w32 (10 - l12) else l12))) * (w64 ((w64 ((w32 (a2 + a4)) * l7)) + (s5 65 a6))))))), aU, aI (w32 (l15 + 1)), aI (w32 ((if (remA l15 2) = 0 then w32 (10 - l10) else l10) * (if (w32 (Int.tdiv l15 2)) = 0 then w32 (10 - l12) else l12))), aI a2, aI a4]) f189_176 rfl rfl rfl).trans ?_
    refine (x_goto (tg := 66) f189_179 rfl rfl).trans ?_
    exact x_kil f189_66 rfl
  · refine (x_lload f189_182 rfl rfl).trans ?_
    exact x_lreturn f189_184 rfl
set_option maxRecDepth 10000 in
theorem g190_0 {s : SG} (hR : RefC s) (l1 l2 l3 l4 l5 l6 l7 : Int) : sem 190 0 [aA 56, aI l1, aI l2, aI l3, aI l4, aI l5, aI l6, aL l7, aU, aU, aU, aU, aU, aU, aU, aU] [] s = bnL (sem 189 0 [aA 56, aI l1, aI l2, aI l3, aI l4, aI l5, aI l6, aL l7, aU, aU, aU, aU, aU, aU, aU, aU, aU, aU, aU] [] s) fun a2 s1 => sem 190 25 [aA 56, aI l1, aI l2, aI l3, aI l4, aI l5, aI l6, aL l7, aU, aL a2, aU, aI 1, aU, aU, aU, aU] [] (up s1 56 14 0) := by
  refine (x_aload f190_0 rfl rfl).trans ?_
  refine (x_iload f190_1 rfl rfl).trans ?_
  refine (x_iload f190_2 rfl rfl).trans ?_
  refine (x_iload f190_3 rfl rfl).trans ?_
  refine (x_iload f190_4 rfl rfl).trans ?_
  refine (x_iload f190_6 rfl rfl).trans ?_
  refine (x_iload f190_8 rfl rfl).trans ?_
  refine (x_lload f190_10 rfl rfl).trans ?_
  refine (x_invokevirtual (G := grd (kd 56 = 9) (bnL (sem 189 0 [aA 56, aI l1, aI l2, aI l3, aI l4, aI l5, aI l6, aL l7, aU, aU, aU, aU, aU, aU, aU, aU, aU, aU, aU] [] s) fun a2 s1 => sem 190 15 [aA 56, aI l1, aI l2, aI l3, aI l4, aI l5, aI l6, aL l7, aU, aU, aU, aU, aU, aU, aU, aU] [aL a2] s1)) f190_12 rfl rfl).trans ?_
  refine (g_t rfl).trans ?_
  refine bL_h fun a2 s1 qs1 => ?_
  have rs1 := RefC.sem qs1 rfl hR
  refine (x_lstore (l2 := [aA 56, aI l1, aI l2, aI l3, aI l4, aI l5, aI l6, aL l7, aU, aL a2, aU, aU, aU, aU, aU, aU]) f190_15 rfl rfl).trans ?_
  refine (x_aload f190_17 rfl rfl).trans ?_
  refine (x_iconst f190_18 rfl).trans ?_
  refine (y_put0 (ji := 14) rfl f190_19 rfl rfl).trans ?_
  refine (g_t rfl).trans ?_
  refine (x_iconst f190_22 rfl).trans ?_
  refine (x_istore (l2 := [aA 56, aI l1, aI l2, aI l3, aI l4, aI l5, aI l6, aL l7, aU, aL a2, aU, aI 1, aU, aU, aU, aU]) f190_23 rfl rfl).trans ?_
  rfl
set_option maxRecDepth 10000 in
theorem g190_25 {s : SG} (hR : RefC s) (l1 l2 l3 l4 l5 l6 l7 l9 l11 : Int) : sem 190 25 [aA 56, aI l1, aI l2, aI l3, aI l4, aI l5, aI l6, aL l7, aU, aL l9, aU, aI l11, aU, aU, aU, aU] [] s = if l6 < l11 then some (aL l9, s) else bnL (sem 189 0 [aA 56, aI l1, aI l2, aI l3, aI (w32 (l4 + l11)), aI l5, aI (w32 (l6 - l11)), aL l7, aU, aU, aU, aU, aU, aU, aU, aU, aU, aU, aU] [] s) fun a2 s1 => if (0 : Int) < (cmpL a2 l9) then sem 190 73 [aA 56, aI l1, aI l2, aI l3, aI l4, aI l5, aI l6, aL l7, aU, aL l9, aU, aI l11, aL a2, aU, aU, aU] [aI l11, aA 56] s1 else sem 190 73 [aA 56, aI l1, aI l2, aI l3, aI l4, aI l5, aI l6, aL l7, aU, aL l9, aU, aI l11, aL a2, aU, aU, aU] [aI (s1 56 14), aA 56] s1 := by
  refine (x_iload f190_25 rfl rfl).trans ?_
  refine (x_iload f190_27 rfl rfl).trans ?_
  refine (x_icmp_gt (tg := 163) f190_29 rfl rfl).trans (i_c ?_ ?_)
  · refine (x_lload f190_163 rfl rfl).trans ?_
    exact x_lreturn f190_165 rfl
  · refine (x_aload f190_32 rfl rfl).trans ?_
    refine (x_iload f190_33 rfl rfl).trans ?_
    refine (x_iload f190_34 rfl rfl).trans ?_
    refine (x_iload f190_35 rfl rfl).trans ?_
    refine (x_iload f190_36 rfl rfl).trans ?_
    refine (x_iload f190_38 rfl rfl).trans ?_
    refine (x_iadd f190_40 rfl).trans ?_
    refine (x_iload f190_41 rfl rfl).trans ?_
    refine (x_iload f190_43 rfl rfl).trans ?_
    refine (x_iload f190_45 rfl rfl).trans ?_
    refine (x_isub f190_47 rfl).trans ?_
    refine (x_lload f190_48 rfl rfl).trans ?_
    refine (x_invokevirtual (G := grd (kd 56 = 9) (bnL (sem 189 0 [aA 56, aI l1, aI l2, aI l3, aI (w32 (l4 + l11)), aI l5, aI (w32 (l6 - l11)), aL l7, aU, aU, aU, aU, aU, aU, aU, aU, aU, aU, aU] [] s) fun a2 s1 => sem 190 53 [aA 56, aI l1, aI l2, aI l3, aI l4, aI l5, aI l6, aL l7, aU, aL l9, aU, aI l11, aU, aU, aU, aU] [aL a2] s1)) f190_50 rfl rfl).trans ?_
    refine (g_t rfl).trans ?_
    refine bL_h fun a2 s1 qs1 => ?_
    have rs1 := RefC.sem qs1 rfl hR
    refine (x_lstore (l2 := [aA 56, aI l1, aI l2, aI l3, aI l4, aI l5, aI l6, aL l7, aU, aL l9, aU, aI l11, aL a2, aU, aU, aU]) f190_53 rfl rfl).trans ?_
    refine (x_aload f190_55 rfl rfl).trans ?_
    refine (x_lload f190_56 rfl rfl).trans ?_
    refine (x_lload f190_58 rfl rfl).trans ?_
    refine (x_lcmp f190_60 rfl).trans ?_
    refine (x_if_le (tg := 69) f190_61 rfl rfl).trans (i_c ?_ ?_)
    · refine (x_iload f190_64 rfl rfl).trans ?_
      refine (x_goto (tg := 73) f190_66 rfl rfl).trans ?_
      rfl
    · refine (x_aload f190_69 rfl rfl).trans ?_
      refine (y_get0 (ji := 14) rfl f190_70 rfl rfl).trans ?_
      refine (g_t rfl).trans ?_
      rfl
set_option maxRecDepth 10000 in
theorem g190_73 {s : SG} (hR : RefC s) (l1 l2 l3 l4 l5 l6 l7 l9 l11 l12 v0 : Int) : sem 190 73 [aA 56, aI l1, aI l2, aI l3, aI l4, aI l5, aI l6, aL l7, aU, aL l9, aU, aI l11, aL l12, aU, aU, aU] [aI v0, aA 56] s = bnL (sem 189 0 [aA 56, aI l1, aI l2, aI l3, aI l4, aI (w32 (l5 + l11)), aI (w32 (l6 - l11)), aL l7, aU, aU, aU, aU, aU, aU, aU, aU, aU, aU, aU] [] (up s 56 14 v0)) fun a2 s1 => if (0 : Int) < (cmpL a2 (if (0 : Int) < (cmpL l12 l9) then l12 else l9)) then sem 190 25 [aA 56, aI l1, aI l2, aI l3, aI l4, aI l5, aI l6, aL l7, aU, aL (if (0 : Int) < (cmpL a2 (if (0 : Int) < (cmpL l12 l9) then l12 else l9)) then a2 else if (0 : Int) < (cmpL l12 l9) then l12 else l9), aU, aI (w32 (l11 + 1)), aU, aU, aU, aU] [] (up s1 56 14 (w32 (100 + l11))) else sem 190 25 [aA 56, aI l1, aI l2, aI l3, aI l4, aI l5, aI l6, aL l7, aU, aL (if (0 : Int) < (cmpL a2 (if (0 : Int) < (cmpL l12 l9) then l12 else l9)) then a2 else if (0 : Int) < (cmpL l12 l9) then l12 else l9), aU, aI (w32 (l11 + 1)), aU, aU, aU, aU] [] (up s1 56 14 (s1 56 14)) := by
  refine (y_put0 (ji := 14) rfl f190_73 rfl rfl).trans ?_
  refine (g_t rfl).trans ?_
  refine (x_lload f190_76 rfl rfl).trans ?_
  refine (x_lload f190_78 rfl rfl).trans ?_
  refine (x_lcmp f190_80 rfl).trans ?_
  refine (x_if_le (tg := 89) f190_81 rfl rfl).trans ?_
  refine Eq.trans (b := if (0 : Int) < (cmpL l12 l9) then sem 190 91 [aA 56, aI l1, aI l2, aI l3, aI l4, aI l5, aI l6, aL l7, aU, aU, aU, aI l11, aU, aU, aU, aU] [aL l12] (up s 56 14 v0) else sem 190 91 [aA 56, aI l1, aI l2, aI l3, aI l4, aI l5, aI l6, aL l7, aU, aU, aU, aI l11, aU, aU, aU, aU] [aL l9] (up s 56 14 v0)) (i_c ?_ ?_) ?_
  · refine (x_lload f190_84 rfl rfl).trans ?_
    refine (x_goto (tg := 91) f190_86 rfl rfl).trans ?_
    exact x_kil f190_91 rfl
  · refine (x_lload f190_89 rfl rfl).trans ?_
    exact x_kil f190_91 rfl
  refine m_L.trans ?_
  refine (x_lstore (l2 := [aA 56, aI l1, aI l2, aI l3, aI l4, aI l5, aI l6, aL l7, aU, aL (if (0 : Int) < (cmpL l12 l9) then l12 else l9), aU, aI l11, aU, aU, aU, aU]) f190_91 rfl rfl).trans ?_
  refine (x_aload f190_93 rfl rfl).trans ?_
  refine (x_iload f190_94 rfl rfl).trans ?_
  refine (x_iload f190_95 rfl rfl).trans ?_
  refine (x_iload f190_96 rfl rfl).trans ?_
  refine (x_iload f190_97 rfl rfl).trans ?_
  refine (x_iload f190_99 rfl rfl).trans ?_
  refine (x_iload f190_101 rfl rfl).trans ?_
  refine (x_iadd f190_103 rfl).trans ?_
  refine (x_iload f190_104 rfl rfl).trans ?_
  refine (x_iload f190_106 rfl rfl).trans ?_
  refine (x_isub f190_108 rfl).trans ?_
  refine (x_lload f190_109 rfl rfl).trans ?_
  refine (x_invokevirtual (G := grd (kd 56 = 9) (bnL (sem 189 0 [aA 56, aI l1, aI l2, aI l3, aI l4, aI (w32 (l5 + l11)), aI (w32 (l6 - l11)), aL l7, aU, aU, aU, aU, aU, aU, aU, aU, aU, aU, aU] [] (up s 56 14 v0)) fun a2 s1 => sem 190 114 [aA 56, aI l1, aI l2, aI l3, aI l4, aI l5, aI l6, aL l7, aU, aL (if (0 : Int) < (cmpL l12 l9) then l12 else l9), aU, aI l11, aU, aU, aU, aU] [aL a2] s1)) f190_111 rfl rfl).trans ?_
  refine (g_t rfl).trans ?_
  refine bL_h fun a2 s1 qs1 => ?_
  have rs1 := RefC.sem qs1 rfl (RefC.upd hR (rcb_f (c := 9) (j := 14) rfl (by decide) (by decide)))
  refine (x_lstore (l2 := [aA 56, aI l1, aI l2, aI l3, aI l4, aI l5, aI l6, aL l7, aU, aL (if (0 : Int) < (cmpL l12 l9) then l12 else l9), aU, aI l11, aU, aU, aL a2, aU]) f190_114 rfl rfl).trans ?_
  refine (x_aload f190_116 rfl rfl).trans ?_
  refine (x_lload f190_117 rfl rfl).trans ?_
  refine (x_lload f190_119 rfl rfl).trans ?_
  refine (x_lcmp f190_121 rfl).trans ?_
  refine (x_if_le (tg := 133) f190_122 rfl rfl).trans (i_c ?_ ?_)
  · refine (x_iconst f190_125 rfl).trans ?_
    refine (x_iload f190_127 rfl rfl).trans ?_
    refine (x_iadd f190_129 rfl).trans ?_
    refine (x_goto (tg := 137) f190_130 rfl rfl).trans ?_
    refine (y_put0 (ji := 14) rfl f190_137 rfl rfl).trans ?_
    refine (g_t rfl).trans ?_
    refine (x_lload f190_140 rfl rfl).trans ?_
    refine (x_lload f190_142 rfl rfl).trans ?_
    refine (x_lcmp f190_144 rfl).trans ?_
    refine (x_if_le (tg := 153) f190_145 rfl rfl).trans ?_
    refine Eq.trans (b := if (0 : Int) < (cmpL a2 (if (0 : Int) < (cmpL l12 l9) then l12 else l9)) then sem 190 155 [aA 56, aI l1, aI l2, aI l3, aI l4, aI l5, aI l6, aL l7, aU, aU, aU, aI l11, aU, aU, aU, aU] [aL a2] (up s1 56 14 (w32 (100 + l11))) else sem 190 155 [aA 56, aI l1, aI l2, aI l3, aI l4, aI l5, aI l6, aL l7, aU, aU, aU, aI l11, aU, aU, aU, aU] [aL (if (0 : Int) < (cmpL l12 l9) then l12 else l9)] (up s1 56 14 (w32 (100 + l11)))) (i_c ?_ ?_) ?_
    · refine (x_lload f190_148 rfl rfl).trans ?_
      refine (x_goto (tg := 155) f190_150 rfl rfl).trans ?_
      exact x_kil f190_155 rfl
    · refine (x_lload f190_153 rfl rfl).trans ?_
      exact x_kil f190_155 rfl
    refine m_L.trans ?_
    refine (x_lstore (l2 := [aA 56, aI l1, aI l2, aI l3, aI l4, aI l5, aI l6, aL l7, aU, aL (if (0 : Int) < (cmpL a2 (if (0 : Int) < (cmpL l12 l9) then l12 else l9)) then a2 else if (0 : Int) < (cmpL l12 l9) then l12 else l9), aU, aI l11, aU, aU, aU, aU]) f190_155 rfl rfl).trans ?_
    refine (x_iinc (l2 := [aA 56, aI l1, aI l2, aI l3, aI l4, aI l5, aI l6, aL l7, aU, aL (if (0 : Int) < (cmpL a2 (if (0 : Int) < (cmpL l12 l9) then l12 else l9)) then a2 else if (0 : Int) < (cmpL l12 l9) then l12 else l9), aU, aI (w32 (l11 + 1)), aU, aU, aU, aU]) f190_157 rfl rfl rfl).trans ?_
    refine (x_goto (tg := 25) f190_160 rfl rfl).trans ?_
    rfl
  · refine (x_aload f190_133 rfl rfl).trans ?_
    refine (y_get0 (ji := 14) rfl f190_134 rfl rfl).trans ?_
    refine (g_t rfl).trans ?_
    refine (y_put0 (ji := 14) rfl f190_137 rfl rfl).trans ?_
    refine (g_t rfl).trans ?_
    refine (x_lload f190_140 rfl rfl).trans ?_
    refine (x_lload f190_142 rfl rfl).trans ?_
    refine (x_lcmp f190_144 rfl).trans ?_
    refine (x_if_le (tg := 153) f190_145 rfl rfl).trans ?_
    refine Eq.trans (b := if (0 : Int) < (cmpL a2 (if (0 : Int) < (cmpL l12 l9) then l12 else l9)) then sem 190 155 [aA 56, aI l1, aI l2, aI l3, aI l4, aI l5, aI l6, aL l7, aU, aU, aU, aI l11, aU, aU, aU, aU] [aL a2] (up s1 56 14 (s1 56 14)) else sem 190 155 [aA 56, aI l1, aI l2, aI l3, aI l4, aI l5, aI l6, aL l7, aU, aU, aU, aI l11, aU, aU, aU, aU] [aL (if (0 : Int) < (cmpL l12 l9) then l12 else l9)] (up s1 56 14 (s1 56 14))) (i_c ?_ ?_) ?_
    · refine (x_lload f190_148 rfl rfl).trans ?_
      refine (x_goto (tg := 155) f190_150 rfl rfl).trans ?_
      exact x_kil f190_155 rfl
    · refine (x_lload f190_153 rfl rfl).trans ?_
      exact x_kil f190_155 rfl
    refine m_L.trans ?_
    refine (x_lstore (l2 := [aA 56, aI l1, aI l2, aI l3, aI l4, aI l5, aI l6, aL l7, aU, aL (if (0 : Int) < (cmpL a2 (if (0 : Int) < (cmpL l12 l9) then l12 else l9)) then a2 else if (0 : Int) < (cmpL l12 l9) then l12 else l9), aU, aI l11, aU, aU, aU, aU]) f190_155 rfl rfl).trans ?_
    refine (x_iinc (l2 := [aA 56, aI l1, aI l2, aI l3, aI l4, aI l5, aI l6, aL l7, aU, aL (if (0 : Int) < (cmpL a2 (if (0 : Int) < (cmpL l12 l9) then l12 else l9)) then a2 else if (0 : Int) < (cmpL l12 l9) then l12 else l9), aU, aI (w32 (l11 + 1)), aU, aU, aU, aU]) f190_157 rfl rfl rfl).trans ?_
    refine (x_goto (tg := 25) f190_160 rfl rfl).trans ?_
    rfl
set_option maxRecDepth 10000 in
theorem g191_0 {s : SG} (hR : RefC s) (l1 l2 l3 l4 l5 : Int) : sem 191 0 [aA 56, aI l1, aI l2, aI l3, aI l4, aI l5, aU, aU, aU, aU, aU, aU] [] s = sem 191 3 [aA 56, aI l1, aI l2, aI l3, aI l4, aI l5, aI 0, aU, aU, aU, aU, aU] [] s := by
  refine (x_iconst f191_0 rfl).trans ?_
  refine (x_istore (l2 := [aA 56, aI l1, aI l2, aI l3, aI l4, aI l5, aI 0, aU, aU, aU, aU, aU]) f191_1 rfl rfl).trans ?_
  rfl
set_option maxRecDepth 10000 in
theorem g191_3 {s : SG} (hR : RefC s) (l1 l2 l3 l4 l5 l6 : Int) : sem 191 3 [aA 56, aI l1, aI l2, aI l3, aI l4, aI l5, aI l6, aU, aU, aU, aU, aU] [] s = if l6 < 2197 then grd ((0 : Int) ≤ l6 ∧ l6 < 2197) (sem 191 3 [aA 56, aI l1, aI l2, aI l3, aI l4, aI l5, aI (w32 (l6 + 1)), aU, aU, aU, aU, aU] [] (up s 65 l6 0)) else sem 191 31 [aA 56, aI l1, aI l2, aI l3, aI l4, aI l5, aL 1, aU, aI 0, aU, aU, aU] [] s := by
  refine (x_iload f191_3 rfl rfl).trans ?_
  refine (x_iconst f191_5 rfl).trans ?_
  refine (x_icmp_ge (tg := 25) f191_8 rfl rfl).trans (i_c ?_ ?_)
  · refine (x_aload f191_11 rfl rfl).trans ?_
    refine (y_get2 (ji := 13) rfl f191_12 rfl rfl).trans ?_
    refine (g_t rfl).trans ?_
    refine (g_t (by rw [show s 56 13 = 65 from hR.2.2.2.2.2.2.2.2.2.2.2.2.2.2.2.2.2.2.2.2.2.2.2.2.2.2.2.2.2.2.2.2.2.2.2.2.2.2.2.2.2.2.2.2.2.2.2.2.2.2.2.2.2.2.2.2.2.2.2.2.2.1]; decide)).trans ?_
    rw [show s 56 13 = 65 from hR.2.2.2.2.2.2.2.2.2.2.2.2.2.2.2.2.2.2.2.2.2.2.2.2.2.2.2.2.2.2.2.2.2.2.2.2.2.2.2.2.2.2.2.2.2.2.2.2.2.2.2.2.2.2.2.2.2.2.2.2.2.1]
    refine (x_iload f191_15 rfl rfl).trans ?_
    refine (x_lconst f191_17 rfl).trans ?_
    refine (x_lastore f191_18 rfl).trans ?_
    refine (g_t rfl).trans ?_
    refine g_kl (n := 2197) rfl fun hg1 => ?_
    refine (x_iinc (l2 := [aA 56, aI l1, aI l2, aI l3, aI l4, aI l5, aI (w32 (l6 + 1)), aU, aU, aU, aU, aU]) f191_19 rfl rfl rfl).trans ?_
    refine (x_goto (tg := 3) f191_22 rfl rfl).trans ?_
    rfl
  · refine (x_lconst f191_25 rfl).trans ?_
    refine (x_lstore (l2 := [aA 56, aI l1, aI l2, aI l3, aI l4, aI l5, aL 1, aU, aU, aU, aU, aU]) f191_26 rfl rfl).trans ?_
    refine (x_iconst f191_28 rfl).trans ?_
    refine (x_istore (l2 := [aA 56, aI l1, aI l2, aI l3, aI l4, aI l5, aL 1, aU, aI 0, aU, aU, aU]) f191_29 rfl rfl).trans ?_
    rfl
set_option maxRecDepth 10000 in
theorem g191_31 {s : SG} (hR : RefC s) (l1 l2 l3 l4 l5 l6 l8 : Int) : sem 191 31 [aA 56, aI l1, aI l2, aI l3, aI l4, aI l5, aL l6, aU, aI l8, aU, aU, aU] [] s = if l8 < l5 then sem 191 41 [aA 56, aI l1, aI l2, aI l3, aI l4, aI l5, aL l6, aU, aI l8, aI 0, aU, aU] [] s else some (aL l6, s) := by
  refine (x_iload f191_31 rfl rfl).trans ?_
  refine (x_iload f191_33 rfl rfl).trans ?_
  refine (x_icmp_ge (tg := 169) f191_35 rfl rfl).trans (i_c ?_ ?_)
  · refine (x_iconst f191_38 rfl).trans ?_
    refine (x_istore (l2 := [aA 56, aI l1, aI l2, aI l3, aI l4, aI l5, aL l6, aU, aI l8, aI 0, aU, aU]) f191_39 rfl rfl).trans ?_
    rfl
  · refine (x_lload f191_169 rfl rfl).trans ?_
    exact x_lreturn f191_171 rfl
set_option maxRecDepth 10000 in
theorem g191_41 {s : SG} (hR : RefC s) (l1 l2 l3 l4 l5 l6 l8 l9 : Int) : sem 191 41 [aA 56, aI l1, aI l2, aI l3, aI l4, aI l5, aL l6, aU, aI l8, aI l9, aU, aU] [] s = if l4 < l9 then sem 191 127 [aA 56, aI l1, aI l2, aI l3, aI l4, aI l5, aL l6, aU, aI l8, aI 0, aU, aU] [] s else sem 191 51 [aA 56, aI l1, aI l2, aI l3, aI l4, aI l5, aL l6, aU, aI l8, aI l9, aI 0, aU] [] s := by
  refine (x_iload f191_41 rfl rfl).trans ?_
  refine (x_iload f191_43 rfl rfl).trans ?_
  refine (x_icmp_gt (tg := 124) f191_45 rfl rfl).trans (i_c ?_ ?_)
  · refine (x_iconst f191_124 rfl).trans ?_
    refine (x_istore (l2 := [aA 56, aI l1, aI l2, aI l3, aI l4, aI l5, aL l6, aU, aI l8, aI 0, aU, aU]) f191_125 rfl rfl).trans ?_
    rfl
  · refine (x_iconst f191_48 rfl).trans ?_
    refine (x_istore (l2 := [aA 56, aI l1, aI l2, aI l3, aI l4, aI l5, aL l6, aU, aI l8, aI l9, aI 0, aU]) f191_49 rfl rfl).trans ?_
    rfl
set_option maxRecDepth 10000 in
theorem g191_51 {s : SG} (hR : RefC s) (l1 l2 l3 l4 l5 l6 l8 l9 l10 : Int) : sem 191 51 [aA 56, aI l1, aI l2, aI l3, aI l4, aI l5, aL l6, aU, aI l8, aI l9, aI l10, aU] [] s = if l4 < (w32 (l9 + l10)) then sem 191 41 [aA 56, aI l1, aI l2, aI l3, aI l4, aI l5, aL l6, aU, aI l8, aI (w32 (l9 + 1)), aU, aU] [] s else sem 191 64 [aA 56, aI l1, aI l2, aI l3, aI l4, aI l5, aL l6, aU, aI l8, aI l9, aI l10, aI 0] [] s := by
  refine (x_iload f191_51 rfl rfl).trans ?_
  refine (x_iload f191_53 rfl rfl).trans ?_
  refine (x_iadd f191_55 rfl).trans ?_
  refine (x_iload f191_56 rfl rfl).trans ?_
  refine (x_icmp_gt (tg := 118) f191_58 rfl rfl).trans (i_c ?_ ?_)
  · refine (x_iinc (l2 := [aA 56, aI l1, aI l2, aI l3, aI l4, aI l5, aL l6, aU, aI l8, aI (w32 (l9 + 1)), aI l10, aU]) f191_118 rfl rfl rfl).trans ?_
    refine (x_goto (tg := 41) f191_121 rfl rfl).trans ?_
    exact x_kil f191_41 rfl
  · refine (x_iconst f191_61 rfl).trans ?_
    refine (x_istore (l2 := [aA 56, aI l1, aI l2, aI l3, aI l4, aI l5, aL l6, aU, aI l8, aI l9, aI l10, aI 0]) f191_62 rfl rfl).trans ?_
    rfl
set_option maxRecDepth 10000 in
theorem g191_64 {s : SG} (hR : RefC s) (l1 l2 l3 l4 l5 l6 l8 l9 l10 l11 : Int) : sem 191 64 [aA 56, aI l1, aI l2, aI l3, aI l4, aI l5, aL l6, aU, aI l8, aI l9, aI l10, aI l11] [] s = if l4 < (w32 ((w32 (l9 + l10)) + l11)) then sem 191 51 [aA 56, aI l1, aI l2, aI l3, aI l4, aI l5, aL l6, aU, aI l8, aI l9, aI (w32 (l10 + 1)), aU] [] s else bnI (sem 187 0 [aI l9, aI l10, aI l11] [] s) fun a2 s1 => bnL (sem 190 0 [aA 56, aI l1, aI l2, aI l3, aI l9, aI l10, aI l11, aL l6, aU, aU, aU, aU, aU, aU, aU, aU] [] s1) fun a4 s3 => grd ((0 : Int) ≤ a2 ∧ a2 < 2197) (sem 191 64 [aA 56, aI l1, aI l2, aI l3, aI l4, aI l5, aL l6, aU, aI l8, aI l9, aI l10, aI (w32 (l11 + 1))] [] (up s3 64 a2 a4)) := by
  refine (x_iload f191_64 rfl rfl).trans ?_
  refine (x_iload f191_66 rfl rfl).trans ?_
  refine (x_iadd f191_68 rfl).trans ?_
  refine (x_iload f191_69 rfl rfl).trans ?_
  refine (x_iadd f191_71 rfl).trans ?_
  refine (x_iload f191_72 rfl rfl).trans ?_
  refine (x_icmp_gt (tg := 112) f191_74 rfl rfl).trans (i_c ?_ ?_)
  · refine (x_iinc (l2 := [aA 56, aI l1, aI l2, aI l3, aI l4, aI l5, aL l6, aU, aI l8, aI l9, aI (w32 (l10 + 1)), aI l11]) f191_112 rfl rfl rfl).trans ?_
    refine (x_goto (tg := 51) f191_115 rfl rfl).trans ?_
    exact x_kil f191_51 rfl
  · refine (x_aload f191_77 rfl rfl).trans ?_
    refine (y_get2 (ji := 12) rfl f191_78 rfl rfl).trans ?_
    refine (g_t rfl).trans ?_
    refine (g_t (by rw [show s 56 12 = 64 from hR.2.2.2.2.2.2.2.2.2.2.2.2.2.2.2.2.2.2.2.2.2.2.2.2.2.2.2.2.2.2.2.2.2.2.2.2.2.2.2.2.2.2.2.2.2.2.2.2.2.2.2.2.2.2.2.2.2.2.2.2.1]; decide)).trans ?_
    rw [show s 56 12 = 64 from hR.2.2.2.2.2.2.2.2.2.2.2.2.2.2.2.2.2.2.2.2.2.2.2.2.2.2.2.2.2.2.2.2.2.2.2.2.2.2.2.2.2.2.2.2.2.2.2.2.2.2.2.2.2.2.2.2.2.2.2.2.1]
    refine (x_iload f191_81 rfl rfl).trans ?_
    refine (x_iload f191_83 rfl rfl).trans ?_
    refine (x_iload f191_85 rfl rfl).trans ?_
    refine (x_invokestatic (G := bnI (sem 187 0 [aI l9, aI l10, aI l11] [] s) fun a2 s1 => sem 191 90 [aA 56, aI l1, aI l2, aI l3, aI l4, aI l5, aL l6, aU, aI l8, aI l9, aI l10, aI l11] [aI a2, aA 64] s1) f191_87 rfl rfl).trans ?_
    refine bI_h fun a2 s1 qs1 => ?_
    have rs1 := RefC.sem qs1 rfl hR
    refine (x_aload f191_90 rfl rfl).trans ?_
    refine (x_iload f191_91 rfl rfl).trans ?_
    refine (x_iload f191_92 rfl rfl).trans ?_
    refine (x_iload f191_93 rfl rfl).trans ?_
    refine (x_iload f191_94 rfl rfl).trans ?_
    refine (x_iload f191_96 rfl rfl).trans ?_
    refine (x_iload f191_98 rfl rfl).trans ?_
    refine (x_lload f191_100 rfl rfl).trans ?_
    refine (x_invokevirtual (G := grd (kd 56 = 9) (bnL (sem 190 0 [aA 56, aI l1, aI l2, aI l3, aI l9, aI l10, aI l11, aL l6, aU, aU, aU, aU, aU, aU, aU, aU] [] s1) fun a4 s3 => sem 191 105 [aA 56, aI l1, aI l2, aI l3, aI l4, aI l5, aL l6, aU, aI l8, aI l9, aI l10, aI l11] [aL a4, aI a2, aA 64] s3)) f191_102 rfl rfl).trans ?_
    refine (g_t rfl).trans ?_
    refine bL_h fun a4 s3 qs3 => ?_
    have rs3 := RefC.sem qs3 rfl rs1
    refine (x_lastore f191_105 rfl).trans ?_
    refine (g_t rfl).trans ?_
    refine g_kl (n := 2197) rfl fun hg5 => ?_
    refine (x_iinc (l2 := [aA 56, aI l1, aI l2, aI l3, aI l4, aI l5, aL l6, aU, aI l8, aI l9, aI l10, aI (w32 (l11 + 1))]) f191_106 rfl rfl rfl).trans ?_
    refine (x_goto (tg := 64) f191_109 rfl rfl).trans ?_
    rfl
set_option maxRecDepth 10000 in
theorem g191_127 {s : SG} (hR : RefC s) (l1 l2 l3 l4 l5 l6 l8 l9 : Int) : sem 191 127 [aA 56, aI l1, aI l2, aI l3, aI l4, aI l5, aL l6, aU, aI l8, aI l9, aU, aU] [] s = if l9 < 2197 then grd ((0 : Int) ≤ l9 ∧ l9 < 2197) (sem 191 127 [aA 56, aI l1, aI l2, aI l3, aI l4, aI l5, aL l6, aU, aI l8, aI (w32 (l9 + 1)), aU, aU] [] (up s 65 l9 (s 64 l9))) else sem 191 31 [aA 56, aI l1, aI l2, aI l3, aI l4, aI l5, aL (w64 (l6 * 100)), aU, aI (w32 (l8 + 1)), aU, aU, aU] [] s := by
  refine (x_iload f191_127 rfl rfl).trans ?_
  refine (x_iconst f191_129 rfl).trans ?_
  refine (x_icmp_ge (tg := 155) f191_132 rfl rfl).trans (i_c ?_ ?_)
  · refine (x_aload f191_135 rfl rfl).trans ?_
    refine (y_get2 (ji := 13) rfl f191_136 rfl rfl).trans ?_
    refine (g_t rfl).trans ?_
    refine (g_t (by rw [show s 56 13 = 65 from hR.2.2.2.2.2.2.2.2.2.2.2.2.2.2.2.2.2.2.2.2.2.2.2.2.2.2.2.2.2.2.2.2.2.2.2.2.2.2.2.2.2.2.2.2.2.2.2.2.2.2.2.2.2.2.2.2.2.2.2.2.2.1]; decide)).trans ?_
    rw [show s 56 13 = 65 from hR.2.2.2.2.2.2.2.2.2.2.2.2.2.2.2.2.2.2.2.2.2.2.2.2.2.2.2.2.2.2.2.2.2.2.2.2.2.2.2.2.2.2.2.2.2.2.2.2.2.2.2.2.2.2.2.2.2.2.2.2.2.1]
    refine (x_iload f191_139 rfl rfl).trans ?_
    refine (x_aload f191_141 rfl rfl).trans ?_
    refine (y_get2 (ji := 12) rfl f191_142 rfl rfl).trans ?_
    refine (g_t rfl).trans ?_
    refine (g_t (by rw [show s 56 12 = 64 from hR.2.2.2.2.2.2.2.2.2.2.2.2.2.2.2.2.2.2.2.2.2.2.2.2.2.2.2.2.2.2.2.2.2.2.2.2.2.2.2.2.2.2.2.2.2.2.2.2.2.2.2.2.2.2.2.2.2.2.2.2.1]; decide)).trans ?_
    rw [show s 56 12 = 64 from hR.2.2.2.2.2.2.2.2.2.2.2.2.2.2.2.2.2.2.2.2.2.2.2.2.2.2.2.2.2.2.2.2.2.2.2.2.2.2.2.2.2.2.2.2.2.2.2.2.2.2.2.2.2.2.2.2.2.2.2.2.1]
    refine (x_iload f191_145 rfl rfl).trans ?_
    refine (x_laload f191_147 rfl).trans ?_
    refine (g_t rfl).trans ?_
    refine g_kl (n := 2197) rfl fun hg1 => ?_
    refine (x_lastore f191_148 rfl).trans ?_
    refine (g_t rfl).trans ?_
    refine (g_kt (n := 2197) rfl hg1).trans ?_
    refine (x_iinc (l2 := [aA 56, aI l1, aI l2, aI l3, aI l4, aI l5, aL l6, aU, aI l8, aI (w32 (l9 + 1)), aU, aU]) f191_149 rfl rfl rfl).trans ?_
    refine (x_goto (tg := 127) f191_152 rfl rfl).trans ?_
    rfl
  · refine (x_lload f191_155 rfl rfl).trans ?_
    refine (x_lconst f191_157 rfl).trans ?_
    refine (x_lmul f191_160 rfl).trans ?_
    refine (x_lstore (l2 := [aA 56, aI l1, aI l2, aI l3, aI l4, aI l5, aL (w64 (l6 * 100)), aU, aI l8, aI l9, aU, aU]) f191_161 rfl rfl).trans ?_
    refine (x_iinc (l2 := [aA 56, aI l1, aI l2, aI l3, aI l4, aI l5, aL (w64 (l6 * 100)), aU, aI (w32 (l8 + 1)), aI l9, aU, aU]) f191_163 rfl rfl rfl).trans ?_
    refine (x_goto (tg := 31) f191_166 rfl rfl).trans ?_
    exact x_kil f191_31 rfl
set_option maxRecDepth 10000 in
theorem g192_0 {s : SG} (hR : RefC s) (l1 l2 l3 l4 l5 l6 l7 l8 : Int) : sem 192 0 [aA 56, aI l1, aI l2, aI l3, aI l4, aI l5, aI l6, aI l7, aI l8] [] s = bnI (sem 163 0 [aA 56, aI l1] [] s) fun a2 s1 => if a2 = 0 then some (aI ((-1)), s1) else bnI (sem 163 0 [aA 56, aI l2] [] s1) fun a4 s3 => if a4 = 0 then some (aI ((-1)), s3) else bnI (sem 164 0 [aI l3] [] s3) fun a6 s5 => if a6 = 0 then some (aI ((-1)), s5) else bnI (sem 152 0 [aL l4, aU, aL 0, aU, aL 12, aU] [] s5) fun a8 s7 => if a8 = 0 then some (aI ((-2)), s7) else bnI (sem 152 0 [aL l5, aU, aL 0, aU, aL 12, aU] [] s7) fun a10 s9 => if a10 = 0 then some (aI ((-2)), s9) else bnI (sem 152 0 [aL l6, aU, aL 0, aU, aL 12, aU] [] s9) fun a12 s11 => if a12 = 0 then some (aI ((-2)), s11) else if (12 : Int) < (w32 ((w32 (l4 + l5)) + l6)) then some (aI ((-2)), s11) else bnI (sem 152 0 [aL l7, aU, aL l8, aU, aL 6, aU] [] s11) fun a14 s13 => if a14 = 0 then some (aI ((-2)), s13) else if l1 = l2 then some (aI ((-3)), s13) else some (aI 0, s13) := by
  refine (x_aload f192_0 rfl rfl).trans ?_
  refine (x_iload f192_1 rfl rfl).trans ?_
  refine (x_invokevirtual (G := grd (kd 56 = 9) (bnI (sem 163 0 [aA 56, aI l1] [] s) fun a2 s1 => sem 192 5 [aA 56, aI l1, aI l2, aI l3, aI l4, aI l5, aI l6, aI l7, aI l8] [aI a2] s1)) f192_2 rfl rfl).trans ?_
  refine (g_t rfl).trans ?_
  refine bI_h fun a2 s1 qs1 => ?_
  have rs1 := RefC.sem qs1 rfl hR
  refine (x_if_eq (tg := 23) f192_5 rfl rfl).trans (i_c ?_ ?_)
  · refine (x_kil (l2 := [aU, aU, aU, aU, aU, aU, aU, aU, aU]) f192_23 rfl).trans ?_
    refine (x_iconst f192_23 rfl).trans ?_
    exact x_ireturn f192_24 rfl
  · refine (x_aload f192_8 rfl rfl).trans ?_
    refine (x_iload f192_9 rfl rfl).trans ?_
    refine (x_invokevirtual (G := grd (kd 56 = 9) (bnI (sem 163 0 [aA 56, aI l2] [] s1) fun a4 s3 => sem 192 13 [aA 56, aI l1, aI l2, aI l3, aI l4, aI l5, aI l6, aI l7, aI l8] [aI a4] s3)) f192_10 rfl rfl).trans ?_
    refine (g_t rfl).trans ?_
    refine bI_h fun a4 s3 qs3 => ?_
    have rs3 := RefC.sem qs3 rfl rs1
    refine (x_if_eq (tg := 23) f192_13 rfl rfl).trans (i_c ?_ ?_)
    · refine (x_kil (l2 := [aU, aU, aU, aU, aU, aU, aU, aU, aU]) f192_23 rfl).trans ?_
      refine (x_iconst f192_23 rfl).trans ?_
      exact x_ireturn f192_24 rfl
    · refine (x_iload f192_16 rfl rfl).trans ?_
      refine (x_invokestatic (G := bnI (sem 164 0 [aI l3] [] s3) fun a6 s5 => sem 192 20 [aA 56, aI l1, aI l2, aI l3, aI l4, aI l5, aI l6, aI l7, aI l8] [aI a6] s5) f192_17 rfl rfl).trans ?_
      refine bI_h fun a6 s5 qs5 => ?_
      have rs5 := RefC.sem qs5 rfl rs3
      refine (x_if_ne (tg := 25) f192_20 rfl rfl).trans (i_c ?_ ?_)
      · refine (x_kil (l2 := [aU, aU, aU, aU, aU, aU, aU, aU, aU]) f192_23 rfl).trans ?_
        refine (x_iconst f192_23 rfl).trans ?_
        exact x_ireturn f192_24 rfl
      · refine (x_iload f192_25 rfl rfl).trans ?_
        refine (x_i2l f192_27 rfl).trans ?_
        refine (x_lconst f192_28 rfl).trans ?_
        refine (x_lconst f192_29 rfl).trans ?_
        refine (x_invokestatic (G := bnI (sem 152 0 [aL l4, aU, aL 0, aU, aL 12, aU] [] s5) fun a8 s7 => sem 192 35 [aA 56, aI l1, aI l2, aI l3, aI l4, aI l5, aI l6, aI l7, aI l8] [aI a8] s7) f192_32 rfl rfl).trans ?_
        refine bI_h fun a8 s7 qs7 => ?_
        have rs7 := RefC.sem qs7 rfl rs5
        refine (x_if_eq (tg := 92) f192_35 rfl rfl).trans (i_c ?_ ?_)
        · refine (x_kil (l2 := [aU, aU, aU, aU, aU, aU, aU, aU, aU]) f192_92 rfl).trans ?_
          refine (x_iconst f192_92 rfl).trans ?_
          exact x_ireturn f192_94 rfl
        · refine (x_iload f192_38 rfl rfl).trans ?_
          refine (x_i2l f192_40 rfl).trans ?_
          refine (x_lconst f192_41 rfl).trans ?_
          refine (x_lconst f192_42 rfl).trans ?_
          refine (x_invokestatic (G := bnI (sem 152 0 [aL l5, aU, aL 0, aU, aL 12, aU] [] s7) fun a10 s9 => sem 192 48 [aA 56, aI l1, aI l2, aI l3, aI l4, aI l5, aI l6, aI l7, aI l8] [aI a10] s9) f192_45 rfl rfl).trans ?_
          refine bI_h fun a10 s9 qs9 => ?_
          have rs9 := RefC.sem qs9 rfl rs7
          refine (x_if_eq (tg := 92) f192_48 rfl rfl).trans (i_c ?_ ?_)
          · refine (x_kil (l2 := [aU, aU, aU, aU, aU, aU, aU, aU, aU]) f192_92 rfl).trans ?_
            refine (x_iconst f192_92 rfl).trans ?_
            exact x_ireturn f192_94 rfl
          · refine (x_iload f192_51 rfl rfl).trans ?_
            refine (x_i2l f192_53 rfl).trans ?_
            refine (x_lconst f192_54 rfl).trans ?_
            refine (x_lconst f192_55 rfl).trans ?_
            refine (x_invokestatic (G := bnI (sem 152 0 [aL l6, aU, aL 0, aU, aL 12, aU] [] s9) fun a12 s11 => sem 192 61 [aA 56, aI l1, aI l2, aI l3, aI l4, aI l5, aI l6, aI l7, aI l8] [aI a12] s11) f192_58 rfl rfl).trans ?_
            refine bI_h fun a12 s11 qs11 => ?_
            have rs11 := RefC.sem qs11 rfl rs9
            refine (x_if_eq (tg := 92) f192_61 rfl rfl).trans (i_c ?_ ?_)
            · refine (x_kil (l2 := [aU, aU, aU, aU, aU, aU, aU, aU, aU]) f192_92 rfl).trans ?_
              refine (x_iconst f192_92 rfl).trans ?_
              exact x_ireturn f192_94 rfl
            · refine (x_iload f192_64 rfl rfl).trans ?_
              refine (x_iload f192_66 rfl rfl).trans ?_
              refine (x_iadd f192_68 rfl).trans ?_
              refine (x_iload f192_69 rfl rfl).trans ?_
              refine (x_iadd f192_71 rfl).trans ?_
              refine (x_iconst f192_72 rfl).trans ?_
              refine (x_icmp_gt (tg := 92) f192_74 rfl rfl).trans (i_c ?_ ?_)
              · refine (x_kil (l2 := [aU, aU, aU, aU, aU, aU, aU, aU, aU]) f192_92 rfl).trans ?_
                refine (x_iconst f192_92 rfl).trans ?_
                exact x_ireturn f192_94 rfl
              · refine (x_iload f192_77 rfl rfl).trans ?_
                refine (x_i2l f192_79 rfl).trans ?_
                refine (x_iload f192_80 rfl rfl).trans ?_
                refine (x_i2l f192_82 rfl).trans ?_
                refine (x_lconst f192_83 rfl).trans ?_
                refine (x_invokestatic (G := bnI (sem 152 0 [aL l7, aU, aL l8, aU, aL 6, aU] [] s11) fun a14 s13 => sem 192 89 [aA 56, aI l1, aI l2, aI l3, aI l4, aI l5, aI l6, aI l7, aI l8] [aI a14] s13) f192_86 rfl rfl).trans ?_
                refine bI_h fun a14 s13 qs13 => ?_
                have rs13 := RefC.sem qs13 rfl rs11
                refine (x_if_ne (tg := 95) f192_89 rfl rfl).trans (i_c ?_ ?_)
                · refine (x_kil (l2 := [aU, aU, aU, aU, aU, aU, aU, aU, aU]) f192_92 rfl).trans ?_
                  refine (x_iconst f192_92 rfl).trans ?_
                  exact x_ireturn f192_94 rfl
                · refine (x_iload f192_95 rfl rfl).trans ?_
                  refine (x_iload f192_96 rfl rfl).trans ?_
                  refine (x_icmp_ne (tg := 105) f192_97 rfl rfl).trans (i_c ?_ ?_)
                  · refine (x_iconst f192_100 rfl).trans ?_
                    refine (x_goto (tg := 106) f192_102 rfl rfl).trans ?_
                    refine (x_kil (l2 := [aU, aU, aU, aU, aU, aU, aU, aU, aU]) f192_106 rfl).trans ?_
                    exact x_ireturn f192_106 rfl
                  · refine (x_iconst f192_105 rfl).trans ?_
                    refine (x_kil (l2 := [aU, aU, aU, aU, aU, aU, aU, aU, aU]) f192_106 rfl).trans ?_
                    exact x_ireturn f192_106 rfl
set_option maxRecDepth 10000 in
theorem g193_0 {s : SG} (hR : RefC s) (l1 l2 l3 l4 l5 l6 : Int) : sem 193 0 [aA 56, aI l1, aI l2, aI l3, aI l4, aI l5, aI l6, aU, aU, aU, aU, aU, aU, aU] [] s = bnI (sem 192 0 [aA 56, aI (w32 (Int.tdiv l1 10)), aI (remA l1 10), aI l2, aI (w32 (Int.tdiv l3 100)), aI (remA l3 100), aI l4, aI l5, aI 0] [] s) fun a2 s1 => if a2 < 0 then some (aL a2, s1) else bnL (sem 191 0 [aA 56, aI (w32 (Int.tdiv l1 10)), aI (remA l1 10), aI l2, aI (w32 ((w32 ((w32 (Int.tdiv l3 100)) + (remA l3 100))) + l4)), aI l5, aU, aU, aU, aU, aU, aU] [] s1) fun a4 s3 => bnI (sem 187 0 [aI (w32 (Int.tdiv l3 100)), aI (remA l3 100), aI l4] [] s3) fun a6 s5 => grd ((0 : Int) ≤ a6 ∧ a6 < 2197) (bnL (sem 170 0 [aL (s5 65 a6), aU, aL a4, aU, aI l6, aU, aU, aU, aU, aU, aU] [] s5) fun a9 s8 => some (aL a9, s8)) := by
  refine (x_iload f193_0 rfl rfl).trans ?_
  refine (x_iconst f193_1 rfl).trans ?_
  refine (x_idiv f193_3 rfl).trans ?_
  refine (g_t (by decide)).trans ?_
  refine (x_istore (l2 := [aA 56, aI l1, aI l2, aI l3, aI l4, aI l5, aI l6, aI (w32 (Int.tdiv l1 10)), aU, aU, aU, aU, aU, aU]) f193_4 rfl rfl).trans ?_
  refine (x_iload f193_6 rfl rfl).trans ?_
  refine (x_iconst f193_7 rfl).trans ?_
  refine (x_irem f193_9 rfl).trans ?_
  refine (g_t (by decide)).trans ?_
  refine (x_istore (l2 := [aA 56, aI l1, aI l2, aI l3, aI l4, aI l5, aI l6, aI (w32 (Int.tdiv l1 10)), aI (remA l1 10), aU, aU, aU, aU, aU]) f193_10 rfl rfl).trans ?_
  refine (x_iload f193_12 rfl rfl).trans ?_
  refine (x_iconst f193_13 rfl).trans ?_
  refine (x_idiv f193_15 rfl).trans ?_
  refine (g_t (by decide)).trans ?_
  refine (x_istore (l2 := [aA 56, aI l1, aI l2, aI l3, aI l4, aI l5, aI l6, aI (w32 (Int.tdiv l1 10)), aI (remA l1 10), aI (w32 (Int.tdiv l3 100)), aU, aU, aU, aU]) f193_16 rfl rfl).trans ?_
  refine (x_iload f193_18 rfl rfl).trans ?_
  refine (x_iconst f193_19 rfl).trans ?_
  refine (x_irem f193_21 rfl).trans ?_
  refine (g_t (by decide)).trans ?_
  refine (x_istore (l2 := [aA 56, aI l1, aI l2, aI l3, aI l4, aI l5, aI l6, aI (w32 (Int.tdiv l1 10)), aI (remA l1 10), aI (w32 (Int.tdiv l3 100)), aI (remA l3 100), aU, aU, aU]) f193_22 rfl rfl).trans ?_
  refine (x_aload f193_24 rfl rfl).trans ?_
  refine (x_iload f193_25 rfl rfl).trans ?_
  refine (x_iload f193_27 rfl rfl).trans ?_
  refine (x_iload f193_29 rfl rfl).trans ?_
  refine (x_iload f193_30 rfl rfl).trans ?_
  refine (x_iload f193_32 rfl rfl).trans ?_
  refine (x_iload f193_34 rfl rfl).trans ?_
  refine (x_iload f193_36 rfl rfl).trans ?_
  refine (x_iconst f193_38 rfl).trans ?_
  refine (x_invokevirtual (G := grd (kd 56 = 9) (bnI (sem 192 0 [aA 56, aI (w32 (Int.tdiv l1 10)), aI (remA l1 10), aI l2, aI (w32 (Int.tdiv l3 100)), aI (remA l3 100), aI l4, aI l5, aI 0] [] s) fun a2 s1 => sem 193 42 [aA 56, aI l1, aI l2, aI l3, aI l4, aI l5, aI l6, aI (w32 (Int.tdiv l1 10)), aI (remA l1 10), aI (w32 (Int.tdiv l3 100)), aI (remA l3 100), aU, aU, aU] [aI a2] s1)) f193_39 rfl rfl).trans ?_
  refine (g_t rfl).trans ?_
  refine bI_h fun a2 s1 qs1 => ?_
  have rs1 := RefC.sem qs1 rfl hR
  refine (x_istore (l2 := [aA 56, aI l1, aI l2, aI l3, aI l4, aI l5, aI l6, aI (w32 (Int.tdiv l1 10)), aI (remA l1 10), aI (w32 (Int.tdiv l3 100)), aI (remA l3 100), aI a2, aU, aU]) f193_42 rfl rfl).trans ?_
  refine (x_iload f193_44 rfl rfl).trans ?_
  refine (x_if_ge (tg := 53) f193_46 rfl rfl).trans (i_c ?_ ?_)
  · refine (x_iload f193_49 rfl rfl).trans ?_
    refine (x_i2l f193_51 rfl).trans ?_
    exact x_lreturn f193_52 rfl
  · refine (x_aload f193_53 rfl rfl).trans ?_
    refine (x_iload f193_54 rfl rfl).trans ?_
    refine (x_iload f193_56 rfl rfl).trans ?_
    refine (x_iload f193_58 rfl rfl).trans ?_
    refine (x_iload f193_59 rfl rfl).trans ?_
    refine (x_iload f193_61 rfl rfl).trans ?_
    refine (x_iadd f193_63 rfl).trans ?_
    refine (x_iload f193_64 rfl rfl).trans ?_
    refine (x_iadd f193_66 rfl).trans ?_
    refine (x_iload f193_67 rfl rfl).trans ?_
    refine (x_invokevirtual (G := grd (kd 56 = 9) (bnL (sem 191 0 [aA 56, aI (w32 (Int.tdiv l1 10)), aI (remA l1 10), aI l2, aI (w32 ((w32 ((w32 (Int.tdiv l3 100)) + (remA l3 100))) + l4)), aI l5, aU, aU, aU, aU, aU, aU] [] s1) fun a4 s3 => sem 193 72 [aA 56, aI l1, aI l2, aI l3, aI l4, aI l5, aI l6, aI (w32 (Int.tdiv l1 10)), aI (remA l1 10), aI (w32 (Int.tdiv l3 100)), aI (remA l3 100), aI a2, aU, aU] [aL a4] s3)) f193_69 rfl rfl).trans ?_
    refine (g_t rfl).trans ?_
    refine bL_h fun a4 s3 qs3 => ?_
    have rs3 := RefC.sem qs3 rfl rs1
    refine (x_lstore (l2 := [aA 56, aI l1, aI l2, aI l3, aI l4, aI l5, aI l6, aI (w32 (Int.tdiv l1 10)), aI (remA l1 10), aI (w32 (Int.tdiv l3 100)), aI (remA l3 100), aI a2, aL a4, aU]) f193_72 rfl rfl).trans ?_
    refine (x_aload f193_74 rfl rfl).trans ?_
    refine (y_get2 (ji := 13) rfl f193_75 rfl rfl).trans ?_
    refine (g_t rfl).trans ?_
    refine (g_t (by rw [show s3 56 13 = 65 from rs3.2.2.2.2.2.2.2.2.2.2.2.2.2.2.2.2.2.2.2.2.2.2.2.2.2.2.2.2.2.2.2.2.2.2.2.2.2.2.2.2.2.2.2.2.2.2.2.2.2.2.2.2.2.2.2.2.2.2.2.2.2.1]; decide)).trans ?_
    rw [show s3 56 13 = 65 from rs3.2.2.2.2.2.2.2.2.2.2.2.2.2.2.2.2.2.2.2.2.2.2.2.2.2.2.2.2.2.2.2.2.2.2.2.2.2.2.2.2.2.2.2.2.2.2.2.2.2.2.2.2.2.2.2.2.2.2.2.2.2.1]
    refine (x_iload f193_78 rfl rfl).trans ?_
    refine (x_iload f193_80 rfl rfl).trans ?_
    refine (x_iload f193_82 rfl rfl).trans ?_
    refine (x_invokestatic (G := bnI (sem 187 0 [aI (w32 (Int.tdiv l3 100)), aI (remA l3 100), aI l4] [] s3) fun a6 s5 => sem 193 87 [aA 56, aI l1, aI l2, aI l3, aI l4, aI l5, aI l6, aI (w32 (Int.tdiv l1 10)), aI (remA l1 10), aI (w32 (Int.tdiv l3 100)), aI (remA l3 100), aI a2, aL a4, aU] [aI a6, aA 65] s5) f193_84 rfl rfl).trans ?_
    refine bI_h fun a6 s5 qs5 => ?_
    have rs5 := RefC.sem qs5 rfl rs3
    refine (x_laload f193_87 rfl).trans ?_
    refine (g_t rfl).trans ?_
    refine g_kl (n := 2197) rfl fun hg7 => ?_
    refine (x_lload f193_88 rfl rfl).trans ?_
    refine (x_iload f193_90 rfl rfl).trans ?_
    refine (x_invokestatic (G := bnL (sem 170 0 [aL (s5 65 a6), aU, aL a4, aU, aI l6, aU, aU, aU, aU, aU, aU] [] s5) fun a9 s8 => sem 193 95 [aA 56, aI l1, aI l2, aI l3, aI l4, aI l5, aI l6, aI (w32 (Int.tdiv l1 10)), aI (remA l1 10), aI (w32 (Int.tdiv l3 100)), aI (remA l3 100), aI a2, aL a4, aU] [aL a9] s8) f193_92 rfl rfl).trans ?_
    refine bL_h fun a9 s8 qs8 => ?_
    have rs8 := RefC.sem qs8 rfl rs5
    exact x_lreturn f193_95 rfl
set_option maxRecDepth 10000 in
theorem g194_0 {s : SG} (hR : RefC s) (l1 l2 l3 l4 l5 : Int) : sem 194 0 [aA 56, aI l1, aI l2, aI l3, aI l4, aI l5, aU, aU, aU, aU, aU, aU, aU] [] s = bnI (sem 192 0 [aA 56, aI (w32 (Int.tdiv l1 10)), aI (remA l1 10), aI l2, aI (w32 (Int.tdiv l3 100)), aI (remA l3 100), aI l4, aI l5, aI 1] [] s) fun a2 s1 => if a2 < 0 then some (aI a2, s1) else bnL (sem 191 0 [aA 56, aI (w32 (Int.tdiv l1 10)), aI (remA l1 10), aI l2, aI (w32 ((w32 ((w32 (Int.tdiv l3 100)) + (remA l3 100))) + l4)), aI (w32 (l5 - 1)), aU, aU, aU, aU, aU, aU] [] s1) fun a4 s3 => bnL (sem 190 0 [aA 56, aI (w32 (Int.tdiv l1 10)), aI (remA l1 10), aI l2, aI (w32 (Int.tdiv l3 100)), aI (remA l3 100), aI l4, aL a4, aU, aU, aU, aU, aU, aU, aU, aU] [] s3) fun a6 s5 => some (aI (s5 56 14), s5) := by
  refine (x_iload f194_0 rfl rfl).trans ?_
  refine (x_iconst f194_1 rfl).trans ?_
  refine (x_idiv f194_3 rfl).trans ?_
  refine (g_t (by decide)).trans ?_
  refine (x_istore (l2 := [aA 56, aI l1, aI l2, aI l3, aI l4, aI l5, aI (w32 (Int.tdiv l1 10)), aU, aU, aU, aU, aU, aU]) f194_4 rfl rfl).trans ?_
  refine (x_iload f194_6 rfl rfl).trans ?_
  refine (x_iconst f194_7 rfl).trans ?_
  refine (x_irem f194_9 rfl).trans ?_
  refine (g_t (by decide)).trans ?_
  refine (x_istore (l2 := [aA 56, aI l1, aI l2, aI l3, aI l4, aI l5, aI (w32 (Int.tdiv l1 10)), aI (remA l1 10), aU, aU, aU, aU, aU]) f194_10 rfl rfl).trans ?_
  refine (x_iload f194_12 rfl rfl).trans ?_
  refine (x_iconst f194_13 rfl).trans ?_
  refine (x_idiv f194_15 rfl).trans ?_
  refine (g_t (by decide)).trans ?_
  refine (x_istore (l2 := [aA 56, aI l1, aI l2, aI l3, aI l4, aI l5, aI (w32 (Int.tdiv l1 10)), aI (remA l1 10), aI (w32 (Int.tdiv l3 100)), aU, aU, aU, aU]) f194_16 rfl rfl).trans ?_
  refine (x_iload f194_18 rfl rfl).trans ?_
  refine (x_iconst f194_19 rfl).trans ?_
  refine (x_irem f194_21 rfl).trans ?_
  refine (g_t (by decide)).trans ?_
  refine (x_istore (l2 := [aA 56, aI l1, aI l2, aI l3, aI l4, aI l5, aI (w32 (Int.tdiv l1 10)), aI (remA l1 10), aI (w32 (Int.tdiv l3 100)), aI (remA l3 100), aU, aU, aU]) f194_22 rfl rfl).trans ?_
  refine (x_aload f194_24 rfl rfl).trans ?_
  refine (x_iload f194_25 rfl rfl).trans ?_
  refine (x_iload f194_27 rfl rfl).trans ?_
  refine (x_iload f194_29 rfl rfl).trans ?_
  refine (x_iload f194_30 rfl rfl).trans ?_
  refine (x_iload f194_32 rfl rfl).trans ?_
  refine (x_iload f194_34 rfl rfl).trans ?_
  refine (x_iload f194_36 rfl rfl).trans ?_
  refine (x_iconst f194_38 rfl).trans ?_
  refine (x_invokevirtual (G := grd (kd 56 = 9) (bnI (sem 192 0 [aA 56, aI (w32 (Int.tdiv l1 10)), aI (remA l1 10), aI l2, aI (w32 (Int.tdiv l3 100)), aI (remA l3 100), aI l4, aI l5, aI 1] [] s) fun a2 s1 => sem 194 42 [aA 56, aI l1, aI l2, aI l3, aI l4, aI l5, aI (w32 (Int.tdiv l1 10)), aI (remA l1 10), aI (w32 (Int.tdiv l3 100)), aI (remA l3 100), aU, aU, aU] [aI a2] s1)) f194_39 rfl rfl).trans ?_
  refine (g_t rfl).trans ?_
  refine bI_h fun a2 s1 qs1 => ?_
  have rs1 := RefC.sem qs1 rfl hR
  refine (x_istore (l2 := [aA 56, aI l1, aI l2, aI l3, aI l4, aI l5, aI (w32 (Int.tdiv l1 10)), aI (remA l1 10), aI (w32 (Int.tdiv l3 100)), aI (remA l3 100), aI a2, aU, aU]) f194_42 rfl rfl).trans ?_
  refine (x_iload f194_44 rfl rfl).trans ?_
  refine (x_if_ge (tg := 52) f194_46 rfl rfl).trans (i_c ?_ ?_)
  · refine (x_iload f194_49 rfl rfl).trans ?_
    exact x_ireturn f194_51 rfl
  · refine (x_aload f194_52 rfl rfl).trans ?_
    refine (x_iload f194_53 rfl rfl).trans ?_
    refine (x_iload f194_55 rfl rfl).trans ?_
    refine (x_iload f194_57 rfl rfl).trans ?_
    refine (x_iload f194_58 rfl rfl).trans ?_
    refine (x_iload f194_60 rfl rfl).trans ?_
    refine (x_iadd f194_62 rfl).trans ?_
    refine (x_iload f194_63 rfl rfl).trans ?_
    refine (x_iadd f194_65 rfl).trans ?_
    refine (x_iload f194_66 rfl rfl).trans ?_
    refine (x_iconst f194_68 rfl).trans ?_
    refine (x_isub f194_69 rfl).trans ?_
    refine (x_invokevirtual (G := grd (kd 56 = 9) (bnL (sem 191 0 [aA 56, aI (w32 (Int.tdiv l1 10)), aI (remA l1 10), aI l2, aI (w32 ((w32 ((w32 (Int.tdiv l3 100)) + (remA l3 100))) + l4)), aI (w32 (l5 - 1)), aU, aU, aU, aU, aU, aU] [] s1) fun a4 s3 => sem 194 73 [aA 56, aI l1, aI l2, aI l3, aI l4, aI l5, aI (w32 (Int.tdiv l1 10)), aI (remA l1 10), aI (w32 (Int.tdiv l3 100)), aI (remA l3 100), aI a2, aU, aU] [aL a4] s3)) f194_70 rfl rfl).trans ?_
    refine (g_t rfl).trans ?_
    refine bL_h fun a4 s3 qs3 => ?_
    have rs3 := RefC.sem qs3 rfl rs1
    refine (x_lstore (l2 := [aA 56, aI l1, aI l2, aI l3, aI l4, aI l5, aI (w32 (Int.tdiv l1 10)), aI (remA l1 10), aI (w32 (Int.tdiv l3 100)), aI (remA l3 100), aI a2, aL a4, aU]) f194_73 rfl rfl).trans ?_
    refine (x_aload f194_75 rfl rfl).trans ?_
    refine (x_iload f194_76 rfl rfl).trans ?_
    refine (x_iload f194_78 rfl rfl).trans ?_
    refine (x_iload f194_80 rfl rfl).trans ?_
    refine (x_iload f194_81 rfl rfl).trans ?_
    refine (x_iload f194_83 rfl rfl).trans ?_
    refine (x_iload f194_85 rfl rfl).trans ?_
    refine (x_lload f194_87 rfl rfl).trans ?_
    refine (x_invokevirtual (G := grd (kd 56 = 9) (bnL (sem 190 0 [aA 56, aI (w32 (Int.tdiv l1 10)), aI (remA l1 10), aI l2, aI (w32 (Int.tdiv l3 100)), aI (remA l3 100), aI l4, aL a4, aU, aU, aU, aU, aU, aU, aU, aU] [] s3) fun a6 s5 => sem 194 92 [aA 56, aI l1, aI l2, aI l3, aI l4, aI l5, aI (w32 (Int.tdiv l1 10)), aI (remA l1 10), aI (w32 (Int.tdiv l3 100)), aI (remA l3 100), aI a2, aL a4, aU] [aL a6] s5)) f194_89 rfl rfl).trans ?_
    refine (g_t rfl).trans ?_
    refine bL_h fun a6 s5 qs5 => ?_
    have rs5 := RefC.sem qs5 rfl rs3
    refine (x_pop2 f194_92 rfl).trans ?_
    refine (x_aload f194_93 rfl rfl).trans ?_
    refine (y_get0 (ji := 14) rfl f194_94 rfl rfl).trans ?_
    refine (g_t rfl).trans ?_
    exact x_ireturn f194_97 rfl
set_option maxRecDepth 10000 in
theorem g196_0 {s : SG} (hR : RefC s) (l1 : Int) : sem 196 0 [aA 56, aI l1, aU] [] s = bnI (sem 164 0 [aI l1] [] s) fun a2 s1 => if a2 = 0 then some (aI ((-1)), s1) else some (aI (s1 56 15), up s1 56 15 l1) := by
  refine (x_iload f196_0 rfl rfl).trans ?_
  refine (x_invokestatic (G := bnI (sem 164 0 [aI l1] [] s) fun a2 s1 => sem 196 4 [aA 56, aI l1, aU] [aI a2] s1) f196_1 rfl rfl).trans ?_
  refine bI_h fun a2 s1 qs1 => ?_
  have rs1 := RefC.sem qs1 rfl hR
  refine (x_if_ne (tg := 9) f196_4 rfl rfl).trans (i_c ?_ ?_)
  · refine (x_iconst f196_7 rfl).trans ?_
    exact x_ireturn f196_8 rfl
  · refine (x_aload f196_9 rfl rfl).trans ?_
    refine (y_get0 (ji := 15) rfl f196_10 rfl rfl).trans ?_
    refine (g_t rfl).trans ?_
    refine (x_istore (l2 := [aA 56, aI l1, aI (s1 56 15)]) f196_13 rfl rfl).trans ?_
    refine (x_aload f196_14 rfl rfl).trans ?_
    refine (x_iload f196_15 rfl rfl).trans ?_
    refine (y_put0 (ji := 15) rfl f196_16 rfl rfl).trans ?_
    refine (g_t rfl).trans ?_
    refine (x_iload f196_19 rfl rfl).trans ?_
    exact x_ireturn f196_20 rfl
set_option maxRecDepth 10000 in
theorem g197_0 {s : SG} (hR : RefC s) (l1 l2 : Int) : sem 197 0 [aA 56, aI l1, aI l2, aU] [] s = bnI (sem 163 0 [aA 56, aI l1] [] s) fun a2 s1 => if a2 = 0 then some (aI ((-1)), s1) else bnI (sem 152 0 [aL l2, aU, aL 0, aU, aL 60, aU] [] s1) fun a4 s3 => if a4 = 0 then some (aI ((-2)), s3) else grd ((0 : Int) ≤ l1 ∧ l1 < 3) (some (aI (s3 66 l1), up s3 66 l1 l2)) := by
  refine (x_aload f197_0 rfl rfl).trans ?_
  refine (x_iload f197_1 rfl rfl).trans ?_
  refine (x_invokevirtual (G := grd (kd 56 = 9) (bnI (sem 163 0 [aA 56, aI l1] [] s) fun a2 s1 => sem 197 5 [aA 56, aI l1, aI l2, aU] [aI a2] s1)) f197_2 rfl rfl).trans ?_
  refine (g_t rfl).trans ?_
  refine bI_h fun a2 s1 qs1 => ?_
  have rs1 := RefC.sem qs1 rfl hR
  refine (x_if_ne (tg := 10) f197_5 rfl rfl).trans (i_c ?_ ?_)
  · refine (x_iconst f197_8 rfl).trans ?_
    exact x_ireturn f197_9 rfl
  · refine (x_iload f197_10 rfl rfl).trans ?_
    refine (x_i2l f197_11 rfl).trans ?_
    refine (x_lconst f197_12 rfl).trans ?_
    refine (x_lconst f197_13 rfl).trans ?_
    refine (x_invokestatic (G := bnI (sem 152 0 [aL l2, aU, aL 0, aU, aL 60, aU] [] s1) fun a4 s3 => sem 197 19 [aA 56, aI l1, aI l2, aU] [aI a4] s3) f197_16 rfl rfl).trans ?_
    refine bI_h fun a4 s3 qs3 => ?_
    have rs3 := RefC.sem qs3 rfl rs1
    refine (x_if_ne (tg := 25) f197_19 rfl rfl).trans (i_c ?_ ?_)
    · refine (x_iconst f197_22 rfl).trans ?_
      exact x_ireturn f197_24 rfl
    · refine (x_aload f197_25 rfl rfl).trans ?_
      refine (y_get2 (ji := 16) rfl f197_26 rfl rfl).trans ?_
      refine (g_t rfl).trans ?_
      refine (g_t (by rw [show s3 56 16 = 66 from rs3.2.2.2.2.2.2.2.2.2.2.2.2.2.2.2.2.2.2.2.2.2.2.2.2.2.2.2.2.2.2.2.2.2.2.2.2.2.2.2.2.2.2.2.2.2.2.2.2.2.2.2.2.2.2.2.2.2.2.2.2.2.2.1]; decide)).trans ?_
      rw [show s3 56 16 = 66 from rs3.2.2.2.2.2.2.2.2.2.2.2.2.2.2.2.2.2.2.2.2.2.2.2.2.2.2.2.2.2.2.2.2.2.2.2.2.2.2.2.2.2.2.2.2.2.2.2.2.2.2.2.2.2.2.2.2.2.2.2.2.2.2.1]
      refine (x_iload f197_29 rfl rfl).trans ?_
      refine (x_iaload f197_30 rfl).trans ?_
      refine (g_t rfl).trans ?_
      refine g_kl (n := 3) rfl fun hg5 => ?_
      refine (x_istore (l2 := [aA 56, aI l1, aI l2, aI (s3 66 l1)]) f197_31 rfl rfl).trans ?_
      refine (x_aload f197_32 rfl rfl).trans ?_
      refine (y_get2 (ji := 16) rfl f197_33 rfl rfl).trans ?_
      refine (g_t rfl).trans ?_
      refine (g_t (by rw [show s3 56 16 = 66 from rs3.2.2.2.2.2.2.2.2.2.2.2.2.2.2.2.2.2.2.2.2.2.2.2.2.2.2.2.2.2.2.2.2.2.2.2.2.2.2.2.2.2.2.2.2.2.2.2.2.2.2.2.2.2.2.2.2.2.2.2.2.2.2.1]; decide)).trans ?_
      rw [show s3 56 16 = 66 from rs3.2.2.2.2.2.2.2.2.2.2.2.2.2.2.2.2.2.2.2.2.2.2.2.2.2.2.2.2.2.2.2.2.2.2.2.2.2.2.2.2.2.2.2.2.2.2.2.2.2.2.2.2.2.2.2.2.2.2.2.2.2.2.1]
      refine (x_iload f197_36 rfl rfl).trans ?_
      refine (x_iload f197_37 rfl rfl).trans ?_
      refine (x_iastore f197_38 rfl).trans ?_
      refine (g_t rfl).trans ?_
      refine (g_kt (n := 3) rfl hg5).trans ?_
      refine (x_iload f197_39 rfl rfl).trans ?_
      exact x_ireturn f197_40 rfl
set_option maxRecDepth 10000 in
theorem g198_0 {s : SG} (hR : RefC s) (l1 l2 : Int) : sem 198 0 [aA 56, aI l1, aI l2, aU] [] s = bnI (sem 163 0 [aA 56, aI l1] [] s) fun a2 s1 => if a2 = 0 then some (aI ((-1)), s1) else bnI (sem 152 0 [aL l2, aU, aL 0, aU, aL 63, aU] [] s1) fun a4 s3 => if a4 = 0 then some (aI ((-2)), s3) else grd ((0 : Int) ≤ l1 ∧ l1 < 3) (some (aI (s3 67 l1), up s3 67 l1 l2)) := by
  refine (x_aload f198_0 rfl rfl).trans ?_
  refine (x_iload f198_1 rfl rfl).trans ?_
  refine (x_invokevirtual (G := grd (kd 56 = 9) (bnI (sem 163 0 [aA 56, aI l1] [] s) fun a2 s1 => sem 198 5 [aA 56, aI l1, aI l2, aU] [aI a2] s1)) f198_2 rfl rfl).trans ?_
  refine (g_t rfl).trans ?_
  refine bI_h fun a2 s1 qs1 => ?_
  have rs1 := RefC.sem qs1 rfl hR
  refine (x_if_ne (tg := 10) f198_5 rfl rfl).trans (i_c ?_ ?_)
  · refine (x_iconst f198_8 rfl).trans ?_
    exact x_ireturn f198_9 rfl
  · refine (x_iload f198_10 rfl rfl).trans ?_
    refine (x_i2l f198_11 rfl).trans ?_
    refine (x_lconst f198_12 rfl).trans ?_
    refine (x_lconst f198_13 rfl).trans ?_
    refine (x_invokestatic (G := bnI (sem 152 0 [aL l2, aU, aL 0, aU, aL 63, aU] [] s1) fun a4 s3 => sem 198 19 [aA 56, aI l1, aI l2, aU] [aI a4] s3) f198_16 rfl rfl).trans ?_
    refine bI_h fun a4 s3 qs3 => ?_
    have rs3 := RefC.sem qs3 rfl rs1
    refine (x_if_ne (tg := 25) f198_19 rfl rfl).trans (i_c ?_ ?_)
    · refine (x_iconst f198_22 rfl).trans ?_
      exact x_ireturn f198_24 rfl
    · refine (x_aload f198_25 rfl rfl).trans ?_
      refine (y_get2 (ji := 17) rfl f198_26 rfl rfl).trans ?_
      refine (g_t rfl).trans ?_
      refine (g_t (by rw [show s3 56 17 = 67 from rs3.2.2.2.2.2.2.2.2.2.2.2.2.2.2.2.2.2.2.2.2.2.2.2.2.2.2.2.2.2.2.2.2.2.2.2.2.2.2.2.2.2.2.2.2.2.2.2.2.2.2.2.2.2.2.2.2.2.2.2.2.2.2.2.1]; decide)).trans ?_
      rw [show s3 56 17 = 67 from rs3.2.2.2.2.2.2.2.2.2.2.2.2.2.2.2.2.2.2.2.2.2.2.2.2.2.2.2.2.2.2.2.2.2.2.2.2.2.2.2.2.2.2.2.2.2.2.2.2.2.2.2.2.2.2.2.2.2.2.2.2.2.2.2.1]
      refine (x_iload f198_29 rfl rfl).trans ?_
      refine (x_iaload f198_30 rfl).trans ?_
      refine (g_t rfl).trans ?_
      refine g_kl (n := 3) rfl fun hg5 => ?_
      refine (x_istore (l2 := [aA 56, aI l1, aI l2, aI (s3 67 l1)]) f198_31 rfl rfl).trans ?_
      refine (x_aload f198_32 rfl rfl).trans ?_
      refine (y_get2 (ji := 17) rfl f198_33 rfl rfl).trans ?_
      refine (g_t rfl).trans ?_
      refine (g_t (by rw [show s3 56 17 = 67 from rs3.2.2.2.2.2.2.2.2.2.2.2.2.2.2.2.2.2.2.2.2.2.2.2.2.2.2.2.2.2.2.2.2.2.2.2.2.2.2.2.2.2.2.2.2.2.2.2.2.2.2.2.2.2.2.2.2.2.2.2.2.2.2.2.1]; decide)).trans ?_
      rw [show s3 56 17 = 67 from rs3.2.2.2.2.2.2.2.2.2.2.2.2.2.2.2.2.2.2.2.2.2.2.2.2.2.2.2.2.2.2.2.2.2.2.2.2.2.2.2.2.2.2.2.2.2.2.2.2.2.2.2.2.2.2.2.2.2.2.2.2.2.2.2.1]
      refine (x_iload f198_36 rfl rfl).trans ?_
      refine (x_iload f198_37 rfl rfl).trans ?_
      refine (x_iastore f198_38 rfl).trans ?_
      refine (g_t rfl).trans ?_
      refine (g_kt (n := 3) rfl hg5).trans ?_
      refine (x_iload f198_39 rfl rfl).trans ?_
      exact x_ireturn f198_40 rfl
set_option maxRecDepth 10000 in
theorem g199_0 {s : SG} (hR : RefC s) (l1 l2 l3 : Int) : sem 199 0 [aA 56, aI l1, aI l2, aI l3, aU] [] s = bnI (sem 152 0 [aL l1, aU, aL 0, aU, aL 60, aU] [] s) fun a2 s1 => if a2 = 0 then some (aI ((-2)), s1) else bnI (sem 152 0 [aL l2, aU, aL 0, aU, aL 2, aU] [] s1) fun a4 s3 => if a4 = 0 then some (aI ((-2)), s3) else if l2 = 1 then bnI (sem 152 0 [aL l3, aU, aL 1, aU, aL 20, aU] [] s3) fun a6 s5 => if a6 = 0 then some (aI ((-2)), s5) else some (aI (s5 56 19), up (up (up s5 56 19 l1) 56 20 l2) 56 21 l3) else bnI (sem 152 0 [aL l3, aU, aL 0, aU, aL (if l2 = 2 then 5 else 0), aU] [] s3) fun a8 s7 => if a8 = 0 then some (aI ((-2)), s7) else some (aI (s7 56 19), up (up (up s7 56 19 l1) 56 20 l2) 56 21 l3) := by
  refine (x_iload f199_0 rfl rfl).trans ?_
  refine (x_i2l f199_1 rfl).trans ?_
  refine (x_lconst f199_2 rfl).trans ?_
  refine (x_lconst f199_3 rfl).trans ?_
  refine (x_invokestatic (G := bnI (sem 152 0 [aL l1, aU, aL 0, aU, aL 60, aU] [] s) fun a2 s1 => sem 199 9 [aA 56, aI l1, aI l2, aI l3, aU] [aI a2] s1) f199_6 rfl rfl).trans ?_
  refine bI_h fun a2 s1 qs1 => ?_
  have rs1 := RefC.sem qs1 rfl hR
  refine (x_if_eq (tg := 65) f199_9 rfl rfl).trans (i_c ?_ ?_)
  · refine (x_kil (l2 := [aU, aU, aU, aU, aU]) f199_65 rfl).trans ?_
    refine (x_iconst f199_65 rfl).trans ?_
    exact x_ireturn f199_67 rfl
  · refine (x_iload f199_12 rfl rfl).trans ?_
    refine (x_i2l f199_13 rfl).trans ?_
    refine (x_lconst f199_14 rfl).trans ?_
    refine (x_lconst f199_15 rfl).trans ?_
    refine (x_invokestatic (G := bnI (sem 152 0 [aL l2, aU, aL 0, aU, aL 2, aU] [] s1) fun a4 s3 => sem 199 21 [aA 56, aI l1, aI l2, aI l3, aU] [aI a4] s3) f199_18 rfl rfl).trans ?_
    refine bI_h fun a4 s3 qs3 => ?_
    have rs3 := RefC.sem qs3 rfl rs1
    refine (x_if_eq (tg := 65) f199_21 rfl rfl).trans (i_c ?_ ?_)
    · refine (x_kil (l2 := [aU, aU, aU, aU, aU]) f199_65 rfl).trans ?_
      refine (x_iconst f199_65 rfl).trans ?_
      exact x_ireturn f199_67 rfl
    · refine (x_iload f199_24 rfl rfl).trans ?_
      refine (x_iconst f199_25 rfl).trans ?_
      refine (x_icmp_ne (tg := 44) f199_26 rfl rfl).trans (i_c ?_ ?_)
      · refine (x_iload f199_29 rfl rfl).trans ?_
        refine (x_i2l f199_30 rfl).trans ?_
        refine (x_lconst f199_31 rfl).trans ?_
        refine (x_lconst f199_32 rfl).trans ?_
        refine (x_invokestatic (G := bnI (sem 152 0 [aL l3, aU, aL 1, aU, aL 20, aU] [] s3) fun a6 s5 => sem 199 38 [aA 56, aI l1, aI l2, aI l3, aU] [aI a6] s5) f199_35 rfl rfl).trans ?_
        refine bI_h fun a6 s5 qs5 => ?_
        have rs5 := RefC.sem qs5 rfl rs3
        refine (x_if_eq (tg := 65) f199_38 rfl rfl).trans (i_c ?_ ?_)
        · refine (x_kil (l2 := [aU, aU, aU, aU, aU]) f199_65 rfl).trans ?_
          refine (x_iconst f199_65 rfl).trans ?_
          exact x_ireturn f199_67 rfl
        · refine (x_goto (tg := 68) f199_41 rfl rfl).trans ?_
          refine (x_aload f199_68 rfl rfl).trans ?_
          refine (y_get0 (ji := 19) rfl f199_69 rfl rfl).trans ?_
          refine (g_t rfl).trans ?_
          refine (x_istore (l2 := [aA 56, aI l1, aI l2, aI l3, aI (s5 56 19)]) f199_72 rfl rfl).trans ?_
          refine (x_aload f199_74 rfl rfl).trans ?_
          refine (x_iload f199_75 rfl rfl).trans ?_
          refine (y_put0 (ji := 19) rfl f199_76 rfl rfl).trans ?_
          refine (g_t rfl).trans ?_
          refine (x_aload f199_79 rfl rfl).trans ?_
          refine (x_iload f199_80 rfl rfl).trans ?_
          refine (y_put0 (ji := 20) rfl f199_81 rfl rfl).trans ?_
          refine (g_t rfl).trans ?_
          refine (x_aload f199_84 rfl rfl).trans ?_
          refine (x_iload f199_85 rfl rfl).trans ?_
          refine (y_put0 (ji := 21) rfl f199_86 rfl rfl).trans ?_
          refine (g_t rfl).trans ?_
          refine (x_iload f199_89 rfl rfl).trans ?_
          exact x_ireturn f199_91 rfl
      · refine (x_iload f199_44 rfl rfl).trans ?_
        refine (x_i2l f199_45 rfl).trans ?_
        refine (x_lconst f199_46 rfl).trans ?_
        refine (x_iload f199_47 rfl rfl).trans ?_
        refine (x_iconst f199_48 rfl).trans ?_
        refine (x_icmp_ne (tg := 58) f199_49 rfl rfl).trans ?_
        refine Eq.trans (b := if l2 = 2 then sem 199 59 [aA 56, aI l1, aI l2, aI l3, aU] [aL 5, aL 0, aL l3] s3 else sem 199 59 [aA 56, aI l1, aI l2, aI l3, aU] [aL 0, aL 0, aL l3] s3) (i_c ?_ ?_) ?_
        · refine (x_lconst f199_52 rfl).trans ?_
          refine (x_goto (tg := 59) f199_55 rfl rfl).trans ?_
          rfl
        · refine (x_lconst f199_58 rfl).trans ?_
          rfl
        refine m_L.trans ?_
        refine (x_invokestatic (G := bnI (sem 152 0 [aL l3, aU, aL 0, aU, aL (if l2 = 2 then 5 else 0), aU] [] s3) fun a8 s7 => sem 199 62 [aA 56, aI l1, aI l2, aI l3, aU] [aI a8] s7) f199_59 rfl rfl).trans ?_
        refine bI_h fun a8 s7 qs7 => ?_
        have rs7 := RefC.sem qs7 rfl rs3
        refine (x_if_ne (tg := 68) f199_62 rfl rfl).trans (i_c ?_ ?_)
        · refine (x_kil (l2 := [aU, aU, aU, aU, aU]) f199_65 rfl).trans ?_
          refine (x_iconst f199_65 rfl).trans ?_
          exact x_ireturn f199_67 rfl
        · refine (x_aload f199_68 rfl rfl).trans ?_
          refine (y_get0 (ji := 19) rfl f199_69 rfl rfl).trans ?_
          refine (g_t rfl).trans ?_
          refine (x_istore (l2 := [aA 56, aI l1, aI l2, aI l3, aI (s7 56 19)]) f199_72 rfl rfl).trans ?_
          refine (x_aload f199_74 rfl rfl).trans ?_
          refine (x_iload f199_75 rfl rfl).trans ?_
          refine (y_put0 (ji := 19) rfl f199_76 rfl rfl).trans ?_
          refine (g_t rfl).trans ?_
          refine (x_aload f199_79 rfl rfl).trans ?_
          refine (x_iload f199_80 rfl rfl).trans ?_
          refine (y_put0 (ji := 20) rfl f199_81 rfl rfl).trans ?_
          refine (g_t rfl).trans ?_
          refine (x_aload f199_84 rfl rfl).trans ?_
          refine (x_iload f199_85 rfl rfl).trans ?_
          refine (y_put0 (ji := 21) rfl f199_86 rfl rfl).trans ?_
          refine (g_t rfl).trans ?_
          refine (x_iload f199_89 rfl rfl).trans ?_
          exact x_ireturn f199_91 rfl
set_option maxRecDepth 10000 in
theorem g200_0 {s : SG} (hR : RefC s) (l1 l2 l3 : Int) : sem 200 0 [aA 56, aI l1, aI l2, aI l3] [] s = bnI (sem 195 0 [aI l1] [] s) fun a2 s1 => if a2 = 0 then some (aI ((-1)), s1) else bnI (sem 163 0 [aA 56, aI l2] [] s1) fun a4 s3 => if a4 = 0 then some (aI ((-1)), s3) else bnI (sem 152 0 [aL l3, aU, aL 1, aU, aL 20, aU] [] s3) fun a6 s5 => if a6 = 0 then some (aI ((-2)), s5) else if (s5 56 22) = 6 then some (aI ((-4)), s5) else grd ((0 : Int) ≤ (s5 56 22) ∧ (s5 56 22) < 6) (some (aI (w32 ((w32 ((s5 56 22) + 1)) - 1)), up (up (up (up s5 69 (s5 56 22) l1) 70 (s5 56 22) l2) 71 (s5 56 22) l3) 56 22 (w32 ((s5 56 22) + 1)))) := by
  refine (x_iload f200_0 rfl rfl).trans ?_
  refine (x_invokestatic (G := bnI (sem 195 0 [aI l1] [] s) fun a2 s1 => sem 200 4 [aA 56, aI l1, aI l2, aI l3] [aI a2] s1) f200_1 rfl rfl).trans ?_
  refine bI_h fun a2 s1 qs1 => ?_
  have rs1 := RefC.sem qs1 rfl hR
  refine (x_if_eq (tg := 15) f200_4 rfl rfl).trans (i_c ?_ ?_)
  · refine (x_kil (l2 := [aU, aU, aU, aU]) f200_15 rfl).trans ?_
    refine (x_iconst f200_15 rfl).trans ?_
    exact x_ireturn f200_16 rfl
  · refine (x_aload f200_7 rfl rfl).trans ?_
    refine (x_iload f200_8 rfl rfl).trans ?_
    refine (x_invokevirtual (G := grd (kd 56 = 9) (bnI (sem 163 0 [aA 56, aI l2] [] s1) fun a4 s3 => sem 200 12 [aA 56, aI l1, aI l2, aI l3] [aI a4] s3)) f200_9 rfl rfl).trans ?_
    refine (g_t rfl).trans ?_
    refine bI_h fun a4 s3 qs3 => ?_
    have rs3 := RefC.sem qs3 rfl rs1
    refine (x_if_ne (tg := 17) f200_12 rfl rfl).trans (i_c ?_ ?_)
    · refine (x_kil (l2 := [aU, aU, aU, aU]) f200_15 rfl).trans ?_
      refine (x_iconst f200_15 rfl).trans ?_
      exact x_ireturn f200_16 rfl
    · refine (x_iload f200_17 rfl rfl).trans ?_
      refine (x_i2l f200_18 rfl).trans ?_
      refine (x_lconst f200_19 rfl).trans ?_
      refine (x_lconst f200_20 rfl).trans ?_
      refine (x_invokestatic (G := bnI (sem 152 0 [aL l3, aU, aL 1, aU, aL 20, aU] [] s3) fun a6 s5 => sem 200 26 [aA 56, aI l1, aI l2, aI l3] [aI a6] s5) f200_23 rfl rfl).trans ?_
      refine bI_h fun a6 s5 qs5 => ?_
      have rs5 := RefC.sem qs5 rfl rs3
      refine (x_if_ne (tg := 32) f200_26 rfl rfl).trans (i_c ?_ ?_)
      · refine (x_iconst f200_29 rfl).trans ?_
        exact x_ireturn f200_31 rfl
      · refine (x_aload f200_32 rfl rfl).trans ?_
        refine (y_get0 (ji := 22) rfl f200_33 rfl rfl).trans ?_
        refine (g_t rfl).trans ?_
        refine (x_iconst f200_36 rfl).trans ?_
        refine (x_icmp_ne (tg := 44) f200_38 rfl rfl).trans (i_c ?_ ?_)
        · refine (x_iconst f200_41 rfl).trans ?_
          exact x_ireturn f200_43 rfl
        · refine (x_aload f200_44 rfl rfl).trans ?_
          refine (y_get2 (ji := 23) rfl f200_45 rfl rfl).trans ?_
          refine (g_t rfl).trans ?_
          refine (g_t (by rw [show s5 56 23 = 69 from rs5.2.2.2.2.2.2.2.2.2.2.2.2.2.2.2.2.2.2.2.2.2.2.2.2.2.2.2.2.2.2.2.2.2.2.2.2.2.2.2.2.2.2.2.2.2.2.2.2.2.2.2.2.2.2.2.2.2.2.2.2.2.2.2.2.2.1]; decide)).trans ?_
          rw [show s5 56 23 = 69 from rs5.2.2.2.2.2.2.2.2.2.2.2.2.2.2.2.2.2.2.2.2.2.2.2.2.2.2.2.2.2.2.2.2.2.2.2.2.2.2.2.2.2.2.2.2.2.2.2.2.2.2.2.2.2.2.2.2.2.2.2.2.2.2.2.2.2.1]
          refine (x_aload f200_48 rfl rfl).trans ?_
          refine (y_get0 (ji := 22) rfl f200_49 rfl rfl).trans ?_
          refine (g_t rfl).trans ?_
          refine (x_iload f200_52 rfl rfl).trans ?_
          refine (x_iastore f200_53 rfl).trans ?_
          refine (g_t rfl).trans ?_
          refine g_kl (n := 6) rfl fun hg7 => ?_
          refine (x_aload f200_54 rfl rfl).trans ?_
          refine (y_get2 (ji := 24) rfl f200_55 rfl rfl).trans ?_
          refine (g_t rfl).trans ?_
          refine (g_t (by rw [show (up s5 69 (s5 56 22) l1) 56 24 = 70 from (by rw [up_ne (by decide)]; exact rs5.2.2.2.2.2.2.2.2.2.2.2.2.2.2.2.2.2.2.2.2.2.2.2.2.2.2.2.2.2.2.2.2.2.2.2.2.2.2.2.2.2.2.2.2.2.2.2.2.2.2.2.2.2.2.2.2.2.2.2.2.2.2.2.2.2.2.1)]; decide)).trans ?_
          rw [show (up s5 69 (s5 56 22) l1) 56 24 = 70 from (by rw [up_ne (by decide)]; exact rs5.2.2.2.2.2.2.2.2.2.2.2.2.2.2.2.2.2.2.2.2.2.2.2.2.2.2.2.2.2.2.2.2.2.2.2.2.2.2.2.2.2.2.2.2.2.2.2.2.2.2.2.2.2.2.2.2.2.2.2.2.2.2.2.2.2.2.1)]
          refine (x_aload f200_58 rfl rfl).trans ?_
          refine (y_get0 (ji := 22) rfl f200_59 rfl rfl).trans ?_
          refine (g_t rfl).trans ?_
          rw [show (up s5 69 (s5 56 22) l1) 56 22 = s5 56 22 from by rw [up_ne (by decide)]]
          refine (x_iload f200_62 rfl rfl).trans ?_
          refine (x_iastore f200_63 rfl).trans ?_
          refine (g_t rfl).trans ?_
          refine (g_kt (n := 6) rfl hg7).trans ?_
          refine (x_aload f200_64 rfl rfl).trans ?_
          refine (y_get2 (ji := 25) rfl f200_65 rfl rfl).trans ?_
          refine (g_t rfl).trans ?_
          refine (g_t (by rw [show (up (up s5 69 (s5 56 22) l1) 70 (s5 56 22) l2) 56 25 = 71 from (by rw [up_ne (by decide), up_ne (by decide)]; exact rs5.2.2.2.2.2.2.2.2.2.2.2.2.2.2.2.2.2.2.2.2.2.2.2.2.2.2.2.2.2.2.2.2.2.2.2.2.2.2.2.2.2.2.2.2.2.2.2.2.2.2.2.2.2.2.2.2.2.2.2.2.2.2.2.2.2.2.2.1)]; decide)).trans ?_
          rw [show (up (up s5 69 (s5 56 22) l1) 70 (s5 56 22) l2) 56 25 = 71 from (by rw [up_ne (by decide), up_ne (by decide)]; exact rs5.2.2.2.2.2.2.2.2.2.2.2.2.2.2.2.2.2.2.2.2.2.2.2.2.2.2.2.2.2.2.2.2.2.2.2.2.2.2.2.2.2.2.2.2.2.2.2.2.2.2.2.2.2.2.2.2.2.2.2.2.2.2.2.2.2.2.2.1)]
          refine (x_aload f200_68 rfl rfl).trans ?_
          refine (y_get0 (ji := 22) rfl f200_69 rfl rfl).trans ?_
          refine (g_t rfl).trans ?_
          rw [show (up (up s5 69 (s5 56 22) l1) 70 (s5 56 22) l2) 56 22 = s5 56 22 from by rw [up_ne (by decide), up_ne (by decide)]]
          refine (x_iload f200_72 rfl rfl).trans ?_
          refine (x_iastore f200_73 rfl).trans ?_
          refine (g_t rfl).trans ?_
          refine (g_kt (n := 6) rfl hg7).trans ?_
          refine (x_aload f200_74 rfl rfl).trans ?_
          refine (x_dup f200_75 rfl rfl).trans ?_
          refine (y_get0 (ji := 22) rfl f200_76 rfl rfl).trans ?_
          refine (g_t rfl).trans ?_
          rw [show (up (up (up s5 69 (s5 56 22) l1) 70 (s5 56 22) l2) 71 (s5 56 22) l3) 56 22 = s5 56 22 from by rw [up_ne (by decide), up_ne (by decide), up_ne (by decide)]]
          refine (x_iconst f200_79 rfl).trans ?_
          refine (x_iadd f200_80 rfl).trans ?_
          refine (y_put0 (ji := 22) rfl f200_81 rfl rfl).trans ?_
          refine (g_t rfl).trans ?_
          refine (x_aload f200_84 rfl rfl).trans ?_
          refine (y_get0 (ji := 22) rfl f200_85 rfl rfl).trans ?_
          refine (g_t rfl).trans ?_
          rw [show (up (up (up (up s5 69 (s5 56 22) l1) 70 (s5 56 22) l2) 71 (s5 56 22) l3) 56 22 (w32 ((s5 56 22) + 1))) 56 22 = w32 ((s5 56 22) + 1) from by rw [up_at]]
          refine (x_iconst f200_88 rfl).trans ?_
          refine (x_isub f200_89 rfl).trans ?_
          exact x_ireturn f200_90 rfl
set_option maxRecDepth 10000 in
theorem g201_0 {s : SG} (hR : RefC s) : sem 201 0 [aA 56, aU] [] s = some (aI (s 56 22), up s 56 22 0) := by
  refine (x_aload f201_0 rfl rfl).trans ?_
  refine (y_get0 (ji := 22) rfl f201_1 rfl rfl).trans ?_
  refine (g_t rfl).trans ?_
  refine (x_istore (l2 := [aA 56, aI (s 56 22)]) f201_4 rfl rfl).trans ?_
  refine (x_aload f201_5 rfl rfl).trans ?_
  refine (x_iconst f201_6 rfl).trans ?_
  refine (y_put0 (ji := 22) rfl f201_7 rfl rfl).trans ?_
  refine (g_t rfl).trans ?_
  refine (x_iload f201_10 rfl rfl).trans ?_
  exact x_ireturn f201_11 rfl
set_option maxRecDepth 10000 in
theorem g202_0 {s : SG} (hR : RefC s) (l1 l2 : Int) : sem 202 0 [aA 56, aI l1, aI l2, aU] [] s = bnI (sem 188 0 [aI l2, aI (s 56 33)] [] s) fun a2 s1 => grd ((0 : Int) ≤ l1 ∧ l1 < 3) (some (aU, up (up s1 76 l1 (w32 ((s1 76 l1) + a2))) 56 33 (w32 ((s1 56 33) - a2)))) := by
  refine (x_iload f202_0 rfl rfl).trans ?_
  refine (x_aload f202_1 rfl rfl).trans ?_
  refine (y_get0 (ji := 33) rfl f202_2 rfl rfl).trans ?_
  refine (g_t rfl).trans ?_
  refine (x_invokestatic (G := bnI (sem 188 0 [aI l2, aI (s 56 33)] [] s) fun a2 s1 => sem 202 8 [aA 56, aI l1, aI l2, aU] [aI a2] s1) f202_5 rfl rfl).trans ?_
  refine bI_h fun a2 s1 qs1 => ?_
  have rs1 := RefC.sem qs1 rfl hR
  refine (x_istore (l2 := [aA 56, aI l1, aI l2, aI a2]) f202_8 rfl rfl).trans ?_
  refine (x_aload f202_9 rfl rfl).trans ?_
  refine (y_get2 (ji := 30) rfl f202_10 rfl rfl).trans ?_
  refine (g_t rfl).trans ?_
  refine (g_t (by rw [show s1 56 30 = 76 from rs1.2.2.2.2.2.2.2.2.2.2.2.2.2.2.2.2.2.2.2.2.2.2.2.2.2.2.2.2.2.2.2.2.2.2.2.2.2.2.2.2.2.2.2.2.2.2.2.2.2.2.2.2.2.2.2.2.2.2.2.2.2.2.2.2.2.2.2.2.2.2.2.2.1]; decide)).trans ?_
  rw [show s1 56 30 = 76 from rs1.2.2.2.2.2.2.2.2.2.2.2.2.2.2.2.2.2.2.2.2.2.2.2.2.2.2.2.2.2.2.2.2.2.2.2.2.2.2.2.2.2.2.2.2.2.2.2.2.2.2.2.2.2.2.2.2.2.2.2.2.2.2.2.2.2.2.2.2.2.2.2.2.1]
  refine (x_iload f202_13 rfl rfl).trans ?_
  refine (x_dup2 f202_14 rfl rfl).trans ?_
  refine (x_iaload f202_15 rfl).trans ?_
  refine (g_t rfl).trans ?_
  refine g_kl (n := 3) rfl fun hg3 => ?_
  refine (x_iload f202_16 rfl rfl).trans ?_
  refine (x_iadd f202_17 rfl).trans ?_
  refine (x_iastore f202_18 rfl).trans ?_
  refine (g_t rfl).trans ?_
  refine (g_kt (n := 3) rfl hg3).trans ?_
  refine (x_aload f202_19 rfl rfl).trans ?_
  refine (x_dup f202_20 rfl rfl).trans ?_
  refine (y_get0 (ji := 33) rfl f202_21 rfl rfl).trans ?_
  refine (g_t rfl).trans ?_
  rw [show (up s1 76 l1 (w32 ((s1 76 l1) + a2))) 56 33 = s1 56 33 from by rw [up_ne (by decide)]]
  refine (x_iload f202_24 rfl rfl).trans ?_
  refine (x_isub f202_25 rfl).trans ?_
  refine (y_put0 (ji := 33) rfl f202_26 rfl rfl).trans ?_
  refine (g_t rfl).trans ?_
  exact x_return f202_29 rfl
set_option maxRecDepth 10000 in
theorem g203_0 {s : SG} (hR : RefC s) (l1 : Int) : sem 203 0 [aA 56, aI l1, aU] [] s = sem 203 2 [aA 56, aI l1, aI 0] [] s := by
  refine (x_iconst f203_0 rfl).trans ?_
  refine (x_istore (l2 := [aA 56, aI l1, aI 0]) f203_1 rfl rfl).trans ?_
  rfl
set_option maxRecDepth 10000 in
theorem g203_2 {s : SG} (hR : RefC s) (l1 l2 : Int) : sem 203 2 [aA 56, aI l1, aI l2] [] s = if l2 < (s 56 22) then grd ((0 : Int) ≤ l2 ∧ l2 < 6) (if (s 69 l2) = l1 then bnV (sem 202 0 [aA 56, aI (s 70 l2), aI (s 71 l2), aU] [] s) fun s2 => sem 203 2 [aA 56, aI l1, aI (w32 (l2 + 1))] [] s2 else sem 203 2 [aA 56, aI l1, aI (w32 (l2 + 1))] [] s) else sem 203 44 [aA 56, aI l1, aI 0] [] s := by
  refine (x_iload f203_2 rfl rfl).trans ?_
  refine (x_aload f203_3 rfl rfl).trans ?_
  refine (y_get0 (ji := 22) rfl f203_4 rfl rfl).trans ?_
  refine (g_t rfl).trans ?_
  refine (x_icmp_ge (tg := 42) f203_7 rfl rfl).trans (i_c ?_ ?_)
  · refine (x_aload f203_10 rfl rfl).trans ?_
    refine (y_get2 (ji := 23) rfl f203_11 rfl rfl).trans ?_
    refine (g_t rfl).trans ?_
    refine (g_t (by rw [show s 56 23 = 69 from hR.2.2.2.2.2.2.2.2.2.2.2.2.2.2.2.2.2.2.2.2.2.2.2.2.2.2.2.2.2.2.2.2.2.2.2.2.2.2.2.2.2.2.2.2.2.2.2.2.2.2.2.2.2.2.2.2.2.2.2.2.2.2.2.2.2.1]; decide)).trans ?_
    rw [show s 56 23 = 69 from hR.2.2.2.2.2.2.2.2.2.2.2.2.2.2.2.2.2.2.2.2.2.2.2.2.2.2.2.2.2.2.2.2.2.2.2.2.2.2.2.2.2.2.2.2.2.2.2.2.2.2.2.2.2.2.2.2.2.2.2.2.2.2.2.2.2.1]
    refine (x_iload f203_14 rfl rfl).trans ?_
    refine (x_iaload f203_15 rfl).trans ?_
    refine (g_t rfl).trans ?_
    refine g_kl (n := 6) rfl fun hg1 => ?_
    refine (x_iload f203_16 rfl rfl).trans ?_
    refine (x_icmp_ne (tg := 36) f203_17 rfl rfl).trans (i_c ?_ ?_)
    · refine (x_aload f203_20 rfl rfl).trans ?_
      refine (x_aload f203_21 rfl rfl).trans ?_
      refine (y_get2 (ji := 24) rfl f203_22 rfl rfl).trans ?_
      refine (g_t rfl).trans ?_
      refine (g_t (by rw [show s 56 24 = 70 from hR.2.2.2.2.2.2.2.2.2.2.2.2.2.2.2.2.2.2.2.2.2.2.2.2.2.2.2.2.2.2.2.2.2.2.2.2.2.2.2.2.2.2.2.2.2.2.2.2.2.2.2.2.2.2.2.2.2.2.2.2.2.2.2.2.2.2.1]; decide)).trans ?_
      rw [show s 56 24 = 70 from hR.2.2.2.2.2.2.2.2.2.2.2.2.2.2.2.2.2.2.2.2.2.2.2.2.2.2.2.2.2.2.2.2.2.2.2.2.2.2.2.2.2.2.2.2.2.2.2.2.2.2.2.2.2.2.2.2.2.2.2.2.2.2.2.2.2.2.1]
      refine (x_iload f203_25 rfl rfl).trans ?_
      refine (x_iaload f203_26 rfl).trans ?_
      refine (g_t rfl).trans ?_
      refine (g_kt (n := 6) rfl hg1).trans ?_
      refine (x_aload f203_27 rfl rfl).trans ?_
      refine (y_get2 (ji := 25) rfl f203_28 rfl rfl).trans ?_
      refine (g_t rfl).trans ?_
      refine (g_t (by rw [show s 56 25 = 71 from hR.2.2.2.2.2.2.2.2.2.2.2.2.2.2.2.2.2.2.2.2.2.2.2.2.2.2.2.2.2.2.2.2.2.2.2.2.2.2.2.2.2.2.2.2.2.2.2.2.2.2.2.2.2.2.2.2.2.2.2.2.2.2.2.2.2.2.2.1]; decide)).trans ?_
      rw [show s 56 25 = 71 from hR.2.2.2.2.2.2.2.2.2.2.2.2.2.2.2.2.2.2.2.2.2.2.2.2.2.2.2.2.2.2.2.2.2.2.2.2.2.2.2.2.2.2.2.2.2.2.2.2.2.2.2.2.2.2.2.2.2.2.2.2.2.2.2.2.2.2.2.1]
      refine (x_iload f203_31 rfl rfl).trans ?_
      refine (x_iaload f203_32 rfl).trans ?_
      refine (g_t rfl).trans ?_
      refine (g_kt (n := 6) rfl hg1).trans ?_
      refine (x_invokevirtual (G := grd (kd 56 = 9) (bnV (sem 202 0 [aA 56, aI (s 70 l2), aI (s 71 l2), aU] [] s) fun s2 => sem 203 36 [aA 56, aI l1, aI l2] [] s2)) f203_33 rfl rfl).trans ?_
      refine (g_t rfl).trans ?_
      refine bV_h fun s2 qs2 => ?_
      have rs2 := RefC.sem qs2 rfl hR
      refine (x_iinc (l2 := [aA 56, aI l1, aI (w32 (l2 + 1))]) f203_36 rfl rfl rfl).trans ?_
      refine (x_goto (tg := 2) f203_39 rfl rfl).trans ?_
      rfl
    · refine (x_iinc (l2 := [aA 56, aI l1, aI (w32 (l2 + 1))]) f203_36 rfl rfl rfl).trans ?_
      refine (x_goto (tg := 2) f203_39 rfl rfl).trans ?_
      rfl
  · refine (x_iconst f203_42 rfl).trans ?_
    refine (x_istore (l2 := [aA 56, aI l1, aI 0]) f203_43 rfl rfl).trans ?_
    rfl
set_option maxRecDepth 10000 in
theorem g203_44 {s : SG} (hR : RefC s) (l1 l2 : Int) : sem 203 44 [aA 56, aI l1, aI l2] [] s = if l2 < (s 58 0) then if (s 56 20) = 1 then if (0 : Int) < l1 then grd ((0 : Int) ≤ l2 ∧ l2 < 3) (if (s 76 l2) = 0 then bnV (sem 202 0 [aA 56, aI l2, aI (s 56 21), aU] [] s) fun s2 => sem 203 44 [aA 56, aI l1, aI (w32 (l2 + 1))] [] s2 else sem 203 44 [aA 56, aI l1, aI (w32 (l2 + 1))] [] s) else sem 203 92 [aA 56, aI l1, aI 0] [] s else sem 203 92 [aA 56, aI l1, aI 0] [] s else sem 203 92 [aA 56, aI l1, aI 0] [] s := by
  refine (x_iload f203_44 rfl rfl).trans ?_
  refine (x_aload f203_45 rfl rfl).trans ?_
  refine (y_get2 (ji := 1) rfl f203_46 rfl rfl).trans ?_
  refine (g_t rfl).trans ?_
  refine (g_t (by rw [show s 56 1 = 58 from hR.2.2.2.2.2.2.2.2.2.2.2.2.2.2.2.2.2.2.2.2.2.2.2.2.2.2.2.2.2.2.2.2.2.2.2.2.2.2.2.2.2.2.2.2.2.2.2.2.2.2.2.2.2.2.1]; decide)).trans ?_
  rw [show s 56 1 = 58 from hR.2.2.2.2.2.2.2.2.2.2.2.2.2.2.2.2.2.2.2.2.2.2.2.2.2.2.2.2.2.2.2.2.2.2.2.2.2.2.2.2.2.2.2.2.2.2.2.2.2.2.2.2.2.2.1]
  refine (x_iconst f203_49 rfl).trans ?_
  refine (x_iaload f203_50 rfl).trans ?_
  refine (g_t rfl).trans ?_
  refine (g_kt (n := 28) rfl (by decide)).trans ?_
  refine (x_icmp_ge (tg := 90) f203_51 rfl rfl).trans (i_c ?_ ?_)
  · refine (x_aload f203_54 rfl rfl).trans ?_
    refine (y_get0 (ji := 20) rfl f203_55 rfl rfl).trans ?_
    refine (g_t rfl).trans ?_
    refine (x_iconst f203_58 rfl).trans ?_
    refine (x_icmp_ne (tg := 90) f203_59 rfl rfl).trans (i_c ?_ ?_)
    · refine (x_iload f203_62 rfl rfl).trans ?_
      refine (x_if_le (tg := 90) f203_63 rfl rfl).trans (i_c ?_ ?_)
      · refine (x_aload f203_66 rfl rfl).trans ?_
        refine (y_get2 (ji := 30) rfl f203_67 rfl rfl).trans ?_
        refine (g_t rfl).trans ?_
        refine (g_t (by rw [show s 56 30 = 76 from hR.2.2.2.2.2.2.2.2.2.2.2.2.2.2.2.2.2.2.2.2.2.2.2.2.2.2.2.2.2.2.2.2.2.2.2.2.2.2.2.2.2.2.2.2.2.2.2.2.2.2.2.2.2.2.2.2.2.2.2.2.2.2.2.2.2.2.2.2.2.2.2.2.1]; decide)).trans ?_
        rw [show s 56 30 = 76 from hR.2.2.2.2.2.2.2.2.2.2.2.2.2.2.2.2.2.2.2.2.2.2.2.2.2.2.2.2.2.2.2.2.2.2.2.2.2.2.2.2.2.2.2.2.2.2.2.2.2.2.2.2.2.2.2.2.2.2.2.2.2.2.2.2.2.2.2.2.2.2.2.2.1]
        refine (x_iload f203_70 rfl rfl).trans ?_
        refine (x_iaload f203_71 rfl).trans ?_
        refine (g_t rfl).trans ?_
        refine g_kl (n := 3) rfl fun hg1 => ?_
        refine (x_if_ne (tg := 84) f203_72 rfl rfl).trans (i_c ?_ ?_)
        · refine (x_aload f203_75 rfl rfl).trans ?_
          refine (x_iload f203_76 rfl rfl).trans ?_
          refine (x_aload f203_77 rfl rfl).trans ?_
          refine (y_get0 (ji := 21) rfl f203_78 rfl rfl).trans ?_
          refine (g_t rfl).trans ?_
          refine (x_invokevirtual (G := grd (kd 56 = 9) (bnV (sem 202 0 [aA 56, aI l2, aI (s 56 21), aU] [] s) fun s2 => sem 203 84 [aA 56, aI l1, aI l2] [] s2)) f203_81 rfl rfl).trans ?_
          refine (g_t rfl).trans ?_
          refine bV_h fun s2 qs2 => ?_
          have rs2 := RefC.sem qs2 rfl hR
          refine (x_iinc (l2 := [aA 56, aI l1, aI (w32 (l2 + 1))]) f203_84 rfl rfl rfl).trans ?_
          refine (x_goto (tg := 44) f203_87 rfl rfl).trans ?_
          rfl
        · refine (x_iinc (l2 := [aA 56, aI l1, aI (w32 (l2 + 1))]) f203_84 rfl rfl rfl).trans ?_
          refine (x_goto (tg := 44) f203_87 rfl rfl).trans ?_
          rfl
      · refine (x_kil (l2 := [aA 56, aI l1, aU]) f203_90 rfl).trans ?_
        refine (x_iconst f203_90 rfl).trans ?_
        refine (x_istore (l2 := [aA 56, aI l1, aI 0]) f203_91 rfl rfl).trans ?_
        rfl
    · refine (x_kil (l2 := [aA 56, aI l1, aU]) f203_90 rfl).trans ?_
      refine (x_iconst f203_90 rfl).trans ?_
      refine (x_istore (l2 := [aA 56, aI l1, aI 0]) f203_91 rfl rfl).trans ?_
      rfl
  · refine (x_kil (l2 := [aA 56, aI l1, aU]) f203_90 rfl).trans ?_
    refine (x_iconst f203_90 rfl).trans ?_
    refine (x_istore (l2 := [aA 56, aI l1, aI 0]) f203_91 rfl rfl).trans ?_
    rfl
set_option maxRecDepth 10000 in
theorem g203_92 {s : SG} (hR : RefC s) (l1 l2 : Int) : sem 203 92 [aA 56, aI l1, aI l2] [] s = if (s 56 20) = 2 then if l1 = (s 56 21) then if (0 : Int) < (s 56 33) then bnV (sem 202 0 [aA 56, aI l2, aI 1, aU] [] s) fun s1 => grd ((s1 58 0) ≠ 0) (sem 203 92 [aA 56, aI l1, aI (remA (w32 (l2 + 1)) (s1 58 0))] [] s1) else some (aU, s) else some (aU, s) else some (aU, s) := by
  refine (x_aload f203_92 rfl rfl).trans ?_
  refine (y_get0 (ji := 20) rfl f203_93 rfl rfl).trans ?_
  refine (g_t rfl).trans ?_
  refine (x_iconst f203_96 rfl).trans ?_
  refine (x_icmp_ne (tg := 135) f203_97 rfl rfl).trans (i_c ?_ ?_)
  · refine (x_iload f203_100 rfl rfl).trans ?_
    refine (x_aload f203_101 rfl rfl).trans ?_
    refine (y_get0 (ji := 21) rfl f203_102 rfl rfl).trans ?_
    refine (g_t rfl).trans ?_
    refine (x_icmp_ne (tg := 135) f203_105 rfl rfl).trans (i_c ?_ ?_)
    · refine (x_aload f203_108 rfl rfl).trans ?_
      refine (y_get0 (ji := 33) rfl f203_109 rfl rfl).trans ?_
      refine (g_t rfl).trans ?_
      refine (x_if_le (tg := 135) f203_112 rfl rfl).trans (i_c ?_ ?_)
      · refine (x_aload f203_115 rfl rfl).trans ?_
        refine (x_iload f203_116 rfl rfl).trans ?_
        refine (x_iconst f203_117 rfl).trans ?_
        refine (x_invokevirtual (G := grd (kd 56 = 9) (bnV (sem 202 0 [aA 56, aI l2, aI 1, aU] [] s) fun s1 => sem 203 121 [aA 56, aI l1, aI l2] [] s1)) f203_118 rfl rfl).trans ?_
        refine (g_t rfl).trans ?_
        refine bV_h fun s1 qs1 => ?_
        have rs1 := RefC.sem qs1 rfl hR
        refine (x_iload f203_121 rfl rfl).trans ?_
        refine (x_iconst f203_122 rfl).trans ?_
        refine (x_iadd f203_123 rfl).trans ?_
        refine (x_aload f203_124 rfl rfl).trans ?_
        refine (y_get2 (ji := 1) rfl f203_125 rfl rfl).trans ?_
        refine (g_t rfl).trans ?_
        refine (g_t (by rw [show s1 56 1 = 58 from rs1.2.2.2.2.2.2.2.2.2.2.2.2.2.2.2.2.2.2.2.2.2.2.2.2.2.2.2.2.2.2.2.2.2.2.2.2.2.2.2.2.2.2.2.2.2.2.2.2.2.2.2.2.2.2.1]; decide)).trans ?_
        rw [show s1 56 1 = 58 from rs1.2.2.2.2.2.2.2.2.2.2.2.2.2.2.2.2.2.2.2.2.2.2.2.2.2.2.2.2.2.2.2.2.2.2.2.2.2.2.2.2.2.2.2.2.2.2.2.2.2.2.2.2.2.2.1]
        refine (x_iconst f203_128 rfl).trans ?_
        refine (x_iaload f203_129 rfl).trans ?_
        refine (g_t rfl).trans ?_
        refine (g_kt (n := 28) rfl (by decide)).trans ?_
        refine (x_irem f203_130 rfl).trans ?_
        refine g_c ?_
        refine (x_istore (l2 := [aA 56, aI l1, aI (remA (w32 (l2 + 1)) (s1 58 0))]) f203_131 rfl rfl).trans ?_
        refine (x_goto (tg := 92) f203_132 rfl rfl).trans ?_
        rfl
      · refine (x_kil (l2 := [aU, aU, aU]) f203_135 rfl).trans ?_
        exact x_return f203_135 rfl
    · refine (x_kil (l2 := [aU, aU, aU]) f203_135 rfl).trans ?_
      exact x_return f203_135 rfl
  · refine (x_kil (l2 := [aU, aU, aU]) f203_135 rfl).trans ?_
    exact x_return f203_135 rfl
set_option maxRecDepth 10000 in
theorem g204_0 {s : SG} (hR : RefC s) (l1 l2 : Int) : sem 204 0 [aA 56, aI l1, aI l2, aU, aU, aU, aU, aU] [] s = grd ((0 : Int) ≤ (w32 ((w32 (10 + (w32 (3 * l1)))) + (s 56 15))) ∧ (w32 ((w32 (10 + (w32 (3 * l1)))) + (s 56 15))) < 28) (grd ((0 : Int) ≤ l1 ∧ l1 < 3) (if (7 : Int) < (s 68 l1) then sem 204 52 [aA 56, aI l1, aI l2, aU, aU, aU, aU, aU] [aI 1, aI (s 58 (w32 ((w32 (10 + (w32 (3 * l1)))) + (s 56 15))))] s else sem 204 52 [aA 56, aI l1, aI l2, aU, aU, aU, aU, aU] [aI (if (s 68 l1) < 3 then if (0 : Int) < (s 58 (w32 ((w32 (10 + (w32 (3 * l1)))) + (s 56 15)))) then (-1) else 0 else 0), aI (s 58 (w32 ((w32 (10 + (w32 (3 * l1)))) + (s 56 15))))] s)) := by
  refine (x_aload f204_0 rfl rfl).trans ?_
  refine (y_get2 (ji := 1) rfl f204_1 rfl rfl).trans ?_
  refine (g_t rfl).trans ?_
  refine (g_t (by rw [show s 56 1 = 58 from hR.2.2.2.2.2.2.2.2.2.2.2.2.2.2.2.2.2.2.2.2.2.2.2.2.2.2.2.2.2.2.2.2.2.2.2.2.2.2.2.2.2.2.2.2.2.2.2.2.2.2.2.2.2.2.1]; decide)).trans ?_
  rw [show s 56 1 = 58 from hR.2.2.2.2.2.2.2.2.2.2.2.2.2.2.2.2.2.2.2.2.2.2.2.2.2.2.2.2.2.2.2.2.2.2.2.2.2.2.2.2.2.2.2.2.2.2.2.2.2.2.2.2.2.2.1]
  refine (x_iconst f204_4 rfl).trans ?_
  refine (x_iconst f204_6 rfl).trans ?_
  refine (x_iload f204_7 rfl rfl).trans ?_
  refine (x_imul f204_8 rfl).trans ?_
  refine (x_iadd f204_9 rfl).trans ?_
  refine (x_aload f204_10 rfl rfl).trans ?_
  refine (y_get0 (ji := 15) rfl f204_11 rfl rfl).trans ?_
  refine (g_t rfl).trans ?_
  refine (x_iadd f204_14 rfl).trans ?_
  refine (x_iaload f204_15 rfl).trans ?_
  refine (g_t rfl).trans ?_
  refine g_kl (n := 28) rfl fun hg1 => ?_
  refine (x_istore (l2 := [aA 56, aI l1, aI l2, aI (s 58 (w32 ((w32 (10 + (w32 (3 * l1)))) + (s 56 15)))), aU, aU, aU, aU]) f204_16 rfl rfl).trans ?_
  refine (x_iload f204_17 rfl rfl).trans ?_
  refine (x_aload f204_18 rfl rfl).trans ?_
  refine (y_get2 (ji := 18) rfl f204_19 rfl rfl).trans ?_
  refine (g_t rfl).trans ?_
  refine (g_t (by rw [show s 56 18 = 68 from hR.2.2.2.2.2.2.2.2.2.2.2.2.2.2.2.2.2.2.2.2.2.2.2.2.2.2.2.2.2.2.2.2.2.2.2.2.2.2.2.2.2.2.2.2.2.2.2.2.2.2.2.2.2.2.2.2.2.2.2.2.2.2.2.2.1]; decide)).trans ?_
  rw [show s 56 18 = 68 from hR.2.2.2.2.2.2.2.2.2.2.2.2.2.2.2.2.2.2.2.2.2.2.2.2.2.2.2.2.2.2.2.2.2.2.2.2.2.2.2.2.2.2.2.2.2.2.2.2.2.2.2.2.2.2.2.2.2.2.2.2.2.2.2.2.1]
  refine (x_iload f204_22 rfl rfl).trans ?_
  refine (x_iaload f204_23 rfl).trans ?_
  refine (g_t rfl).trans ?_
  refine g_kl (n := 3) rfl fun hg2 => ?_
  refine (x_iconst f204_24 rfl).trans ?_
  refine (x_icmp_le (tg := 33) f204_26 rfl rfl).trans (i_c ?_ ?_)
  · refine (x_iconst f204_29 rfl).trans ?_
    refine (x_goto (tg := 52) f204_30 rfl rfl).trans ?_
    exact x_kil f204_52 rfl
  · refine (x_aload f204_33 rfl rfl).trans ?_
    refine (y_get2 (ji := 18) rfl f204_34 rfl rfl).trans ?_
    refine (g_t rfl).trans ?_
    refine (g_t (by rw [show s 56 18 = 68 from hR.2.2.2.2.2.2.2.2.2.2.2.2.2.2.2.2.2.2.2.2.2.2.2.2.2.2.2.2.2.2.2.2.2.2.2.2.2.2.2.2.2.2.2.2.2.2.2.2.2.2.2.2.2.2.2.2.2.2.2.2.2.2.2.2.1]; decide)).trans ?_
    rw [show s 56 18 = 68 from hR.2.2.2.2.2.2.2.2.2.2.2.2.2.2.2.2.2.2.2.2.2.2.2.2.2.2.2.2.2.2.2.2.2.2.2.2.2.2.2.2.2.2.2.2.2.2.2.2.2.2.2.2.2.2.2.2.2.2.2.2.2.2.2.2.1]
    refine (x_iload f204_37 rfl rfl).trans ?_
    refine (x_iaload f204_38 rfl).trans ?_
    refine (g_t rfl).trans ?_
    refine (g_kt (n := 3) rfl hg2).trans ?_
    refine (x_iconst f204_39 rfl).trans ?_
    refine (x_icmp_ge (tg := 51) f204_40 rfl rfl).trans ?_
    refine Eq.trans (b := if (s 68 l1) < 3 then sem 204 52 [aA 56, aI l1, aI l2, aU, aU, aU, aU, aU] [aI (if (0 : Int) < (s 58 (w32 ((w32 (10 + (w32 (3 * l1)))) + (s 56 15)))) then (-1) else 0), aI (s 58 (w32 ((w32 (10 + (w32 (3 * l1)))) + (s 56 15))))] s else sem 204 52 [aA 56, aI l1, aI l2, aU, aU, aU, aU, aU] [aI 0, aI (s 58 (w32 ((w32 (10 + (w32 (3 * l1)))) + (s 56 15))))] s) (i_c ?_ ?_) ?_
    · refine (x_iload f204_43 rfl rfl).trans ?_
      refine (x_if_le (tg := 51) f204_44 rfl rfl).trans ?_
      refine Eq.trans (b := if (0 : Int) < (s 58 (w32 ((w32 (10 + (w32 (3 * l1)))) + (s 56 15)))) then sem 204 52 [aA 56, aI l1, aI l2, aU, aU, aU, aU, aU] [aI ((-1)), aI (s 58 (w32 ((w32 (10 + (w32 (3 * l1)))) + (s 56 15))))] s else sem 204 52 [aA 56, aI l1, aI l2, aU, aU, aU, aU, aU] [aI 0, aI (s 58 (w32 ((w32 (10 + (w32 (3 * l1)))) + (s 56 15))))] s) (i_c ?_ ?_) ?_
      · refine (x_iconst f204_47 rfl).trans ?_
        refine (x_goto (tg := 52) f204_48 rfl rfl).trans ?_
        exact x_kil f204_52 rfl
      · refine (x_kil (l2 := [aA 56, aI l1, aI l2, aU, aU, aU, aU, aU]) f204_51 rfl).trans ?_
        refine (x_iconst f204_51 rfl).trans ?_
        rfl
      refine m_I.trans ?_
      rfl
    · refine (x_kil (l2 := [aA 56, aI l1, aI l2, aU, aU, aU, aU, aU]) f204_51 rfl).trans ?_
      refine (x_iconst f204_51 rfl).trans ?_
      rfl
    refine m_I.trans ?_
    rfl
set_option maxRecDepth 10000 in
theorem g204_52 {s : SG} (hR : RefC s) (l1 l2 v0 v1 : Int) : sem 204 52 [aA 56, aI l1, aI l2, aU, aU, aU, aU, aU] [aI v0, aI v1] s = if l1 = (s 56 38) then sem 204 77 [aA 56, aI l1, aI l2, aU, aU, aU, aU, aU] [aI 1, aI (w32 (v1 + v0))] s else grd ((0 : Int) ≤ l1 ∧ l1 < 3) (sem 204 77 [aA 56, aI l1, aI l2, aU, aU, aU, aU, aU] [aI (iandA (ishrA (s 67 l1) l2) 1), aI (w32 (v1 + v0))] s) := by
  refine (x_iadd f204_52 rfl).trans ?_
  refine (x_istore (l2 := [aA 56, aI l1, aI l2, aI (w32 (v1 + v0)), aU, aU, aU, aU]) f204_53 rfl rfl).trans ?_
  refine (x_iload f204_54 rfl rfl).trans ?_
  refine (x_iload f204_55 rfl rfl).trans ?_
  refine (x_aload f204_56 rfl rfl).trans ?_
  refine (y_get0 (ji := 38) rfl f204_57 rfl rfl).trans ?_
  refine (g_t rfl).trans ?_
  refine (x_icmp_ne (tg := 67) f204_60 rfl rfl).trans (i_c ?_ ?_)
  · refine (x_iconst f204_63 rfl).trans ?_
    refine (x_goto (tg := 77) f204_64 rfl rfl).trans ?_
    exact x_kil f204_77 rfl
  · refine (x_aload f204_67 rfl rfl).trans ?_
    refine (y_get2 (ji := 17) rfl f204_68 rfl rfl).trans ?_
    refine (g_t rfl).trans ?_
    refine (g_t (by rw [show s 56 17 = 67 from hR.2.2.2.2.2.2.2.2.2.2.2.2.2.2.2.2.2.2.2.2.2.2.2.2.2.2.2.2.2.2.2.2.2.2.2.2.2.2.2.2.2.2.2.2.2.2.2.2.2.2.2.2.2.2.2.2.2.2.2.2.2.2.2.1]; decide)).trans ?_
    rw [show s 56 17 = 67 from hR.2.2.2.2.2.2.2.2.2.2.2.2.2.2.2.2.2.2.2.2.2.2.2.2.2.2.2.2.2.2.2.2.2.2.2.2.2.2.2.2.2.2.2.2.2.2.2.2.2.2.2.2.2.2.2.2.2.2.2.2.2.2.2.1]
    refine (x_iload f204_71 rfl rfl).trans ?_
    refine (x_iaload f204_72 rfl).trans ?_
    refine (g_t rfl).trans ?_
    refine g_kl (n := 3) rfl fun hg1 => ?_
    refine (x_iload f204_73 rfl rfl).trans ?_
    refine (x_ishr f204_74 rfl).trans ?_
    refine (x_iconst f204_75 rfl).trans ?_
    refine (x_iand f204_76 rfl).trans ?_
    exact x_kil f204_77 rfl
set_option maxRecDepth 10000 in
theorem g204_77 {s : SG} (hR : RefC s) (l1 l2 v0 v1 : Int) : sem 204 77 [aA 56, aI l1, aI l2, aU, aU, aU, aU, aU] [aI v0, aI v1] s = grd ((0 : Int) ≤ l1 ∧ l1 < 3) (bnI (sem 188 0 [aI (w32 ((w32 (v1 + v0)) + (s 77 l1))), aI (s 76 l1)] [] s) fun a3 s2 => grd ((0 : Int) ≤ (w32 ((w32 (6 * l1)) + l2)) ∧ (w32 ((w32 (6 * l1)) + l2)) < 18) (if (0 : Int) < l2 then grd ((0 : Int) ≤ (w32 ((w32 ((w32 (6 * l1)) + l2)) - 1)) ∧ (w32 ((w32 ((w32 (6 * l1)) + l2)) - 1)) < 18) (sem 204 168 [aA 56, aI l1, aI l2, aU, aI (w32 ((w32 (v1 + v0)) + (s 77 l1))), aU, aI (w32 ((w32 ((w32 (v1 + v0)) + (s 77 l1))) - a3)), aU] [aI (s2 73 (w32 ((w32 ((w32 (6 * l1)) + l2)) - 1))), aI a3, aI (w32 ((w32 (6 * l1)) + l2)), aA 73] (up (up s2 76 l1 (w32 ((s2 76 l1) - a3))) 72 (w32 ((w32 (6 * l1)) + l2)) (w32 ((s2 76 l1) - a3)))) else sem 204 168 [aA 56, aI l1, aI l2, aU, aI (w32 ((w32 (v1 + v0)) + (s 77 l1))), aU, aI (w32 ((w32 ((w32 (v1 + v0)) + (s 77 l1))) - a3)), aU] [aI 0, aI a3, aI (w32 ((w32 (6 * l1)) + l2)), aA 73] (up (up s2 76 l1 (w32 ((s2 76 l1) - a3))) 72 (w32 ((w32 (6 * l1)) + l2)) (w32 ((s2 76 l1) - a3))))) := by
  refine (x_iadd f204_77 rfl).trans ?_
  refine (x_aload f204_78 rfl rfl).trans ?_
  refine (y_get2 (ji := 31) rfl f204_79 rfl rfl).trans ?_
  refine (g_t rfl).trans ?_
  refine (g_t (by rw [show s 56 31 = 77 from hR.2.2.2.2.2.2.2.2.2.2.2.2.2.2.2.2.2.2.2.2.2.2.2.2.2.2.2.2.2.2.2.2.2.2.2.2.2.2.2.2.2.2.2.2.2.2.2.2.2.2.2.2.2.2.2.2.2.2.2.2.2.2.2.2.2.2.2.2.2.2.2.2.2.1]; decide)).trans ?_
  rw [show s 56 31 = 77 from hR.2.2.2.2.2.2.2.2.2.2.2.2.2.2.2.2.2.2.2.2.2.2.2.2.2.2.2.2.2.2.2.2.2.2.2.2.2.2.2.2.2.2.2.2.2.2.2.2.2.2.2.2.2.2.2.2.2.2.2.2.2.2.2.2.2.2.2.2.2.2.2.2.2.1]
  refine (x_iload f204_82 rfl rfl).trans ?_
  refine (x_iaload f204_83 rfl).trans ?_
  refine (g_t rfl).trans ?_
  refine g_kl (n := 3) rfl fun hg1 => ?_
  refine (x_iadd f204_84 rfl).trans ?_
  refine (x_istore (l2 := [aA 56, aI l1, aI l2, aU, aI (w32 ((w32 (v1 + v0)) + (s 77 l1))), aU, aU, aU]) f204_85 rfl rfl).trans ?_
  refine (x_iload f204_87 rfl rfl).trans ?_
  refine (x_aload f204_89 rfl rfl).trans ?_
  refine (y_get2 (ji := 30) rfl f204_90 rfl rfl).trans ?_
  refine (g_t rfl).trans ?_
  refine (g_t (by rw [show s 56 30 = 76 from hR.2.2.2.2.2.2.2.2.2.2.2.2.2.2.2.2.2.2.2.2.2.2.2.2.2.2.2.2.2.2.2.2.2.2.2.2.2.2.2.2.2.2.2.2.2.2.2.2.2.2.2.2.2.2.2.2.2.2.2.2.2.2.2.2.2.2.2.2.2.2.2.2.1]; decide)).trans ?_
  rw [show s 56 30 = 76 from hR.2.2.2.2.2.2.2.2.2.2.2.2.2.2.2.2.2.2.2.2.2.2.2.2.2.2.2.2.2.2.2.2.2.2.2.2.2.2.2.2.2.2.2.2.2.2.2.2.2.2.2.2.2.2.2.2.2.2.2.2.2.2.2.2.2.2.2.2.2.2.2.2.1]
  refine (x_iload f204_93 rfl rfl).trans ?_
  refine (x_iaload f204_94 rfl).trans ?_
  refine (g_t rfl).trans ?_
  refine (g_kt (n := 3) rfl hg1).trans ?_
  refine (x_invokestatic (G := bnI (sem 188 0 [aI (w32 ((w32 (v1 + v0)) + (s 77 l1))), aI (s 76 l1)] [] s) fun a3 s2 => sem 204 98 [aA 56, aI l1, aI l2, aU, aI (w32 ((w32 (v1 + v0)) + (s 77 l1))), aU, aU, aU] [aI a3] s2) f204_95 rfl rfl).trans ?_
  refine bI_h fun a3 s2 qs2 => ?_
  have rs2 := RefC.sem qs2 rfl hR
  refine (x_istore (l2 := [aA 56, aI l1, aI l2, aU, aI (w32 ((w32 (v1 + v0)) + (s 77 l1))), aI a3, aU, aU]) f204_98 rfl rfl).trans ?_
  refine (x_iload f204_100 rfl rfl).trans ?_
  refine (x_iload f204_102 rfl rfl).trans ?_
  refine (x_isub f204_104 rfl).trans ?_
  refine (x_istore (l2 := [aA 56, aI l1, aI l2, aU, aI (w32 ((w32 (v1 + v0)) + (s 77 l1))), aI a3, aI (w32 ((w32 ((w32 (v1 + v0)) + (s 77 l1))) - a3)), aU]) f204_105 rfl rfl).trans ?_
  refine (x_aload f204_107 rfl rfl).trans ?_
  refine (y_get2 (ji := 30) rfl f204_108 rfl rfl).trans ?_
  refine (g_t rfl).trans ?_
  refine (g_t (by rw [show s2 56 30 = 76 from rs2.2.2.2.2.2.2.2.2.2.2.2.2.2.2.2.2.2.2.2.2.2.2.2.2.2.2.2.2.2.2.2.2.2.2.2.2.2.2.2.2.2.2.2.2.2.2.2.2.2.2.2.2.2.2.2.2.2.2.2.2.2.2.2.2.2.2.2.2.2.2.2.2.1]; decide)).trans ?_
  rw [show s2 56 30 = 76 from rs2.2.2.2.2.2.2.2.2.2.2.2.2.2.2.2.2.2.2.2.2.2.2.2.2.2.2.2.2.2.2.2.2.2.2.2.2.2.2.2.2.2.2.2.2.2.2.2.2.2.2.2.2.2.2.2.2.2.2.2.2.2.2.2.2.2.2.2.2.2.2.2.2.1]
  refine (x_iload f204_111 rfl rfl).trans ?_
  refine (x_dup2 f204_112 rfl rfl).trans ?_
  refine (x_iaload f204_113 rfl).trans ?_
  refine (g_t rfl).trans ?_
  refine (g_kt (n := 3) rfl hg1).trans ?_
  refine (x_iload f204_114 rfl rfl).trans ?_
  refine (x_isub f204_116 rfl).trans ?_
  refine (x_iastore f204_117 rfl).trans ?_
  refine (g_t rfl).trans ?_
  refine (g_kt (n := 3) rfl hg1).trans ?_
  refine (x_aload f204_118 rfl rfl).trans ?_
  refine (y_get2 (ji := 26) rfl f204_119 rfl rfl).trans ?_
  refine (g_t rfl).trans ?_
  refine (g_t (by rw [show (up s2 76 l1 (w32 ((s2 76 l1) - a3))) 56 26 = 72 from (by rw [up_ne (by decide)]; exact rs2.2.2.2.2.2.2.2.2.2.2.2.2.2.2.2.2.2.2.2.2.2.2.2.2.2.2.2.2.2.2.2.2.2.2.2.2.2.2.2.2.2.2.2.2.2.2.2.2.2.2.2.2.2.2.2.2.2.2.2.2.2.2.2.2.2.2.2.2.1)]; decide)).trans ?_
  rw [show (up s2 76 l1 (w32 ((s2 76 l1) - a3))) 56 26 = 72 from (by rw [up_ne (by decide)]; exact rs2.2.2.2.2.2.2.2.2.2.2.2.2.2.2.2.2.2.2.2.2.2.2.2.2.2.2.2.2.2.2.2.2.2.2.2.2.2.2.2.2.2.2.2.2.2.2.2.2.2.2.2.2.2.2.2.2.2.2.2.2.2.2.2.2.2.2.2.2.1)]
  refine (x_iconst f204_122 rfl).trans ?_
  refine (x_iload f204_124 rfl rfl).trans ?_
  refine (x_imul f204_125 rfl).trans ?_
  refine (x_iload f204_126 rfl rfl).trans ?_
  refine (x_iadd f204_127 rfl).trans ?_
  refine (x_aload f204_128 rfl rfl).trans ?_
  refine (y_get2 (ji := 30) rfl f204_129 rfl rfl).trans ?_
  refine (g_t rfl).trans ?_
  refine (g_t (by rw [show (up s2 76 l1 (w32 ((s2 76 l1) - a3))) 56 30 = 76 from (by rw [up_ne (by decide)]; exact rs2.2.2.2.2.2.2.2.2.2.2.2.2.2.2.2.2.2.2.2.2.2.2.2.2.2.2.2.2.2.2.2.2.2.2.2.2.2.2.2.2.2.2.2.2.2.2.2.2.2.2.2.2.2.2.2.2.2.2.2.2.2.2.2.2.2.2.2.2.2.2.2.2.1)]; decide)).trans ?_
  rw [show (up s2 76 l1 (w32 ((s2 76 l1) - a3))) 56 30 = 76 from (by rw [up_ne (by decide)]; exact rs2.2.2.2.2.2.2.2.2.2.2.2.2.2.2.2.2.2.2.2.2.2.2.2.2.2.2.2.2.2.2.2.2.2.2.2.2.2.2.2.2.2.2.2.2.2.2.2.2.2.2.2.2.2.2.2.2.2.2.2.2.2.2.2.2.2.2.2.2.2.2.2.2.1)]
  refine (x_iload f204_132 rfl rfl).trans ?_
  refine (x_iaload f204_133 rfl).trans ?_
  refine (g_t rfl).trans ?_
  refine (g_kt (n := 3) rfl hg1).trans ?_
  rw [show (up s2 76 l1 (w32 ((s2 76 l1) - a3))) 76 l1 = w32 ((s2 76 l1) - a3) from by rw [up_at]]
  refine (x_iastore f204_134 rfl).trans ?_
  refine (g_t rfl).trans ?_
  refine g_kl (n := 18) rfl fun hg4 => ?_
  refine (x_aload f204_135 rfl rfl).trans ?_
  refine (y_get2 (ji := 27) rfl f204_136 rfl rfl).trans ?_
  refine (g_t rfl).trans ?_
  refine (g_t (by rw [show (up (up s2 76 l1 (w32 ((s2 76 l1) - a3))) 72 (w32 ((w32 (6 * l1)) + l2)) (w32 ((s2 76 l1) - a3))) 56 27 = 73 from (by rw [up_ne (by decide), up_ne (by decide)]; exact rs2.2.2.2.2.2.2.2.2.2.2.2.2.2.2.2.2.2.2.2.2.2.2.2.2.2.2.2.2.2.2.2.2.2.2.2.2.2.2.2.2.2.2.2.2.2.2.2.2.2.2.2.2.2.2.2.2.2.2.2.2.2.2.2.2.2.2.2.2.2.1)]; decide)).trans ?_
  rw [show (up (up s2 76 l1 (w32 ((s2 76 l1) - a3))) 72 (w32 ((w32 (6 * l1)) + l2)) (w32 ((s2 76 l1) - a3))) 56 27 = 73 from (by rw [up_ne (by decide), up_ne (by decide)]; exact rs2.2.2.2.2.2.2.2.2.2.2.2.2.2.2.2.2.2.2.2.2.2.2.2.2.2.2.2.2.2.2.2.2.2.2.2.2.2.2.2.2.2.2.2.2.2.2.2.2.2.2.2.2.2.2.2.2.2.2.2.2.2.2.2.2.2.2.2.2.2.1)]
  refine (x_iconst f204_139 rfl).trans ?_
  refine (x_iload f204_141 rfl rfl).trans ?_
  refine (x_imul f204_142 rfl).trans ?_
  refine (x_iload f204_143 rfl rfl).trans ?_
  refine (x_iadd f204_144 rfl).trans ?_
  refine (x_iload f204_145 rfl rfl).trans ?_
  refine (x_iload f204_147 rfl rfl).trans ?_
  refine (x_if_le (tg := 167) f204_148 rfl rfl).trans (i_c ?_ ?_)
  · refine (x_aload f204_151 rfl rfl).trans ?_
    refine (y_get2 (ji := 27) rfl f204_152 rfl rfl).trans ?_
    refine (g_t rfl).trans ?_
    refine (g_t (by rw [show (up (up s2 76 l1 (w32 ((s2 76 l1) - a3))) 72 (w32 ((w32 (6 * l1)) + l2)) (w32 ((s2 76 l1) - a3))) 56 27 = 73 from (by rw [up_ne (by decide), up_ne (by decide)]; exact rs2.2.2.2.2.2.2.2.2.2.2.2.2.2.2.2.2.2.2.2.2.2.2.2.2.2.2.2.2.2.2.2.2.2.2.2.2.2.2.2.2.2.2.2.2.2.2.2.2.2.2.2.2.2.2.2.2.2.2.2.2.2.2.2.2.2.2.2.2.2.1)]; decide)).trans ?_
    rw [show (up (up s2 76 l1 (w32 ((s2 76 l1) - a3))) 72 (w32 ((w32 (6 * l1)) + l2)) (w32 ((s2 76 l1) - a3))) 56 27 = 73 from (by rw [up_ne (by decide), up_ne (by decide)]; exact rs2.2.2.2.2.2.2.2.2.2.2.2.2.2.2.2.2.2.2.2.2.2.2.2.2.2.2.2.2.2.2.2.2.2.2.2.2.2.2.2.2.2.2.2.2.2.2.2.2.2.2.2.2.2.2.2.2.2.2.2.2.2.2.2.2.2.2.2.2.2.1)]
    refine (x_iconst f204_155 rfl).trans ?_
    refine (x_iload f204_157 rfl rfl).trans ?_
    refine (x_imul f204_158 rfl).trans ?_
    refine (x_iload f204_159 rfl rfl).trans ?_
    refine (x_iadd f204_160 rfl).trans ?_
    refine (x_iconst f204_161 rfl).trans ?_
    refine (x_isub f204_162 rfl).trans ?_
    refine (x_iaload f204_163 rfl).trans ?_
    refine (g_t rfl).trans ?_
    refine g_kl (n := 18) rfl fun hg5 => ?_
    rw [show (up (up s2 76 l1 (w32 ((s2 76 l1) - a3))) 72 (w32 ((w32 (6 * l1)) + l2)) (w32 ((s2 76 l1) - a3))) 73 (w32 ((w32 ((w32 (6 * l1)) + l2)) - 1)) = s2 73 (w32 ((w32 ((w32 (6 * l1)) + l2)) - 1)) from by rw [up_ne (by decide), up_ne (by decide)]]
    refine (x_goto (tg := 168) f204_164 rfl rfl).trans ?_
    exact x_kil f204_168 rfl
  · refine (x_iconst f204_167 rfl).trans ?_
    exact x_kil f204_168 rfl
set_option maxRecDepth 10000 in
theorem g204_168 {s : SG} (hR : RefC s) (l1 l2 l4 l6 v0 v1 v2 : Int) : sem 204 168 [aA 56, aI l1, aI l2, aU, aI l4, aU, aI l6, aU] [aI v0, aI v1, aI v2, aA 73] s = grd ((0 : Int) ≤ v2 ∧ v2 < 18) (grd ((0 : Int) ≤ (w32 ((w32 (6 * l1)) + l2)) ∧ (w32 ((w32 (6 * l1)) + l2)) < 18) (grd ((0 : Int) ≤ (w32 (7 + l1)) ∧ (w32 (7 + l1)) < 28) (if (s 58 (w32 (7 + l1))) = ((-9)) then some (aU, up (up (up (up s 73 v2 (w32 (v1 + v0))) 74 (w32 ((w32 (6 * l1)) + l2)) l4) 75 (w32 ((w32 (6 * l1)) + l2)) l6) 56 34 (w32 ((s 56 34) + l6))) else if l2 = 5 then some (aU, up (up (up (up s 73 v2 (w32 (v1 + v0))) 74 (w32 ((w32 (6 * l1)) + l2)) l4) 75 (w32 ((w32 (6 * l1)) + l2)) l6) 56 34 (w32 ((s 56 34) + l6))) else grd ((0 : Int) ≤ (s 58 (w32 (7 + l1))) ∧ (s 58 (w32 (7 + l1))) < 3) (some (aU, up (up (up (up s 73 v2 (w32 (v1 + v0))) 74 (w32 ((w32 (6 * l1)) + l2)) l4) 75 (w32 ((w32 (6 * l1)) + l2)) l6) 78 (s 58 (w32 (7 + l1))) (w32 ((s 78 (s 58 (w32 (7 + l1)))) + l6))))))) := by
  refine (x_iadd f204_168 rfl).trans ?_
  refine (x_iastore f204_169 rfl).trans ?_
  refine (g_t rfl).trans ?_
  refine g_kl (n := 18) rfl fun hg1 => ?_
  refine (x_aload f204_170 rfl rfl).trans ?_
  refine (y_get2 (ji := 28) rfl f204_171 rfl rfl).trans ?_
  refine (g_t rfl).trans ?_
  refine (g_t (by rw [show (up s 73 v2 (w32 (v1 + v0))) 56 28 = 74 from (by rw [up_ne (by decide)]; exact hR.2.2.2.2.2.2.2.2.2.2.2.2.2.2.2.2.2.2.2.2.2.2.2.2.2.2.2.2.2.2.2.2.2.2.2.2.2.2.2.2.2.2.2.2.2.2.2.2.2.2.2.2.2.2.2.2.2.2.2.2.2.2.2.2.2.2.2.2.2.2.1)]; decide)).trans ?_
  rw [show (up s 73 v2 (w32 (v1 + v0))) 56 28 = 74 from (by rw [up_ne (by decide)]; exact hR.2.2.2.2.2.2.2.2.2.2.2.2.2.2.2.2.2.2.2.2.2.2.2.2.2.2.2.2.2.2.2.2.2.2.2.2.2.2.2.2.2.2.2.2.2.2.2.2.2.2.2.2.2.2.2.2.2.2.2.2.2.2.2.2.2.2.2.2.2.2.1)]
  refine (x_iconst f204_174 rfl).trans ?_
  refine (x_iload f204_176 rfl rfl).trans ?_
  refine (x_imul f204_177 rfl).trans ?_
  refine (x_iload f204_178 rfl rfl).trans ?_
  refine (x_iadd f204_179 rfl).trans ?_
  refine (x_iload f204_180 rfl rfl).trans ?_
  refine (x_iastore f204_182 rfl).trans ?_
  refine (g_t rfl).trans ?_
  refine g_kl (n := 18) rfl fun hg2 => ?_
  refine (x_aload f204_183 rfl rfl).trans ?_
  refine (y_get2 (ji := 29) rfl f204_184 rfl rfl).trans ?_
  refine (g_t rfl).trans ?_
  refine (g_t (by rw [show (up (up s 73 v2 (w32 (v1 + v0))) 74 (w32 ((w32 (6 * l1)) + l2)) l4) 56 29 = 75 from (by rw [up_ne (by decide), up_ne (by decide)]; exact hR.2.2.2.2.2.2.2.2.2.2.2.2.2.2.2.2.2.2.2.2.2.2.2.2.2.2.2.2.2.2.2.2.2.2.2.2.2.2.2.2.2.2.2.2.2.2.2.2.2.2.2.2.2.2.2.2.2.2.2.2.2.2.2.2.2.2.2.2.2.2.2.1)]; decide)).trans ?_
  rw [show (up (up s 73 v2 (w32 (v1 + v0))) 74 (w32 ((w32 (6 * l1)) + l2)) l4) 56 29 = 75 from (by rw [up_ne (by decide), up_ne (by decide)]; exact hR.2.2.2.2.2.2.2.2.2.2.2.2.2.2.2.2.2.2.2.2.2.2.2.2.2.2.2.2.2.2.2.2.2.2.2.2.2.2.2.2.2.2.2.2.2.2.2.2.2.2.2.2.2.2.2.2.2.2.2.2.2.2.2.2.2.2.2.2.2.2.2.1)]
  refine (x_iconst f204_187 rfl).trans ?_
  refine (x_iload f204_189 rfl rfl).trans ?_
  refine (x_imul f204_190 rfl).trans ?_
  refine (x_iload f204_191 rfl rfl).trans ?_
  refine (x_iadd f204_192 rfl).trans ?_
  refine (x_iload f204_193 rfl rfl).trans ?_
  refine (x_iastore f204_195 rfl).trans ?_
  refine (g_t rfl).trans ?_
  refine (g_kt (n := 18) rfl hg2).trans ?_
  refine (x_aload f204_196 rfl rfl).trans ?_
  refine (y_get2 (ji := 1) rfl f204_197 rfl rfl).trans ?_
  refine (g_t rfl).trans ?_
  refine (g_t (by rw [show (up (up (up s 73 v2 (w32 (v1 + v0))) 74 (w32 ((w32 (6 * l1)) + l2)) l4) 75 (w32 ((w32 (6 * l1)) + l2)) l6) 56 1 = 58 from (by rw [up_ne (by decide), up_ne (by decide), up_ne (by decide)]; exact hR.2.2.2.2.2.2.2.2.2.2.2.2.2.2.2.2.2.2.2.2.2.2.2.2.2.2.2.2.2.2.2.2.2.2.2.2.2.2.2.2.2.2.2.2.2.2.2.2.2.2.2.2.2.2.1)]; decide)).trans ?_
  rw [show (up (up (up s 73 v2 (w32 (v1 + v0))) 74 (w32 ((w32 (6 * l1)) + l2)) l4) 75 (w32 ((w32 (6 * l1)) + l2)) l6) 56 1 = 58 from (by rw [up_ne (by decide), up_ne (by decide), up_ne (by decide)]; exact hR.2.2.2.2.2.2.2.2.2.2.2.2.2.2.2.2.2.2.2.2.2.2.2.2.2.2.2.2.2.2.2.2.2.2.2.2.2.2.2.2.2.2.2.2.2.2.2.2.2.2.2.2.2.2.1)]
  refine (x_iconst f204_200 rfl).trans ?_
  refine (x_iload f204_202 rfl rfl).trans ?_
  refine (x_iadd f204_203 rfl).trans ?_
  refine (x_iaload f204_204 rfl).trans ?_
  refine (g_t rfl).trans ?_
  refine g_kl (n := 28) rfl fun hg3 => ?_
  rw [show (up (up (up s 73 v2 (w32 (v1 + v0))) 74 (w32 ((w32 (6 * l1)) + l2)) l4) 75 (w32 ((w32 (6 * l1)) + l2)) l6) 58 (w32 (7 + l1)) = s 58 (w32 (7 + l1)) from by rw [up_ne (by decide), up_ne (by decide), up_ne (by decide)]]
  refine (x_istore (l2 := [aA 56, aI l1, aI l2, aU, aI l4, aU, aI l6, aI (s 58 (w32 (7 + l1)))]) f204_205 rfl rfl).trans ?_
  refine (x_iload f204_207 rfl rfl).trans ?_
  refine (x_iconst f204_209 rfl).trans ?_
  refine (x_icmp_eq (tg := 219) f204_211 rfl rfl).trans (i_c ?_ ?_)
  · refine (x_kil (l2 := [aA 56, aU, aU, aU, aU, aU, aI l6, aU]) f204_219 rfl).trans ?_
    refine (x_aload f204_219 rfl rfl).trans ?_
    refine (x_dup f204_220 rfl rfl).trans ?_
    refine (y_get0 (ji := 34) rfl f204_221 rfl rfl).trans ?_
    refine (g_t rfl).trans ?_
    rw [show (up (up (up s 73 v2 (w32 (v1 + v0))) 74 (w32 ((w32 (6 * l1)) + l2)) l4) 75 (w32 ((w32 (6 * l1)) + l2)) l6) 56 34 = s 56 34 from by rw [up_ne (by decide), up_ne (by decide), up_ne (by decide)]]
    refine (x_iload f204_224 rfl rfl).trans ?_
    refine (x_iadd f204_226 rfl).trans ?_
    refine (y_put0 (ji := 34) rfl f204_227 rfl rfl).trans ?_
    refine (g_t rfl).trans ?_
    refine (x_goto (tg := 245) f204_230 rfl rfl).trans ?_
    refine (x_kil (l2 := [aU, aU, aU, aU, aU, aU, aU, aU]) f204_245 rfl).trans ?_
    exact x_return f204_245 rfl
  · refine (x_iload f204_214 rfl rfl).trans ?_
    refine (x_iconst f204_215 rfl).trans ?_
    refine (x_icmp_ne (tg := 233) f204_216 rfl rfl).trans (i_c ?_ ?_)
    · refine (x_kil (l2 := [aA 56, aU, aU, aU, aU, aU, aI l6, aU]) f204_219 rfl).trans ?_
      refine (x_aload f204_219 rfl rfl).trans ?_
      refine (x_dup f204_220 rfl rfl).trans ?_
      refine (y_get0 (ji := 34) rfl f204_221 rfl rfl).trans ?_
      refine (g_t rfl).trans ?_
      rw [show (up (up (up s 73 v2 (w32 (v1 + v0))) 74 (w32 ((w32 (6 * l1)) + l2)) l4) 75 (w32 ((w32 (6 * l1)) + l2)) l6) 56 34 = s 56 34 from by rw [up_ne (by decide), up_ne (by decide), up_ne (by decide)]]
      refine (x_iload f204_224 rfl rfl).trans ?_
      refine (x_iadd f204_226 rfl).trans ?_
      refine (y_put0 (ji := 34) rfl f204_227 rfl rfl).trans ?_
      refine (g_t rfl).trans ?_
      refine (x_goto (tg := 245) f204_230 rfl rfl).trans ?_
      refine (x_kil (l2 := [aU, aU, aU, aU, aU, aU, aU, aU]) f204_245 rfl).trans ?_
      exact x_return f204_245 rfl
    · refine (x_aload f204_233 rfl rfl).trans ?_
      refine (y_get2 (ji := 32) rfl f204_234 rfl rfl).trans ?_
      refine (g_t rfl).trans ?_
      refine (g_t (by rw [show (up (up (up s 73 v2 (w32 (v1 + v0))) 74 (w32 ((w32 (6 * l1)) + l2)) l4) 75 (w32 ((w32 (6 * l1)) + l2)) l6) 56 32 = 78 from (by rw [up_ne (by decide), up_ne (by decide), up_ne (by decide)]; exact hR.2.2.2.2.2.2.2.2.2.2.2.2.2.2.2.2.2.2.2.2.2.2.2.2.2.2.2.2.2.2.2.2.2.2.2.2.2.2.2.2.2.2.2.2.2.2.2.2.2.2.2.2.2.2.2.2.2.2.2.2.2.2.2.2.2.2.2.2.2.2.2.2.2.2.1)]; decide)).trans ?_
      rw [show (up (up (up s 73 v2 (w32 (v1 + v0))) 74 (w32 ((w32 (6 * l1)) + l2)) l4) 75 (w32 ((w32 (6 * l1)) + l2)) l6) 56 32 = 78 from (by rw [up_ne (by decide), up_ne (by decide), up_ne (by decide)]; exact hR.2.2.2.2.2.2.2.2.2.2.2.2.2.2.2.2.2.2.2.2.2.2.2.2.2.2.2.2.2.2.2.2.2.2.2.2.2.2.2.2.2.2.2.2.2.2.2.2.2.2.2.2.2.2.2.2.2.2.2.2.2.2.2.2.2.2.2.2.2.2.2.2.2.2.1)]
      refine (x_iload f204_237 rfl rfl).trans ?_
      refine (x_dup2 f204_239 rfl rfl).trans ?_
      refine (x_iaload f204_240 rfl).trans ?_
      refine (g_t rfl).trans ?_
      refine g_kl (n := 3) rfl fun hg4 => ?_
      rw [show (up (up (up s 73 v2 (w32 (v1 + v0))) 74 (w32 ((w32 (6 * l1)) + l2)) l4) 75 (w32 ((w32 (6 * l1)) + l2)) l6) 78 (s 58 (w32 (7 + l1))) = s 78 (s 58 (w32 (7 + l1))) from by rw [up_ne (by decide), up_ne (by decide), up_ne (by decide)]]
      refine (x_iload f204_241 rfl rfl).trans ?_
      refine (x_iadd f204_243 rfl).trans ?_
      refine (x_iastore f204_244 rfl).trans ?_
      refine (g_t rfl).trans ?_
      refine (g_kt (n := 3) rfl hg4).trans ?_
      refine (x_kil (l2 := [aU, aU, aU, aU, aU, aU, aU, aU]) f204_245 rfl).trans ?_
      exact x_return f204_245 rfl
set_option maxRecDepth 10000 in
theorem g205_0 {s : SG} (hR : RefC s) : sem 205 0 [aA 56, aU, aU] [] s = sem 205 15 [aA 56, aI 0, aU] [] (up (up s 56 33 (s 56 19)) 56 34 0) := by
  refine (x_aload f205_0 rfl rfl).trans ?_
  refine (x_aload f205_1 rfl rfl).trans ?_
  refine (y_get0 (ji := 19) rfl f205_2 rfl rfl).trans ?_
  refine (g_t rfl).trans ?_
  refine (y_put0 (ji := 33) rfl f205_5 rfl rfl).trans ?_
  refine (g_t rfl).trans ?_
  refine (x_aload f205_8 rfl rfl).trans ?_
  refine (x_iconst f205_9 rfl).trans ?_
  refine (y_put0 (ji := 34) rfl f205_10 rfl rfl).trans ?_
  refine (g_t rfl).trans ?_
  refine (x_iconst f205_13 rfl).trans ?_
  refine (x_istore (l2 := [aA 56, aI 0, aU]) f205_14 rfl rfl).trans ?_
  rfl
set_option maxRecDepth 10000 in
theorem g205_15 {s : SG} (hR : RefC s) (l1 : Int) : sem 205 15 [aA 56, aI l1, aU] [] s = if l1 < 3 then grd ((0 : Int) ≤ l1 ∧ l1 < 3) (sem 205 15 [aA 56, aI (w32 (l1 + 1)), aU] [] (up (up s 76 l1 (s 66 l1)) 77 l1 0)) else sem 205 47 [aA 56, aI 0, aU] [] s := by
  refine (x_iload f205_15 rfl rfl).trans ?_
  refine (x_iconst f205_16 rfl).trans ?_
  refine (x_icmp_ge (tg := 45) f205_17 rfl rfl).trans (i_c ?_ ?_)
  · refine (x_aload f205_20 rfl rfl).trans ?_
    refine (y_get2 (ji := 30) rfl f205_21 rfl rfl).trans ?_
    refine (g_t rfl).trans ?_
    refine (g_t (by rw [show s 56 30 = 76 from hR.2.2.2.2.2.2.2.2.2.2.2.2.2.2.2.2.2.2.2.2.2.2.2.2.2.2.2.2.2.2.2.2.2.2.2.2.2.2.2.2.2.2.2.2.2.2.2.2.2.2.2.2.2.2.2.2.2.2.2.2.2.2.2.2.2.2.2.2.2.2.2.2.1]; decide)).trans ?_
    rw [show s 56 30 = 76 from hR.2.2.2.2.2.2.2.2.2.2.2.2.2.2.2.2.2.2.2.2.2.2.2.2.2.2.2.2.2.2.2.2.2.2.2.2.2.2.2.2.2.2.2.2.2.2.2.2.2.2.2.2.2.2.2.2.2.2.2.2.2.2.2.2.2.2.2.2.2.2.2.2.1]
    refine (x_iload f205_24 rfl rfl).trans ?_
    refine (x_aload f205_25 rfl rfl).trans ?_
    refine (y_get2 (ji := 16) rfl f205_26 rfl rfl).trans ?_
    refine (g_t rfl).trans ?_
    refine (g_t (by rw [show s 56 16 = 66 from hR.2.2.2.2.2.2.2.2.2.2.2.2.2.2.2.2.2.2.2.2.2.2.2.2.2.2.2.2.2.2.2.2.2.2.2.2.2.2.2.2.2.2.2.2.2.2.2.2.2.2.2.2.2.2.2.2.2.2.2.2.2.2.1]; decide)).trans ?_
    rw [show s 56 16 = 66 from hR.2.2.2.2.2.2.2.2.2.2.2.2.2.2.2.2.2.2.2.2.2.2.2.2.2.2.2.2.2.2.2.2.2.2.2.2.2.2.2.2.2.2.2.2.2.2.2.2.2.2.2.2.2.2.2.2.2.2.2.2.2.2.1]
    refine (x_iload f205_29 rfl rfl).trans ?_
    refine (x_iaload f205_30 rfl).trans ?_
    refine (g_t rfl).trans ?_
    refine g_kl (n := 3) rfl fun hg1 => ?_
    refine (x_iastore f205_31 rfl).trans ?_
    refine (g_t rfl).trans ?_
    refine (g_kt (n := 3) rfl hg1).trans ?_
    refine (x_aload f205_32 rfl rfl).trans ?_
    refine (y_get2 (ji := 31) rfl f205_33 rfl rfl).trans ?_
    refine (g_t rfl).trans ?_
    refine (g_t (by rw [show (up s 76 l1 (s 66 l1)) 56 31 = 77 from (by rw [up_ne (by decide)]; exact hR.2.2.2.2.2.2.2.2.2.2.2.2.2.2.2.2.2.2.2.2.2.2.2.2.2.2.2.2.2.2.2.2.2.2.2.2.2.2.2.2.2.2.2.2.2.2.2.2.2.2.2.2.2.2.2.2.2.2.2.2.2.2.2.2.2.2.2.2.2.2.2.2.2.1)]; decide)).trans ?_
    rw [show (up s 76 l1 (s 66 l1)) 56 31 = 77 from (by rw [up_ne (by decide)]; exact hR.2.2.2.2.2.2.2.2.2.2.2.2.2.2.2.2.2.2.2.2.2.2.2.2.2.2.2.2.2.2.2.2.2.2.2.2.2.2.2.2.2.2.2.2.2.2.2.2.2.2.2.2.2.2.2.2.2.2.2.2.2.2.2.2.2.2.2.2.2.2.2.2.2.1)]
    refine (x_iload f205_36 rfl rfl).trans ?_
    refine (x_iconst f205_37 rfl).trans ?_
    refine (x_iastore f205_38 rfl).trans ?_
    refine (g_t rfl).trans ?_
    refine (g_kt (n := 3) rfl hg1).trans ?_
    refine (x_iinc (l2 := [aA 56, aI (w32 (l1 + 1)), aU]) f205_39 rfl rfl rfl).trans ?_
    refine (x_goto (tg := 15) f205_42 rfl rfl).trans ?_
    rfl
  · refine (x_iconst f205_45 rfl).trans ?_
    refine (x_istore (l2 := [aA 56, aI 0, aU]) f205_46 rfl rfl).trans ?_
    rfl
set_option maxRecDepth 10000 in
theorem g205_47 {s : SG} (hR : RefC s) (l1 : Int) : sem 205 47 [aA 56, aI l1, aU] [] s = if l1 < 6 then bnV (sem 203 0 [aA 56, aI l1, aU] [] s) fun s1 => grd ((0 : Int) ≤ (s1 56 36) ∧ (s1 56 36) < 3) (if l1 = (s1 56 35) then sem 205 88 [aA 56, aI l1, aI 0] [] (up s1 76 (s1 56 36) (w32 ((s1 76 (s1 56 36)) + (s1 56 37)))) else sem 205 88 [aA 56, aI l1, aI 0] [] (up s1 76 (s1 56 36) (w32 ((s1 76 (s1 56 36)) + 0)))) else some (aU, s) := by
  refine (x_iload f205_47 rfl rfl).trans ?_
  refine (x_iconst f205_48 rfl).trans ?_
  refine (x_icmp_ge (tg := 161) f205_50 rfl rfl).trans (i_c ?_ ?_)
  · refine (x_aload f205_53 rfl rfl).trans ?_
    refine (x_iload f205_54 rfl rfl).trans ?_
    refine (x_invokevirtual (G := grd (kd 56 = 9) (bnV (sem 203 0 [aA 56, aI l1, aU] [] s) fun s1 => sem 205 58 [aA 56, aI l1, aU] [] s1)) f205_55 rfl rfl).trans ?_
    refine (g_t rfl).trans ?_
    refine bV_h fun s1 qs1 => ?_
    have rs1 := RefC.sem qs1 rfl hR
    refine (x_aload f205_58 rfl rfl).trans ?_
    refine (y_get2 (ji := 30) rfl f205_59 rfl rfl).trans ?_
    refine (g_t rfl).trans ?_
    refine (g_t (by rw [show s1 56 30 = 76 from rs1.2.2.2.2.2.2.2.2.2.2.2.2.2.2.2.2.2.2.2.2.2.2.2.2.2.2.2.2.2.2.2.2.2.2.2.2.2.2.2.2.2.2.2.2.2.2.2.2.2.2.2.2.2.2.2.2.2.2.2.2.2.2.2.2.2.2.2.2.2.2.2.2.1]; decide)).trans ?_
    rw [show s1 56 30 = 76 from rs1.2.2.2.2.2.2.2.2.2.2.2.2.2.2.2.2.2.2.2.2.2.2.2.2.2.2.2.2.2.2.2.2.2.2.2.2.2.2.2.2.2.2.2.2.2.2.2.2.2.2.2.2.2.2.2.2.2.2.2.2.2.2.2.2.2.2.2.2.2.2.2.2.1]
    refine (x_aload f205_62 rfl rfl).trans ?_
    refine (y_get0 (ji := 36) rfl f205_63 rfl rfl).trans ?_
    refine (g_t rfl).trans ?_
    refine (x_dup2 f205_66 rfl rfl).trans ?_
    refine (x_iaload f205_67 rfl).trans ?_
    refine (g_t rfl).trans ?_
    refine g_kl (n := 3) rfl fun hg2 => ?_
    refine (x_iload f205_68 rfl rfl).trans ?_
    refine (x_aload f205_69 rfl rfl).trans ?_
    refine (y_get0 (ji := 35) rfl f205_70 rfl rfl).trans ?_
    refine (g_t rfl).trans ?_
    refine (x_icmp_ne (tg := 83) f205_73 rfl rfl).trans (i_c ?_ ?_)
    · refine (x_aload f205_76 rfl rfl).trans ?_
      refine (y_get0 (ji := 37) rfl f205_77 rfl rfl).trans ?_
      refine (g_t rfl).trans ?_
      refine (x_goto (tg := 84) f205_80 rfl rfl).trans ?_
      refine (x_iadd f205_84 rfl).trans ?_
      refine (x_iastore f205_85 rfl).trans ?_
      refine (g_t rfl).trans ?_
      refine (g_kt (n := 3) rfl hg2).trans ?_
      refine (x_iconst f205_86 rfl).trans ?_
      refine (x_istore (l2 := [aA 56, aI l1, aI 0]) f205_87 rfl rfl).trans ?_
      rfl
    · refine (x_iconst f205_83 rfl).trans ?_
      refine (x_iadd f205_84 rfl).trans ?_
      refine (x_iastore f205_85 rfl).trans ?_
      refine (g_t rfl).trans ?_
      refine (g_kt (n := 3) rfl hg2).trans ?_
      refine (x_iconst f205_86 rfl).trans ?_
      refine (x_istore (l2 := [aA 56, aI l1, aI 0]) f205_87 rfl rfl).trans ?_
      rfl
  · exact x_return f205_161 rfl
set_option maxRecDepth 10000 in
theorem g205_88 {s : SG} (hR : RefC s) (l1 l2 : Int) : sem 205 88 [aA 56, aI l1, aI l2] [] s = if l2 < 3 then grd ((0 : Int) ≤ l2 ∧ l2 < 3) (sem 205 88 [aA 56, aI l1, aI (w32 (l2 + 1))] [] (up s 78 l2 0)) else sem 205 108 [aA 56, aI l1, aI 0] [] s := by
  refine (x_iload f205_88 rfl rfl).trans ?_
  refine (x_iconst f205_89 rfl).trans ?_
  refine (x_icmp_ge (tg := 106) f205_90 rfl rfl).trans (i_c ?_ ?_)
  · refine (x_aload f205_93 rfl rfl).trans ?_
    refine (y_get2 (ji := 32) rfl f205_94 rfl rfl).trans ?_
    refine (g_t rfl).trans ?_
    refine (g_t (by rw [show s 56 32 = 78 from hR.2.2.2.2.2.2.2.2.2.2.2.2.2.2.2.2.2.2.2.2.2.2.2.2.2.2.2.2.2.2.2.2.2.2.2.2.2.2.2.2.2.2.2.2.2.2.2.2.2.2.2.2.2.2.2.2.2.2.2.2.2.2.2.2.2.2.2.2.2.2.2.2.2.2.1]; decide)).trans ?_
    rw [show s 56 32 = 78 from hR.2.2.2.2.2.2.2.2.2.2.2.2.2.2.2.2.2.2.2.2.2.2.2.2.2.2.2.2.2.2.2.2.2.2.2.2.2.2.2.2.2.2.2.2.2.2.2.2.2.2.2.2.2.2.2.2.2.2.2.2.2.2.2.2.2.2.2.2.2.2.2.2.2.2.1]
    refine (x_iload f205_97 rfl rfl).trans ?_
    refine (x_iconst f205_98 rfl).trans ?_
    refine (x_iastore f205_99 rfl).trans ?_
    refine (g_t rfl).trans ?_
    refine g_kl (n := 3) rfl fun hg1 => ?_
    refine (x_iinc (l2 := [aA 56, aI l1, aI (w32 (l2 + 1))]) f205_100 rfl rfl rfl).trans ?_
    refine (x_goto (tg := 88) f205_103 rfl rfl).trans ?_
    rfl
  · refine (x_iconst f205_106 rfl).trans ?_
    refine (x_istore (l2 := [aA 56, aI l1, aI 0]) f205_107 rfl rfl).trans ?_
    rfl
set_option maxRecDepth 10000 in
theorem g205_108 {s : SG} (hR : RefC s) (l1 l2 : Int) : sem 205 108 [aA 56, aI l1, aI l2] [] s = if l2 < (s 58 0) then bnV (sem 204 0 [aA 56, aI l2, aI l1, aU, aU, aU, aU, aU] [] s) fun s1 => sem 205 108 [aA 56, aI l1, aI (w32 (l2 + 1))] [] s1 else sem 205 132 [aA 56, aI l1, aI 0] [] s := by
  refine (x_iload f205_108 rfl rfl).trans ?_
  refine (x_aload f205_109 rfl rfl).trans ?_
  refine (y_get2 (ji := 1) rfl f205_110 rfl rfl).trans ?_
  refine (g_t rfl).trans ?_
  refine (g_t (by rw [show s 56 1 = 58 from hR.2.2.2.2.2.2.2.2.2.2.2.2.2.2.2.2.2.2.2.2.2.2.2.2.2.2.2.2.2.2.2.2.2.2.2.2.2.2.2.2.2.2.2.2.2.2.2.2.2.2.2.2.2.2.1]; decide)).trans ?_
  rw [show s 56 1 = 58 from hR.2.2.2.2.2.2.2.2.2.2.2.2.2.2.2.2.2.2.2.2.2.2.2.2.2.2.2.2.2.2.2.2.2.2.2.2.2.2.2.2.2.2.2.2.2.2.2.2.2.2.2.2.2.2.1]
  refine (x_iconst f205_113 rfl).trans ?_
  refine (x_iaload f205_114 rfl).trans ?_
  refine (g_t rfl).trans ?_
  refine (g_kt (n := 28) rfl (by decide)).trans ?_
  refine (x_icmp_ge (tg := 130) f205_115 rfl rfl).trans (i_c ?_ ?_)
  · refine (x_aload f205_118 rfl rfl).trans ?_
    refine (x_iload f205_119 rfl rfl).trans ?_
    refine (x_iload f205_120 rfl rfl).trans ?_
    refine (x_invokevirtual (G := grd (kd 56 = 9) (bnV (sem 204 0 [aA 56, aI l2, aI l1, aU, aU, aU, aU, aU] [] s) fun s1 => sem 205 124 [aA 56, aI l1, aI l2] [] s1)) f205_121 rfl rfl).trans ?_
    refine (g_t rfl).trans ?_
    refine bV_h fun s1 qs1 => ?_
    have rs1 := RefC.sem qs1 rfl hR
    refine (x_iinc (l2 := [aA 56, aI l1, aI (w32 (l2 + 1))]) f205_124 rfl rfl rfl).trans ?_
    refine (x_goto (tg := 108) f205_127 rfl rfl).trans ?_
    rfl
  · refine (x_iconst f205_130 rfl).trans ?_
    refine (x_istore (l2 := [aA 56, aI l1, aI 0]) f205_131 rfl rfl).trans ?_
    rfl
set_option maxRecDepth 10000 in
theorem g205_132 {s : SG} (hR : RefC s) (l1 l2 : Int) : sem 205 132 [aA 56, aI l1, aI l2] [] s = if l2 < 3 then grd ((0 : Int) ≤ l2 ∧ l2 < 3) (sem 205 132 [aA 56, aI l1, aI (w32 (l2 + 1))] [] (up s 77 l2 (s 78 l2))) else sem 205 47 [aA 56, aI (w32 (l1 + 1)), aU] [] s := by
  refine (x_iload f205_132 rfl rfl).trans ?_
  refine (x_iconst f205_133 rfl).trans ?_
  refine (x_icmp_ge (tg := 155) f205_134 rfl rfl).trans (i_c ?_ ?_)
  · refine (x_aload f205_137 rfl rfl).trans ?_
    refine (y_get2 (ji := 31) rfl f205_138 rfl rfl).trans ?_
    refine (g_t rfl).trans ?_
    refine (g_t (by rw [show s 56 31 = 77 from hR.2.2.2.2.2.2.2.2.2.2.2.2.2.2.2.2.2.2.2.2.2.2.2.2.2.2.2.2.2.2.2.2.2.2.2.2.2.2.2.2.2.2.2.2.2.2.2.2.2.2.2.2.2.2.2.2.2.2.2.2.2.2.2.2.2.2.2.2.2.2.2.2.2.1]; decide)).trans ?_
    rw [show s 56 31 = 77 from hR.2.2.2.2.2.2.2.2.2.2.2.2.2.2.2.2.2.2.2.2.2.2.2.2.2.2.2.2.2.2.2.2.2.2.2.2.2.2.2.2.2.2.2.2.2.2.2.2.2.2.2.2.2.2.2.2.2.2.2.2.2.2.2.2.2.2.2.2.2.2.2.2.2.1]
    refine (x_iload f205_141 rfl rfl).trans ?_
    refine (x_aload f205_142 rfl rfl).trans ?_
    refine (y_get2 (ji := 32) rfl f205_143 rfl rfl).trans ?_
    refine (g_t rfl).trans ?_
    refine (g_t (by rw [show s 56 32 = 78 from hR.2.2.2.2.2.2.2.2.2.2.2.2.2.2.2.2.2.2.2.2.2.2.2.2.2.2.2.2.2.2.2.2.2.2.2.2.2.2.2.2.2.2.2.2.2.2.2.2.2.2.2.2.2.2.2.2.2.2.2.2.2.2.2.2.2.2.2.2.2.2.2.2.2.2.1]; decide)).trans ?_
    rw [show s 56 32 = 78 from hR.2.2.2.2.2.2.2.2.2.2.2.2.2.2.2.2.2.2.2.2.2.2.2.2.2.2.2.2.2.2.2.2.2.2.2.2.2.2.2.2.2.2.2.2.2.2.2.2.2.2.2.2.2.2.2.2.2.2.2.2.2.2.2.2.2.2.2.2.2.2.2.2.2.2.1]
    refine (x_iload f205_146 rfl rfl).trans ?_
    refine (x_iaload f205_147 rfl).trans ?_
    refine (g_t rfl).trans ?_
    refine g_kl (n := 3) rfl fun hg1 => ?_
    refine (x_iastore f205_148 rfl).trans ?_
    refine (g_t rfl).trans ?_
    refine (g_kt (n := 3) rfl hg1).trans ?_
    refine (x_iinc (l2 := [aA 56, aI l1, aI (w32 (l2 + 1))]) f205_149 rfl rfl rfl).trans ?_
    refine (x_goto (tg := 132) f205_152 rfl rfl).trans ?_
    rfl
  · refine (x_iinc (l2 := [aA 56, aI (w32 (l1 + 1)), aI l2]) f205_155 rfl rfl rfl).trans ?_
    refine (x_goto (tg := 47) f205_158 rfl rfl).trans ?_
    exact x_kil f205_47 rfl
set_option maxRecDepth 10000 in
theorem g206_0 {s : SG} (hR : RefC s) : sem 206 0 [aA 56] [] s = bnV (sem 205 0 [aA 56, aU, aU] [] (up (up (up s 56 37 0) 56 36 0) 56 38 ((-1)))) fun s1 => some (aU, s1) := by
  refine (x_aload f206_0 rfl rfl).trans ?_
  refine (x_iconst f206_1 rfl).trans ?_
  refine (y_put0 (ji := 37) rfl f206_2 rfl rfl).trans ?_
  refine (g_t rfl).trans ?_
  refine (x_aload f206_5 rfl rfl).trans ?_
  refine (x_iconst f206_6 rfl).trans ?_
  refine (y_put0 (ji := 36) rfl f206_7 rfl rfl).trans ?_
  refine (g_t rfl).trans ?_
  refine (x_aload f206_10 rfl rfl).trans ?_
  refine (x_iconst f206_11 rfl).trans ?_
  refine (y_put0 (ji := 38) rfl f206_12 rfl rfl).trans ?_
  refine (g_t rfl).trans ?_
  refine (x_aload f206_15 rfl rfl).trans ?_
  refine (x_invokevirtual (G := grd (kd 56 = 9) (bnV (sem 205 0 [aA 56, aU, aU] [] (up (up (up s 56 37 0) 56 36 0) 56 38 ((-1)))) fun s1 => sem 206 19 [aA 56] [] s1)) f206_16 rfl rfl).trans ?_
  refine (g_t rfl).trans ?_
  refine bV_h fun s1 qs1 => ?_
  have rs1 := RefC.sem qs1 rfl (RefC.upd (RefC.upd (RefC.upd hR (rcb_f (c := 9) (j := 37) rfl (by decide) (by decide))) (rcb_f (c := 9) (j := 36) rfl (by decide) (by decide))) (rcb_f (c := 9) (j := 38) rfl (by decide) (by decide)))
  exact x_return f206_19 rfl
set_option maxRecDepth 10000 in
theorem g207_0 {s : SG} (hR : RefC s) (l1 l2 l3 : Int) : sem 207 0 [aA 56, aI l1, aI l2, aI l3, aU] [] s = bnI (sem 163 0 [aA 56, aI l1] [] s) fun a2 s1 => if a2 = 0 then some (aI ((-1)), s1) else bnI (sem 195 0 [aI l2] [] s1) fun a4 s3 => if a4 = 0 then some (aI ((-1)), s3) else bnV (sem 206 0 [aA 56] [] s3) fun s5 => if l3 = 0 then grd ((0 : Int) ≤ (w32 ((w32 (6 * l1)) + l2)) ∧ (w32 ((w32 (6 * l1)) + l2)) < 18) (some (aI (s5 72 (w32 ((w32 (6 * l1)) + l2))), s5)) else if l3 = 1 then grd ((0 : Int) ≤ (w32 ((w32 (6 * l1)) + l2)) ∧ (w32 ((w32 (6 * l1)) + l2)) < 18) (some (aI (s5 73 (w32 ((w32 (6 * l1)) + l2))), s5)) else if l3 = 2 then grd ((0 : Int) ≤ (w32 ((w32 (6 * l1)) + l2)) ∧ (w32 ((w32 (6 * l1)) + l2)) < 18) (some (aI (s5 74 (w32 ((w32 (6 * l1)) + l2))), s5)) else if l3 = 3 then grd ((0 : Int) ≤ (w32 ((w32 (6 * l1)) + l2)) ∧ (w32 ((w32 (6 * l1)) + l2)) < 18) (some (aI (s5 75 (w32 ((w32 (6 * l1)) + l2))), s5)) else some (aI ((-2)), s5) := by
  refine (x_aload f207_0 rfl rfl).trans ?_
  refine (x_iload f207_1 rfl rfl).trans ?_
  refine (x_invokevirtual (G := grd (kd 56 = 9) (bnI (sem 163 0 [aA 56, aI l1] [] s) fun a2 s1 => sem 207 5 [aA 56, aI l1, aI l2, aI l3, aU] [aI a2] s1)) f207_2 rfl rfl).trans ?_
  refine (g_t rfl).trans ?_
  refine bI_h fun a2 s1 qs1 => ?_
  have rs1 := RefC.sem qs1 rfl hR
  refine (x_if_eq (tg := 15) f207_5 rfl rfl).trans (i_c ?_ ?_)
  · refine (x_kil (l2 := [aU, aU, aU, aU, aU]) f207_15 rfl).trans ?_
    refine (x_iconst f207_15 rfl).trans ?_
    exact x_ireturn f207_16 rfl
  · refine (x_iload f207_8 rfl rfl).trans ?_
    refine (x_invokestatic (G := bnI (sem 195 0 [aI l2] [] s1) fun a4 s3 => sem 207 12 [aA 56, aI l1, aI l2, aI l3, aU] [aI a4] s3) f207_9 rfl rfl).trans ?_
    refine bI_h fun a4 s3 qs3 => ?_
    have rs3 := RefC.sem qs3 rfl rs1
    refine (x_if_ne (tg := 17) f207_12 rfl rfl).trans (i_c ?_ ?_)
    · refine (x_kil (l2 := [aU, aU, aU, aU, aU]) f207_15 rfl).trans ?_
      refine (x_iconst f207_15 rfl).trans ?_
      exact x_ireturn f207_16 rfl
    · refine (x_aload f207_17 rfl rfl).trans ?_
      refine (x_invokevirtual (G := grd (kd 56 = 9) (bnV (sem 206 0 [aA 56] [] s3) fun s5 => sem 207 21 [aA 56, aI l1, aI l2, aI l3, aU] [] s5)) f207_18 rfl rfl).trans ?_
      refine (g_t rfl).trans ?_
      refine bV_h fun s5 qs5 => ?_
      have rs5 := RefC.sem qs5 rfl rs3
      refine (x_iconst f207_21 rfl).trans ?_
      refine (x_iload f207_23 rfl rfl).trans ?_
      refine (x_imul f207_24 rfl).trans ?_
      refine (x_iload f207_25 rfl rfl).trans ?_
      refine (x_iadd f207_26 rfl).trans ?_
      refine (x_istore (l2 := [aA 56, aI l1, aI l2, aI l3, aI (w32 ((w32 (6 * l1)) + l2))]) f207_27 rfl rfl).trans ?_
      refine (x_iload f207_29 rfl rfl).trans ?_
      refine (x_if_ne (tg := 43) f207_30 rfl rfl).trans (i_c ?_ ?_)
      · refine (x_aload f207_33 rfl rfl).trans ?_
        refine (y_get2 (ji := 26) rfl f207_34 rfl rfl).trans ?_
        refine (g_t rfl).trans ?_
        refine (g_t (by rw [show s5 56 26 = 72 from rs5.2.2.2.2.2.2.2.2.2.2.2.2.2.2.2.2.2.2.2.2.2.2.2.2.2.2.2.2.2.2.2.2.2.2.2.2.2.2.2.2.2.2.2.2.2.2.2.2.2.2.2.2.2.2.2.2.2.2.2.2.2.2.2.2.2.2.2.2.1]; decide)).trans ?_
        rw [show s5 56 26 = 72 from rs5.2.2.2.2.2.2.2.2.2.2.2.2.2.2.2.2.2.2.2.2.2.2.2.2.2.2.2.2.2.2.2.2.2.2.2.2.2.2.2.2.2.2.2.2.2.2.2.2.2.2.2.2.2.2.2.2.2.2.2.2.2.2.2.2.2.2.2.2.1]
        refine (x_iload f207_37 rfl rfl).trans ?_
        refine (x_iaload f207_39 rfl).trans ?_
        refine (g_t rfl).trans ?_
        refine g_kl (n := 18) rfl fun hg6 => ?_
        refine (x_goto (tg := 90) f207_40 rfl rfl).trans ?_
        refine (x_kil (l2 := [aU, aU, aU, aU, aU]) f207_90 rfl).trans ?_
        exact x_ireturn f207_90 rfl
      · refine (x_iload f207_43 rfl rfl).trans ?_
        refine (x_iconst f207_44 rfl).trans ?_
        refine (x_icmp_ne (tg := 58) f207_45 rfl rfl).trans (i_c ?_ ?_)
        · refine (x_aload f207_48 rfl rfl).trans ?_
          refine (y_get2 (ji := 27) rfl f207_49 rfl rfl).trans ?_
          refine (g_t rfl).trans ?_
          refine (g_t (by rw [show s5 56 27 = 73 from rs5.2.2.2.2.2.2.2.2.2.2.2.2.2.2.2.2.2.2.2.2.2.2.2.2.2.2.2.2.2.2.2.2.2.2.2.2.2.2.2.2.2.2.2.2.2.2.2.2.2.2.2.2.2.2.2.2.2.2.2.2.2.2.2.2.2.2.2.2.2.1]; decide)).trans ?_
          rw [show s5 56 27 = 73 from rs5.2.2.2.2.2.2.2.2.2.2.2.2.2.2.2.2.2.2.2.2.2.2.2.2.2.2.2.2.2.2.2.2.2.2.2.2.2.2.2.2.2.2.2.2.2.2.2.2.2.2.2.2.2.2.2.2.2.2.2.2.2.2.2.2.2.2.2.2.2.1]
          refine (x_iload f207_52 rfl rfl).trans ?_
          refine (x_iaload f207_54 rfl).trans ?_
          refine (g_t rfl).trans ?_
          refine g_kl (n := 18) rfl fun hg7 => ?_
          refine (x_goto (tg := 90) f207_55 rfl rfl).trans ?_
          refine (x_kil (l2 := [aU, aU, aU, aU, aU]) f207_90 rfl).trans ?_
          exact x_ireturn f207_90 rfl
        · refine (x_iload f207_58 rfl rfl).trans ?_
          refine (x_iconst f207_59 rfl).trans ?_
          refine (x_icmp_ne (tg := 73) f207_60 rfl rfl).trans (i_c ?_ ?_)
          · refine (x_aload f207_63 rfl rfl).trans ?_
            refine (y_get2 (ji := 28) rfl f207_64 rfl rfl).trans ?_
            refine (g_t rfl).trans ?_
            refine (g_t (by rw [show s5 56 28 = 74 from rs5.2.2.2.2.2.2.2.2.2.2.2.2.2.2.2.2.2.2.2.2.2.2.2.2.2.2.2.2.2.2.2.2.2.2.2.2.2.2.2.2.2.2.2.2.2.2.2.2.2.2.2.2.2.2.2.2.2.2.2.2.2.2.2.2.2.2.2.2.2.2.1]; decide)).trans ?_
            rw [show s5 56 28 = 74 from rs5.2.2.2.2.2.2.2.2.2.2.2.2.2.2.2.2.2.2.2.2.2.2.2.2.2.2.2.2.2.2.2.2.2.2.2.2.2.2.2.2.2.2.2.2.2.2.2.2.2.2.2.2.2.2.2.2.2.2.2.2.2.2.2.2.2.2.2.2.2.2.1]
            refine (x_iload f207_67 rfl rfl).trans ?_
            refine (x_iaload f207_69 rfl).trans ?_
            refine (g_t rfl).trans ?_
            refine g_kl (n := 18) rfl fun hg8 => ?_
            refine (x_goto (tg := 90) f207_70 rfl rfl).trans ?_
            refine (x_kil (l2 := [aU, aU, aU, aU, aU]) f207_90 rfl).trans ?_
            exact x_ireturn f207_90 rfl
          · refine (x_iload f207_73 rfl rfl).trans ?_
            refine (x_iconst f207_74 rfl).trans ?_
            refine (x_icmp_ne (tg := 88) f207_75 rfl rfl).trans (i_c ?_ ?_)
            · refine (x_aload f207_78 rfl rfl).trans ?_
              refine (y_get2 (ji := 29) rfl f207_79 rfl rfl).trans ?_
              refine (g_t rfl).trans ?_
              refine (g_t (by rw [show s5 56 29 = 75 from rs5.2.2.2.2.2.2.2.2.2.2.2.2.2.2.2.2.2.2.2.2.2.2.2.2.2.2.2.2.2.2.2.2.2.2.2.2.2.2.2.2.2.2.2.2.2.2.2.2.2.2.2.2.2.2.2.2.2.2.2.2.2.2.2.2.2.2.2.2.2.2.2.1]; decide)).trans ?_
              rw [show s5 56 29 = 75 from rs5.2.2.2.2.2.2.2.2.2.2.2.2.2.2.2.2.2.2.2.2.2.2.2.2.2.2.2.2.2.2.2.2.2.2.2.2.2.2.2.2.2.2.2.2.2.2.2.2.2.2.2.2.2.2.2.2.2.2.2.2.2.2.2.2.2.2.2.2.2.2.2.1]
              refine (x_iload f207_82 rfl rfl).trans ?_
              refine (x_iaload f207_84 rfl).trans ?_
              refine (g_t rfl).trans ?_
              refine g_kl (n := 18) rfl fun hg9 => ?_
              refine (x_goto (tg := 90) f207_85 rfl rfl).trans ?_
              refine (x_kil (l2 := [aU, aU, aU, aU, aU]) f207_90 rfl).trans ?_
              exact x_ireturn f207_90 rfl
            · refine (x_iconst f207_88 rfl).trans ?_
              refine (x_kil (l2 := [aU, aU, aU, aU, aU]) f207_90 rfl).trans ?_
              exact x_ireturn f207_90 rfl
set_option maxRecDepth 10000 in
theorem g208_0 {s : SG} (hR : RefC s) : sem 208 0 [aA 56, aU, aU] [] s = sem 208 4 [aA 56, aI 0, aI 0] [] s := by
  refine (x_iconst f208_0 rfl).trans ?_
  refine (x_istore (l2 := [aA 56, aI 0, aU]) f208_1 rfl rfl).trans ?_
  refine (x_iconst f208_2 rfl).trans ?_
  refine (x_istore (l2 := [aA 56, aI 0, aI 0]) f208_3 rfl rfl).trans ?_
  rfl
set_option maxRecDepth 10000 in
theorem g208_4 {s : SG} (hR : RefC s) (l1 l2 : Int) : sem 208 4 [aA 56, aI l1, aI l2] [] s = if l2 < (s 58 0) then grd ((0 : Int) ≤ (w32 ((w32 (6 * l2)) + 5)) ∧ (w32 ((w32 (6 * l2)) + 5)) < 18) (sem 208 4 [aA 56, aI (w32 (l1 + (s 73 (w32 ((w32 (6 * l2)) + 5))))), aI (w32 (l2 + 1))] [] s) else some (aI l1, s) := by
  refine (x_iload f208_4 rfl rfl).trans ?_
  refine (x_aload f208_5 rfl rfl).trans ?_
  refine (y_get2 (ji := 1) rfl f208_6 rfl rfl).trans ?_
  refine (g_t rfl).trans ?_
  refine (g_t (by rw [show s 56 1 = 58 from hR.2.2.2.2.2.2.2.2.2.2.2.2.2.2.2.2.2.2.2.2.2.2.2.2.2.2.2.2.2.2.2.2.2.2.2.2.2.2.2.2.2.2.2.2.2.2.2.2.2.2.2.2.2.2.1]; decide)).trans ?_
  rw [show s 56 1 = 58 from hR.2.2.2.2.2.2.2.2.2.2.2.2.2.2.2.2.2.2.2.2.2.2.2.2.2.2.2.2.2.2.2.2.2.2.2.2.2.2.2.2.2.2.2.2.2.2.2.2.2.2.2.2.2.2.1]
  refine (x_iconst f208_9 rfl).trans ?_
  refine (x_iaload f208_10 rfl).trans ?_
  refine (g_t rfl).trans ?_
  refine (g_kt (n := 28) rfl (by decide)).trans ?_
  refine (x_icmp_ge (tg := 34) f208_11 rfl rfl).trans (i_c ?_ ?_)
  · refine (x_iload f208_14 rfl rfl).trans ?_
    refine (x_aload f208_15 rfl rfl).trans ?_
    refine (y_get2 (ji := 27) rfl f208_16 rfl rfl).trans ?_
    refine (g_t rfl).trans ?_
    refine (g_t (by rw [show s 56 27 = 73 from hR.2.2.2.2.2.2.2.2.2.2.2.2.2.2.2.2.2.2.2.2.2.2.2.2.2.2.2.2.2.2.2.2.2.2.2.2.2.2.2.2.2.2.2.2.2.2.2.2.2.2.2.2.2.2.2.2.2.2.2.2.2.2.2.2.2.2.2.2.2.1]; decide)).trans ?_
    rw [show s 56 27 = 73 from hR.2.2.2.2.2.2.2.2.2.2.2.2.2.2.2.2.2.2.2.2.2.2.2.2.2.2.2.2.2.2.2.2.2.2.2.2.2.2.2.2.2.2.2.2.2.2.2.2.2.2.2.2.2.2.2.2.2.2.2.2.2.2.2.2.2.2.2.2.2.1]
    refine (x_iconst f208_19 rfl).trans ?_
    refine (x_iload f208_21 rfl rfl).trans ?_
    refine (x_imul f208_22 rfl).trans ?_
    refine (x_iconst f208_23 rfl).trans ?_
    refine (x_iadd f208_24 rfl).trans ?_
    refine (x_iaload f208_25 rfl).trans ?_
    refine (g_t rfl).trans ?_
    refine g_kl (n := 18) rfl fun hg1 => ?_
    refine (x_iadd f208_26 rfl).trans ?_
    refine (x_istore (l2 := [aA 56, aI (w32 (l1 + (s 73 (w32 ((w32 (6 * l2)) + 5))))), aI l2]) f208_27 rfl rfl).trans ?_
    refine (x_iinc (l2 := [aA 56, aI (w32 (l1 + (s 73 (w32 ((w32 (6 * l2)) + 5))))), aI (w32 (l2 + 1))]) f208_28 rfl rfl rfl).trans ?_
    refine (x_goto (tg := 4) f208_31 rfl rfl).trans ?_
    rfl
  · refine (x_iload f208_34 rfl rfl).trans ?_
    exact x_ireturn f208_35 rfl
set_option maxRecDepth 10000 in
theorem g209_0 {s : SG} (hR : RefC s) : sem 209 0 [aA 56] [] s = some (aI (w32 ((w32 ((s 66 0) + (s 66 1))) + (s 66 2))), s) := by
  refine (x_aload f209_0 rfl rfl).trans ?_
  refine (y_get2 (ji := 16) rfl f209_1 rfl rfl).trans ?_
  refine (g_t rfl).trans ?_
  refine (g_t (by rw [show s 56 16 = 66 from hR.2.2.2.2.2.2.2.2.2.2.2.2.2.2.2.2.2.2.2.2.2.2.2.2.2.2.2.2.2.2.2.2.2.2.2.2.2.2.2.2.2.2.2.2.2.2.2.2.2.2.2.2.2.2.2.2.2.2.2.2.2.2.1]; decide)).trans ?_
  rw [show s 56 16 = 66 from hR.2.2.2.2.2.2.2.2.2.2.2.2.2.2.2.2.2.2.2.2.2.2.2.2.2.2.2.2.2.2.2.2.2.2.2.2.2.2.2.2.2.2.2.2.2.2.2.2.2.2.2.2.2.2.2.2.2.2.2.2.2.2.1]
  refine (x_iconst f209_4 rfl).trans ?_
  refine (x_iaload f209_5 rfl).trans ?_
  refine (g_t rfl).trans ?_
  refine (g_kt (n := 3) rfl (by decide)).trans ?_
  refine (x_aload f209_6 rfl rfl).trans ?_
  refine (y_get2 (ji := 16) rfl f209_7 rfl rfl).trans ?_
  refine (g_t rfl).trans ?_
  refine (g_t (by rw [show s 56 16 = 66 from hR.2.2.2.2.2.2.2.2.2.2.2.2.2.2.2.2.2.2.2.2.2.2.2.2.2.2.2.2.2.2.2.2.2.2.2.2.2.2.2.2.2.2.2.2.2.2.2.2.2.2.2.2.2.2.2.2.2.2.2.2.2.2.1]; decide)).trans ?_
  rw [show s 56 16 = 66 from hR.2.2.2.2.2.2.2.2.2.2.2.2.2.2.2.2.2.2.2.2.2.2.2.2.2.2.2.2.2.2.2.2.2.2.2.2.2.2.2.2.2.2.2.2.2.2.2.2.2.2.2.2.2.2.2.2.2.2.2.2.2.2.1]
  refine (x_iconst f209_10 rfl).trans ?_
  refine (x_iaload f209_11 rfl).trans ?_
  refine (g_t rfl).trans ?_
  refine (g_kt (n := 3) rfl (by decide)).trans ?_
  refine (x_iadd f209_12 rfl).trans ?_
  refine (x_aload f209_13 rfl rfl).trans ?_
  refine (y_get2 (ji := 16) rfl f209_14 rfl rfl).trans ?_
  refine (g_t rfl).trans ?_
  refine (g_t (by rw [show s 56 16 = 66 from hR.2.2.2.2.2.2.2.2.2.2.2.2.2.2.2.2.2.2.2.2.2.2.2.2.2.2.2.2.2.2.2.2.2.2.2.2.2.2.2.2.2.2.2.2.2.2.2.2.2.2.2.2.2.2.2.2.2.2.2.2.2.2.1]; decide)).trans ?_
  rw [show s 56 16 = 66 from hR.2.2.2.2.2.2.2.2.2.2.2.2.2.2.2.2.2.2.2.2.2.2.2.2.2.2.2.2.2.2.2.2.2.2.2.2.2.2.2.2.2.2.2.2.2.2.2.2.2.2.2.2.2.2.2.2.2.2.2.2.2.2.1]
  refine (x_iconst f209_17 rfl).trans ?_
  refine (x_iaload f209_18 rfl).trans ?_
  refine (g_t rfl).trans ?_
  refine (g_kt (n := 3) rfl (by decide)).trans ?_
  refine (x_iadd f209_19 rfl).trans ?_
  exact x_ireturn f209_20 rfl
set_option maxRecDepth 10000 in
theorem g210_0 {s : SG} (hR : RefC s) (l1 : Int) : sem 210 0 [aA 56, aI l1, aU, aU] [] s = bnV (sem 206 0 [aA 56] [] s) fun s1 => sem 210 8 [aA 56, aI l1, aI 0, aI 0] [] s1 := by
  refine (x_aload f210_0 rfl rfl).trans ?_
  refine (x_invokevirtual (G := grd (kd 56 = 9) (bnV (sem 206 0 [aA 56] [] s) fun s1 => sem 210 4 [aA 56, aI l1, aU, aU] [] s1)) f210_1 rfl rfl).trans ?_
  refine (g_t rfl).trans ?_
  refine bV_h fun s1 qs1 => ?_
  have rs1 := RefC.sem qs1 rfl hR
  refine (x_iconst f210_4 rfl).trans ?_
  refine (x_istore (l2 := [aA 56, aI l1, aI 0, aU]) f210_5 rfl rfl).trans ?_
  refine (x_iconst f210_6 rfl).trans ?_
  refine (x_istore (l2 := [aA 56, aI l1, aI 0, aI 0]) f210_7 rfl rfl).trans ?_
  rfl
set_option maxRecDepth 10000 in
theorem g210_8 {s : SG} (hR : RefC s) (l1 l2 l3 : Int) : sem 210 8 [aA 56, aI l1, aI l2, aI l3] [] s = if l3 < (s 58 0) then grd ((0 : Int) ≤ (w32 ((w32 (6 * l3)) + 5)) ∧ (w32 ((w32 (6 * l3)) + 5)) < 18) (sem 210 8 [aA 56, aI l1, aI (w32 (l2 + (s 72 (w32 ((w32 (6 * l3)) + 5))))), aI (w32 (l3 + 1))] [] s) else bnI (sem 208 0 [aA 56, aU, aU] [] s) fun a3 s2 => bnI (sem 209 0 [aA 56] [] s2) fun a5 s4 => if l1 = 0 then bnI (sem 208 0 [aA 56, aU, aU] [] s4) fun a7 s6 => some (aI a7, s6) else if l1 = 1 then some (aI l2, s4) else if l1 = 2 then some (aI (s4 56 33), s4) else if l1 = 3 then some (aI (s4 56 34), s4) else if l1 = 4 then some (aI (w32 ((w32 ((w32 (100000 + (w32 (a3 * (s2 58 5))))) + (w32 ((w32 (l2 + (s2 56 33))) * (s2 58 6))))) - (w32 ((w32 (a5 + (s4 56 19))) * (s4 58 4))))), s4) else some (aI ((-2)), s4) := by
  refine (x_iload f210_8 rfl rfl).trans ?_
  refine (x_aload f210_9 rfl rfl).trans ?_
  refine (y_get2 (ji := 1) rfl f210_10 rfl rfl).trans ?_
  refine (g_t rfl).trans ?_
  refine (g_t (by rw [show s 56 1 = 58 from hR.2.2.2.2.2.2.2.2.2.2.2.2.2.2.2.2.2.2.2.2.2.2.2.2.2.2.2.2.2.2.2.2.2.2.2.2.2.2.2.2.2.2.2.2.2.2.2.2.2.2.2.2.2.2.1]; decide)).trans ?_
  rw [show s 56 1 = 58 from hR.2.2.2.2.2.2.2.2.2.2.2.2.2.2.2.2.2.2.2.2.2.2.2.2.2.2.2.2.2.2.2.2.2.2.2.2.2.2.2.2.2.2.2.2.2.2.2.2.2.2.2.2.2.2.1]
  refine (x_iconst f210_13 rfl).trans ?_
  refine (x_iaload f210_14 rfl).trans ?_
  refine (g_t rfl).trans ?_
  refine (g_kt (n := 28) rfl (by decide)).trans ?_
  refine (x_icmp_ge (tg := 38) f210_15 rfl rfl).trans (i_c ?_ ?_)
  · refine (x_iload f210_18 rfl rfl).trans ?_
    refine (x_aload f210_19 rfl rfl).trans ?_
    refine (y_get2 (ji := 26) rfl f210_20 rfl rfl).trans ?_
    refine (g_t rfl).trans ?_
    refine (g_t (by rw [show s 56 26 = 72 from hR.2.2.2.2.2.2.2.2.2.2.2.2.2.2.2.2.2.2.2.2.2.2.2.2.2.2.2.2.2.2.2.2.2.2.2.2.2.2.2.2.2.2.2.2.2.2.2.2.2.2.2.2.2.2.2.2.2.2.2.2.2.2.2.2.2.2.2.2.1]; decide)).trans ?_
    rw [show s 56 26 = 72 from hR.2.2.2.2.2.2.2.2.2.2.2.2.2.2.2.2.2.2.2.2.2.2.2.2.2.2.2.2.2.2.2.2.2.2.2.2.2.2.2.2.2.2.2.2.2.2.2.2.2.2.2.2.2.2.2.2.2.2.2.2.2.2.2.2.2.2.2.2.1]
    refine (x_iconst f210_23 rfl).trans ?_
    refine (x_iload f210_25 rfl rfl).trans ?_
    refine (x_imul f210_26 rfl).trans ?_
    refine (x_iconst f210_27 rfl).trans ?_
    refine (x_iadd f210_28 rfl).trans ?_
    refine (x_iaload f210_29 rfl).trans ?_
    refine (g_t rfl).trans ?_
    refine g_kl (n := 18) rfl fun hg1 => ?_
    refine (x_iadd f210_30 rfl).trans ?_
    refine (x_istore (l2 := [aA 56, aI l1, aI (w32 (l2 + (s 72 (w32 ((w32 (6 * l3)) + 5))))), aI l3]) f210_31 rfl rfl).trans ?_
    refine (x_iinc (l2 := [aA 56, aI l1, aI (w32 (l2 + (s 72 (w32 ((w32 (6 * l3)) + 5))))), aI (w32 (l3 + 1))]) f210_32 rfl rfl rfl).trans ?_
    refine (x_goto (tg := 8) f210_35 rfl rfl).trans ?_
    rfl
  · refine (x_iconst f210_38 rfl).trans ?_
    refine (x_aload f210_41 rfl rfl).trans ?_
    refine (x_invokevirtual (G := grd (kd 56 = 9) (bnI (sem 208 0 [aA 56, aU, aU] [] s) fun a3 s2 => sem 210 45 [aA 56, aI l1, aI l2, aI l3] [aI a3, aI 100000] s2)) f210_42 rfl rfl).trans ?_
    refine (g_t rfl).trans ?_
    refine bI_h fun a3 s2 qs2 => ?_
    have rs2 := RefC.sem qs2 rfl hR
    refine (x_aload f210_45 rfl rfl).trans ?_
    refine (y_get2 (ji := 1) rfl f210_46 rfl rfl).trans ?_
    refine (g_t rfl).trans ?_
    refine (g_t (by rw [show s2 56 1 = 58 from rs2.2.2.2.2.2.2.2.2.2.2.2.2.2.2.2.2.2.2.2.2.2.2.2.2.2.2.2.2.2.2.2.2.2.2.2.2.2.2.2.2.2.2.2.2.2.2.2.2.2.2.2.2.2.2.1]; decide)).trans ?_
    rw [show s2 56 1 = 58 from rs2.2.2.2.2.2.2.2.2.2.2.2.2.2.2.2.2.2.2.2.2.2.2.2.2.2.2.2.2.2.2.2.2.2.2.2.2.2.2.2.2.2.2.2.2.2.2.2.2.2.2.2.2.2.2.1]
    refine (x_iconst f210_49 rfl).trans ?_
    refine (x_iaload f210_50 rfl).trans ?_
    refine (g_t rfl).trans ?_
    refine (g_kt (n := 28) rfl (by decide)).trans ?_
    refine (x_imul f210_51 rfl).trans ?_
    refine (x_iadd f210_52 rfl).trans ?_
    refine (x_iload f210_53 rfl rfl).trans ?_
    refine (x_aload f210_54 rfl rfl).trans ?_
    refine (y_get0 (ji := 33) rfl f210_55 rfl rfl).trans ?_
    refine (g_t rfl).trans ?_
    refine (x_iadd f210_58 rfl).trans ?_
    refine (x_aload f210_59 rfl rfl).trans ?_
    refine (y_get2 (ji := 1) rfl f210_60 rfl rfl).trans ?_
    refine (g_t rfl).trans ?_
    refine (g_t (by rw [show s2 56 1 = 58 from rs2.2.2.2.2.2.2.2.2.2.2.2.2.2.2.2.2.2.2.2.2.2.2.2.2.2.2.2.2.2.2.2.2.2.2.2.2.2.2.2.2.2.2.2.2.2.2.2.2.2.2.2.2.2.2.1]; decide)).trans ?_
    rw [show s2 56 1 = 58 from rs2.2.2.2.2.2.2.2.2.2.2.2.2.2.2.2.2.2.2.2.2.2.2.2.2.2.2.2.2.2.2.2.2.2.2.2.2.2.2.2.2.2.2.2.2.2.2.2.2.2.2.2.2.2.2.1]
    refine (x_iconst f210_63 rfl).trans ?_
    refine (x_iaload f210_65 rfl).trans ?_
    refine (g_t rfl).trans ?_
    refine (g_kt (n := 28) rfl (by decide)).trans ?_
    refine (x_imul f210_66 rfl).trans ?_
    refine (x_iadd f210_67 rfl).trans ?_
    refine (x_aload f210_68 rfl rfl).trans ?_
    refine (x_invokevirtual (G := grd (kd 56 = 9) (bnI (sem 209 0 [aA 56] [] s2) fun a5 s4 => sem 210 72 [aA 56, aI l1, aI l2, aI l3] [aI a5, aI (w32 ((w32 (100000 + (w32 (a3 * (s2 58 5))))) + (w32 ((w32 (l2 + (s2 56 33))) * (s2 58 6)))))] s4)) f210_69 rfl rfl).trans ?_
    refine (g_t rfl).trans ?_
    refine bI_h fun a5 s4 qs4 => ?_
    have rs4 := RefC.sem qs4 rfl rs2
    refine (x_aload f210_72 rfl rfl).trans ?_
    refine (y_get0 (ji := 19) rfl f210_73 rfl rfl).trans ?_
    refine (g_t rfl).trans ?_
    refine (x_iadd f210_76 rfl).trans ?_
    refine (x_aload f210_77 rfl rfl).trans ?_
    refine (y_get2 (ji := 1) rfl f210_78 rfl rfl).trans ?_
    refine (g_t rfl).trans ?_
    refine (g_t (by rw [show s4 56 1 = 58 from rs4.2.2.2.2.2.2.2.2.2.2.2.2.2.2.2.2.2.2.2.2.2.2.2.2.2.2.2.2.2.2.2.2.2.2.2.2.2.2.2.2.2.2.2.2.2.2.2.2.2.2.2.2.2.2.1]; decide)).trans ?_
    rw [show s4 56 1 = 58 from rs4.2.2.2.2.2.2.2.2.2.2.2.2.2.2.2.2.2.2.2.2.2.2.2.2.2.2.2.2.2.2.2.2.2.2.2.2.2.2.2.2.2.2.2.2.2.2.2.2.2.2.2.2.2.2.1]
    refine (x_iconst f210_81 rfl).trans ?_
    refine (x_iaload f210_82 rfl).trans ?_
    refine (g_t rfl).trans ?_
    refine (g_kt (n := 28) rfl (by decide)).trans ?_
    refine (x_imul f210_83 rfl).trans ?_
    refine (x_isub f210_84 rfl).trans ?_
    refine (x_istore (l2 := [aA 56, aI l1, aI l2, aI (w32 ((w32 ((w32 (100000 + (w32 (a3 * (s2 58 5))))) + (w32 ((w32 (l2 + (s2 56 33))) * (s2 58 6))))) - (w32 ((w32 (a5 + (s4 56 19))) * (s4 58 4)))))]) f210_85 rfl rfl).trans ?_
    refine (x_iload f210_86 rfl rfl).trans ?_
    refine (x_tsw f210_87 rfl).trans ?_
    refine Eq.trans (b := sem 210 (if l1 = 0 then 120 else if l1 = 1 then 125 else if l1 = 2 then 127 else if l1 = 3 then 132 else if l1 = 4 then 137 else 139) [aA 56, aI l1, aI l2, aI (w32 ((w32 ((w32 (100000 + (w32 (a3 * (s2 58 5))))) + (w32 ((w32 (l2 + (s2 56 33))) * (s2 58 6))))) - (w32 ((w32 (a5 + (s4 56 19))) * (s4 58 4)))))] [] s4) rfl ?_
    refine x_ite.trans (i_c ?_ ?_)
    · refine (x_aload f210_120 rfl rfl).trans ?_
      refine (x_invokevirtual (G := grd (kd 56 = 9) (bnI (sem 208 0 [aA 56, aU, aU] [] s4) fun a7 s6 => sem 210 124 [aA 56, aI l1, aI l2, aI (w32 ((w32 ((w32 (100000 + (w32 (a3 * (s2 58 5))))) + (w32 ((w32 (l2 + (s2 56 33))) * (s2 58 6))))) - (w32 ((w32 (a5 + (s4 56 19))) * (s4 58 4)))))] [aI a7] s6)) f210_121 rfl rfl).trans ?_
      refine (g_t rfl).trans ?_
      refine bI_h fun a7 s6 qs6 => ?_
      have rs6 := RefC.sem qs6 rfl rs4
      exact x_ireturn f210_124 rfl
    refine x_ite.trans (i_c ?_ ?_)
    · refine (x_iload f210_125 rfl rfl).trans ?_
      exact x_ireturn f210_126 rfl
    refine x_ite.trans (i_c ?_ ?_)
    · refine (x_aload f210_127 rfl rfl).trans ?_
      refine (y_get0 (ji := 33) rfl f210_128 rfl rfl).trans ?_
      refine (g_t rfl).trans ?_
      exact x_ireturn f210_131 rfl
    refine x_ite.trans (i_c ?_ ?_)
    · refine (x_aload f210_132 rfl rfl).trans ?_
      refine (y_get0 (ji := 34) rfl f210_133 rfl rfl).trans ?_
      refine (g_t rfl).trans ?_
      exact x_ireturn f210_136 rfl
    refine x_ite.trans (i_c ?_ ?_)
    · refine (x_iload f210_137 rfl rfl).trans ?_
      exact x_ireturn f210_138 rfl
    refine (x_iconst f210_139 rfl).trans ?_
    exact x_ireturn f210_141 rfl
set_option maxRecDepth 10000 in
theorem g211_0 {s : SG} (hR : RefC s) (l1 : Int) : sem 211 0 [aA 56, aI l1, aU] [] s = sem 211 2 [aA 56, aI l1, aI 0] [] s := by
  refine (x_iconst f211_0 rfl).trans ?_
  refine (x_istore (l2 := [aA 56, aI l1, aI 0]) f211_1 rfl rfl).trans ?_
  rfl
set_option maxRecDepth 10000 in
theorem g211_2 {s : SG} (hR : RefC s) (l1 l2 : Int) : sem 211 2 [aA 56, aI l1, aI l2] [] s = if l2 < 6 then grd ((0 : Int) ≤ (w32 ((w32 (6 * l1)) + l2)) ∧ (w32 ((w32 (6 * l1)) + l2)) < 18) (if (0 : Int) < (s 75 (w32 ((w32 (6 * l1)) + l2))) then some (aI l2, s) else sem 211 2 [aA 56, aI l1, aI (w32 (l2 + 1))] [] s) else some (aI ((-9)), s) := by
  refine (x_iload f211_2 rfl rfl).trans ?_
  refine (x_iconst f211_3 rfl).trans ?_
  refine (x_icmp_ge (tg := 30) f211_5 rfl rfl).trans (i_c ?_ ?_)
  · refine (x_aload f211_8 rfl rfl).trans ?_
    refine (y_get2 (ji := 29) rfl f211_9 rfl rfl).trans ?_
    refine (g_t rfl).trans ?_
    refine (g_t (by rw [show s 56 29 = 75 from hR.2.2.2.2.2.2.2.2.2.2.2.2.2.2.2.2.2.2.2.2.2.2.2.2.2.2.2.2.2.2.2.2.2.2.2.2.2.2.2.2.2.2.2.2.2.2.2.2.2.2.2.2.2.2.2.2.2.2.2.2.2.2.2.2.2.2.2.2.2.2.2.1]; decide)).trans ?_
    rw [show s 56 29 = 75 from hR.2.2.2.2.2.2.2.2.2.2.2.2.2.2.2.2.2.2.2.2.2.2.2.2.2.2.2.2.2.2.2.2.2.2.2.2.2.2.2.2.2.2.2.2.2.2.2.2.2.2.2.2.2.2.2.2.2.2.2.2.2.2.2.2.2.2.2.2.2.2.2.1]
    refine (x_iconst f211_12 rfl).trans ?_
    refine (x_iload f211_14 rfl rfl).trans ?_
    refine (x_imul f211_15 rfl).trans ?_
    refine (x_iload f211_16 rfl rfl).trans ?_
    refine (x_iadd f211_17 rfl).trans ?_
    refine (x_iaload f211_18 rfl).trans ?_
    refine (g_t rfl).trans ?_
    refine g_kl (n := 18) rfl fun hg1 => ?_
    refine (x_if_le (tg := 24) f211_19 rfl rfl).trans (i_c ?_ ?_)
    · refine (x_iload f211_22 rfl rfl).trans ?_
      exact x_ireturn f211_23 rfl
    · refine (x_iinc (l2 := [aA 56, aI l1, aI (w32 (l2 + 1))]) f211_24 rfl rfl rfl).trans ?_
      refine (x_goto (tg := 2) f211_27 rfl rfl).trans ?_
      rfl
  · refine (x_iconst f211_30 rfl).trans ?_
    exact x_ireturn f211_32 rfl
set_option maxRecDepth 10000 in
theorem g212_0 {s : SG} (hR : RefC s) (l1 : Int) : sem 212 0 [aA 56, aI l1] [] s = bnI (sem 163 0 [aA 56, aI l1] [] s) fun a2 s1 => if a2 = 0 then some (aI ((-1)), s1) else bnV (sem 206 0 [aA 56] [] s1) fun s3 => bnI (sem 211 0 [aA 56, aI l1, aU] [] s3) fun a5 s4 => some (aI a5, s4) := by
  refine (x_aload f212_0 rfl rfl).trans ?_
  refine (x_iload f212_1 rfl rfl).trans ?_
  refine (x_invokevirtual (G := grd (kd 56 = 9) (bnI (sem 163 0 [aA 56, aI l1] [] s) fun a2 s1 => sem 212 5 [aA 56, aI l1] [aI a2] s1)) f212_2 rfl rfl).trans ?_
  refine (g_t rfl).trans ?_
  refine bI_h fun a2 s1 qs1 => ?_
  have rs1 := RefC.sem qs1 rfl hR
  refine (x_if_ne (tg := 10) f212_5 rfl rfl).trans (i_c ?_ ?_)
  · refine (x_iconst f212_8 rfl).trans ?_
    exact x_ireturn f212_9 rfl
  · refine (x_aload f212_10 rfl rfl).trans ?_
    refine (x_invokevirtual (G := grd (kd 56 = 9) (bnV (sem 206 0 [aA 56] [] s1) fun s3 => sem 212 14 [aA 56, aI l1] [] s3)) f212_11 rfl rfl).trans ?_
    refine (g_t rfl).trans ?_
    refine bV_h fun s3 qs3 => ?_
    have rs3 := RefC.sem qs3 rfl rs1
    refine (x_aload f212_14 rfl rfl).trans ?_
    refine (x_iload f212_15 rfl rfl).trans ?_
    refine (x_invokevirtual (G := grd (kd 56 = 9) (bnI (sem 211 0 [aA 56, aI l1, aU] [] s3) fun a5 s4 => sem 212 19 [aA 56, aI l1] [aI a5] s4)) f212_16 rfl rfl).trans ?_
    refine (g_t rfl).trans ?_
    refine bI_h fun a5 s4 qs4 => ?_
    have rs4 := RefC.sem qs4 rfl rs3
    exact x_ireturn f212_19 rfl
set_option maxRecDepth 10000 in
theorem g213_0 {s : SG} (hR : RefC s) (l1 : Int) : sem 213 0 [aA 56, aI l1] [] s = bnI (sem 163 0 [aA 56, aI l1] [] s) fun a2 s1 => if a2 = 0 then some (aI ((-1)), s1) else grd ((0 : Int) ≤ l1 ∧ l1 < 3) (some (aI (s1 68 l1), s1)) := by
  refine (x_aload f213_0 rfl rfl).trans ?_
  refine (x_iload f213_1 rfl rfl).trans ?_
  refine (x_invokevirtual (G := grd (kd 56 = 9) (bnI (sem 163 0 [aA 56, aI l1] [] s) fun a2 s1 => sem 213 5 [aA 56, aI l1] [aI a2] s1)) f213_2 rfl rfl).trans ?_
  refine (g_t rfl).trans ?_
  refine bI_h fun a2 s1 qs1 => ?_
  have rs1 := RefC.sem qs1 rfl hR
  refine (x_if_eq (tg := 17) f213_5 rfl rfl).trans (i_c ?_ ?_)
  · refine (x_iconst f213_17 rfl).trans ?_
    refine (x_kil (l2 := [aU, aU]) f213_18 rfl).trans ?_
    exact x_ireturn f213_18 rfl
  · refine (x_aload f213_8 rfl rfl).trans ?_
    refine (y_get2 (ji := 18) rfl f213_9 rfl rfl).trans ?_
    refine (g_t rfl).trans ?_
    refine (g_t (by rw [show s1 56 18 = 68 from rs1.2.2.2.2.2.2.2.2.2.2.2.2.2.2.2.2.2.2.2.2.2.2.2.2.2.2.2.2.2.2.2.2.2.2.2.2.2.2.2.2.2.2.2.2.2.2.2.2.2.2.2.2.2.2.2.2.2.2.2.2.2.2.2.2.1]; decide)).trans ?_
    rw [show s1 56 18 = 68 from rs1.2.2.2.2.2.2.2.2.2.2.2.2.2.2.2.2.2.2.2.2.2.2.2.2.2.2.2.2.2.2.2.2.2.2.2.2.2.2.2.2.2.2.2.2.2.2.2.2.2.2.2.2.2.2.2.2.2.2.2.2.2.2.2.2.1]
    refine (x_iload f213_12 rfl rfl).trans ?_
    refine (x_iaload f213_13 rfl).trans ?_
    refine (g_t rfl).trans ?_
    refine g_kl (n := 3) rfl fun hg3 => ?_
    refine (x_goto (tg := 18) f213_14 rfl rfl).trans ?_
    refine (x_kil (l2 := [aU, aU]) f213_18 rfl).trans ?_
    exact x_ireturn f213_18 rfl
set_option maxRecDepth 10000 in
theorem g214_0 {s : SG} (hR : RefC s) (l1 : Int) : sem 214 0 [aA 56, aI l1, aU, aU, aU, aU, aU] [] s = bnI (sem 152 0 [aL l1, aU, aL 1, aU, aL 30, aU] [] s) fun a2 s1 => if a2 = 0 then some (aI ((-2)), s1) else sem 214 19 [aA 56, aI l1, aI 0, aI 0, aU, aU, aU] [] s1 := by
  refine (x_iload f214_0 rfl rfl).trans ?_
  refine (x_i2l f214_1 rfl).trans ?_
  refine (x_lconst f214_2 rfl).trans ?_
  refine (x_lconst f214_3 rfl).trans ?_
  refine (x_invokestatic (G := bnI (sem 152 0 [aL l1, aU, aL 1, aU, aL 30, aU] [] s) fun a2 s1 => sem 214 9 [aA 56, aI l1, aU, aU, aU, aU, aU] [aI a2] s1) f214_6 rfl rfl).trans ?_
  refine bI_h fun a2 s1 qs1 => ?_
  have rs1 := RefC.sem qs1 rfl hR
  refine (x_if_ne (tg := 15) f214_9 rfl rfl).trans (i_c ?_ ?_)
  · refine (x_iconst f214_12 rfl).trans ?_
    exact x_ireturn f214_14 rfl
  · refine (x_iconst f214_15 rfl).trans ?_
    refine (x_istore (l2 := [aA 56, aI l1, aI 0, aU, aU, aU, aU]) f214_16 rfl rfl).trans ?_
    refine (x_iconst f214_17 rfl).trans ?_
    refine (x_istore (l2 := [aA 56, aI l1, aI 0, aI 0, aU, aU, aU]) f214_18 rfl rfl).trans ?_
    rfl
set_option maxRecDepth 10000 in
theorem g214_19 {s : SG} (hR : RefC s) (l1 l2 l3 : Int) : sem 214 19 [aA 56, aI l1, aI l2, aI l3, aU, aU, aU] [] s = if l3 < l1 then bnV (sem 206 0 [aA 56] [] s) fun s1 => sem 214 33 [aA 56, aI l1, aI 0, aI l3, aI 0, aU, aU] [] s1 else some (aI l2, s) := by
  refine (x_iload f214_19 rfl rfl).trans ?_
  refine (x_iload f214_20 rfl rfl).trans ?_
  refine (x_icmp_ge (tg := 147) f214_21 rfl rfl).trans (i_c ?_ ?_)
  · refine (x_aload f214_24 rfl rfl).trans ?_
    refine (x_invokevirtual (G := grd (kd 56 = 9) (bnV (sem 206 0 [aA 56] [] s) fun s1 => sem 214 28 [aA 56, aI l1, aI l2, aI l3, aU, aU, aU] [] s1)) f214_25 rfl rfl).trans ?_
    refine (g_t rfl).trans ?_
    refine bV_h fun s1 qs1 => ?_
    have rs1 := RefC.sem qs1 rfl hR
    refine (x_iconst f214_28 rfl).trans ?_
    refine (x_istore (l2 := [aA 56, aI l1, aI 0, aI l3, aU, aU, aU]) f214_29 rfl rfl).trans ?_
    refine (x_iconst f214_30 rfl).trans ?_
    refine (x_istore (l2 := [aA 56, aI l1, aI 0, aI l3, aI 0, aU, aU]) f214_31 rfl rfl).trans ?_
    rfl
  · refine (x_iload f214_147 rfl rfl).trans ?_
    exact x_ireturn f214_148 rfl
set_option maxRecDepth 10000 in
theorem g214_33 {s : SG} (hR : RefC s) (l1 l2 l3 l4 : Int) : sem 214 33 [aA 56, aI l1, aI l2, aI l3, aI l4, aU, aU] [] s = if l4 < (s 58 0) then grd ((0 : Int) ≤ l4 ∧ l4 < 3) (bnI (sem 211 0 [aA 56, aI l4, aU] [] s) fun a3 s2 => sem 214 33 [aA 56, aI l1, aI (w32 (l2 + (if (if (if a3 = ((-9)) then 0 else 1 : Int) = 0 then if (s 68 l4) < 9 then w32 ((s 68 l4) + 1) else 9 else if (0 : Int) < (s 68 l4) then w32 ((s 68 l4) - 1) else 0 : Int) < (s 68 l4) then 1 else 0))), aI l3, aI (w32 (l4 + 1)), aU, aU] [] (up s2 68 l4 (if (if a3 = ((-9)) then 0 else 1 : Int) = 0 then if (s 68 l4) < 9 then w32 ((s 68 l4) + 1) else 9 else if (0 : Int) < (s 68 l4) then w32 ((s 68 l4) - 1) else 0))) else sem 214 19 [aA 56, aI l1, aI l2, aI (w32 (l3 + 1)), aU, aU, aU] [] s := by
  refine (x_iload f214_33 rfl rfl).trans ?_
  refine (x_aload f214_35 rfl rfl).trans ?_
  refine (y_get2 (ji := 1) rfl f214_36 rfl rfl).trans ?_
  refine (g_t rfl).trans ?_
  refine (g_t (by rw [show s 56 1 = 58 from hR.2.2.2.2.2.2.2.2.2.2.2.2.2.2.2.2.2.2.2.2.2.2.2.2.2.2.2.2.2.2.2.2.2.2.2.2.2.2.2.2.2.2.2.2.2.2.2.2.2.2.2.2.2.2.1]; decide)).trans ?_
  rw [show s 56 1 = 58 from hR.2.2.2.2.2.2.2.2.2.2.2.2.2.2.2.2.2.2.2.2.2.2.2.2.2.2.2.2.2.2.2.2.2.2.2.2.2.2.2.2.2.2.2.2.2.2.2.2.2.2.2.2.2.2.1]
  refine (x_iconst f214_39 rfl).trans ?_
  refine (x_iaload f214_40 rfl).trans ?_
  refine (g_t rfl).trans ?_
  refine (g_kt (n := 28) rfl (by decide)).trans ?_
  refine (x_icmp_ge (tg := 141) f214_41 rfl rfl).trans (i_c ?_ ?_)
  · refine (x_aload f214_44 rfl rfl).trans ?_
    refine (y_get2 (ji := 18) rfl f214_45 rfl rfl).trans ?_
    refine (g_t rfl).trans ?_
    refine (g_t (by rw [show s 56 18 = 68 from hR.2.2.2.2.2.2.2.2.2.2.2.2.2.2.2.2.2.2.2.2.2.2.2.2.2.2.2.2.2.2.2.2.2.2.2.2.2.2.2.2.2.2.2.2.2.2.2.2.2.2.2.2.2.2.2.2.2.2.2.2.2.2.2.2.1]; decide)).trans ?_
    rw [show s 56 18 = 68 from hR.2.2.2.2.2.2.2.2.2.2.2.2.2.2.2.2.2.2.2.2.2.2.2.2.2.2.2.2.2.2.2.2.2.2.2.2.2.2.2.2.2.2.2.2.2.2.2.2.2.2.2.2.2.2.2.2.2.2.2.2.2.2.2.2.1]
    refine (x_iload f214_48 rfl rfl).trans ?_
    refine (x_iaload f214_50 rfl).trans ?_
    refine (g_t rfl).trans ?_
    refine g_kl (n := 3) rfl fun hg1 => ?_
    refine (x_istore (l2 := [aA 56, aI l1, aI l2, aI l3, aI l4, aI (s 68 l4), aU]) f214_51 rfl rfl).trans ?_
    refine (x_aload f214_53 rfl rfl).trans ?_
    refine (x_iload f214_54 rfl rfl).trans ?_
    refine (x_invokevirtual (G := grd (kd 56 = 9) (bnI (sem 211 0 [aA 56, aI l4, aU] [] s) fun a3 s2 => sem 214 59 [aA 56, aI l1, aI l2, aI l3, aI l4, aI (s 68 l4), aU] [aI a3] s2)) f214_56 rfl rfl).trans ?_
    refine (g_t rfl).trans ?_
    refine bI_h fun a3 s2 qs2 => ?_
    have rs2 := RefC.sem qs2 rfl hR
    refine (x_iconst f214_59 rfl).trans ?_
    refine (x_icmp_eq (tg := 68) f214_61 rfl rfl).trans ?_
    refine Eq.trans (b := if a3 = ((-9)) then sem 214 69 [aA 56, aI l1, aI l2, aI l3, aI l4, aI (s 68 l4), aU] [aI 0] s2 else sem 214 69 [aA 56, aI l1, aI l2, aI l3, aI l4, aI (s 68 l4), aU] [aI 1] s2) (i_c ?_ ?_) ?_
    · refine (x_iconst f214_68 rfl).trans ?_
      rfl
    · refine (x_iconst f214_64 rfl).trans ?_
      refine (x_goto (tg := 69) f214_65 rfl rfl).trans ?_
      rfl
    refine m_I.trans ?_
    refine (x_istore (l2 := [aA 56, aI l1, aI l2, aI l3, aI l4, aI (s 68 l4), aI (if a3 = ((-9)) then 0 else 1)]) f214_69 rfl rfl).trans ?_
    refine (x_aload f214_71 rfl rfl).trans ?_
    refine (y_get2 (ji := 18) rfl f214_72 rfl rfl).trans ?_
    refine (g_t rfl).trans ?_
    refine (g_t (by rw [show s2 56 18 = 68 from rs2.2.2.2.2.2.2.2.2.2.2.2.2.2.2.2.2.2.2.2.2.2.2.2.2.2.2.2.2.2.2.2.2.2.2.2.2.2.2.2.2.2.2.2.2.2.2.2.2.2.2.2.2.2.2.2.2.2.2.2.2.2.2.2.2.1]; decide)).trans ?_
    rw [show s2 56 18 = 68 from rs2.2.2.2.2.2.2.2.2.2.2.2.2.2.2.2.2.2.2.2.2.2.2.2.2.2.2.2.2.2.2.2.2.2.2.2.2.2.2.2.2.2.2.2.2.2.2.2.2.2.2.2.2.2.2.2.2.2.2.2.2.2.2.2.2.1]
    refine (x_iload f214_75 rfl rfl).trans ?_
    refine (x_iload f214_77 rfl rfl).trans ?_
    refine (x_if_eq (tg := 98) f214_79 rfl rfl).trans ?_
    refine Eq.trans (b := if (if a3 = ((-9)) then 0 else 1 : Int) = 0 then sem 214 114 [aA 56, aI l1, aI l2, aI l3, aI l4, aI (s 68 l4), aU] [aI (if (s 68 l4) < 9 then w32 ((s 68 l4) + 1) else 9), aI l4, aA 68] s2 else sem 214 114 [aA 56, aI l1, aI l2, aI l3, aI l4, aI (s 68 l4), aU] [aI (if (0 : Int) < (s 68 l4) then w32 ((s 68 l4) - 1) else 0), aI l4, aA 68] s2) (i_c ?_ ?_) ?_
    · refine (x_iload f214_98 rfl rfl).trans ?_
      refine (x_iconst f214_100 rfl).trans ?_
      refine (x_icmp_ge (tg := 112) f214_102 rfl rfl).trans ?_
      refine Eq.trans (b := if (s 68 l4) < 9 then sem 214 114 [aA 56, aI l1, aI l2, aI l3, aI l4, aI (s 68 l4), aU] [aI (w32 ((s 68 l4) + 1)), aI l4, aA 68] s2 else sem 214 114 [aA 56, aI l1, aI l2, aI l3, aI l4, aI (s 68 l4), aU] [aI 9, aI l4, aA 68] s2) (i_c ?_ ?_) ?_
      · refine (x_iload f214_105 rfl rfl).trans ?_
        refine (x_iconst f214_107 rfl).trans ?_
        refine (x_iadd f214_108 rfl).trans ?_
        refine (x_goto (tg := 114) f214_109 rfl rfl).trans ?_
        exact x_kil f214_114 rfl
      · refine (x_iconst f214_112 rfl).trans ?_
        exact x_kil f214_114 rfl
      refine m_I.trans ?_
      rfl
    · refine (x_iload f214_82 rfl rfl).trans ?_
      refine (x_if_le (tg := 94) f214_84 rfl rfl).trans ?_
      refine Eq.trans (b := if (0 : Int) < (s 68 l4) then sem 214 114 [aA 56, aI l1, aI l2, aI l3, aI l4, aI (s 68 l4), aU] [aI (w32 ((s 68 l4) - 1)), aI l4, aA 68] s2 else sem 214 114 [aA 56, aI l1, aI l2, aI l3, aI l4, aI (s 68 l4), aU] [aI 0, aI l4, aA 68] s2) (i_c ?_ ?_) ?_
      · refine (x_iload f214_87 rfl rfl).trans ?_
        refine (x_iconst f214_89 rfl).trans ?_
        refine (x_isub f214_90 rfl).trans ?_
        refine (x_goto (tg := 114) f214_91 rfl rfl).trans ?_
        exact x_kil f214_114 rfl
      · refine (x_iconst f214_94 rfl).trans ?_
        refine (x_goto (tg := 114) f214_95 rfl rfl).trans ?_
        exact x_kil f214_114 rfl
      refine m_I.trans ?_
      rfl
    refine m_I.trans ?_
    refine (x_iastore f214_114 rfl).trans ?_
    refine (g_t rfl).trans ?_
    refine (g_kt (n := 3) rfl hg1).trans ?_
    refine (x_iload f214_115 rfl rfl).trans ?_
    refine (x_aload f214_116 rfl rfl).trans ?_
    refine (y_get2 (ji := 18) rfl f214_117 rfl rfl).trans ?_
    refine (g_t rfl).trans ?_
    refine (g_t (by rw [show (up s2 68 l4 (if (if a3 = ((-9)) then 0 else 1 : Int) = 0 then if (s 68 l4) < 9 then w32 ((s 68 l4) + 1) else 9 else if (0 : Int) < (s 68 l4) then w32 ((s 68 l4) - 1) else 0)) 56 18 = 68 from (by rw [up_ne (by decide)]; exact rs2.2.2.2.2.2.2.2.2.2.2.2.2.2.2.2.2.2.2.2.2.2.2.2.2.2.2.2.2.2.2.2.2.2.2.2.2.2.2.2.2.2.2.2.2.2.2.2.2.2.2.2.2.2.2.2.2.2.2.2.2.2.2.2.2.1)]; decide)).trans ?_
    rw [show (up s2 68 l4 (if (if a3 = ((-9)) then 0 else 1 : Int) = 0 then if (s 68 l4) < 9 then w32 ((s 68 l4) + 1) else 9 else if (0 : Int) < (s 68 l4) then w32 ((s 68 l4) - 1) else 0)) 56 18 = 68 from (by rw [up_ne (by decide)]; exact rs2.2.2.2.2.2.2.2.2.2.2.2.2.2.2.2.2.2.2.2.2.2.2.2.2.2.2.2.2.2.2.2.2.2.2.2.2.2.2.2.2.2.2.2.2.2.2.2.2.2.2.2.2.2.2.2.2.2.2.2.2.2.2.2.2.1)]
    refine (x_iload f214_120 rfl rfl).trans ?_
    refine (x_iaload f214_122 rfl).trans ?_
    refine (g_t rfl).trans ?_
    refine (g_kt (n := 3) rfl hg1).trans ?_
    rw [show (up s2 68 l4 (if (if a3 = ((-9)) then 0 else 1 : Int) = 0 then if (s 68 l4) < 9 then w32 ((s 68 l4) + 1) else 9 else if (0 : Int) < (s 68 l4) then w32 ((s 68 l4) - 1) else 0)) 68 l4 = if (if a3 = ((-9)) then 0 else 1 : Int) = 0 then if (s 68 l4) < 9 then w32 ((s 68 l4) + 1) else 9 else if (0 : Int) < (s 68 l4) then w32 ((s 68 l4) - 1) else 0 from by rw [up_at]]
    refine (x_iload f214_123 rfl rfl).trans ?_
    refine (x_icmp_ge (tg := 132) f214_125 rfl rfl).trans ?_
    refine Eq.trans (b := if (if (if a3 = ((-9)) then 0 else 1 : Int) = 0 then if (s 68 l4) < 9 then w32 ((s 68 l4) + 1) else 9 else if (0 : Int) < (s 68 l4) then w32 ((s 68 l4) - 1) else 0 : Int) < (s 68 l4) then sem 214 133 [aA 56, aI l1, aU, aI l3, aI l4, aU, aU] [aI 1, aI l2] (up s2 68 l4 (if (if a3 = ((-9)) then 0 else 1 : Int) = 0 then if (s 68 l4) < 9 then w32 ((s 68 l4) + 1) else 9 else if (0 : Int) < (s 68 l4) then w32 ((s 68 l4) - 1) else 0)) else sem 214 133 [aA 56, aI l1, aU, aI l3, aI l4, aU, aU] [aI 0, aI l2] (up s2 68 l4 (if (if a3 = ((-9)) then 0 else 1 : Int) = 0 then if (s 68 l4) < 9 then w32 ((s 68 l4) + 1) else 9 else if (0 : Int) < (s 68 l4) then w32 ((s 68 l4) - 1) else 0))) (i_c ?_ ?_) ?_
    · refine (x_iconst f214_128 rfl).trans ?_
      refine (x_goto (tg := 133) f214_129 rfl rfl).trans ?_
      exact x_kil f214_133 rfl
    · refine (x_iconst f214_132 rfl).trans ?_
      exact x_kil f214_133 rfl
    refine m_I.trans ?_
    refine (x_iadd f214_133 rfl).trans ?_
    refine (x_istore (l2 := [aA 56, aI l1, aI (w32 (l2 + (if (if (if a3 = ((-9)) then 0 else 1 : Int) = 0 then if (s 68 l4) < 9 then w32 ((s 68 l4) + 1) else 9 else if (0 : Int) < (s 68 l4) then w32 ((s 68 l4) - 1) else 0 : Int) < (s 68 l4) then 1 else 0))), aI l3, aI l4, aU, aU]) f214_134 rfl rfl).trans ?_
    refine (x_iinc (l2 := [aA 56, aI l1, aI (w32 (l2 + (if (if (if a3 = ((-9)) then 0 else 1 : Int) = 0 then if (s 68 l4) < 9 then w32 ((s 68 l4) + 1) else 9 else if (0 : Int) < (s 68 l4) then w32 ((s 68 l4) - 1) else 0 : Int) < (s 68 l4) then 1 else 0))), aI l3, aI (w32 (l4 + 1)), aU, aU]) f214_135 rfl rfl rfl).trans ?_
    refine (x_goto (tg := 33) f214_138 rfl rfl).trans ?_
    rfl
  · refine (x_iinc (l2 := [aA 56, aI l1, aI l2, aI (w32 (l3 + 1)), aI l4, aU, aU]) f214_141 rfl rfl rfl).trans ?_
    refine (x_goto (tg := 19) f214_144 rfl rfl).trans ?_
    exact x_kil f214_19 rfl
set_option maxRecDepth 10000 in
theorem g215_0 {s : SG} (hR : RefC s) (l1 l2 l3 l4 : Int) : sem 215 0 [aA 56, aI l1, aI l2, aI l3, aI l4, aU, aU] [] s = bnI (sem 163 0 [aA 56, aI l1] [] s) fun a2 s1 => if a2 = 0 then some (aI ((-1)), s1) else bnI (sem 195 0 [aI l2] [] s1) fun a4 s3 => if a4 = 0 then some (aI ((-1)), s3) else bnI (sem 152 0 [aL l3, aU, aL 1, aU, aL 60, aU] [] s3) fun a6 s5 => if a6 = 0 then some (aI ((-2)), s5) else bnI (sem 152 0 [aL l4, aU, aL 0, aU, aL 20, aU] [] s5) fun a8 s7 => if a8 = 0 then some (aI ((-2)), s7) else bnV (sem 206 0 [aA 56] [] s7) fun s9 => bnI (sem 208 0 [aA 56, aU, aU] [] s9) fun a11 s10 => bnV (sem 205 0 [aA 56, aU, aU] [] (up (up (up s10 56 37 l3) 56 36 l1) 56 35 l2)) fun s12 => bnI (sem 208 0 [aA 56, aU, aU] [] s12) fun a14 s13 => some (aI (w32 ((w32 ((w32 (100000 + (w32 ((w32 (a14 - a11)) * (s13 58 5))))) + (w32 ((w32 (l3 - (w32 (a14 - a11)))) * (s13 58 6))))) - (w32 (l3 * (w32 ((s13 58 4) + l4)))))), s13) := by
  refine (x_aload f215_0 rfl rfl).trans ?_
  refine (x_iload f215_1 rfl rfl).trans ?_
  refine (x_invokevirtual (G := grd (kd 56 = 9) (bnI (sem 163 0 [aA 56, aI l1] [] s) fun a2 s1 => sem 215 5 [aA 56, aI l1, aI l2, aI l3, aI l4, aU, aU] [aI a2] s1)) f215_2 rfl rfl).trans ?_
  refine (g_t rfl).trans ?_
  refine bI_h fun a2 s1 qs1 => ?_
  have rs1 := RefC.sem qs1 rfl hR
  refine (x_if_eq (tg := 15) f215_5 rfl rfl).trans (i_c ?_ ?_)
  · refine (x_kil (l2 := [aU, aU, aU, aU, aU, aU, aU]) f215_15 rfl).trans ?_
    refine (x_iconst f215_15 rfl).trans ?_
    exact x_ireturn f215_16 rfl
  · refine (x_iload f215_8 rfl rfl).trans ?_
    refine (x_invokestatic (G := bnI (sem 195 0 [aI l2] [] s1) fun a4 s3 => sem 215 12 [aA 56, aI l1, aI l2, aI l3, aI l4, aU, aU] [aI a4] s3) f215_9 rfl rfl).trans ?_
    refine bI_h fun a4 s3 qs3 => ?_
    have rs3 := RefC.sem qs3 rfl rs1
    refine (x_if_ne (tg := 17) f215_12 rfl rfl).trans (i_c ?_ ?_)
    · refine (x_kil (l2 := [aU, aU, aU, aU, aU, aU, aU]) f215_15 rfl).trans ?_
      refine (x_iconst f215_15 rfl).trans ?_
      exact x_ireturn f215_16 rfl
    · refine (x_iload f215_17 rfl rfl).trans ?_
      refine (x_i2l f215_18 rfl).trans ?_
      refine (x_lconst f215_19 rfl).trans ?_
      refine (x_lconst f215_20 rfl).trans ?_
      refine (x_invokestatic (G := bnI (sem 152 0 [aL l3, aU, aL 1, aU, aL 60, aU] [] s3) fun a6 s5 => sem 215 26 [aA 56, aI l1, aI l2, aI l3, aI l4, aU, aU] [aI a6] s5) f215_23 rfl rfl).trans ?_
      refine bI_h fun a6 s5 qs5 => ?_
      have rs5 := RefC.sem qs5 rfl rs3
      refine (x_if_eq (tg := 42) f215_26 rfl rfl).trans (i_c ?_ ?_)
      · refine (x_kil (l2 := [aU, aU, aU, aU, aU, aU, aU]) f215_42 rfl).trans ?_
        refine (x_iconst f215_42 rfl).trans ?_
        exact x_ireturn f215_44 rfl
      · refine (x_iload f215_29 rfl rfl).trans ?_
        refine (x_i2l f215_31 rfl).trans ?_
        refine (x_lconst f215_32 rfl).trans ?_
        refine (x_lconst f215_33 rfl).trans ?_
        refine (x_invokestatic (G := bnI (sem 152 0 [aL l4, aU, aL 0, aU, aL 20, aU] [] s5) fun a8 s7 => sem 215 39 [aA 56, aI l1, aI l2, aI l3, aI l4, aU, aU] [aI a8] s7) f215_36 rfl rfl).trans ?_
        refine bI_h fun a8 s7 qs7 => ?_
        have rs7 := RefC.sem qs7 rfl rs5
        refine (x_if_ne (tg := 45) f215_39 rfl rfl).trans (i_c ?_ ?_)
        · refine (x_kil (l2 := [aU, aU, aU, aU, aU, aU, aU]) f215_42 rfl).trans ?_
          refine (x_iconst f215_42 rfl).trans ?_
          exact x_ireturn f215_44 rfl
        · refine (x_aload f215_45 rfl rfl).trans ?_
          refine (x_invokevirtual (G := grd (kd 56 = 9) (bnV (sem 206 0 [aA 56] [] s7) fun s9 => sem 215 49 [aA 56, aI l1, aI l2, aI l3, aI l4, aU, aU] [] s9)) f215_46 rfl rfl).trans ?_
          refine (g_t rfl).trans ?_
          refine bV_h fun s9 qs9 => ?_
          have rs9 := RefC.sem qs9 rfl rs7
          refine (x_aload f215_49 rfl rfl).trans ?_
          refine (x_invokevirtual (G := grd (kd 56 = 9) (bnI (sem 208 0 [aA 56, aU, aU] [] s9) fun a11 s10 => sem 215 53 [aA 56, aI l1, aI l2, aI l3, aI l4, aU, aU] [aI a11] s10)) f215_50 rfl rfl).trans ?_
          refine (g_t rfl).trans ?_
          refine bI_h fun a11 s10 qs10 => ?_
          have rs10 := RefC.sem qs10 rfl rs9
          refine (x_istore (l2 := [aA 56, aI l1, aI l2, aI l3, aI l4, aI a11, aU]) f215_53 rfl rfl).trans ?_
          refine (x_aload f215_55 rfl rfl).trans ?_
          refine (x_iload f215_56 rfl rfl).trans ?_
          refine (y_put0 (ji := 37) rfl f215_57 rfl rfl).trans ?_
          refine (g_t rfl).trans ?_
          refine (x_aload f215_60 rfl rfl).trans ?_
          refine (x_iload f215_61 rfl rfl).trans ?_
          refine (y_put0 (ji := 36) rfl f215_62 rfl rfl).trans ?_
          refine (g_t rfl).trans ?_
          refine (x_aload f215_65 rfl rfl).trans ?_
          refine (x_iload f215_66 rfl rfl).trans ?_
          refine (y_put0 (ji := 35) rfl f215_67 rfl rfl).trans ?_
          refine (g_t rfl).trans ?_
          refine (x_aload f215_70 rfl rfl).trans ?_
          refine (x_invokevirtual (G := grd (kd 56 = 9) (bnV (sem 205 0 [aA 56, aU, aU] [] (up (up (up s10 56 37 l3) 56 36 l1) 56 35 l2)) fun s12 => sem 215 74 [aA 56, aI l1, aI l2, aI l3, aI l4, aI a11, aU] [] s12)) f215_71 rfl rfl).trans ?_
          refine (g_t rfl).trans ?_
          refine bV_h fun s12 qs12 => ?_
          have rs12 := RefC.sem qs12 rfl (RefC.upd (RefC.upd (RefC.upd rs10 (rcb_f (c := 9) (j := 37) rfl (by decide) (by decide))) (rcb_f (c := 9) (j := 36) rfl (by decide) (by decide))) (rcb_f (c := 9) (j := 35) rfl (by decide) (by decide)))
          refine (x_aload f215_74 rfl rfl).trans ?_
          refine (x_invokevirtual (G := grd (kd 56 = 9) (bnI (sem 208 0 [aA 56, aU, aU] [] s12) fun a14 s13 => sem 215 78 [aA 56, aI l1, aI l2, aI l3, aI l4, aI a11, aU] [aI a14] s13)) f215_75 rfl rfl).trans ?_
          refine (g_t rfl).trans ?_
          refine bI_h fun a14 s13 qs13 => ?_
          have rs13 := RefC.sem qs13 rfl rs12
          refine (x_iload f215_78 rfl rfl).trans ?_
          refine (x_isub f215_80 rfl).trans ?_
          refine (x_istore (l2 := [aA 56, aI l1, aI l2, aI l3, aI l4, aI a11, aI (w32 (a14 - a11))]) f215_81 rfl rfl).trans ?_
          refine (x_iconst f215_83 rfl).trans ?_
          refine (x_iload f215_86 rfl rfl).trans ?_
          refine (x_aload f215_88 rfl rfl).trans ?_
          refine (y_get2 (ji := 1) rfl f215_89 rfl rfl).trans ?_
          refine (g_t rfl).trans ?_
          refine (g_t (by rw [show s13 56 1 = 58 from rs13.2.2.2.2.2.2.2.2.2.2.2.2.2.2.2.2.2.2.2.2.2.2.2.2.2.2.2.2.2.2.2.2.2.2.2.2.2.2.2.2.2.2.2.2.2.2.2.2.2.2.2.2.2.2.1]; decide)).trans ?_
          rw [show s13 56 1 = 58 from rs13.2.2.2.2.2.2.2.2.2.2.2.2.2.2.2.2.2.2.2.2.2.2.2.2.2.2.2.2.2.2.2.2.2.2.2.2.2.2.2.2.2.2.2.2.2.2.2.2.2.2.2.2.2.2.1]
          refine (x_iconst f215_92 rfl).trans ?_
          refine (x_iaload f215_93 rfl).trans ?_
          refine (g_t rfl).trans ?_
          refine (g_kt (n := 28) rfl (by decide)).trans ?_
          refine (x_imul f215_94 rfl).trans ?_
          refine (x_iadd f215_95 rfl).trans ?_
          refine (x_iload f215_96 rfl rfl).trans ?_
          refine (x_iload f215_97 rfl rfl).trans ?_
          refine (x_isub f215_99 rfl).trans ?_
          refine (x_aload f215_100 rfl rfl).trans ?_
          refine (y_get2 (ji := 1) rfl f215_101 rfl rfl).trans ?_
          refine (g_t rfl).trans ?_
          refine (g_t (by rw [show s13 56 1 = 58 from rs13.2.2.2.2.2.2.2.2.2.2.2.2.2.2.2.2.2.2.2.2.2.2.2.2.2.2.2.2.2.2.2.2.2.2.2.2.2.2.2.2.2.2.2.2.2.2.2.2.2.2.2.2.2.2.1]; decide)).trans ?_
          rw [show s13 56 1 = 58 from rs13.2.2.2.2.2.2.2.2.2.2.2.2.2.2.2.2.2.2.2.2.2.2.2.2.2.2.2.2.2.2.2.2.2.2.2.2.2.2.2.2.2.2.2.2.2.2.2.2.2.2.2.2.2.2.1]
          refine (x_iconst f215_104 rfl).trans ?_
          refine (x_iaload f215_106 rfl).trans ?_
          refine (g_t rfl).trans ?_
          refine (g_kt (n := 28) rfl (by decide)).trans ?_
          refine (x_imul f215_107 rfl).trans ?_
          refine (x_iadd f215_108 rfl).trans ?_
          refine (x_iload f215_109 rfl rfl).trans ?_
          refine (x_aload f215_110 rfl rfl).trans ?_
          refine (y_get2 (ji := 1) rfl f215_111 rfl rfl).trans ?_
          refine (g_t rfl).trans ?_
          refine (g_t (by rw [show s13 56 1 = 58 from rs13.2.2.2.2.2.2.2.2.2.2.2.2.2.2.2.2.2.2.2.2.2.2.2.2.2.2.2.2.2.2.2.2.2.2.2.2.2.2.2.2.2.2.2.2.2.2.2.2.2.2.2.2.2.2.1]; decide)).trans ?_
          rw [show s13 56 1 = 58 from rs13.2.2.2.2.2.2.2.2.2.2.2.2.2.2.2.2.2.2.2.2.2.2.2.2.2.2.2.2.2.2.2.2.2.2.2.2.2.2.2.2.2.2.2.2.2.2.2.2.2.2.2.2.2.2.1]
          refine (x_iconst f215_114 rfl).trans ?_
          refine (x_iaload f215_115 rfl).trans ?_
          refine (g_t rfl).trans ?_
          refine (g_kt (n := 28) rfl (by decide)).trans ?_
          refine (x_iload f215_116 rfl rfl).trans ?_
          refine (x_iadd f215_118 rfl).trans ?_
          refine (x_imul f215_119 rfl).trans ?_
          refine (x_isub f215_120 rfl).trans ?_
          exact x_ireturn f215_121 rfl
