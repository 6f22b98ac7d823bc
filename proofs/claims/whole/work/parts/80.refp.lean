/-! the class's references alone: what a constructor leaves before the reference is made -/
def RefP (s : SG) : Prop := s 0 0 = 1 ∧ s 0 1 = 3 ∧ s 0 2 = 5 ∧ s 0 3 = 10 ∧ s 0 4 = 13 ∧ s 0 5 = 16 ∧ s 0 6 = 23 ∧ s 0 7 = 30 ∧ s 0 8 = 31 ∧ s 1 0 = 2 ∧ s 3 0 = 4 ∧ s 5 0 = 6 ∧ s 5 1 = 7 ∧ s 5 2 = 8 ∧ s 5 3 = 9 ∧ s 10 0 = 11 ∧ s 10 1 = 12 ∧ s 13 0 = 14 ∧ s 13 1 = 15 ∧ s 16 0 = 17 ∧ s 16 1 = 18 ∧ s 16 2 = 19 ∧ s 16 3 = 20 ∧ s 16 4 = 21 ∧ s 16 5 = 22 ∧ s 23 0 = 24 ∧ s 23 1 = 25 ∧ s 23 2 = 26 ∧ s 23 3 = 27 ∧ s 23 4 = 28 ∧ s 23 5 = 29 ∧ s 30 0 = 42 ∧ s 30 1 = 49 ∧ s 32 0 = 33 ∧ s 32 1 = 34 ∧ s 32 2 = 35 ∧ s 32 3 = 36 ∧ s 37 0 = 38 ∧ s 37 1 = 39 ∧ s 37 2 = 40 ∧ s 37 3 = 41 ∧ s 42 0 = 43 ∧ s 42 1 = 44 ∧ s 42 2 = 45 ∧ s 42 3 = 46 ∧ s 42 4 = 47 ∧ s 42 5 = 48 ∧ s 49 0 = 50 ∧ s 49 1 = 51 ∧ s 49 2 = 52 ∧ s 49 3 = 53 ∧ s 49 4 = 54 ∧ s 49 5 = 55
theorem RefP.sem {M pc : Nat} {ls st : List AV} {s s' : SG} {v : AV} (h : sem M pc ls st s = some (v, s')) (hS : inS M = true) (hR : RefP s) : RefP s' := by
  have key : ∀ k j, rcb k j = true → swp k j = false → s' k j = s k j := fun k j h1 h2 => sem_ref h hS h1 (fun _ => h2)
  obtain ⟨h0, h1, h2, h3, h4, h5, h6, h7, h8, h9, h10, h11, h12, h13, h14, h15, h16, h17, h18, h19, h20, h21, h22, h23, h24, h25, h26, h27, h28, h29, h30, h31, h32, h33, h34, h35, h36, h37, h38, h39, h40, h41, h42, h43, h44, h45, h46, h47, h48, h49, h50, h51, h52⟩ := hR
  exact ⟨(key 0 0 rfl rfl).trans h0, (key 0 1 rfl rfl).trans h1, (key 0 2 rfl rfl).trans h2, (key 0 3 rfl rfl).trans h3, (key 0 4 rfl rfl).trans h4, (key 0 5 rfl rfl).trans h5, (key 0 6 rfl rfl).trans h6, (key 0 7 rfl rfl).trans h7, (key 0 8 rfl rfl).trans h8, (key 1 0 rfl rfl).trans h9, (key 3 0 rfl rfl).trans h10, (key 5 0 rfl rfl).trans h11, (key 5 1 rfl rfl).trans h12, (key 5 2 rfl rfl).trans h13, (key 5 3 rfl rfl).trans h14, (key 10 0 rfl rfl).trans h15, (key 10 1 rfl rfl).trans h16, (key 13 0 rfl rfl).trans h17, (key 13 1 rfl rfl).trans h18, (key 16 0 rfl rfl).trans h19, (key 16 1 rfl rfl).trans h20, (key 16 2 rfl rfl).trans h21, (key 16 3 rfl rfl).trans h22, (key 16 4 rfl rfl).trans h23, (key 16 5 rfl rfl).trans h24, (key 23 0 rfl rfl).trans h25, (key 23 1 rfl rfl).trans h26, (key 23 2 rfl rfl).trans h27, (key 23 3 rfl rfl).trans h28, (key 23 4 rfl rfl).trans h29, (key 23 5 rfl rfl).trans h30, (key 30 0 rfl rfl).trans h31, (key 30 1 rfl rfl).trans h32, (key 32 0 rfl rfl).trans h33, (key 32 1 rfl rfl).trans h34, (key 32 2 rfl rfl).trans h35, (key 32 3 rfl rfl).trans h36, (key 37 0 rfl rfl).trans h37, (key 37 1 rfl rfl).trans h38, (key 37 2 rfl rfl).trans h39, (key 37 3 rfl rfl).trans h40, (key 42 0 rfl rfl).trans h41, (key 42 1 rfl rfl).trans h42, (key 42 2 rfl rfl).trans h43, (key 42 3 rfl rfl).trans h44, (key 42 4 rfl rfl).trans h45, (key 42 5 rfl rfl).trans h46, (key 49 0 rfl rfl).trans h47, (key 49 1 rfl rfl).trans h48, (key 49 2 rfl rfl).trans h49, (key 49 3 rfl rfl).trans h50, (key 49 4 rfl rfl).trans h51, (key 49 5 rfl rfl).trans h52⟩
theorem RefP.upd {s : SG} (hR : RefP s) {k i v : Int} (hn : rcb k i = false) : RefP (up s k i v) := by
  have key : ∀ k' j, rcb k' j = true → swp k' j = false → up s k i v k' j = s k' j := by
    intro k' j hr _
    unfold up
    rw [if_neg]
    rintro ⟨rfl, rfl⟩
    rw [hr] at hn
    cases hn
  obtain ⟨h0, h1, h2, h3, h4, h5, h6, h7, h8, h9, h10, h11, h12, h13, h14, h15, h16, h17, h18, h19, h20, h21, h22, h23, h24, h25, h26, h27, h28, h29, h30, h31, h32, h33, h34, h35, h36, h37, h38, h39, h40, h41, h42, h43, h44, h45, h46, h47, h48, h49, h50, h51, h52⟩ := hR
  exact ⟨(key 0 0 rfl rfl).trans h0, (key 0 1 rfl rfl).trans h1, (key 0 2 rfl rfl).trans h2, (key 0 3 rfl rfl).trans h3, (key 0 4 rfl rfl).trans h4, (key 0 5 rfl rfl).trans h5, (key 0 6 rfl rfl).trans h6, (key 0 7 rfl rfl).trans h7, (key 0 8 rfl rfl).trans h8, (key 1 0 rfl rfl).trans h9, (key 3 0 rfl rfl).trans h10, (key 5 0 rfl rfl).trans h11, (key 5 1 rfl rfl).trans h12, (key 5 2 rfl rfl).trans h13, (key 5 3 rfl rfl).trans h14, (key 10 0 rfl rfl).trans h15, (key 10 1 rfl rfl).trans h16, (key 13 0 rfl rfl).trans h17, (key 13 1 rfl rfl).trans h18, (key 16 0 rfl rfl).trans h19, (key 16 1 rfl rfl).trans h20, (key 16 2 rfl rfl).trans h21, (key 16 3 rfl rfl).trans h22, (key 16 4 rfl rfl).trans h23, (key 16 5 rfl rfl).trans h24, (key 23 0 rfl rfl).trans h25, (key 23 1 rfl rfl).trans h26, (key 23 2 rfl rfl).trans h27, (key 23 3 rfl rfl).trans h28, (key 23 4 rfl rfl).trans h29, (key 23 5 rfl rfl).trans h30, (key 30 0 rfl rfl).trans h31, (key 30 1 rfl rfl).trans h32, (key 32 0 rfl rfl).trans h33, (key 32 1 rfl rfl).trans h34, (key 32 2 rfl rfl).trans h35, (key 32 3 rfl rfl).trans h36, (key 37 0 rfl rfl).trans h37, (key 37 1 rfl rfl).trans h38, (key 37 2 rfl rfl).trans h39, (key 37 3 rfl rfl).trans h40, (key 42 0 rfl rfl).trans h41, (key 42 1 rfl rfl).trans h42, (key 42 2 rfl rfl).trans h43, (key 42 3 rfl rfl).trans h44, (key 42 4 rfl rfl).trans h45, (key 42 5 rfl rfl).trans h46, (key 49 0 rfl rfl).trans h47, (key 49 1 rfl rfl).trans h48, (key 49 2 rfl rfl).trans h49, (key 49 3 rfl rfl).trans h50, (key 49 4 rfl rfl).trans h51, (key 49 5 rfl rfl).trans h52⟩
theorem refp_t {s : SG} (h : RefP s) {t : Int} (ht : t = 32 ∨ t = 37) : s t 0 = t + 1 ∧ s t 1 = t + 2 ∧ s t 2 = t + 3 ∧ s t 3 = t + 4 := by
  unfold RefP at h
  rcases ht with rfl | rfl <;> simp only [h, Int.reduceAdd, and_self]
set_option maxRecDepth 10000 in
theorem p1_0 {t : Int} (ht : t = 32 ∨ t = 37) {s : SG} (hR : RefP s) : sem 1 0 [aA 5, aA t, aU, aU] [] s = bnV (sem 223 0 [aA 7, aL 0, aU, aU, aU] [] s) fun s1 => sem 1 15 [aA 5, aA t, aI 0, aU] [] (up s1 5 4 0) := by
  refine (x_aload f1_0 rfl rfl).trans ?_
  refine (y_get2 (ji := 1) rfl f1_1 rfl rfl).trans ?_
  refine (g_t rfl).trans ?_
  refine (g_t (by rw [show s 5 1 = 7 from hR.2.2.2.2.2.2.2.2.2.2.2.2.1]; decide)).trans ?_
  rw [show s 5 1 = 7 from hR.2.2.2.2.2.2.2.2.2.2.2.2.1]
  refine (x_lconst f1_4 rfl).trans ?_
  refine (x_invokestatic (G := bnV (sem 223 0 [aA 7, aL 0, aU, aU, aU] [] s) fun s1 => sem 1 8 [aA 5, aA t, aU, aU] [] s1) f1_5 rfl rfl).trans ?_
  refine bV_h fun s1 qs1 => ?_
  have rs1 := RefP.sem qs1 rfl hR
  refine (x_aload f1_8 rfl rfl).trans ?_
  refine (x_lconst f1_9 rfl).trans ?_
  refine (y_put1 (ji := 4) rfl f1_10 rfl rfl).trans ?_
  refine (g_t rfl).trans ?_
  refine (x_iconst f1_13 rfl).trans ?_
  refine (x_istore (l2 := [aA 5, aA t, aI 0, aU]) f1_14 rfl rfl).trans ?_
  rfl
set_option maxRecDepth 10000 in
theorem p1_15 {t : Int} (ht : t = 32 ∨ t = 37) {s : SG} (hR : RefP s) (l2 : Int) : sem 1 15 [aA 5, aA t, aI l2, aU] [] s = if l2 < 3 then bnI (sem 83 0 [aA t, aI l2] [] s) fun a2 s1 => sem 1 15 [aA 5, aA t, aI (w32 (l2 + 1)), aU] [] (up s1 5 4 (w64 ((s 5 4) + (w64 (1000000 * a2))))) else sem 1 47 [aA 5, aA t, aI 0, aU] [] s := by
  refine (x_iload f1_15 rfl rfl).trans ?_
  refine (x_iconst f1_16 rfl).trans ?_
  refine (x_icmp_ge (tg := 45) f1_17 rfl rfl).trans (i_c ?_ ?_)
  · refine (x_aload f1_20 rfl rfl).trans ?_
    refine (x_dup f1_21 rfl rfl).trans ?_
    refine (y_get1 (ji := 4) rfl f1_22 rfl rfl).trans ?_
    refine (g_t rfl).trans ?_
    refine (x_lconst f1_25 rfl).trans ?_
    refine (x_aload f1_28 rfl rfl).trans ?_
    refine (x_iload f1_29 rfl rfl).trans ?_
    refine (x_invokevirtual (G := grd (kd t = 6) (bnI (sem 83 0 [aA t, aI l2] [] s) fun a2 s1 => sem 1 33 [aA 5, aA t, aI l2, aU] [aI a2, aL 1000000, aL (s 5 4), aA 5] s1)) f1_30 rfl rfl).trans ?_
    refine (g_t ((kd_t ht).1)).trans ?_
    refine bI_h fun a2 s1 qs1 => ?_
    have rs1 := RefP.sem qs1 rfl hR
    refine (x_i2l f1_33 rfl).trans ?_
    refine (x_lmul f1_34 rfl).trans ?_
    refine (x_ladd f1_35 rfl).trans ?_
    refine (y_put1 (ji := 4) rfl f1_36 rfl rfl).trans ?_
    refine (g_t rfl).trans ?_
    refine (x_iinc (l2 := [aA 5, aA t, aI (w32 (l2 + 1)), aU]) f1_39 rfl rfl rfl).trans ?_
    refine (x_goto (tg := 15) f1_42 rfl rfl).trans ?_
    rfl
  · refine (x_iconst f1_45 rfl).trans ?_
    refine (x_istore (l2 := [aA 5, aA t, aI 0, aU]) f1_46 rfl rfl).trans ?_
    rfl
set_option maxRecDepth 10000 in
theorem p1_47 {t : Int} (ht : t = 32 ∨ t = 37) {s : SG} (hR : RefP s) (l2 : Int) : sem 1 47 [aA 5, aA t, aI l2, aU] [] s = if l2 < (s t 4) then if l2 < 3 then sem 1 62 [aA 5, aA t, aI l2, aI 0] [] s else some (aU, s) else some (aU, s) := by
  refine (x_iload f1_47 rfl rfl).trans ?_
  refine (x_aload f1_48 rfl rfl).trans ?_
  refine (y_get0 (ji := 4) rfl f1_49 rfl rfl).trans ?_
  refine (g_t ((kd_t ht).1)).trans ?_
  refine (x_icmp_ge (tg := 106) f1_52 rfl rfl).trans (i_c ?_ ?_)
  · refine (x_iload f1_55 rfl rfl).trans ?_
    refine (x_iconst f1_56 rfl).trans ?_
    refine (x_icmp_ge (tg := 106) f1_57 rfl rfl).trans (i_c ?_ ?_)
    · refine (x_iconst f1_60 rfl).trans ?_
      refine (x_istore (l2 := [aA 5, aA t, aI l2, aI 0]) f1_61 rfl rfl).trans ?_
      rfl
    · refine (x_kil (l2 := [aU, aU, aU, aU]) f1_106 rfl).trans ?_
      exact x_return f1_106 rfl
  · refine (x_kil (l2 := [aU, aU, aU, aU]) f1_106 rfl).trans ?_
    exact x_return f1_106 rfl
set_option maxRecDepth 10000 in
theorem p1_62 {t : Int} (ht : t = 32 ∨ t = 37) {s : SG} (hR : RefP s) (l2 l3 : Int) : sem 1 62 [aA 5, aA t, aI l2, aI l3] [] s = if l3 < 3 then bnI (sem 84 0 [aA t, aI l2, aI l3, aU] [] s) fun a2 s1 => bnI (sem 85 0 [aA t, aI l2, aI l3, aU] [] s1) fun a4 s3 => bnI (sem 83 0 [aA t, aI l3] [] s3) fun a6 s5 => bnV (sem 2 0 [aA 5, aI l2, aI a2, aI a4, aI a6, aU, aU] [] s5) fun s7 => sem 1 62 [aA 5, aA t, aI l2, aI (w32 (l3 + 1))] [] s7 else bnV (sem 4 0 [aA 5, aI l2, aU, aU] [] s) fun s8 => sem 1 47 [aA 5, aA t, aI (w32 (l2 + 1)), aU] [] s8 := by
  refine (x_iload f1_62 rfl rfl).trans ?_
  refine (x_iconst f1_63 rfl).trans ?_
  refine (x_icmp_ge (tg := 95) f1_64 rfl rfl).trans (i_c ?_ ?_)
  · refine (x_aload f1_67 rfl rfl).trans ?_
    refine (x_iload f1_68 rfl rfl).trans ?_
    refine (x_aload f1_69 rfl rfl).trans ?_
    refine (x_iload f1_70 rfl rfl).trans ?_
    refine (x_iload f1_71 rfl rfl).trans ?_
    refine (x_invokevirtual (G := grd (kd t = 6) (bnI (sem 84 0 [aA t, aI l2, aI l3, aU] [] s) fun a2 s1 => sem 1 75 [aA 5, aA t, aI l2, aI l3] [aI a2, aI l2, aA 5] s1)) f1_72 rfl rfl).trans ?_
    refine (g_t ((kd_t ht).1)).trans ?_
    refine bI_h fun a2 s1 qs1 => ?_
    have rs1 := RefP.sem qs1 rfl hR
    refine (x_aload f1_75 rfl rfl).trans ?_
    refine (x_iload f1_76 rfl rfl).trans ?_
    refine (x_iload f1_77 rfl rfl).trans ?_
    refine (x_invokevirtual (G := grd (kd t = 6) (bnI (sem 85 0 [aA t, aI l2, aI l3, aU] [] s1) fun a4 s3 => sem 1 81 [aA 5, aA t, aI l2, aI l3] [aI a4, aI a2, aI l2, aA 5] s3)) f1_78 rfl rfl).trans ?_
    refine (g_t ((kd_t ht).1)).trans ?_
    refine bI_h fun a4 s3 qs3 => ?_
    have rs3 := RefP.sem qs3 rfl rs1
    refine (x_aload f1_81 rfl rfl).trans ?_
    refine (x_iload f1_82 rfl rfl).trans ?_
    refine (x_invokevirtual (G := grd (kd t = 6) (bnI (sem 83 0 [aA t, aI l3] [] s3) fun a6 s5 => sem 1 86 [aA 5, aA t, aI l2, aI l3] [aI a6, aI a4, aI a2, aI l2, aA 5] s5)) f1_83 rfl rfl).trans ?_
    refine (g_t ((kd_t ht).1)).trans ?_
    refine bI_h fun a6 s5 qs5 => ?_
    have rs5 := RefP.sem qs5 rfl rs3
    refine (x_invokevirtual (G := grd (kd 5 = 0) (bnV (sem 2 0 [aA 5, aI l2, aI a2, aI a4, aI a6, aU, aU] [] s5) fun s7 => sem 1 89 [aA 5, aA t, aI l2, aI l3] [] s7)) f1_86 rfl rfl).trans ?_
    refine (g_t rfl).trans ?_
    refine bV_h fun s7 qs7 => ?_
    have rs7 := RefP.sem qs7 rfl rs5
    refine (x_iinc (l2 := [aA 5, aA t, aI l2, aI (w32 (l3 + 1))]) f1_89 rfl rfl rfl).trans ?_
    refine (x_goto (tg := 62) f1_92 rfl rfl).trans ?_
    rfl
  · refine (x_aload f1_95 rfl rfl).trans ?_
    refine (x_iload f1_96 rfl rfl).trans ?_
    refine (x_invokevirtual (G := grd (kd 5 = 0) (bnV (sem 4 0 [aA 5, aI l2, aU, aU] [] s) fun s8 => sem 1 100 [aA 5, aA t, aI l2, aI l3] [] s8)) f1_97 rfl rfl).trans ?_
    refine (g_t rfl).trans ?_
    refine bV_h fun s8 qs8 => ?_
    have rs8 := RefP.sem qs8 rfl hR
    refine (x_iinc (l2 := [aA 5, aA t, aI (w32 (l2 + 1)), aI l3]) f1_100 rfl rfl rfl).trans ?_
    refine (x_goto (tg := 47) f1_103 rfl rfl).trans ?_
    exact x_kil f1_47 rfl
set_option maxRecDepth 10000 in
theorem p2_0 {s : SG} (hR : RefP s) (l1 l2 l3 l4 : Int) : sem 2 0 [aA 5, aI l1, aI l2, aI l3, aI l4, aU, aU] [] s = bnV (sem 3 0 [aA 5, aI l3, aU, aU] [] s) fun s1 => sem 2 8 [aA 5, aI l1, aI l2, aU, aI l4, aI 0, aU] [] s1 := by
  refine (x_aload f2_0 rfl rfl).trans ?_
  refine (x_iload f2_1 rfl rfl).trans ?_
  refine (x_invokevirtual (G := grd (kd 5 = 0) (bnV (sem 3 0 [aA 5, aI l3, aU, aU] [] s) fun s1 => sem 2 5 [aA 5, aI l1, aI l2, aI l3, aI l4, aU, aU] [] s1)) f2_2 rfl rfl).trans ?_
  refine (g_t rfl).trans ?_
  refine bV_h fun s1 qs1 => ?_
  have rs1 := RefP.sem qs1 rfl hR
  refine (x_iconst f2_5 rfl).trans ?_
  refine (x_istore (l2 := [aA 5, aI l1, aI l2, aI l3, aI l4, aI 0, aU]) f2_6 rfl rfl).trans ?_
  exact x_kil f2_8 rfl
set_option maxRecDepth 10000 in
theorem p2_8 {s : SG} (hR : RefP s) (l1 l2 l4 l5 : Int) : sem 2 8 [aA 5, aI l1, aI l2, aU, aI l4, aI l5, aU] [] s = if (6 : Int) < l5 then some (aU, s) else bnI (sem 6 0 [aA 5, aI l1, aI (w32 ((w32 ((w32 (6 * l2)) + l5)) - 1))] [] s) fun a2 s1 => if a2 = 0 then sem 2 8 [aA 5, aI l1, aI l2, aU, aI l4, aI (w32 (l5 + 1)), aU] [] s1 else grd ((0 : Int) ≤ (w32 ((w32 (l1 * 61)) + (w32 ((w32 ((w32 (6 * l2)) + l5)) - 1)))) ∧ (w32 ((w32 (l1 * 61)) + (w32 ((w32 ((w32 (6 * l2)) + l5)) - 1)))) < 183) (grd ((0 : Int) ≤ l5 ∧ l5 < 7) (sem 2 8 [aA 5, aI l1, aI l2, aU, aI l4, aI (w32 (l5 + 1)), aU] [] (up s1 7 (w32 ((w32 (l1 * 61)) + (w32 ((w32 ((w32 (6 * l2)) + l5)) - 1)))) (w64 ((s1 7 (w32 ((w32 (l1 * 61)) + (w32 ((w32 ((w32 (6 * l2)) + l5)) - 1))))) + (w64 ((s1 8 l5) * l4))))))) := by
  refine (x_iload f2_8 rfl rfl).trans ?_
  refine (x_iconst f2_10 rfl).trans ?_
  refine (x_icmp_gt (tg := 68) f2_12 rfl rfl).trans (i_c ?_ ?_)
  · exact x_return f2_68 rfl
  · refine (x_iconst f2_15 rfl).trans ?_
    refine (x_iload f2_17 rfl rfl).trans ?_
    refine (x_imul f2_18 rfl).trans ?_
    refine (x_iload f2_19 rfl rfl).trans ?_
    refine (x_iadd f2_21 rfl).trans ?_
    refine (x_iconst f2_22 rfl).trans ?_
    refine (x_isub f2_23 rfl).trans ?_
    refine (x_istore (l2 := [aA 5, aI l1, aI l2, aU, aI l4, aI l5, aI (w32 ((w32 ((w32 (6 * l2)) + l5)) - 1))]) f2_24 rfl rfl).trans ?_
    refine (x_aload f2_26 rfl rfl).trans ?_
    refine (x_iload f2_27 rfl rfl).trans ?_
    refine (x_iload f2_28 rfl rfl).trans ?_
    refine (x_invokevirtual (G := grd (kd 5 = 0) (bnI (sem 6 0 [aA 5, aI l1, aI (w32 ((w32 ((w32 (6 * l2)) + l5)) - 1))] [] s) fun a2 s1 => sem 2 33 [aA 5, aI l1, aI l2, aU, aI l4, aI l5, aI (w32 ((w32 ((w32 (6 * l2)) + l5)) - 1))] [aI a2] s1)) f2_30 rfl rfl).trans ?_
    refine (g_t rfl).trans ?_
    refine bI_h fun a2 s1 qs1 => ?_
    have rs1 := RefP.sem qs1 rfl hR
    refine (x_if_eq (tg := 62) f2_33 rfl rfl).trans (i_c ?_ ?_)
    · refine (x_kil (l2 := [aA 5, aI l1, aI l2, aU, aI l4, aI l5, aU]) f2_62 rfl).trans ?_
      refine (x_iinc (l2 := [aA 5, aI l1, aI l2, aU, aI l4, aI (w32 (l5 + 1)), aU]) f2_62 rfl rfl rfl).trans ?_
      refine (x_goto (tg := 8) f2_65 rfl rfl).trans ?_
      rfl
    · refine (x_aload f2_36 rfl rfl).trans ?_
      refine (y_get2 (ji := 1) rfl f2_37 rfl rfl).trans ?_
      refine (g_t rfl).trans ?_
      refine (g_t (by rw [show s1 5 1 = 7 from rs1.2.2.2.2.2.2.2.2.2.2.2.2.1]; decide)).trans ?_
      rw [show s1 5 1 = 7 from rs1.2.2.2.2.2.2.2.2.2.2.2.2.1]
      refine (x_iload f2_40 rfl rfl).trans ?_
      refine (x_iconst f2_41 rfl).trans ?_
      refine (x_imul f2_43 rfl).trans ?_
      refine (x_iload f2_44 rfl rfl).trans ?_
      refine (x_iadd f2_46 rfl).trans ?_
      refine (x_dup2 f2_47 rfl rfl).trans ?_
      refine (x_laload f2_48 rfl).trans ?_
      refine (g_t rfl).trans ?_
      refine g_kl (n := 183) rfl fun hg3 => ?_
      refine (x_aload f2_49 rfl rfl).trans ?_
      refine (y_get2 (ji := 2) rfl f2_50 rfl rfl).trans ?_
      refine (g_t rfl).trans ?_
      refine (g_t (by rw [show s1 5 2 = 8 from rs1.2.2.2.2.2.2.2.2.2.2.2.2.2.1]; decide)).trans ?_
      rw [show s1 5 2 = 8 from rs1.2.2.2.2.2.2.2.2.2.2.2.2.2.1]
      refine (x_iload f2_53 rfl rfl).trans ?_
      refine (x_laload f2_55 rfl).trans ?_
      refine (g_t rfl).trans ?_
      refine g_kl (n := 7) rfl fun hg4 => ?_
      refine (x_iload f2_56 rfl rfl).trans ?_
      refine (x_i2l f2_58 rfl).trans ?_
      refine (x_lmul f2_59 rfl).trans ?_
      refine (x_ladd f2_60 rfl).trans ?_
      refine (x_lastore f2_61 rfl).trans ?_
      refine (g_t rfl).trans ?_
      refine (g_kt (n := 183) rfl hg3).trans ?_
      refine (x_kil (l2 := [aA 5, aI l1, aI l2, aU, aI l4, aI l5, aU]) f2_62 rfl).trans ?_
      refine (x_iinc (l2 := [aA 5, aI l1, aI l2, aU, aI l4, aI (w32 (l5 + 1)), aU]) f2_62 rfl rfl rfl).trans ?_
      refine (x_goto (tg := 8) f2_65 rfl rfl).trans ?_
      rfl
set_option maxRecDepth 10000 in
theorem p3_0 {s : SG} (hR : RefP s) (l1 : Int) : sem 3 0 [aA 5, aI l1, aU, aU] [] s = bnV (sem 223 0 [aA 8, aL 0, aU, aU, aU] [] s) fun s1 => sem 3 17 [aA 5, aI l1, aI 1, aU] [] (up s1 8 0 1) := by
  refine (x_aload f3_0 rfl rfl).trans ?_
  refine (y_get2 (ji := 2) rfl f3_1 rfl rfl).trans ?_
  refine (g_t rfl).trans ?_
  refine (g_t (by rw [show s 5 2 = 8 from hR.2.2.2.2.2.2.2.2.2.2.2.2.2.1]; decide)).trans ?_
  rw [show s 5 2 = 8 from hR.2.2.2.2.2.2.2.2.2.2.2.2.2.1]
  refine (x_lconst f3_4 rfl).trans ?_
  refine (x_invokestatic (G := bnV (sem 223 0 [aA 8, aL 0, aU, aU, aU] [] s) fun s1 => sem 3 8 [aA 5, aI l1, aU, aU] [] s1) f3_5 rfl rfl).trans ?_
  refine bV_h fun s1 qs1 => ?_
  have rs1 := RefP.sem qs1 rfl hR
  refine (x_aload f3_8 rfl rfl).trans ?_
  refine (y_get2 (ji := 2) rfl f3_9 rfl rfl).trans ?_
  refine (g_t rfl).trans ?_
  refine (g_t (by rw [show s1 5 2 = 8 from rs1.2.2.2.2.2.2.2.2.2.2.2.2.2.1]; decide)).trans ?_
  rw [show s1 5 2 = 8 from rs1.2.2.2.2.2.2.2.2.2.2.2.2.2.1]
  refine (x_iconst f3_12 rfl).trans ?_
  refine (x_lconst f3_13 rfl).trans ?_
  refine (x_lastore f3_14 rfl).trans ?_
  refine (g_t rfl).trans ?_
  refine (g_kt (n := 7) rfl (by decide)).trans ?_
  refine (x_iconst f3_15 rfl).trans ?_
  refine (x_istore (l2 := [aA 5, aI l1, aI 1, aU]) f3_16 rfl rfl).trans ?_
  rfl
set_option maxRecDepth 10000 in
theorem p3_17 {s : SG} (hR : RefP s) (l1 l2 : Int) : sem 3 17 [aA 5, aI l1, aI l2, aU] [] s = if (6 : Int) < l2 then some (aU, s) else sem 3 25 [aA 5, aI l1, aI l2, aI l2] [] s := by
  refine (x_iload f3_17 rfl rfl).trans ?_
  refine (x_iconst f3_18 rfl).trans ?_
  refine (x_icmp_gt (tg := 86) f3_20 rfl rfl).trans (i_c ?_ ?_)
  · exact x_return f3_86 rfl
  · refine (x_iload f3_23 rfl rfl).trans ?_
    refine (x_istore (l2 := [aA 5, aI l1, aI l2, aI l2]) f3_24 rfl rfl).trans ?_
    rfl
set_option maxRecDepth 10000 in
theorem p3_25 {s : SG} (hR : RefP s) (l1 l2 l3 : Int) : sem 3 25 [aA 5, aI l1, aI l2, aI l3] [] s = if l3 < 1 then sem 3 17 [aA 5, aI l1, aI (w32 (l2 + 1)), aU] [] (up s 8 0 (w64 ((s 8 0) * (w32 (10 - l1))))) else grd ((0 : Int) ≤ l3 ∧ l3 < 7) (grd ((0 : Int) ≤ (w32 (l3 - 1)) ∧ (w32 (l3 - 1)) < 7) (sem 3 25 [aA 5, aI l1, aI l2, aI (w32 (l3 + (-1)))] [] (up s 8 l3 (w64 ((w64 ((s 8 l3) * (w32 (10 - l1)))) + (w64 ((s 8 (w32 (l3 - 1))) * l1))))))) := by
  refine (x_iload f3_25 rfl rfl).trans ?_
  refine (x_iconst f3_26 rfl).trans ?_
  refine (x_icmp_lt (tg := 66) f3_27 rfl rfl).trans (i_c ?_ ?_)
  · refine (x_aload f3_66 rfl rfl).trans ?_
    refine (y_get2 (ji := 2) rfl f3_67 rfl rfl).trans ?_
    refine (g_t rfl).trans ?_
    refine (g_t (by rw [show s 5 2 = 8 from hR.2.2.2.2.2.2.2.2.2.2.2.2.2.1]; decide)).trans ?_
    rw [show s 5 2 = 8 from hR.2.2.2.2.2.2.2.2.2.2.2.2.2.1]
    refine (x_iconst f3_70 rfl).trans ?_
    refine (x_dup2 f3_71 rfl rfl).trans ?_
    refine (x_laload f3_72 rfl).trans ?_
    refine (g_t rfl).trans ?_
    refine (g_kt (n := 7) rfl (by decide)).trans ?_
    refine (x_iconst f3_73 rfl).trans ?_
    refine (x_iload f3_75 rfl rfl).trans ?_
    refine (x_isub f3_76 rfl).trans ?_
    refine (x_i2l f3_77 rfl).trans ?_
    refine (x_lmul f3_78 rfl).trans ?_
    refine (x_lastore f3_79 rfl).trans ?_
    refine (g_t rfl).trans ?_
    refine (g_kt (n := 7) rfl (by decide)).trans ?_
    refine (x_iinc (l2 := [aA 5, aI l1, aI (w32 (l2 + 1)), aI l3]) f3_80 rfl rfl rfl).trans ?_
    refine (x_goto (tg := 17) f3_83 rfl rfl).trans ?_
    exact x_kil f3_17 rfl
  · refine (x_aload f3_30 rfl rfl).trans ?_
    refine (y_get2 (ji := 2) rfl f3_31 rfl rfl).trans ?_
    refine (g_t rfl).trans ?_
    refine (g_t (by rw [show s 5 2 = 8 from hR.2.2.2.2.2.2.2.2.2.2.2.2.2.1]; decide)).trans ?_
    rw [show s 5 2 = 8 from hR.2.2.2.2.2.2.2.2.2.2.2.2.2.1]
    refine (x_iload f3_34 rfl rfl).trans ?_
    refine (x_aload f3_35 rfl rfl).trans ?_
    refine (y_get2 (ji := 2) rfl f3_36 rfl rfl).trans ?_
    refine (g_t rfl).trans ?_
    refine (g_t (by rw [show s 5 2 = 8 from hR.2.2.2.2.2.2.2.2.2.2.2.2.2.1]; decide)).trans ?_
    rw [show s 5 2 = 8 from hR.2.2.2.2.2.2.2.2.2.2.2.2.2.1]
    refine (x_iload f3_39 rfl rfl).trans ?_
    refine (x_laload f3_40 rfl).trans ?_
    refine (g_t rfl).trans ?_
    refine g_kl (n := 7) rfl fun hg1 => ?_
    refine (x_iconst f3_41 rfl).trans ?_
    refine (x_iload f3_43 rfl rfl).trans ?_
    refine (x_isub f3_44 rfl).trans ?_
    refine (x_i2l f3_45 rfl).trans ?_
    refine (x_lmul f3_46 rfl).trans ?_
    refine (x_aload f3_47 rfl rfl).trans ?_
    refine (y_get2 (ji := 2) rfl f3_48 rfl rfl).trans ?_
    refine (g_t rfl).trans ?_
    refine (g_t (by rw [show s 5 2 = 8 from hR.2.2.2.2.2.2.2.2.2.2.2.2.2.1]; decide)).trans ?_
    rw [show s 5 2 = 8 from hR.2.2.2.2.2.2.2.2.2.2.2.2.2.1]
    refine (x_iload f3_51 rfl rfl).trans ?_
    refine (x_iconst f3_52 rfl).trans ?_
    refine (x_isub f3_53 rfl).trans ?_
    refine (x_laload f3_54 rfl).trans ?_
    refine (g_t rfl).trans ?_
    refine g_kl (n := 7) rfl fun hg2 => ?_
    refine (x_iload f3_55 rfl rfl).trans ?_
    refine (x_i2l f3_56 rfl).trans ?_
    refine (x_lmul f3_57 rfl).trans ?_
    refine (x_ladd f3_58 rfl).trans ?_
    refine (x_lastore f3_59 rfl).trans ?_
    refine (g_t rfl).trans ?_
    refine (g_kt (n := 7) rfl hg1).trans ?_
    refine (x_iinc (l2 := [aA 5, aI l1, aI l2, aI (w32 (l3 + (-1)))]) f3_60 rfl rfl rfl).trans ?_
    refine (x_goto (tg := 25) f3_63 rfl rfl).trans ?_
    rfl
set_option maxRecDepth 10000 in
theorem p4_0 {s : SG} (hR : RefP s) (l1 : Int) : sem 4 0 [aA 5, aI l1, aU, aU] [] s = bnI (sem 139 0 [aI l1] [] s) fun a2 s1 => if a2 = 0 then some (aU, s1) else sem 4 16 [aA 5, aU, aI (w32 (l1 * 61)), aI 59] [] s1 := by
  refine (x_iload f4_0 rfl rfl).trans ?_
  refine (x_invokestatic (G := bnI (sem 139 0 [aI l1] [] s) fun a2 s1 => sem 4 4 [aA 5, aI l1, aU, aU] [aI a2] s1) f4_1 rfl rfl).trans ?_
  refine bI_h fun a2 s1 qs1 => ?_
  have rs1 := RefP.sem qs1 rfl hR
  refine (x_if_ne (tg := 8) f4_4 rfl rfl).trans (i_c ?_ ?_)
  · exact x_return f4_7 rfl
  · refine (x_iload f4_8 rfl rfl).trans ?_
    refine (x_iconst f4_9 rfl).trans ?_
    refine (x_imul f4_11 rfl).trans ?_
    refine (x_istore (l2 := [aA 5, aI l1, aI (w32 (l1 * 61)), aU]) f4_12 rfl rfl).trans ?_
    refine (x_iconst f4_13 rfl).trans ?_
    refine (x_istore (l2 := [aA 5, aI l1, aI (w32 (l1 * 61)), aI 59]) f4_15 rfl rfl).trans ?_
    exact x_kil f4_16 rfl
set_option maxRecDepth 10000 in
theorem p4_16 {s : SG} (hR : RefP s) (l2 l3 : Int) : sem 4 16 [aA 5, aU, aI l2, aI l3] [] s = if l3 < 0 then grd ((0 : Int) ≤ l2 ∧ l2 < 183) (sem 4 56 [aA 5, aU, aI l2, aI 1] [] (up s 6 l2 0)) else grd ((0 : Int) ≤ (w32 (l2 + l3)) ∧ (w32 (l2 + l3)) < 183) (grd ((0 : Int) ≤ (w32 ((w32 (l2 + l3)) + 1)) ∧ (w32 ((w32 (l2 + l3)) + 1)) < 183) (sem 4 16 [aA 5, aU, aI l2, aI (w32 (l3 + (-1)))] [] (up s 7 (w32 (l2 + l3)) (w64 ((s 7 (w32 (l2 + l3))) + (s 7 (w32 ((w32 (l2 + l3)) + 1)))))))) := by
  refine (x_iload f4_16 rfl rfl).trans ?_
  refine (x_if_lt (tg := 47) f4_17 rfl rfl).trans (i_c ?_ ?_)
  · refine (x_aload f4_47 rfl rfl).trans ?_
    refine (y_get2 (ji := 0) rfl f4_48 rfl rfl).trans ?_
    refine (g_t rfl).trans ?_
    refine (g_t (by rw [show s 5 0 = 6 from hR.2.2.2.2.2.2.2.2.2.2.2.1]; decide)).trans ?_
    rw [show s 5 0 = 6 from hR.2.2.2.2.2.2.2.2.2.2.2.1]
    refine (x_iload f4_51 rfl rfl).trans ?_
    refine (x_lconst f4_52 rfl).trans ?_
    refine (x_lastore f4_53 rfl).trans ?_
    refine (g_t rfl).trans ?_
    refine g_kl (n := 183) rfl fun hg1 => ?_
    refine (x_iconst f4_54 rfl).trans ?_
    refine (x_istore (l2 := [aA 5, aU, aI l2, aI 1]) f4_55 rfl rfl).trans ?_
    rfl
  · refine (x_aload f4_20 rfl rfl).trans ?_
    refine (y_get2 (ji := 1) rfl f4_21 rfl rfl).trans ?_
    refine (g_t rfl).trans ?_
    refine (g_t (by rw [show s 5 1 = 7 from hR.2.2.2.2.2.2.2.2.2.2.2.2.1]; decide)).trans ?_
    rw [show s 5 1 = 7 from hR.2.2.2.2.2.2.2.2.2.2.2.2.1]
    refine (x_iload f4_24 rfl rfl).trans ?_
    refine (x_iload f4_25 rfl rfl).trans ?_
    refine (x_iadd f4_26 rfl).trans ?_
    refine (x_dup2 f4_27 rfl rfl).trans ?_
    refine (x_laload f4_28 rfl).trans ?_
    refine (g_t rfl).trans ?_
    refine g_kl (n := 183) rfl fun hg2 => ?_
    refine (x_aload f4_29 rfl rfl).trans ?_
    refine (y_get2 (ji := 1) rfl f4_30 rfl rfl).trans ?_
    refine (g_t rfl).trans ?_
    refine (g_t (by rw [show s 5 1 = 7 from hR.2.2.2.2.2.2.2.2.2.2.2.2.1]; decide)).trans ?_
    rw [show s 5 1 = 7 from hR.2.2.2.2.2.2.2.2.2.2.2.2.1]
    refine (x_iload f4_33 rfl rfl).trans ?_
    refine (x_iload f4_34 rfl rfl).trans ?_
    refine (x_iadd f4_35 rfl).trans ?_
    refine (x_iconst f4_36 rfl).trans ?_
    refine (x_iadd f4_37 rfl).trans ?_
    refine (x_laload f4_38 rfl).trans ?_
    refine (g_t rfl).trans ?_
    refine g_kl (n := 183) rfl fun hg3 => ?_
    refine (x_ladd f4_39 rfl).trans ?_
    refine (x_lastore f4_40 rfl).trans ?_
    refine (g_t rfl).trans ?_
    refine (g_kt (n := 183) rfl hg2).trans ?_
    refine (x_iinc (l2 := [aA 5, aU, aI l2, aI (w32 (l3 + (-1)))]) f4_41 rfl rfl rfl).trans ?_
    refine (x_goto (tg := 16) f4_44 rfl rfl).trans ?_
    rfl
set_option maxRecDepth 10000 in
theorem p4_56 {s : SG} (hR : RefP s) (l2 l3 : Int) : sem 4 56 [aA 5, aU, aI l2, aI l3] [] s = if (60 : Int) < l3 then some (aU, s) else grd ((0 : Int) ≤ (w32 ((w32 (l2 + l3)) - 1)) ∧ (w32 ((w32 (l2 + l3)) - 1)) < 183) (grd ((0 : Int) ≤ (w32 (l2 + l3)) ∧ (w32 (l2 + l3)) < 183) (sem 4 56 [aA 5, aU, aI l2, aI (w32 (l3 + 1))] [] (up s 6 (w32 (l2 + l3)) (w64 ((s 6 (w32 ((w32 (l2 + l3)) - 1))) + (s 7 (w32 ((w32 (l2 + l3)) - 1)))))))) := by
  refine (x_iload f4_56 rfl rfl).trans ?_
  refine (x_iconst f4_57 rfl).trans ?_
  refine (x_icmp_gt (tg := 97) f4_59 rfl rfl).trans (i_c ?_ ?_)
  · exact x_return f4_97 rfl
  · refine (x_aload f4_62 rfl rfl).trans ?_
    refine (y_get2 (ji := 0) rfl f4_63 rfl rfl).trans ?_
    refine (g_t rfl).trans ?_
    refine (g_t (by rw [show s 5 0 = 6 from hR.2.2.2.2.2.2.2.2.2.2.2.1]; decide)).trans ?_
    rw [show s 5 0 = 6 from hR.2.2.2.2.2.2.2.2.2.2.2.1]
    refine (x_iload f4_66 rfl rfl).trans ?_
    refine (x_iload f4_67 rfl rfl).trans ?_
    refine (x_iadd f4_68 rfl).trans ?_
    refine (x_aload f4_69 rfl rfl).trans ?_
    refine (y_get2 (ji := 0) rfl f4_70 rfl rfl).trans ?_
    refine (g_t rfl).trans ?_
    refine (g_t (by rw [show s 5 0 = 6 from hR.2.2.2.2.2.2.2.2.2.2.2.1]; decide)).trans ?_
    rw [show s 5 0 = 6 from hR.2.2.2.2.2.2.2.2.2.2.2.1]
    refine (x_iload f4_73 rfl rfl).trans ?_
    refine (x_iload f4_74 rfl rfl).trans ?_
    refine (x_iadd f4_75 rfl).trans ?_
    refine (x_iconst f4_76 rfl).trans ?_
    refine (x_isub f4_77 rfl).trans ?_
    refine (x_laload f4_78 rfl).trans ?_
    refine (g_t rfl).trans ?_
    refine g_kl (n := 183) rfl fun hg1 => ?_
    refine (x_aload f4_79 rfl rfl).trans ?_
    refine (y_get2 (ji := 1) rfl f4_80 rfl rfl).trans ?_
    refine (g_t rfl).trans ?_
    refine (g_t (by rw [show s 5 1 = 7 from hR.2.2.2.2.2.2.2.2.2.2.2.2.1]; decide)).trans ?_
    rw [show s 5 1 = 7 from hR.2.2.2.2.2.2.2.2.2.2.2.2.1]
    refine (x_iload f4_83 rfl rfl).trans ?_
    refine (x_iload f4_84 rfl rfl).trans ?_
    refine (x_iadd f4_85 rfl).trans ?_
    refine (x_iconst f4_86 rfl).trans ?_
    refine (x_isub f4_87 rfl).trans ?_
    refine (x_laload f4_88 rfl).trans ?_
    refine (g_t rfl).trans ?_
    refine (g_kt (n := 183) rfl hg1).trans ?_
    refine (x_ladd f4_89 rfl).trans ?_
    refine (x_lastore f4_90 rfl).trans ?_
    refine (g_t rfl).trans ?_
    refine g_kl (n := 183) rfl fun hg2 => ?_
    refine (x_iinc (l2 := [aA 5, aU, aI l2, aI (w32 (l3 + 1))]) f4_91 rfl rfl rfl).trans ?_
    refine (x_goto (tg := 56) f4_94 rfl rfl).trans ?_
    rfl
set_option maxRecDepth 10000 in
theorem p6_0 {s : SG} (hR : RefP s) (l1 l2 : Int) : sem 6 0 [aA 5, aI l1, aI l2] [] s = bnI (sem 139 0 [aI l1] [] s) fun a2 s1 => if a2 = 0 then some (aI 0, s1) else bnI (sem 143 0 [aI l2] [] s1) fun a4 s3 => if a4 = 0 then some (aI 0, s3) else some (aI 1, s3) := by
  refine (x_iload f6_0 rfl rfl).trans ?_
  refine (x_invokestatic (G := bnI (sem 139 0 [aI l1] [] s) fun a2 s1 => sem 6 4 [aA 5, aI l1, aI l2] [aI a2] s1) f6_1 rfl rfl).trans ?_
  refine bI_h fun a2 s1 qs1 => ?_
  have rs1 := RefP.sem qs1 rfl hR
  refine (x_if_eq (tg := 18) f6_4 rfl rfl).trans (i_c ?_ ?_)
  · refine (x_kil (l2 := [aU, aU, aU]) f6_18 rfl).trans ?_
    refine (x_iconst f6_18 rfl).trans ?_
    exact x_zreturn0 f6_19 rfl
  · refine (x_iload f6_7 rfl rfl).trans ?_
    refine (x_invokestatic (G := bnI (sem 143 0 [aI l2] [] s1) fun a4 s3 => sem 6 11 [aA 5, aI l1, aI l2] [aI a4] s3) f6_8 rfl rfl).trans ?_
    refine bI_h fun a4 s3 qs3 => ?_
    have rs3 := RefP.sem qs3 rfl rs1
    refine (x_if_eq (tg := 18) f6_11 rfl rfl).trans (i_c ?_ ?_)
    · refine (x_kil (l2 := [aU, aU, aU]) f6_18 rfl).trans ?_
      refine (x_iconst f6_18 rfl).trans ?_
      exact x_zreturn0 f6_19 rfl
    · refine (x_iconst f6_14 rfl).trans ?_
      refine (x_goto (tg := 19) f6_15 rfl rfl).trans ?_
      refine (x_kil (l2 := [aU, aU, aU]) f6_19 rfl).trans ?_
      exact x_zreturn1 f6_19 rfl
