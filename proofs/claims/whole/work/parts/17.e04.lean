theorem f219_0 : fch 219 0 = some (.iload 1, 1, []) := by decide +kernel
theorem f219_1 : fch 219 1 = some (.i2l, 2, []) := by decide +kernel
theorem f219_2 : fch 219 2 = some (.sipush 0, 3, []) := by decide +kernel
theorem f219_3 : fch 219 3 = some (.sipush 1, 4, []) := by decide +kernel
theorem f219_4 : fch 219 4 = some (.invokestatic 152, 7, []) := by decide +kernel
theorem f219_7 : fch 219 7 = some (.ifCond .ne 12, 10, []) := by decide +kernel
theorem f219_10 : fch 219 10 = some (.iconst (-1), 11, []) := by decide +kernel
theorem f219_11 : fch 219 11 = some (.ireturn, 12, []) := by decide +kernel
theorem f219_12 : fch 219 12 = some (.aload 0, 13, []) := by decide +kernel
theorem f219_13 : fch 219 13 = some (.invokeinterface 9 39, 16, []) := by decide +kernel
theorem f219_16 : fch 219 16 = some (.iload 1, 17, []) := by decide +kernel
theorem f219_17 : fch 219 17 = some (.iconst 1, 18, []) := by decide +kernel
theorem f219_18 : fch 219 18 = some (.bastore, 19, []) := by decide +kernel
theorem f219_19 : fch 219 19 = some (.iconst 0, 20, []) := by decide +kernel
theorem f219_20 : fch 219 20 = some (.istore 2, 21, []) := by decide +kernel
theorem f219_21 : fch 219 21 = some (.iload 2, 22, []) := by decide +kernel
theorem f219_22 : fch 219 22 = some (.iconst 3, 23, []) := by decide +kernel
theorem f219_23 : fch 219 23 = some (.if_icmp .ge 80, 26, []) := by decide +kernel
theorem f219_26 : fch 219 26 = some (.aload 0, 27, []) := by decide +kernel
theorem f219_27 : fch 219 27 = some (.invokeinterface 9 40, 30, []) := by decide +kernel
theorem f219_30 : fch 219 30 = some (.iconst 3, 31, []) := by decide +kernel
theorem f219_31 : fch 219 31 = some (.iload 1, 32, []) := by decide +kernel
theorem f219_32 : fch 219 32 = some (.imul, 33, []) := by decide +kernel
theorem f219_33 : fch 219 33 = some (.iload 2, 34, []) := by decide +kernel
theorem f219_34 : fch 219 34 = some (.iadd, 35, []) := by decide +kernel
theorem f219_35 : fch 219 35 = some (.aload 0, 36, []) := by decide +kernel
theorem f219_36 : fch 219 36 = some (.invokeinterface 9 16, 39, []) := by decide +kernel
theorem f219_39 : fch 219 39 = some (.iload 2, 40, []) := by decide +kernel
theorem f219_40 : fch 219 40 = some (.iaload, 41, []) := by decide +kernel
theorem f219_41 : fch 219 41 = some (.iastore, 42, []) := by decide +kernel
theorem f219_42 : fch 219 42 = some (.aload 0, 43, []) := by decide +kernel
theorem f219_43 : fch 219 43 = some (.invokeinterface 9 41, 46, []) := by decide +kernel
theorem f219_46 : fch 219 46 = some (.iconst 3, 47, []) := by decide +kernel
theorem f219_47 : fch 219 47 = some (.iload 1, 48, []) := by decide +kernel
theorem f219_48 : fch 219 48 = some (.imul, 49, []) := by decide +kernel
theorem f219_49 : fch 219 49 = some (.iload 2, 50, []) := by decide +kernel
theorem f219_50 : fch 219 50 = some (.iadd, 51, []) := by decide +kernel
theorem f219_51 : fch 219 51 = some (.aload 0, 52, []) := by decide +kernel
theorem f219_52 : fch 219 52 = some (.invokeinterface 9 17, 55, []) := by decide +kernel
theorem f219_55 : fch 219 55 = some (.iload 2, 56, []) := by decide +kernel
theorem f219_56 : fch 219 56 = some (.iaload, 57, []) := by decide +kernel
theorem f219_57 : fch 219 57 = some (.iastore, 58, []) := by decide +kernel
theorem f219_58 : fch 219 58 = some (.aload 0, 59, []) := by decide +kernel
theorem f219_59 : fch 219 59 = some (.invokeinterface 9 42, 62, []) := by decide +kernel
theorem f219_62 : fch 219 62 = some (.iconst 3, 63, []) := by decide +kernel
theorem f219_63 : fch 219 63 = some (.iload 1, 64, []) := by decide +kernel
theorem f219_64 : fch 219 64 = some (.imul, 65, []) := by decide +kernel
theorem f219_65 : fch 219 65 = some (.iload 2, 66, []) := by decide +kernel
theorem f219_66 : fch 219 66 = some (.iadd, 67, []) := by decide +kernel
theorem f219_67 : fch 219 67 = some (.aload 0, 68, []) := by decide +kernel
theorem f219_68 : fch 219 68 = some (.invokeinterface 9 18, 71, []) := by decide +kernel
theorem f219_71 : fch 219 71 = some (.iload 2, 72, []) := by decide +kernel
theorem f219_72 : fch 219 72 = some (.iaload, 73, []) := by decide +kernel
theorem f219_73 : fch 219 73 = some (.iastore, 74, []) := by decide +kernel
theorem f219_74 : fch 219 74 = some (.iinc 2 1, 77, []) := by decide +kernel
theorem f219_77 : fch 219 77 = some (.goto 21, 80, []) := by decide +kernel
theorem f219_80 : fch 219 80 = some (.aload 0, 81, []) := by decide +kernel
theorem f219_81 : fch 219 81 = some (.invokeinterface 9 43, 84, []) := by decide +kernel
theorem f219_84 : fch 219 84 = some (.iconst 5, 85, []) := by decide +kernel
theorem f219_85 : fch 219 85 = some (.iload 1, 86, []) := by decide +kernel
theorem f219_86 : fch 219 86 = some (.imul, 87, []) := by decide +kernel
theorem f219_87 : fch 219 87 = some (.aload 0, 88, []) := by decide +kernel
theorem f219_88 : fch 219 88 = some (.invokeinterface 9 15, 91, []) := by decide +kernel
theorem f219_91 : fch 219 91 = some (.iastore, 92, []) := by decide +kernel
theorem f219_92 : fch 219 92 = some (.aload 0, 93, []) := by decide +kernel
theorem f219_93 : fch 219 93 = some (.invokeinterface 9 43, 96, []) := by decide +kernel
theorem f219_96 : fch 219 96 = some (.iconst 5, 97, []) := by decide +kernel
theorem f219_97 : fch 219 97 = some (.iload 1, 98, []) := by decide +kernel
theorem f219_98 : fch 219 98 = some (.imul, 99, []) := by decide +kernel
theorem f219_99 : fch 219 99 = some (.iconst 1, 100, []) := by decide +kernel
theorem f219_100 : fch 219 100 = some (.iadd, 101, []) := by decide +kernel
theorem f219_101 : fch 219 101 = some (.aload 0, 102, []) := by decide +kernel
theorem f219_102 : fch 219 102 = some (.invokeinterface 9 19, 105, []) := by decide +kernel
theorem f219_105 : fch 219 105 = some (.iastore, 106, []) := by decide +kernel
theorem f219_106 : fch 219 106 = some (.aload 0, 107, []) := by decide +kernel
theorem f219_107 : fch 219 107 = some (.invokeinterface 9 43, 110, []) := by decide +kernel
theorem f219_110 : fch 219 110 = some (.iconst 5, 111, []) := by decide +kernel
theorem f219_111 : fch 219 111 = some (.iload 1, 112, []) := by decide +kernel
theorem f219_112 : fch 219 112 = some (.imul, 113, []) := by decide +kernel
theorem f219_113 : fch 219 113 = some (.iconst 2, 114, []) := by decide +kernel
theorem f219_114 : fch 219 114 = some (.iadd, 115, []) := by decide +kernel
theorem f219_115 : fch 219 115 = some (.aload 0, 116, []) := by decide +kernel
theorem f219_116 : fch 219 116 = some (.invokeinterface 9 20, 119, []) := by decide +kernel
theorem f219_119 : fch 219 119 = some (.iastore, 120, []) := by decide +kernel
theorem f219_120 : fch 219 120 = some (.aload 0, 121, []) := by decide +kernel
theorem f219_121 : fch 219 121 = some (.invokeinterface 9 43, 124, []) := by decide +kernel
theorem f219_124 : fch 219 124 = some (.iconst 5, 125, []) := by decide +kernel
theorem f219_125 : fch 219 125 = some (.iload 1, 126, []) := by decide +kernel
theorem f219_126 : fch 219 126 = some (.imul, 127, []) := by decide +kernel
theorem f219_127 : fch 219 127 = some (.iconst 3, 128, []) := by decide +kernel
theorem f219_128 : fch 219 128 = some (.iadd, 129, []) := by decide +kernel
theorem f219_129 : fch 219 129 = some (.aload 0, 130, []) := by decide +kernel
theorem f219_130 : fch 219 130 = some (.invokeinterface 9 21, 133, []) := by decide +kernel
theorem f219_133 : fch 219 133 = some (.iastore, 134, []) := by decide +kernel
theorem f219_134 : fch 219 134 = some (.aload 0, 135, []) := by decide +kernel
theorem f219_135 : fch 219 135 = some (.invokeinterface 9 43, 138, []) := by decide +kernel
theorem f219_138 : fch 219 138 = some (.iconst 5, 139, []) := by decide +kernel
theorem f219_139 : fch 219 139 = some (.iload 1, 140, []) := by decide +kernel
theorem f219_140 : fch 219 140 = some (.imul, 141, []) := by decide +kernel
theorem f219_141 : fch 219 141 = some (.iconst 4, 142, []) := by decide +kernel
theorem f219_142 : fch 219 142 = some (.iadd, 143, []) := by decide +kernel
theorem f219_143 : fch 219 143 = some (.aload 0, 144, []) := by decide +kernel
theorem f219_144 : fch 219 144 = some (.invokeinterface 9 22, 147, []) := by decide +kernel
theorem f219_147 : fch 219 147 = some (.iastore, 148, []) := by decide +kernel
theorem f219_148 : fch 219 148 = some (.iconst 0, 149, []) := by decide +kernel
theorem f219_149 : fch 219 149 = some (.istore 2, 150, []) := by decide +kernel
theorem f219_150 : fch 219 150 = some (.iload 2, 151, []) := by decide +kernel
theorem f219_151 : fch 219 151 = some (.iconst 6, 153, []) := by decide +kernel
theorem f219_153 : fch 219 153 = some (.if_icmp .ge 223, 156, []) := by decide +kernel
theorem f219_156 : fch 219 156 = some (.aload 0, 157, []) := by decide +kernel
theorem f219_157 : fch 219 157 = some (.invokeinterface 9 44, 160, []) := by decide +kernel
theorem f219_160 : fch 219 160 = some (.iconst 18, 162, []) := by decide +kernel
theorem f219_162 : fch 219 162 = some (.iload 1, 163, []) := by decide +kernel
theorem f219_163 : fch 219 163 = some (.imul, 164, []) := by decide +kernel
theorem f219_164 : fch 219 164 = some (.iconst 3, 165, []) := by decide +kernel
theorem f219_165 : fch 219 165 = some (.iload 2, 166, []) := by decide +kernel
theorem f219_166 : fch 219 166 = some (.imul, 167, []) := by decide +kernel
theorem f219_167 : fch 219 167 = some (.iadd, 168, []) := by decide +kernel
theorem f219_168 : fch 219 168 = some (.aload 0, 169, []) := by decide +kernel
theorem f219_169 : fch 219 169 = some (.invokeinterface 9 23, 172, []) := by decide +kernel
theorem f219_172 : fch 219 172 = some (.iload 2, 173, []) := by decide +kernel
theorem f219_173 : fch 219 173 = some (.iaload, 174, []) := by decide +kernel
theorem f219_174 : fch 219 174 = some (.iastore, 175, []) := by decide +kernel
theorem f219_175 : fch 219 175 = some (.aload 0, 176, []) := by decide +kernel
theorem f219_176 : fch 219 176 = some (.invokeinterface 9 44, 179, []) := by decide +kernel
theorem f219_179 : fch 219 179 = some (.iconst 18, 181, []) := by decide +kernel
theorem f219_181 : fch 219 181 = some (.iload 1, 182, []) := by decide +kernel
theorem f219_182 : fch 219 182 = some (.imul, 183, []) := by decide +kernel
theorem f219_183 : fch 219 183 = some (.iconst 3, 184, []) := by decide +kernel
theorem f219_184 : fch 219 184 = some (.iload 2, 185, []) := by decide +kernel
theorem f219_185 : fch 219 185 = some (.imul, 186, []) := by decide +kernel
theorem f219_186 : fch 219 186 = some (.iadd, 187, []) := by decide +kernel
theorem f219_187 : fch 219 187 = some (.iconst 1, 188, []) := by decide +kernel
theorem f219_188 : fch 219 188 = some (.iadd, 189, []) := by decide +kernel
theorem f219_189 : fch 219 189 = some (.aload 0, 190, []) := by decide +kernel
theorem f219_190 : fch 219 190 = some (.invokeinterface 9 24, 193, []) := by decide +kernel
theorem f219_193 : fch 219 193 = some (.iload 2, 194, []) := by decide +kernel
theorem f219_194 : fch 219 194 = some (.iaload, 195, []) := by decide +kernel
theorem f219_195 : fch 219 195 = some (.iastore, 196, []) := by decide +kernel
theorem f219_196 : fch 219 196 = some (.aload 0, 197, []) := by decide +kernel
theorem f219_197 : fch 219 197 = some (.invokeinterface 9 44, 200, []) := by decide +kernel
theorem f219_200 : fch 219 200 = some (.iconst 18, 202, []) := by decide +kernel
theorem f219_202 : fch 219 202 = some (.iload 1, 203, []) := by decide +kernel
theorem f219_203 : fch 219 203 = some (.imul, 204, []) := by decide +kernel
theorem f219_204 : fch 219 204 = some (.iconst 3, 205, []) := by decide +kernel
theorem f219_205 : fch 219 205 = some (.iload 2, 206, []) := by decide +kernel
theorem f219_206 : fch 219 206 = some (.imul, 207, []) := by decide +kernel
theorem f219_207 : fch 219 207 = some (.iadd, 208, []) := by decide +kernel
theorem f219_208 : fch 219 208 = some (.iconst 2, 209, []) := by decide +kernel
theorem f219_209 : fch 219 209 = some (.iadd, 210, []) := by decide +kernel
theorem f219_210 : fch 219 210 = some (.aload 0, 211, []) := by decide +kernel
theorem f219_211 : fch 219 211 = some (.invokeinterface 9 25, 214, []) := by decide +kernel
theorem f219_214 : fch 219 214 = some (.iload 2, 215, []) := by decide +kernel
theorem f219_215 : fch 219 215 = some (.iaload, 216, []) := by decide +kernel
theorem f219_216 : fch 219 216 = some (.iastore, 217, []) := by decide +kernel
theorem f219_217 : fch 219 217 = some (.iinc 2 1, 220, []) := by decide +kernel
theorem f219_220 : fch 219 220 = some (.goto 150, 223, []) := by decide +kernel
theorem f219_223 : fch 219 223 = some (.aload 0, 224, []) := by decide +kernel
theorem f219_224 : fch 219 224 = some (.invokevirtual 209, 227, []) := by decide +kernel
theorem f219_227 : fch 219 227 = some (.ireturn, 228, []) := by decide +kernel
set_option maxRecDepth 10000 in
theorem e219_0 (l0 l1 : Int) (s : SG) : sem 219 0 [aA l0, aI l1, aU] [] s = bnI (sem 152 0 [aL l1, aU, aL 0, aU, aL 1, aU] [] s) fun a2 s1 => if a2 = 0 then some (aI ((-1)), s1) else grd (kd l0 = 9) (grd (0 ≤ s1 l0 39) (grd (kd (s1 l0 39) = 102) (grd ((0 : Int) ≤ l1 ∧ l1 < kl (s1 l0 39)) (grd ((1 : Int) = 0 ∨ (1 : Int) = 1) (sem 219 21 [aA l0, aI l1, aI 0] [] (up s1 (s1 l0 39) l1 1)))))) := by
  refine (x_iload f219_0 rfl rfl).trans ?_
  refine (x_i2l f219_1 rfl).trans ?_
  refine (x_lconst f219_2 rfl).trans ?_
  refine (x_lconst f219_3 rfl).trans ?_
  refine (x_invokestatic (G := bnI (sem 152 0 [aL l1, aU, aL 0, aU, aL 1, aU] [] s) fun a2 s1 => sem 219 7 [aA l0, aI l1, aU] [aI a2] s1) f219_4 rfl rfl).trans ?_
  refine bI_c fun a2 s1 => ?_
  refine (x_if_ne (tg := 12) f219_7 rfl rfl).trans (i_c ?_ ?_)
  · refine (x_iconst f219_10 rfl).trans ?_
    exact x_ireturn f219_11 rfl
  · refine (x_aload f219_12 rfl rfl).trans ?_
    refine (x_get2 f219_13 rfl rfl).trans ?_
    refine g_c ?_
    refine g_c ?_
    refine (x_iload f219_16 rfl rfl).trans ?_
    refine (x_iconst f219_17 rfl).trans ?_
    refine (x_bastore f219_18 rfl).trans ?_
    refine g_c ?_
    refine g_c ?_
    refine g_c ?_
    refine (x_iconst f219_19 rfl).trans ?_
    refine (x_istore (l2 := [aA l0, aI l1, aI 0]) f219_20 rfl rfl).trans ?_
    rfl
set_option maxRecDepth 10000 in
theorem e219_21 (l0 l1 l2 : Int) (s : SG) : sem 219 21 [aA l0, aI l1, aI l2] [] s = if l2 < 3 then grd (kd l0 = 9) (grd (0 ≤ s l0 40) (grd (kd l0 = 9) (grd (0 ≤ s l0 16) (grd (kd (s l0 16) = 101) (grd ((0 : Int) ≤ l2 ∧ l2 < kl (s l0 16)) (grd (kd (s l0 40) = 101) (grd ((0 : Int) ≤ (w32 ((w32 (3 * l1)) + l2)) ∧ (w32 ((w32 (3 * l1)) + l2)) < kl (s l0 40)) (grd (kd l0 = 9) (grd (0 ≤ (up s (s l0 40) (w32 ((w32 (3 * l1)) + l2)) (s (s l0 16) l2)) l0 41) (grd (kd l0 = 9) (grd (0 ≤ (up s (s l0 40) (w32 ((w32 (3 * l1)) + l2)) (s (s l0 16) l2)) l0 17) (grd (kd ((up s (s l0 40) (w32 ((w32 (3 * l1)) + l2)) (s (s l0 16) l2)) l0 17) = 101) (grd ((0 : Int) ≤ l2 ∧ l2 < kl ((up s (s l0 40) (w32 ((w32 (3 * l1)) + l2)) (s (s l0 16) l2)) l0 17)) (grd (kd ((up s (s l0 40) (w32 ((w32 (3 * l1)) + l2)) (s (s l0 16) l2)) l0 41) = 101) (grd ((0 : Int) ≤ (w32 ((w32 (3 * l1)) + l2)) ∧ (w32 ((w32 (3 * l1)) + l2)) < kl ((up s (s l0 40) (w32 ((w32 (3 * l1)) + l2)) (s (s l0 16) l2)) l0 41)) (sem 219 58 [aA l0, aI l1, aI l2] [] (up (up s (s l0 40) (w32 ((w32 (3 * l1)) + l2)) (s (s l0 16) l2)) ((up s (s l0 40) (w32 ((w32 (3 * l1)) + l2)) (s (s l0 16) l2)) l0 41) (w32 ((w32 (3 * l1)) + l2)) ((up s (s l0 40) (w32 ((w32 (3 * l1)) + l2)) (s (s l0 16) l2)) ((up s (s l0 40) (w32 ((w32 (3 * l1)) + l2)) (s (s l0 16) l2)) l0 17) l2)))))))))))))))))) else grd (kd l0 = 9) (grd (0 ≤ s l0 43) (grd (kd l0 = 9) (grd (kd (s l0 43) = 101) (grd ((0 : Int) ≤ (w32 (5 * l1)) ∧ (w32 (5 * l1)) < kl (s l0 43)) (grd (kd l0 = 9) (grd (0 ≤ (up s (s l0 43) (w32 (5 * l1)) (s l0 15)) l0 43) (grd (kd l0 = 9) (grd (kd ((up s (s l0 43) (w32 (5 * l1)) (s l0 15)) l0 43) = 101) (grd ((0 : Int) ≤ (w32 ((w32 (5 * l1)) + 1)) ∧ (w32 ((w32 (5 * l1)) + 1)) < kl ((up s (s l0 43) (w32 (5 * l1)) (s l0 15)) l0 43)) (grd (kd l0 = 9) (grd (0 ≤ (up (up s (s l0 43) (w32 (5 * l1)) (s l0 15)) ((up s (s l0 43) (w32 (5 * l1)) (s l0 15)) l0 43) (w32 ((w32 (5 * l1)) + 1)) ((up s (s l0 43) (w32 (5 * l1)) (s l0 15)) l0 19)) l0 43) (grd (kd l0 = 9) (grd (kd ((up (up s (s l0 43) (w32 (5 * l1)) (s l0 15)) ((up s (s l0 43) (w32 (5 * l1)) (s l0 15)) l0 43) (w32 ((w32 (5 * l1)) + 1)) ((up s (s l0 43) (w32 (5 * l1)) (s l0 15)) l0 19)) l0 43) = 101) (grd ((0 : Int) ≤ (w32 ((w32 (5 * l1)) + 2)) ∧ (w32 ((w32 (5 * l1)) + 2)) < kl ((up (up s (s l0 43) (w32 (5 * l1)) (s l0 15)) ((up s (s l0 43) (w32 (5 * l1)) (s l0 15)) l0 43) (w32 ((w32 (5 * l1)) + 1)) ((up s (s l0 43) (w32 (5 * l1)) (s l0 15)) l0 19)) l0 43)) (sem 219 120 [aA l0, aI l1, aI l2] [] (up (up (up s (s l0 43) (w32 (5 * l1)) (s l0 15)) ((up s (s l0 43) (w32 (5 * l1)) (s l0 15)) l0 43) (w32 ((w32 (5 * l1)) + 1)) ((up s (s l0 43) (w32 (5 * l1)) (s l0 15)) l0 19)) ((up (up s (s l0 43) (w32 (5 * l1)) (s l0 15)) ((up s (s l0 43) (w32 (5 * l1)) (s l0 15)) l0 43) (w32 ((w32 (5 * l1)) + 1)) ((up s (s l0 43) (w32 (5 * l1)) (s l0 15)) l0 19)) l0 43) (w32 ((w32 (5 * l1)) + 2)) ((up (up s (s l0 43) (w32 (5 * l1)) (s l0 15)) ((up s (s l0 43) (w32 (5 * l1)) (s l0 15)) l0 43) (w32 ((w32 (5 * l1)) + 1)) ((up s (s l0 43) (w32 (5 * l1)) (s l0 15)) l0 19)) l0 20))))))))))))))))) := by
  refine (x_iload f219_21 rfl rfl).trans ?_
  refine (x_iconst f219_22 rfl).trans ?_
  refine (x_icmp_ge (tg := 80) f219_23 rfl rfl).trans (i_c ?_ ?_)
  · refine (x_aload f219_26 rfl rfl).trans ?_
    refine (x_get2 f219_27 rfl rfl).trans ?_
    refine g_c ?_
    refine g_c ?_
    refine (x_iconst f219_30 rfl).trans ?_
    refine (x_iload f219_31 rfl rfl).trans ?_
    refine (x_imul f219_32 rfl).trans ?_
    refine (x_iload f219_33 rfl rfl).trans ?_
    refine (x_iadd f219_34 rfl).trans ?_
    refine (x_aload f219_35 rfl rfl).trans ?_
    refine (x_get2 f219_36 rfl rfl).trans ?_
    refine g_c ?_
    refine g_c ?_
    refine (x_iload f219_39 rfl rfl).trans ?_
    refine (x_iaload f219_40 rfl).trans ?_
    refine g_c ?_
    refine g_c ?_
    refine (x_iastore f219_41 rfl).trans ?_
    refine g_c ?_
    refine g_c ?_
    refine (x_aload f219_42 rfl rfl).trans ?_
    refine (x_get2 f219_43 rfl rfl).trans ?_
    refine g_c ?_
    refine g_c ?_
    refine (x_iconst f219_46 rfl).trans ?_
    refine (x_iload f219_47 rfl rfl).trans ?_
    refine (x_imul f219_48 rfl).trans ?_
    refine (x_iload f219_49 rfl rfl).trans ?_
    refine (x_iadd f219_50 rfl).trans ?_
    refine (x_aload f219_51 rfl rfl).trans ?_
    refine (x_get2 f219_52 rfl rfl).trans ?_
    refine g_c ?_
    refine g_c ?_
    refine (x_iload f219_55 rfl rfl).trans ?_
    refine (x_iaload f219_56 rfl).trans ?_
    refine g_c ?_
    refine g_c ?_
    refine (x_iastore f219_57 rfl).trans ?_
    refine g_c ?_
    refine g_c ?_
    rfl
  · refine (x_aload f219_80 rfl rfl).trans ?_
    refine (x_get2 f219_81 rfl rfl).trans ?_
    refine g_c ?_
    refine g_c ?_
    refine (x_iconst f219_84 rfl).trans ?_
    refine (x_iload f219_85 rfl rfl).trans ?_
    refine (x_imul f219_86 rfl).trans ?_
    refine (x_aload f219_87 rfl rfl).trans ?_
    refine (x_get0 f219_88 rfl rfl).trans ?_
    refine g_c ?_
    refine (x_iastore f219_91 rfl).trans ?_
    refine g_c ?_
    refine g_c ?_
    refine (x_aload f219_92 rfl rfl).trans ?_
    refine (x_get2 f219_93 rfl rfl).trans ?_
    refine g_c ?_
    refine g_c ?_
    refine (x_iconst f219_96 rfl).trans ?_
    refine (x_iload f219_97 rfl rfl).trans ?_
    refine (x_imul f219_98 rfl).trans ?_
    refine (x_iconst f219_99 rfl).trans ?_
    refine (x_iadd f219_100 rfl).trans ?_
    refine (x_aload f219_101 rfl rfl).trans ?_
    refine (x_get0 f219_102 rfl rfl).trans ?_
    refine g_c ?_
    refine (x_iastore f219_105 rfl).trans ?_
    refine g_c ?_
    refine g_c ?_
    refine (x_aload f219_106 rfl rfl).trans ?_
    refine (x_get2 f219_107 rfl rfl).trans ?_
    refine g_c ?_
    refine g_c ?_
    refine (x_iconst f219_110 rfl).trans ?_
    refine (x_iload f219_111 rfl rfl).trans ?_
    refine (x_imul f219_112 rfl).trans ?_
    refine (x_iconst f219_113 rfl).trans ?_
    refine (x_iadd f219_114 rfl).trans ?_
    refine (x_aload f219_115 rfl rfl).trans ?_
    refine (x_get0 f219_116 rfl rfl).trans ?_
    refine g_c ?_
    refine (x_iastore f219_119 rfl).trans ?_
    refine g_c ?_
    refine g_c ?_
    rfl
set_option maxRecDepth 10000 in
theorem e219_58 (l0 l1 l2 : Int) (s : SG) : sem 219 58 [aA l0, aI l1, aI l2] [] s = grd (kd l0 = 9) (grd (0 ≤ s l0 42) (grd (kd l0 = 9) (grd (0 ≤ s l0 18) (grd (kd (s l0 18) = 101) (grd ((0 : Int) ≤ l2 ∧ l2 < kl (s l0 18)) (grd (kd (s l0 42) = 101) (grd ((0 : Int) ≤ (w32 ((w32 (3 * l1)) + l2)) ∧ (w32 ((w32 (3 * l1)) + l2)) < kl (s l0 42)) (sem 219 21 [aA l0, aI l1, aI (w32 (l2 + 1))] [] (up s (s l0 42) (w32 ((w32 (3 * l1)) + l2)) (s (s l0 18) l2)))))))))) := by
  refine (x_aload f219_58 rfl rfl).trans ?_
  refine (x_get2 f219_59 rfl rfl).trans ?_
  refine g_c ?_
  refine g_c ?_
  refine (x_iconst f219_62 rfl).trans ?_
  refine (x_iload f219_63 rfl rfl).trans ?_
  refine (x_imul f219_64 rfl).trans ?_
  refine (x_iload f219_65 rfl rfl).trans ?_
  refine (x_iadd f219_66 rfl).trans ?_
  refine (x_aload f219_67 rfl rfl).trans ?_
  refine (x_get2 f219_68 rfl rfl).trans ?_
  refine g_c ?_
  refine g_c ?_
  refine (x_iload f219_71 rfl rfl).trans ?_
  refine (x_iaload f219_72 rfl).trans ?_
  refine g_c ?_
  refine g_c ?_
  refine (x_iastore f219_73 rfl).trans ?_
  refine g_c ?_
  refine g_c ?_
  refine (x_iinc (l2 := [aA l0, aI l1, aI (w32 (l2 + 1))]) f219_74 rfl rfl rfl).trans ?_
  refine (x_goto (tg := 21) f219_77 rfl rfl).trans ?_
  rfl
set_option maxRecDepth 10000 in
theorem e219_120 (l0 l1 l2 : Int) (s : SG) : sem 219 120 [aA l0, aI l1, aI l2] [] s = grd (kd l0 = 9) (grd (0 ≤ s l0 43) (grd (kd l0 = 9) (grd (kd (s l0 43) = 101) (grd ((0 : Int) ≤ (w32 ((w32 (5 * l1)) + 3)) ∧ (w32 ((w32 (5 * l1)) + 3)) < kl (s l0 43)) (grd (kd l0 = 9) (grd (0 ≤ (up s (s l0 43) (w32 ((w32 (5 * l1)) + 3)) (s l0 21)) l0 43) (grd (kd l0 = 9) (grd (kd ((up s (s l0 43) (w32 ((w32 (5 * l1)) + 3)) (s l0 21)) l0 43) = 101) (grd ((0 : Int) ≤ (w32 ((w32 (5 * l1)) + 4)) ∧ (w32 ((w32 (5 * l1)) + 4)) < kl ((up s (s l0 43) (w32 ((w32 (5 * l1)) + 3)) (s l0 21)) l0 43)) (sem 219 150 [aA l0, aI l1, aI 0] [] (up (up s (s l0 43) (w32 ((w32 (5 * l1)) + 3)) (s l0 21)) ((up s (s l0 43) (w32 ((w32 (5 * l1)) + 3)) (s l0 21)) l0 43) (w32 ((w32 (5 * l1)) + 4)) ((up s (s l0 43) (w32 ((w32 (5 * l1)) + 3)) (s l0 21)) l0 22)))))))))))) := by
  refine (x_aload f219_120 rfl rfl).trans ?_
  refine (x_get2 f219_121 rfl rfl).trans ?_
  refine g_c ?_
  refine g_c ?_
  refine (x_iconst f219_124 rfl).trans ?_
  refine (x_iload f219_125 rfl rfl).trans ?_
  refine (x_imul f219_126 rfl).trans ?_
  refine (x_iconst f219_127 rfl).trans ?_
  refine (x_iadd f219_128 rfl).trans ?_
  refine (x_aload f219_129 rfl rfl).trans ?_
  refine (x_get0 f219_130 rfl rfl).trans ?_
  refine g_c ?_
  refine (x_iastore f219_133 rfl).trans ?_
  refine g_c ?_
  refine g_c ?_
  refine (x_aload f219_134 rfl rfl).trans ?_
  refine (x_get2 f219_135 rfl rfl).trans ?_
  refine g_c ?_
  refine g_c ?_
  refine (x_iconst f219_138 rfl).trans ?_
  refine (x_iload f219_139 rfl rfl).trans ?_
  refine (x_imul f219_140 rfl).trans ?_
  refine (x_iconst f219_141 rfl).trans ?_
  refine (x_iadd f219_142 rfl).trans ?_
  refine (x_aload f219_143 rfl rfl).trans ?_
  refine (x_get0 f219_144 rfl rfl).trans ?_
  refine g_c ?_
  refine (x_iastore f219_147 rfl).trans ?_
  refine g_c ?_
  refine g_c ?_
  refine (x_iconst f219_148 rfl).trans ?_
  refine (x_istore (l2 := [aA l0, aI l1, aI 0]) f219_149 rfl rfl).trans ?_
  rfl
set_option maxRecDepth 10000 in
theorem e219_150 (l0 l1 l2 : Int) (s : SG) : sem 219 150 [aA l0, aI l1, aI l2] [] s = if l2 < 6 then grd (kd l0 = 9) (grd (0 ≤ s l0 44) (grd (kd l0 = 9) (grd (0 ≤ s l0 23) (grd (kd (s l0 23) = 101) (grd ((0 : Int) ≤ l2 ∧ l2 < kl (s l0 23)) (grd (kd (s l0 44) = 101) (grd ((0 : Int) ≤ (w32 ((w32 (18 * l1)) + (w32 (3 * l2)))) ∧ (w32 ((w32 (18 * l1)) + (w32 (3 * l2)))) < kl (s l0 44)) (grd (kd l0 = 9) (grd (0 ≤ (up s (s l0 44) (w32 ((w32 (18 * l1)) + (w32 (3 * l2)))) (s (s l0 23) l2)) l0 44) (grd (kd l0 = 9) (grd (0 ≤ (up s (s l0 44) (w32 ((w32 (18 * l1)) + (w32 (3 * l2)))) (s (s l0 23) l2)) l0 24) (grd (kd ((up s (s l0 44) (w32 ((w32 (18 * l1)) + (w32 (3 * l2)))) (s (s l0 23) l2)) l0 24) = 101) (grd ((0 : Int) ≤ l2 ∧ l2 < kl ((up s (s l0 44) (w32 ((w32 (18 * l1)) + (w32 (3 * l2)))) (s (s l0 23) l2)) l0 24)) (grd (kd ((up s (s l0 44) (w32 ((w32 (18 * l1)) + (w32 (3 * l2)))) (s (s l0 23) l2)) l0 44) = 101) (grd ((0 : Int) ≤ (w32 ((w32 ((w32 (18 * l1)) + (w32 (3 * l2)))) + 1)) ∧ (w32 ((w32 ((w32 (18 * l1)) + (w32 (3 * l2)))) + 1)) < kl ((up s (s l0 44) (w32 ((w32 (18 * l1)) + (w32 (3 * l2)))) (s (s l0 23) l2)) l0 44)) (sem 219 196 [aA l0, aI l1, aI l2] [] (up (up s (s l0 44) (w32 ((w32 (18 * l1)) + (w32 (3 * l2)))) (s (s l0 23) l2)) ((up s (s l0 44) (w32 ((w32 (18 * l1)) + (w32 (3 * l2)))) (s (s l0 23) l2)) l0 44) (w32 ((w32 ((w32 (18 * l1)) + (w32 (3 * l2)))) + 1)) ((up s (s l0 44) (w32 ((w32 (18 * l1)) + (w32 (3 * l2)))) (s (s l0 23) l2)) ((up s (s l0 44) (w32 ((w32 (18 * l1)) + (w32 (3 * l2)))) (s (s l0 23) l2)) l0 24) l2)))))))))))))))))) else grd (kd l0 = 9) (bnI (sem 209 0 [aA l0] [] s) fun a2 s1 => some (aI a2, s1)) := by
  refine (x_iload f219_150 rfl rfl).trans ?_
  refine (x_iconst f219_151 rfl).trans ?_
  refine (x_icmp_ge (tg := 223) f219_153 rfl rfl).trans (i_c ?_ ?_)
  · refine (x_aload f219_156 rfl rfl).trans ?_
    refine (x_get2 f219_157 rfl rfl).trans ?_
    refine g_c ?_
    refine g_c ?_
    refine (x_iconst f219_160 rfl).trans ?_
    refine (x_iload f219_162 rfl rfl).trans ?_
    refine (x_imul f219_163 rfl).trans ?_
    refine (x_iconst f219_164 rfl).trans ?_
    refine (x_iload f219_165 rfl rfl).trans ?_
    refine (x_imul f219_166 rfl).trans ?_
    refine (x_iadd f219_167 rfl).trans ?_
    refine (x_aload f219_168 rfl rfl).trans ?_
    refine (x_get2 f219_169 rfl rfl).trans ?_
    refine g_c ?_
    refine g_c ?_
    refine (x_iload f219_172 rfl rfl).trans ?_
    refine (x_iaload f219_173 rfl).trans ?_
    refine g_c ?_
    refine g_c ?_
    refine (x_iastore f219_174 rfl).trans ?_
    refine g_c ?_
    refine g_c ?_
    refine (x_aload f219_175 rfl rfl).trans ?_
    refine (x_get2 f219_176 rfl rfl).trans ?_
    refine g_c ?_
    refine g_c ?_
    refine (x_iconst f219_179 rfl).trans ?_
    refine (x_iload f219_181 rfl rfl).trans ?_
    refine (x_imul f219_182 rfl).trans ?_
    refine (x_iconst f219_183 rfl).trans ?_
    refine (x_iload f219_184 rfl rfl).trans ?_
    refine (x_imul f219_185 rfl).trans ?_
    refine (x_iadd f219_186 rfl).trans ?_
    refine (x_iconst f219_187 rfl).trans ?_
    refine (x_iadd f219_188 rfl).trans ?_
    refine (x_aload f219_189 rfl rfl).trans ?_
    refine (x_get2 f219_190 rfl rfl).trans ?_
    refine g_c ?_
    refine g_c ?_
    refine (x_iload f219_193 rfl rfl).trans ?_
    refine (x_iaload f219_194 rfl).trans ?_
    refine g_c ?_
    refine g_c ?_
    refine (x_iastore f219_195 rfl).trans ?_
    refine g_c ?_
    refine g_c ?_
    rfl
  · refine (x_aload f219_223 rfl rfl).trans ?_
    refine (x_invokevirtual (G := grd (kd l0 = 9) (bnI (sem 209 0 [aA l0] [] s) fun a2 s1 => sem 219 227 [aA l0, aI l1, aI l2] [aI a2] s1)) f219_224 rfl rfl).trans ?_
    refine g_c ?_
    refine bI_c fun a2 s1 => ?_
    exact x_ireturn f219_227 rfl
set_option maxRecDepth 10000 in
theorem e219_196 (l0 l1 l2 : Int) (s : SG) : sem 219 196 [aA l0, aI l1, aI l2] [] s = grd (kd l0 = 9) (grd (0 ≤ s l0 44) (grd (kd l0 = 9) (grd (0 ≤ s l0 25) (grd (kd (s l0 25) = 101) (grd ((0 : Int) ≤ l2 ∧ l2 < kl (s l0 25)) (grd (kd (s l0 44) = 101) (grd ((0 : Int) ≤ (w32 ((w32 ((w32 (18 * l1)) + (w32 (3 * l2)))) + 2)) ∧ (w32 ((w32 ((w32 (18 * l1)) + (w32 (3 * l2)))) + 2)) < kl (s l0 44)) (sem 219 150 [aA l0, aI l1, aI (w32 (l2 + 1))] [] (up s (s l0 44) (w32 ((w32 ((w32 (18 * l1)) + (w32 (3 * l2)))) + 2)) (s (s l0 25) l2)))))))))) := by
  refine (x_aload f219_196 rfl rfl).trans ?_
  refine (x_get2 f219_197 rfl rfl).trans ?_
  refine g_c ?_
  refine g_c ?_
  refine (x_iconst f219_200 rfl).trans ?_
  refine (x_iload f219_202 rfl rfl).trans ?_
  refine (x_imul f219_203 rfl).trans ?_
  refine (x_iconst f219_204 rfl).trans ?_
  refine (x_iload f219_205 rfl rfl).trans ?_
  refine (x_imul f219_206 rfl).trans ?_
  refine (x_iadd f219_207 rfl).trans ?_
  refine (x_iconst f219_208 rfl).trans ?_
  refine (x_iadd f219_209 rfl).trans ?_
  refine (x_aload f219_210 rfl rfl).trans ?_
  refine (x_get2 f219_211 rfl rfl).trans ?_
  refine g_c ?_
  refine g_c ?_
  refine (x_iload f219_214 rfl rfl).trans ?_
  refine (x_iaload f219_215 rfl).trans ?_
  refine g_c ?_
  refine g_c ?_
  refine (x_iastore f219_216 rfl).trans ?_
  refine g_c ?_
  refine g_c ?_
  refine (x_iinc (l2 := [aA l0, aI l1, aI (w32 (l2 + 1))]) f219_217 rfl rfl rfl).trans ?_
  refine (x_goto (tg := 150) f219_220 rfl rfl).trans ?_
  rfl
theorem f220_0 : fch 220 0 = some (.iload 1, 1, []) := by decide +kernel
theorem f220_1 : fch 220 1 = some (.i2l, 2, []) := by decide +kernel
theorem f220_2 : fch 220 2 = some (.sipush 0, 3, []) := by decide +kernel
theorem f220_3 : fch 220 3 = some (.sipush 1, 4, []) := by decide +kernel
theorem f220_4 : fch 220 4 = some (.invokestatic 152, 7, []) := by decide +kernel
theorem f220_7 : fch 220 7 = some (.ifCond .ne 12, 10, []) := by decide +kernel
theorem f220_10 : fch 220 10 = some (.iconst (-1), 11, []) := by decide +kernel
theorem f220_11 : fch 220 11 = some (.ireturn, 12, []) := by decide +kernel
theorem f220_12 : fch 220 12 = some (.aload 0, 13, []) := by decide +kernel
theorem f220_13 : fch 220 13 = some (.invokeinterface 9 39, 16, []) := by decide +kernel
theorem f220_16 : fch 220 16 = some (.iload 1, 17, []) := by decide +kernel
theorem f220_17 : fch 220 17 = some (.baload, 18, []) := by decide +kernel
theorem f220_18 : fch 220 18 = some (.ifCond .ne 24, 21, []) := by decide +kernel
theorem f220_21 : fch 220 21 = some (.iconst (-3), 23, []) := by decide +kernel
theorem f220_23 : fch 220 23 = some (.ireturn, 24, []) := by decide +kernel
theorem f220_24 : fch 220 24 = some (.iconst 0, 25, []) := by decide +kernel
theorem f220_25 : fch 220 25 = some (.istore 2, 26, []) := by decide +kernel
theorem f220_26 : fch 220 26 = some (.iload 2, 27, []) := by decide +kernel
theorem f220_27 : fch 220 27 = some (.iconst 3, 28, []) := by decide +kernel
theorem f220_28 : fch 220 28 = some (.if_icmp .ge 85, 31, []) := by decide +kernel
theorem f220_31 : fch 220 31 = some (.aload 0, 32, []) := by decide +kernel
theorem f220_32 : fch 220 32 = some (.invokeinterface 9 16, 35, []) := by decide +kernel
theorem f220_35 : fch 220 35 = some (.iload 2, 36, []) := by decide +kernel
theorem f220_36 : fch 220 36 = some (.aload 0, 37, []) := by decide +kernel
theorem f220_37 : fch 220 37 = some (.invokeinterface 9 40, 40, []) := by decide +kernel
theorem f220_40 : fch 220 40 = some (.iconst 3, 41, []) := by decide +kernel
theorem f220_41 : fch 220 41 = some (.iload 1, 42, []) := by decide +kernel
theorem f220_42 : fch 220 42 = some (.imul, 43, []) := by decide +kernel
theorem f220_43 : fch 220 43 = some (.iload 2, 44, []) := by decide +kernel
theorem f220_44 : fch 220 44 = some (.iadd, 45, []) := by decide +kernel
theorem f220_45 : fch 220 45 = some (.iaload, 46, []) := by decide +kernel
theorem f220_46 : fch 220 46 = some (.iastore, 47, []) := by decide +kernel
theorem f220_47 : fch 220 47 = some (.aload 0, 48, []) := by decide +kernel
theorem f220_48 : fch 220 48 = some (.invokeinterface 9 17, 51, []) := by decide +kernel
theorem f220_51 : fch 220 51 = some (.iload 2, 52, []) := by decide +kernel
theorem f220_52 : fch 220 52 = some (.aload 0, 53, []) := by decide +kernel
theorem f220_53 : fch 220 53 = some (.invokeinterface 9 41, 56, []) := by decide +kernel
theorem f220_56 : fch 220 56 = some (.iconst 3, 57, []) := by decide +kernel
theorem f220_57 : fch 220 57 = some (.iload 1, 58, []) := by decide +kernel
theorem f220_58 : fch 220 58 = some (.imul, 59, []) := by decide +kernel
theorem f220_59 : fch 220 59 = some (.iload 2, 60, []) := by decide +kernel
theorem f220_60 : fch 220 60 = some (.iadd, 61, []) := by decide +kernel
theorem f220_61 : fch 220 61 = some (.iaload, 62, []) := by decide +kernel
theorem f220_62 : fch 220 62 = some (.iastore, 63, []) := by decide +kernel
theorem f220_63 : fch 220 63 = some (.aload 0, 64, []) := by decide +kernel
theorem f220_64 : fch 220 64 = some (.invokeinterface 9 18, 67, []) := by decide +kernel
theorem f220_67 : fch 220 67 = some (.iload 2, 68, []) := by decide +kernel
theorem f220_68 : fch 220 68 = some (.aload 0, 69, []) := by decide +kernel
theorem f220_69 : fch 220 69 = some (.invokeinterface 9 42, 72, []) := by decide +kernel
theorem f220_72 : fch 220 72 = some (.iconst 3, 73, []) := by decide +kernel
theorem f220_73 : fch 220 73 = some (.iload 1, 74, []) := by decide +kernel
theorem f220_74 : fch 220 74 = some (.imul, 75, []) := by decide +kernel
theorem f220_75 : fch 220 75 = some (.iload 2, 76, []) := by decide +kernel
theorem f220_76 : fch 220 76 = some (.iadd, 77, []) := by decide +kernel
theorem f220_77 : fch 220 77 = some (.iaload, 78, []) := by decide +kernel
theorem f220_78 : fch 220 78 = some (.iastore, 79, []) := by decide +kernel
theorem f220_79 : fch 220 79 = some (.iinc 2 1, 82, []) := by decide +kernel
theorem f220_82 : fch 220 82 = some (.goto 26, 85, []) := by decide +kernel
theorem f220_85 : fch 220 85 = some (.aload 0, 86, []) := by decide +kernel
theorem f220_86 : fch 220 86 = some (.aload 0, 87, []) := by decide +kernel
theorem f220_87 : fch 220 87 = some (.invokeinterface 9 43, 90, []) := by decide +kernel
theorem f220_90 : fch 220 90 = some (.iconst 5, 91, []) := by decide +kernel
theorem f220_91 : fch 220 91 = some (.iload 1, 92, []) := by decide +kernel
theorem f220_92 : fch 220 92 = some (.imul, 93, []) := by decide +kernel
theorem f220_93 : fch 220 93 = some (.iaload, 94, []) := by decide +kernel
theorem f220_94 : fch 220 94 = some (.multianewarray 9 15, 97, []) := by decide +kernel
theorem f220_97 : fch 220 97 = some (.aload 0, 98, []) := by decide +kernel
theorem f220_98 : fch 220 98 = some (.aload 0, 99, []) := by decide +kernel
theorem f220_99 : fch 220 99 = some (.invokeinterface 9 43, 102, []) := by decide +kernel
theorem f220_102 : fch 220 102 = some (.iconst 5, 103, []) := by decide +kernel
theorem f220_103 : fch 220 103 = some (.iload 1, 104, []) := by decide +kernel
theorem f220_104 : fch 220 104 = some (.imul, 105, []) := by decide +kernel
theorem f220_105 : fch 220 105 = some (.iconst 1, 106, []) := by decide +kernel
theorem f220_106 : fch 220 106 = some (.iadd, 107, []) := by decide +kernel
theorem f220_107 : fch 220 107 = some (.iaload, 108, []) := by decide +kernel
theorem f220_108 : fch 220 108 = some (.multianewarray 9 19, 111, []) := by decide +kernel
theorem f220_111 : fch 220 111 = some (.aload 0, 112, []) := by decide +kernel
theorem f220_112 : fch 220 112 = some (.aload 0, 113, []) := by decide +kernel
theorem f220_113 : fch 220 113 = some (.invokeinterface 9 43, 116, []) := by decide +kernel
theorem f220_116 : fch 220 116 = some (.iconst 5, 117, []) := by decide +kernel
theorem f220_117 : fch 220 117 = some (.iload 1, 118, []) := by decide +kernel
theorem f220_118 : fch 220 118 = some (.imul, 119, []) := by decide +kernel
theorem f220_119 : fch 220 119 = some (.iconst 2, 120, []) := by decide +kernel
theorem f220_120 : fch 220 120 = some (.iadd, 121, []) := by decide +kernel
theorem f220_121 : fch 220 121 = some (.iaload, 122, []) := by decide +kernel
theorem f220_122 : fch 220 122 = some (.multianewarray 9 20, 125, []) := by decide +kernel
theorem f220_125 : fch 220 125 = some (.aload 0, 126, []) := by decide +kernel
theorem f220_126 : fch 220 126 = some (.aload 0, 127, []) := by decide +kernel
theorem f220_127 : fch 220 127 = some (.invokeinterface 9 43, 130, []) := by decide +kernel
theorem f220_130 : fch 220 130 = some (.iconst 5, 131, []) := by decide +kernel
theorem f220_131 : fch 220 131 = some (.iload 1, 132, []) := by decide +kernel
theorem f220_132 : fch 220 132 = some (.imul, 133, []) := by decide +kernel
theorem f220_133 : fch 220 133 = some (.iconst 3, 134, []) := by decide +kernel
theorem f220_134 : fch 220 134 = some (.iadd, 135, []) := by decide +kernel
theorem f220_135 : fch 220 135 = some (.iaload, 136, []) := by decide +kernel
theorem f220_136 : fch 220 136 = some (.multianewarray 9 21, 139, []) := by decide +kernel
theorem f220_139 : fch 220 139 = some (.aload 0, 140, []) := by decide +kernel
theorem f220_140 : fch 220 140 = some (.aload 0, 141, []) := by decide +kernel
theorem f220_141 : fch 220 141 = some (.invokeinterface 9 43, 144, []) := by decide +kernel
theorem f220_144 : fch 220 144 = some (.iconst 5, 145, []) := by decide +kernel
theorem f220_145 : fch 220 145 = some (.iload 1, 146, []) := by decide +kernel
theorem f220_146 : fch 220 146 = some (.imul, 147, []) := by decide +kernel
theorem f220_147 : fch 220 147 = some (.iconst 4, 148, []) := by decide +kernel
theorem f220_148 : fch 220 148 = some (.iadd, 149, []) := by decide +kernel
theorem f220_149 : fch 220 149 = some (.iaload, 150, []) := by decide +kernel
theorem f220_150 : fch 220 150 = some (.multianewarray 9 22, 153, []) := by decide +kernel
theorem f220_153 : fch 220 153 = some (.iconst 0, 154, []) := by decide +kernel
theorem f220_154 : fch 220 154 = some (.istore 2, 155, []) := by decide +kernel
theorem f220_155 : fch 220 155 = some (.iload 2, 156, []) := by decide +kernel
theorem f220_156 : fch 220 156 = some (.iconst 6, 158, []) := by decide +kernel
theorem f220_158 : fch 220 158 = some (.if_icmp .ge 228, 161, []) := by decide +kernel
theorem f220_161 : fch 220 161 = some (.aload 0, 162, []) := by decide +kernel
theorem f220_162 : fch 220 162 = some (.invokeinterface 9 23, 165, []) := by decide +kernel
theorem f220_165 : fch 220 165 = some (.iload 2, 166, []) := by decide +kernel
theorem f220_166 : fch 220 166 = some (.aload 0, 167, []) := by decide +kernel
theorem f220_167 : fch 220 167 = some (.invokeinterface 9 44, 170, []) := by decide +kernel
theorem f220_170 : fch 220 170 = some (.iconst 18, 172, []) := by decide +kernel
theorem f220_172 : fch 220 172 = some (.iload 1, 173, []) := by decide +kernel
theorem f220_173 : fch 220 173 = some (.imul, 174, []) := by decide +kernel
theorem f220_174 : fch 220 174 = some (.iconst 3, 175, []) := by decide +kernel
theorem f220_175 : fch 220 175 = some (.iload 2, 176, []) := by decide +kernel
theorem f220_176 : fch 220 176 = some (.imul, 177, []) := by decide +kernel
theorem f220_177 : fch 220 177 = some (.iadd, 178, []) := by decide +kernel
theorem f220_178 : fch 220 178 = some (.iaload, 179, []) := by decide +kernel
theorem f220_179 : fch 220 179 = some (.iastore, 180, []) := by decide +kernel
theorem f220_180 : fch 220 180 = some (.aload 0, 181, []) := by decide +kernel
theorem f220_181 : fch 220 181 = some (.invokeinterface 9 24, 184, []) := by decide +kernel
theorem f220_184 : fch 220 184 = some (.iload 2, 185, []) := by decide +kernel
theorem f220_185 : fch 220 185 = some (.aload 0, 186, []) := by decide +kernel
theorem f220_186 : fch 220 186 = some (.invokeinterface 9 44, 189, []) := by decide +kernel
theorem f220_189 : fch 220 189 = some (.iconst 18, 191, []) := by decide +kernel
theorem f220_191 : fch 220 191 = some (.iload 1, 192, []) := by decide +kernel
theorem f220_192 : fch 220 192 = some (.imul, 193, []) := by decide +kernel
theorem f220_193 : fch 220 193 = some (.iconst 3, 194, []) := by decide +kernel
theorem f220_194 : fch 220 194 = some (.iload 2, 195, []) := by decide +kernel
theorem f220_195 : fch 220 195 = some (.imul, 196, []) := by decide +kernel
theorem f220_196 : fch 220 196 = some (.iadd, 197, []) := by decide +kernel
theorem f220_197 : fch 220 197 = some (.iconst 1, 198, []) := by decide +kernel
theorem f220_198 : fch 220 198 = some (.iadd, 199, []) := by decide +kernel
theorem f220_199 : fch 220 199 = some (.iaload, 200, []) := by decide +kernel
theorem f220_200 : fch 220 200 = some (.iastore, 201, []) := by decide +kernel
theorem f220_201 : fch 220 201 = some (.aload 0, 202, []) := by decide +kernel
theorem f220_202 : fch 220 202 = some (.invokeinterface 9 25, 205, []) := by decide +kernel
theorem f220_205 : fch 220 205 = some (.iload 2, 206, []) := by decide +kernel
theorem f220_206 : fch 220 206 = some (.aload 0, 207, []) := by decide +kernel
theorem f220_207 : fch 220 207 = some (.invokeinterface 9 44, 210, []) := by decide +kernel
theorem f220_210 : fch 220 210 = some (.iconst 18, 212, []) := by decide +kernel
theorem f220_212 : fch 220 212 = some (.iload 1, 213, []) := by decide +kernel
theorem f220_213 : fch 220 213 = some (.imul, 214, []) := by decide +kernel
theorem f220_214 : fch 220 214 = some (.iconst 3, 215, []) := by decide +kernel
theorem f220_215 : fch 220 215 = some (.iload 2, 216, []) := by decide +kernel
theorem f220_216 : fch 220 216 = some (.imul, 217, []) := by decide +kernel
theorem f220_217 : fch 220 217 = some (.iadd, 218, []) := by decide +kernel
theorem f220_218 : fch 220 218 = some (.iconst 2, 219, []) := by decide +kernel
theorem f220_219 : fch 220 219 = some (.iadd, 220, []) := by decide +kernel
theorem f220_220 : fch 220 220 = some (.iaload, 221, []) := by decide +kernel
theorem f220_221 : fch 220 221 = some (.iastore, 222, []) := by decide +kernel
theorem f220_222 : fch 220 222 = some (.iinc 2 1, 225, []) := by decide +kernel
theorem f220_225 : fch 220 225 = some (.goto 155, 228, []) := by decide +kernel
theorem f220_228 : fch 220 228 = some (.aload 0, 229, []) := by decide +kernel
theorem f220_229 : fch 220 229 = some (.invokevirtual 209, 232, []) := by decide +kernel
theorem f220_232 : fch 220 232 = some (.ireturn, 233, []) := by decide +kernel
set_option maxRecDepth 10000 in
theorem e220_0 (l0 l1 : Int) (s : SG) : sem 220 0 [aA l0, aI l1, aU] [] s = bnI (sem 152 0 [aL l1, aU, aL 0, aU, aL 1, aU] [] s) fun a2 s1 => if a2 = 0 then some (aI ((-1)), s1) else grd (kd l0 = 9) (grd (0 ≤ s1 l0 39) (grd (kd (s1 l0 39) = 102) (grd ((0 : Int) ≤ l1 ∧ l1 < kl (s1 l0 39)) (if (s1 (s1 l0 39) l1) = 0 then some (aI ((-3)), s1) else sem 220 26 [aA l0, aI l1, aI 0] [] s1)))) := by
  refine (x_iload f220_0 rfl rfl).trans ?_
  refine (x_i2l f220_1 rfl).trans ?_
  refine (x_lconst f220_2 rfl).trans ?_
  refine (x_lconst f220_3 rfl).trans ?_
  refine (x_invokestatic (G := bnI (sem 152 0 [aL l1, aU, aL 0, aU, aL 1, aU] [] s) fun a2 s1 => sem 220 7 [aA l0, aI l1, aU] [aI a2] s1) f220_4 rfl rfl).trans ?_
  refine bI_c fun a2 s1 => ?_
  refine (x_if_ne (tg := 12) f220_7 rfl rfl).trans (i_c ?_ ?_)
  · refine (x_iconst f220_10 rfl).trans ?_
    exact x_ireturn f220_11 rfl
  · refine (x_aload f220_12 rfl rfl).trans ?_
    refine (x_get2 f220_13 rfl rfl).trans ?_
    refine g_c ?_
    refine g_c ?_
    refine (x_iload f220_16 rfl rfl).trans ?_
    refine (x_baload f220_17 rfl).trans ?_
    refine g_c ?_
    refine g_c ?_
    refine (x_if_ne (tg := 24) f220_18 rfl rfl).trans (i_c ?_ ?_)
    · refine (x_iconst f220_21 rfl).trans ?_
      exact x_ireturn f220_23 rfl
    · refine (x_iconst f220_24 rfl).trans ?_
      refine (x_istore (l2 := [aA l0, aI l1, aI 0]) f220_25 rfl rfl).trans ?_
      rfl
set_option maxRecDepth 10000 in
theorem e220_26 (l0 l1 l2 : Int) (s : SG) : sem 220 26 [aA l0, aI l1, aI l2] [] s = if l2 < 3 then grd (kd l0 = 9) (grd (0 ≤ s l0 16) (grd (kd l0 = 9) (grd (0 ≤ s l0 40) (grd (kd (s l0 40) = 101) (grd ((0 : Int) ≤ (w32 ((w32 (3 * l1)) + l2)) ∧ (w32 ((w32 (3 * l1)) + l2)) < kl (s l0 40)) (grd (kd (s l0 16) = 101) (grd ((0 : Int) ≤ l2 ∧ l2 < kl (s l0 16)) (grd (kd l0 = 9) (grd (0 ≤ (up s (s l0 16) l2 (s (s l0 40) (w32 ((w32 (3 * l1)) + l2)))) l0 17) (grd (kd l0 = 9) (grd (0 ≤ (up s (s l0 16) l2 (s (s l0 40) (w32 ((w32 (3 * l1)) + l2)))) l0 41) (grd (kd ((up s (s l0 16) l2 (s (s l0 40) (w32 ((w32 (3 * l1)) + l2)))) l0 41) = 101) (grd ((0 : Int) ≤ (w32 ((w32 (3 * l1)) + l2)) ∧ (w32 ((w32 (3 * l1)) + l2)) < kl ((up s (s l0 16) l2 (s (s l0 40) (w32 ((w32 (3 * l1)) + l2)))) l0 41)) (grd (kd ((up s (s l0 16) l2 (s (s l0 40) (w32 ((w32 (3 * l1)) + l2)))) l0 17) = 101) (grd ((0 : Int) ≤ l2 ∧ l2 < kl ((up s (s l0 16) l2 (s (s l0 40) (w32 ((w32 (3 * l1)) + l2)))) l0 17)) (sem 220 63 [aA l0, aI l1, aI l2] [] (up (up s (s l0 16) l2 (s (s l0 40) (w32 ((w32 (3 * l1)) + l2)))) ((up s (s l0 16) l2 (s (s l0 40) (w32 ((w32 (3 * l1)) + l2)))) l0 17) l2 ((up s (s l0 16) l2 (s (s l0 40) (w32 ((w32 (3 * l1)) + l2)))) ((up s (s l0 16) l2 (s (s l0 40) (w32 ((w32 (3 * l1)) + l2)))) l0 41) (w32 ((w32 (3 * l1)) + l2)))))))))))))))))))) else grd (kd l0 = 9) (grd (0 ≤ s l0 43) (grd (kd (s l0 43) = 101) (grd ((0 : Int) ≤ (w32 (5 * l1)) ∧ (w32 (5 * l1)) < kl (s l0 43)) (grd (kd l0 = 9) (grd (kd l0 = 9) (grd (0 ≤ (up s l0 15 (s (s l0 43) (w32 (5 * l1)))) l0 43) (grd (kd ((up s l0 15 (s (s l0 43) (w32 (5 * l1)))) l0 43) = 101) (grd ((0 : Int) ≤ (w32 ((w32 (5 * l1)) + 1)) ∧ (w32 ((w32 (5 * l1)) + 1)) < kl ((up s l0 15 (s (s l0 43) (w32 (5 * l1)))) l0 43)) (grd (kd l0 = 9) (grd (kd l0 = 9) (grd (0 ≤ (up (up s l0 15 (s (s l0 43) (w32 (5 * l1)))) l0 19 ((up s l0 15 (s (s l0 43) (w32 (5 * l1)))) ((up s l0 15 (s (s l0 43) (w32 (5 * l1)))) l0 43) (w32 ((w32 (5 * l1)) + 1)))) l0 43) (grd (kd ((up (up s l0 15 (s (s l0 43) (w32 (5 * l1)))) l0 19 ((up s l0 15 (s (s l0 43) (w32 (5 * l1)))) ((up s l0 15 (s (s l0 43) (w32 (5 * l1)))) l0 43) (w32 ((w32 (5 * l1)) + 1)))) l0 43) = 101) (grd ((0 : Int) ≤ (w32 ((w32 (5 * l1)) + 2)) ∧ (w32 ((w32 (5 * l1)) + 2)) < kl ((up (up s l0 15 (s (s l0 43) (w32 (5 * l1)))) l0 19 ((up s l0 15 (s (s l0 43) (w32 (5 * l1)))) ((up s l0 15 (s (s l0 43) (w32 (5 * l1)))) l0 43) (w32 ((w32 (5 * l1)) + 1)))) l0 43)) (grd (kd l0 = 9) (sem 220 125 [aA l0, aI l1, aI l2] [] (up (up (up s l0 15 (s (s l0 43) (w32 (5 * l1)))) l0 19 ((up s l0 15 (s (s l0 43) (w32 (5 * l1)))) ((up s l0 15 (s (s l0 43) (w32 (5 * l1)))) l0 43) (w32 ((w32 (5 * l1)) + 1)))) l0 20 ((up (up s l0 15 (s (s l0 43) (w32 (5 * l1)))) l0 19 ((up s l0 15 (s (s l0 43) (w32 (5 * l1)))) ((up s l0 15 (s (s l0 43) (w32 (5 * l1)))) l0 43) (w32 ((w32 (5 * l1)) + 1)))) ((up (up s l0 15 (s (s l0 43) (w32 (5 * l1)))) l0 19 ((up s l0 15 (s (s l0 43) (w32 (5 * l1)))) ((up s l0 15 (s (s l0 43) (w32 (5 * l1)))) l0 43) (w32 ((w32 (5 * l1)) + 1)))) l0 43) (w32 ((w32 (5 * l1)) + 2))))))))))))))))))) := by
  refine (x_iload f220_26 rfl rfl).trans ?_
  refine (x_iconst f220_27 rfl).trans ?_
  refine (x_icmp_ge (tg := 85) f220_28 rfl rfl).trans (i_c ?_ ?_)
  · refine (x_aload f220_31 rfl rfl).trans ?_
    refine (x_get2 f220_32 rfl rfl).trans ?_
    refine g_c ?_
    refine g_c ?_
    refine (x_iload f220_35 rfl rfl).trans ?_
    refine (x_aload f220_36 rfl rfl).trans ?_
    refine (x_get2 f220_37 rfl rfl).trans ?_
    refine g_c ?_
    refine g_c ?_
    refine (x_iconst f220_40 rfl).trans ?_
    refine (x_iload f220_41 rfl rfl).trans ?_
    refine (x_imul f220_42 rfl).trans ?_
    refine (x_iload f220_43 rfl rfl).trans ?_
    refine (x_iadd f220_44 rfl).trans ?_
    refine (x_iaload f220_45 rfl).trans ?_
    refine g_c ?_
    refine g_c ?_
    refine (x_iastore f220_46 rfl).trans ?_
    refine g_c ?_
    refine g_c ?_
    refine (x_aload f220_47 rfl rfl).trans ?_
    refine (x_get2 f220_48 rfl rfl).trans ?_
    refine g_c ?_
    refine g_c ?_
    refine (x_iload f220_51 rfl rfl).trans ?_
    refine (x_aload f220_52 rfl rfl).trans ?_
    refine (x_get2 f220_53 rfl rfl).trans ?_
    refine g_c ?_
    refine g_c ?_
    refine (x_iconst f220_56 rfl).trans ?_
    refine (x_iload f220_57 rfl rfl).trans ?_
    refine (x_imul f220_58 rfl).trans ?_
    refine (x_iload f220_59 rfl rfl).trans ?_
    refine (x_iadd f220_60 rfl).trans ?_
    refine (x_iaload f220_61 rfl).trans ?_
    refine g_c ?_
    refine g_c ?_
    refine (x_iastore f220_62 rfl).trans ?_
    refine g_c ?_
    refine g_c ?_
    rfl
  · refine (x_aload f220_85 rfl rfl).trans ?_
    refine (x_aload f220_86 rfl rfl).trans ?_
    refine (x_get2 f220_87 rfl rfl).trans ?_
    refine g_c ?_
    refine g_c ?_
    refine (x_iconst f220_90 rfl).trans ?_
    refine (x_iload f220_91 rfl rfl).trans ?_
    refine (x_imul f220_92 rfl).trans ?_
    refine (x_iaload f220_93 rfl).trans ?_
    refine g_c ?_
    refine g_c ?_
    refine (x_put0 f220_94 rfl rfl).trans ?_
    refine g_c ?_
    refine (x_aload f220_97 rfl rfl).trans ?_
    refine (x_aload f220_98 rfl rfl).trans ?_
    refine (x_get2 f220_99 rfl rfl).trans ?_
    refine g_c ?_
    refine g_c ?_
    refine (x_iconst f220_102 rfl).trans ?_
    refine (x_iload f220_103 rfl rfl).trans ?_
    refine (x_imul f220_104 rfl).trans ?_
    refine (x_iconst f220_105 rfl).trans ?_
    refine (x_iadd f220_106 rfl).trans ?_
    refine (x_iaload f220_107 rfl).trans ?_
    refine g_c ?_
    refine g_c ?_
    refine (x_put0 f220_108 rfl rfl).trans ?_
    refine g_c ?_
    refine (x_aload f220_111 rfl rfl).trans ?_
    refine (x_aload f220_112 rfl rfl).trans ?_
    refine (x_get2 f220_113 rfl rfl).trans ?_
    refine g_c ?_
    refine g_c ?_
    refine (x_iconst f220_116 rfl).trans ?_
    refine (x_iload f220_117 rfl rfl).trans ?_
    refine (x_imul f220_118 rfl).trans ?_
    refine (x_iconst f220_119 rfl).trans ?_
    refine (x_iadd f220_120 rfl).trans ?_
    refine (x_iaload f220_121 rfl).trans ?_
    refine g_c ?_
    refine g_c ?_
    refine (x_put0 f220_122 rfl rfl).trans ?_
    refine g_c ?_
    rfl
set_option maxRecDepth 10000 in
theorem e220_63 (l0 l1 l2 : Int) (s : SG) : sem 220 63 [aA l0, aI l1, aI l2] [] s = grd (kd l0 = 9) (grd (0 ≤ s l0 18) (grd (kd l0 = 9) (grd (0 ≤ s l0 42) (grd (kd (s l0 42) = 101) (grd ((0 : Int) ≤ (w32 ((w32 (3 * l1)) + l2)) ∧ (w32 ((w32 (3 * l1)) + l2)) < kl (s l0 42)) (grd (kd (s l0 18) = 101) (grd ((0 : Int) ≤ l2 ∧ l2 < kl (s l0 18)) (sem 220 26 [aA l0, aI l1, aI (w32 (l2 + 1))] [] (up s (s l0 18) l2 (s (s l0 42) (w32 ((w32 (3 * l1)) + l2)))))))))))) := by
  refine (x_aload f220_63 rfl rfl).trans ?_
  refine (x_get2 f220_64 rfl rfl).trans ?_
  refine g_c ?_
  refine g_c ?_
  refine (x_iload f220_67 rfl rfl).trans ?_
  refine (x_aload f220_68 rfl rfl).trans ?_
  refine (x_get2 f220_69 rfl rfl).trans ?_
  refine g_c ?_
  refine g_c ?_
  refine (x_iconst f220_72 rfl).trans ?_
  refine (x_iload f220_73 rfl rfl).trans ?_
  refine (x_imul f220_74 rfl).trans ?_
  refine (x_iload f220_75 rfl rfl).trans ?_
  refine (x_iadd f220_76 rfl).trans ?_
  refine (x_iaload f220_77 rfl).trans ?_
  refine g_c ?_
  refine g_c ?_
  refine (x_iastore f220_78 rfl).trans ?_
  refine g_c ?_
  refine g_c ?_
  refine (x_iinc (l2 := [aA l0, aI l1, aI (w32 (l2 + 1))]) f220_79 rfl rfl rfl).trans ?_
  refine (x_goto (tg := 26) f220_82 rfl rfl).trans ?_
  rfl
set_option maxRecDepth 10000 in
theorem e220_125 (l0 l1 l2 : Int) (s : SG) : sem 220 125 [aA l0, aI l1, aI l2] [] s = grd (kd l0 = 9) (grd (0 ≤ s l0 43) (grd (kd (s l0 43) = 101) (grd ((0 : Int) ≤ (w32 ((w32 (5 * l1)) + 3)) ∧ (w32 ((w32 (5 * l1)) + 3)) < kl (s l0 43)) (grd (kd l0 = 9) (grd (kd l0 = 9) (grd (0 ≤ (up s l0 21 (s (s l0 43) (w32 ((w32 (5 * l1)) + 3)))) l0 43) (grd (kd ((up s l0 21 (s (s l0 43) (w32 ((w32 (5 * l1)) + 3)))) l0 43) = 101) (grd ((0 : Int) ≤ (w32 ((w32 (5 * l1)) + 4)) ∧ (w32 ((w32 (5 * l1)) + 4)) < kl ((up s l0 21 (s (s l0 43) (w32 ((w32 (5 * l1)) + 3)))) l0 43)) (grd (kd l0 = 9) (sem 220 155 [aA l0, aI l1, aI 0] [] (up (up s l0 21 (s (s l0 43) (w32 ((w32 (5 * l1)) + 3)))) l0 22 ((up s l0 21 (s (s l0 43) (w32 ((w32 (5 * l1)) + 3)))) ((up s l0 21 (s (s l0 43) (w32 ((w32 (5 * l1)) + 3)))) l0 43) (w32 ((w32 (5 * l1)) + 4)))))))))))))) := by
  refine (x_aload f220_125 rfl rfl).trans ?_
  refine (x_aload f220_126 rfl rfl).trans ?_
  refine (x_get2 f220_127 rfl rfl).trans ?_
  refine g_c ?_
  refine g_c ?_
  refine (x_iconst f220_130 rfl).trans ?_
  refine (x_iload f220_131 rfl rfl).trans ?_
  refine (x_imul f220_132 rfl).trans ?_
  refine (x_iconst f220_133 rfl).trans ?_
  refine (x_iadd f220_134 rfl).trans ?_
  refine (x_iaload f220_135 rfl).trans ?_
  refine g_c ?_
  refine g_c ?_
  refine (x_put0 f220_136 rfl rfl).trans ?_
  refine g_c ?_
  refine (x_aload f220_139 rfl rfl).trans ?_
  refine (x_aload f220_140 rfl rfl).trans ?_
  refine (x_get2 f220_141 rfl rfl).trans ?_
  refine g_c ?_
  refine g_c ?_
  refine (x_iconst f220_144 rfl).trans ?_
  refine (x_iload f220_145 rfl rfl).trans ?_
  refine (x_imul f220_146 rfl).trans ?_
  refine (x_iconst f220_147 rfl).trans ?_
  refine (x_iadd f220_148 rfl).trans ?_
  refine (x_iaload f220_149 rfl).trans ?_
  refine g_c ?_
  refine g_c ?_
  refine (x_put0 f220_150 rfl rfl).trans ?_
  refine g_c ?_
  refine (x_iconst f220_153 rfl).trans ?_
  refine (x_istore (l2 := [aA l0, aI l1, aI 0]) f220_154 rfl rfl).trans ?_
  rfl
set_option maxRecDepth 10000 in
theorem e220_155 (l0 l1 l2 : Int) (s : SG) : sem 220 155 [aA l0, aI l1, aI l2] [] s = if l2 < 6 then grd (kd l0 = 9) (grd (0 ≤ s l0 23) (grd (kd l0 = 9) (grd (0 ≤ s l0 44) (grd (kd (s l0 44) = 101) (grd ((0 : Int) ≤ (w32 ((w32 (18 * l1)) + (w32 (3 * l2)))) ∧ (w32 ((w32 (18 * l1)) + (w32 (3 * l2)))) < kl (s l0 44)) (grd (kd (s l0 23) = 101) (grd ((0 : Int) ≤ l2 ∧ l2 < kl (s l0 23)) (grd (kd l0 = 9) (grd (0 ≤ (up s (s l0 23) l2 (s (s l0 44) (w32 ((w32 (18 * l1)) + (w32 (3 * l2)))))) l0 24) (grd (kd l0 = 9) (grd (0 ≤ (up s (s l0 23) l2 (s (s l0 44) (w32 ((w32 (18 * l1)) + (w32 (3 * l2)))))) l0 44) (grd (kd ((up s (s l0 23) l2 (s (s l0 44) (w32 ((w32 (18 * l1)) + (w32 (3 * l2)))))) l0 44) = 101) (grd ((0 : Int) ≤ (w32 ((w32 ((w32 (18 * l1)) + (w32 (3 * l2)))) + 1)) ∧ (w32 ((w32 ((w32 (18 * l1)) + (w32 (3 * l2)))) + 1)) < kl ((up s (s l0 23) l2 (s (s l0 44) (w32 ((w32 (18 * l1)) + (w32 (3 * l2)))))) l0 44)) (grd (kd ((up s (s l0 23) l2 (s (s l0 44) (w32 ((w32 (18 * l1)) + (w32 (3 * l2)))))) l0 24) = 101) (grd ((0 : Int) ≤ l2 ∧ l2 < kl ((up s (s l0 23) l2 (s (s l0 44) (w32 ((w32 (18 * l1)) + (w32 (3 * l2)))))) l0 24)) (sem 220 201 [aA l0, aI l1, aI l2] [] (up (up s (s l0 23) l2 (s (s l0 44) (w32 ((w32 (18 * l1)) + (w32 (3 * l2)))))) ((up s (s l0 23) l2 (s (s l0 44) (w32 ((w32 (18 * l1)) + (w32 (3 * l2)))))) l0 24) l2 ((up s (s l0 23) l2 (s (s l0 44) (w32 ((w32 (18 * l1)) + (w32 (3 * l2)))))) ((up s (s l0 23) l2 (s (s l0 44) (w32 ((w32 (18 * l1)) + (w32 (3 * l2)))))) l0 44) (w32 ((w32 ((w32 (18 * l1)) + (w32 (3 * l2)))) + 1)))))))))))))))))))) else grd (kd l0 = 9) (bnI (sem 209 0 [aA l0] [] s) fun a2 s1 => some (aI a2, s1)) := by
  refine (x_iload f220_155 rfl rfl).trans ?_
  refine (x_iconst f220_156 rfl).trans ?_
  refine (x_icmp_ge (tg := 228) f220_158 rfl rfl).trans (i_c ?_ ?_)
  · refine (x_aload f220_161 rfl rfl).trans ?_
    refine (x_get2 f220_162 rfl rfl).trans ?_
    refine g_c ?_
    refine g_c ?_
    refine (x_iload f220_165 rfl rfl).trans ?_
    refine (x_aload f220_166 rfl rfl).trans ?_
    refine (x_get2 f220_167 rfl rfl).trans ?_
    refine g_c ?_
    refine g_c ?_
    refine (x_iconst f220_170 rfl).trans ?_
    refine (x_iload f220_172 rfl rfl).trans ?_
    refine (x_imul f220_173 rfl).trans ?_
    refine (x_iconst f220_174 rfl).trans ?_
    refine (x_iload f220_175 rfl rfl).trans ?_
    refine (x_imul f220_176 rfl).trans ?_
    refine (x_iadd f220_177 rfl).trans ?_
    refine (x_iaload f220_178 rfl).trans ?_
    refine g_c ?_
    refine g_c ?_
    refine (x_iastore f220_179 rfl).trans ?_
    refine g_c ?_
    refine g_c ?_
    refine (x_aload f220_180 rfl rfl).trans ?_
    refine (x_get2 f220_181 rfl rfl).trans ?_
    refine g_c ?_
    refine g_c ?_
    refine (x_iload f220_184 rfl rfl).trans ?_
    refine (x_aload f220_185 rfl rfl).trans ?_
    refine (x_get2 f220_186 rfl rfl).trans ?_
    refine g_c ?_
    refine g_c ?_
    refine (x_iconst f220_189 rfl).trans ?_
    refine (x_iload f220_191 rfl rfl).trans ?_
    refine (x_imul f220_192 rfl).trans ?_
    refine (x_iconst f220_193 rfl).trans ?_
    refine (x_iload f220_194 rfl rfl).trans ?_
    refine (x_imul f220_195 rfl).trans ?_
    refine (x_iadd f220_196 rfl).trans ?_
    refine (x_iconst f220_197 rfl).trans ?_
    refine (x_iadd f220_198 rfl).trans ?_
    refine (x_iaload f220_199 rfl).trans ?_
    refine g_c ?_
    refine g_c ?_
    refine (x_iastore f220_200 rfl).trans ?_
    refine g_c ?_
    refine g_c ?_
    rfl
  · refine (x_aload f220_228 rfl rfl).trans ?_
    refine (x_invokevirtual (G := grd (kd l0 = 9) (bnI (sem 209 0 [aA l0] [] s) fun a2 s1 => sem 220 232 [aA l0, aI l1, aI l2] [aI a2] s1)) f220_229 rfl rfl).trans ?_
    refine g_c ?_
    refine bI_c fun a2 s1 => ?_
    exact x_ireturn f220_232 rfl
set_option maxRecDepth 10000 in
theorem e220_201 (l0 l1 l2 : Int) (s : SG) : sem 220 201 [aA l0, aI l1, aI l2] [] s = grd (kd l0 = 9) (grd (0 ≤ s l0 25) (grd (kd l0 = 9) (grd (0 ≤ s l0 44) (grd (kd (s l0 44) = 101) (grd ((0 : Int) ≤ (w32 ((w32 ((w32 (18 * l1)) + (w32 (3 * l2)))) + 2)) ∧ (w32 ((w32 ((w32 (18 * l1)) + (w32 (3 * l2)))) + 2)) < kl (s l0 44)) (grd (kd (s l0 25) = 101) (grd ((0 : Int) ≤ l2 ∧ l2 < kl (s l0 25)) (sem 220 155 [aA l0, aI l1, aI (w32 (l2 + 1))] [] (up s (s l0 25) l2 (s (s l0 44) (w32 ((w32 ((w32 (18 * l1)) + (w32 (3 * l2)))) + 2)))))))))))) := by
  refine (x_aload f220_201 rfl rfl).trans ?_
  refine (x_get2 f220_202 rfl rfl).trans ?_
  refine g_c ?_
  refine g_c ?_
  refine (x_iload f220_205 rfl rfl).trans ?_
  refine (x_aload f220_206 rfl rfl).trans ?_
  refine (x_get2 f220_207 rfl rfl).trans ?_
  refine g_c ?_
  refine g_c ?_
  refine (x_iconst f220_210 rfl).trans ?_
  refine (x_iload f220_212 rfl rfl).trans ?_
  refine (x_imul f220_213 rfl).trans ?_
  refine (x_iconst f220_214 rfl).trans ?_
  refine (x_iload f220_215 rfl rfl).trans ?_
  refine (x_imul f220_216 rfl).trans ?_
  refine (x_iadd f220_217 rfl).trans ?_
  refine (x_iconst f220_218 rfl).trans ?_
  refine (x_iadd f220_219 rfl).trans ?_
  refine (x_iaload f220_220 rfl).trans ?_
  refine g_c ?_
  refine g_c ?_
  refine (x_iastore f220_221 rfl).trans ?_
  refine g_c ?_
  refine g_c ?_
  refine (x_iinc (l2 := [aA l0, aI l1, aI (w32 (l2 + 1))]) f220_222 rfl rfl rfl).trans ?_
  refine (x_goto (tg := 155) f220_225 rfl rfl).trans ?_
  rfl
theorem f221_0 : fch 221 0 = some (.iload 1, 1, []) := by decide +kernel
theorem f221_1 : fch 221 1 = some (.tableswitch 52 0 3 #[32, 37, 42, 47], 32, []) := by decide +kernel
theorem f221_32 : fch 221 32 = some (.aload 0, 33, []) := by decide +kernel
theorem f221_33 : fch 221 33 = some (.invokeinterface 9 4, 36, []) := by decide +kernel
theorem f221_36 : fch 221 36 = some (.ireturn, 37, []) := by decide +kernel
theorem f221_37 : fch 221 37 = some (.aload 0, 38, []) := by decide +kernel
theorem f221_38 : fch 221 38 = some (.invokeinterface 9 9, 41, []) := by decide +kernel
theorem f221_41 : fch 221 41 = some (.ireturn, 42, []) := by decide +kernel
theorem f221_42 : fch 221 42 = some (.aload 0, 43, []) := by decide +kernel
theorem f221_43 : fch 221 43 = some (.invokeinterface 9 22, 46, []) := by decide +kernel
theorem f221_46 : fch 221 46 = some (.ireturn, 47, []) := by decide +kernel
theorem f221_47 : fch 221 47 = some (.aload 0, 48, []) := by decide +kernel
theorem f221_48 : fch 221 48 = some (.invokevirtual 209, 51, []) := by decide +kernel
theorem f221_51 : fch 221 51 = some (.ireturn, 52, []) := by decide +kernel
theorem f221_52 : fch 221 52 = some (.iconst (-2), 54, []) := by decide +kernel
theorem f221_54 : fch 221 54 = some (.ireturn, 55, []) := by decide +kernel
set_option maxRecDepth 10000 in
theorem e221_0 (l0 l1 : Int) (s : SG) : sem 221 0 [aA l0, aI l1] [] s = if l1 = 0 then grd (kd l0 = 9) (some (aI (s l0 4), s)) else if l1 = 1 then grd (kd l0 = 9) (some (aI (s l0 9), s)) else if l1 = 2 then grd (kd l0 = 9) (some (aI (s l0 22), s)) else if l1 = 3 then grd (kd l0 = 9) (bnI (sem 209 0 [aA l0] [] s) fun a2 s1 => some (aI a2, s1)) else some (aI ((-2)), s) := by
  refine (x_iload f221_0 rfl rfl).trans ?_
  refine (x_tsw f221_1 rfl).trans ?_
  refine Eq.trans (b := sem 221 (if l1 = 0 then 32 else if l1 = 1 then 37 else if l1 = 2 then 42 else if l1 = 3 then 47 else 52) [aA l0, aI l1] [] s) rfl ?_
  refine x_ite.trans (i_c ?_ ?_)
  · refine (x_aload f221_32 rfl rfl).trans ?_
    refine (x_get0 f221_33 rfl rfl).trans ?_
    refine g_c ?_
    exact x_ireturn f221_36 rfl
  refine x_ite.trans (i_c ?_ ?_)
  · refine (x_aload f221_37 rfl rfl).trans ?_
    refine (x_get0 f221_38 rfl rfl).trans ?_
    refine g_c ?_
    exact x_ireturn f221_41 rfl
  refine x_ite.trans (i_c ?_ ?_)
  · refine (x_aload f221_42 rfl rfl).trans ?_
    refine (x_get0 f221_43 rfl rfl).trans ?_
    refine g_c ?_
    exact x_ireturn f221_46 rfl
  refine x_ite.trans (i_c ?_ ?_)
  · refine (x_aload f221_47 rfl rfl).trans ?_
    refine (x_invokevirtual (G := grd (kd l0 = 9) (bnI (sem 209 0 [aA l0] [] s) fun a2 s1 => sem 221 51 [aA l0, aI l1] [aI a2] s1)) f221_48 rfl rfl).trans ?_
    refine g_c ?_
    refine bI_c fun a2 s1 => ?_
    exact x_ireturn f221_51 rfl
  refine (x_iconst f221_52 rfl).trans ?_
  exact x_ireturn f221_54 rfl
theorem f222_0 : fch 222 0 = some (.iconst 0, 1, []) := by decide +kernel
theorem f222_1 : fch 222 1 = some (.istore 2, 2, []) := by decide +kernel
theorem f222_2 : fch 222 2 = some (.aload 0, 3, []) := by decide +kernel
theorem f222_3 : fch 222 3 = some (.arraylength, 4, []) := by decide +kernel
theorem f222_4 : fch 222 4 = some (.istore 3, 5, []) := by decide +kernel
theorem f222_5 : fch 222 5 = some (.iload 2, 6, []) := by decide +kernel
theorem f222_6 : fch 222 6 = some (.iload 3, 7, []) := by decide +kernel
theorem f222_7 : fch 222 7 = some (.if_icmp .ge 20, 10, []) := by decide +kernel
theorem f222_10 : fch 222 10 = some (.aload 0, 11, []) := by decide +kernel
theorem f222_11 : fch 222 11 = some (.iload 2, 12, []) := by decide +kernel
theorem f222_12 : fch 222 12 = some (.iload 1, 13, []) := by decide +kernel
theorem f222_13 : fch 222 13 = some (.iastore, 14, []) := by decide +kernel
theorem f222_14 : fch 222 14 = some (.iinc 2 1, 17, []) := by decide +kernel
theorem f222_17 : fch 222 17 = some (.goto 5, 20, []) := by decide +kernel
theorem f222_20 : fch 222 20 = some (.return_, 21, []) := by decide +kernel
set_option maxRecDepth 10000 in
theorem e222_0 (l0 l1 : Int) (s : SG) : sem 222 0 [aA l0, aI l1, aU, aU] [] s = grd (100 < kd l0) (sem 222 5 [aA l0, aI l1, aI 0, aI (kl l0)] [] s) := by
  refine (x_iconst f222_0 rfl).trans ?_
  refine (x_istore (l2 := [aA l0, aI l1, aI 0, aU]) f222_1 rfl rfl).trans ?_
  refine (x_aload f222_2 rfl rfl).trans ?_
  refine (x_arraylength f222_3 rfl).trans ?_
  refine g_c ?_
  refine (x_istore (l2 := [aA l0, aI l1, aI 0, aI (kl l0)]) f222_4 rfl rfl).trans ?_
  rfl
set_option maxRecDepth 10000 in
theorem e222_5 (l0 l1 l2 l3 : Int) (s : SG) : sem 222 5 [aA l0, aI l1, aI l2, aI l3] [] s = if l2 < l3 then grd (kd l0 = 101) (grd ((0 : Int) ≤ l2 ∧ l2 < kl l0) (sem 222 5 [aA l0, aI l1, aI (w32 (l2 + 1)), aI l3] [] (up s l0 l2 l1))) else some (aU, s) := by
  refine (x_iload f222_5 rfl rfl).trans ?_
  refine (x_iload f222_6 rfl rfl).trans ?_
  refine (x_icmp_ge (tg := 20) f222_7 rfl rfl).trans (i_c ?_ ?_)
  · refine (x_aload f222_10 rfl rfl).trans ?_
    refine (x_iload f222_11 rfl rfl).trans ?_
    refine (x_iload f222_12 rfl rfl).trans ?_
    refine (x_iastore f222_13 rfl).trans ?_
    refine g_c ?_
    refine g_c ?_
    refine (x_iinc (l2 := [aA l0, aI l1, aI (w32 (l2 + 1)), aI l3]) f222_14 rfl rfl rfl).trans ?_
    refine (x_goto (tg := 5) f222_17 rfl rfl).trans ?_
    rfl
  · exact x_return f222_20 rfl
theorem f223_0 : fch 223 0 = some (.iconst 0, 1, []) := by decide +kernel
theorem f223_1 : fch 223 1 = some (.istore 3, 2, []) := by decide +kernel
theorem f223_2 : fch 223 2 = some (.aload 0, 3, []) := by decide +kernel
theorem f223_3 : fch 223 3 = some (.arraylength, 4, []) := by decide +kernel
theorem f223_4 : fch 223 4 = some (.istore 4, 6, []) := by decide +kernel
theorem f223_6 : fch 223 6 = some (.iload 3, 7, []) := by decide +kernel
theorem f223_7 : fch 223 7 = some (.iload 4, 9, []) := by decide +kernel
theorem f223_9 : fch 223 9 = some (.if_icmp .ge 22, 12, []) := by decide +kernel
theorem f223_12 : fch 223 12 = some (.aload 0, 13, []) := by decide +kernel
theorem f223_13 : fch 223 13 = some (.iload 3, 14, []) := by decide +kernel
theorem f223_14 : fch 223 14 = some (.lload 1, 15, []) := by decide +kernel
theorem f223_15 : fch 223 15 = some (.lastore, 16, []) := by decide +kernel
theorem f223_16 : fch 223 16 = some (.iinc 3 1, 19, []) := by decide +kernel
theorem f223_19 : fch 223 19 = some (.goto 6, 22, []) := by decide +kernel
theorem f223_22 : fch 223 22 = some (.return_, 23, []) := by decide +kernel
set_option maxRecDepth 10000 in
theorem e223_0 (l0 l1 : Int) (s : SG) : sem 223 0 [aA l0, aL l1, aU, aU, aU] [] s = grd (100 < kd l0) (sem 223 6 [aA l0, aL l1, aU, aI 0, aI (kl l0)] [] s) := by
  refine (x_iconst f223_0 rfl).trans ?_
  refine (x_istore (l2 := [aA l0, aL l1, aU, aI 0, aU]) f223_1 rfl rfl).trans ?_
  refine (x_aload f223_2 rfl rfl).trans ?_
  refine (x_arraylength f223_3 rfl).trans ?_
  refine g_c ?_
  refine (x_istore (l2 := [aA l0, aL l1, aU, aI 0, aI (kl l0)]) f223_4 rfl rfl).trans ?_
  rfl
set_option maxRecDepth 10000 in
theorem e223_6 (l0 l1 l3 l4 : Int) (s : SG) : sem 223 6 [aA l0, aL l1, aU, aI l3, aI l4] [] s = if l3 < l4 then grd (kd l0 = 103) (grd ((0 : Int) ≤ l3 ∧ l3 < kl l0) (sem 223 6 [aA l0, aL l1, aU, aI (w32 (l3 + 1)), aI l4] [] (up s l0 l3 l1))) else some (aU, s) := by
  refine (x_iload f223_6 rfl rfl).trans ?_
  refine (x_iload f223_7 rfl rfl).trans ?_
  refine (x_icmp_ge (tg := 22) f223_9 rfl rfl).trans (i_c ?_ ?_)
  · refine (x_aload f223_12 rfl rfl).trans ?_
    refine (x_iload f223_13 rfl rfl).trans ?_
    refine (x_lload f223_14 rfl rfl).trans ?_
    refine (x_lastore f223_15 rfl).trans ?_
    refine g_c ?_
    refine g_c ?_
    refine (x_iinc (l2 := [aA l0, aL l1, aU, aI (w32 (l3 + 1)), aI l4]) f223_16 rfl rfl rfl).trans ?_
    refine (x_goto (tg := 6) f223_19 rfl rfl).trans ?_
    rfl
  · exact x_return f223_22 rfl
theorem f224_0 : fch 224 0 = some (.new 8, 3, []) := by decide +kernel
theorem f224_3 : fch 224 3 = some (.dup, 4, []) := by decide +kernel
theorem f224_4 : fch 224 4 = some (.invokespecial 102, 7, []) := by decide +kernel
theorem f224_7 : fch 224 7 = some (.astore 1, 8, []) := by decide +kernel
theorem f224_8 : fch 224 8 = some (.new 9, 11, []) := by decide +kernel
theorem f224_11 : fch 224 11 = some (.dup, 12, []) := by decide +kernel
theorem f224_12 : fch 224 12 = some (.invokespecial 151, 15, []) := by decide +kernel
theorem f224_15 : fch 224 15 = some (.astore 2, 16, []) := by decide +kernel
theorem f224_16 : fch 224 16 = some (.iconst 0, 17, []) := by decide +kernel
theorem f224_17 : fch 224 17 = some (.istore 3, 18, []) := by decide +kernel
theorem f224_18 : fch 224 18 = some (.iload 3, 19, []) := by decide +kernel
theorem f224_19 : fch 224 19 = some (.aload 0, 20, []) := by decide +kernel
theorem f224_20 : fch 224 20 = some (.f2l, 21, []) := by decide +kernel
theorem f224_21 : fch 224 21 = some (.iconst 7, 23, []) := by decide +kernel
theorem f224_23 : fch 224 23 = some (.isub, 24, []) := by decide +kernel
theorem f224_24 : fch 224 24 = some (.if_icmp .gt 1460, 27, []) := by decide +kernel
theorem f224_27 : fch 224 27 = some (.aload 0, 28, []) := by decide +kernel
theorem f224_28 : fch 224 28 = some (.iload 3, 29, []) := by decide +kernel
theorem f224_29 : fch 224 29 = some (.faload, 30, []) := by decide +kernel
theorem f224_30 : fch 224 30 = some (.iconst 63, 32, []) := by decide +kernel
theorem f224_32 : fch 224 32 = some (.iand, 33, []) := by decide +kernel
theorem f224_33 : fch 224 33 = some (.tableswitch 1454 0 35 #[192, 255, 268, 281, 294, 337, 360, 420, 480, 513, 563, 576, 646, 679, 692, 742, 755, 768, 860, 923, 946, 979, 1012, 1055, 1098, 1111, 1154, 1177, 1200, 1223, 1246, 1299, 1342, 1385, 1408, 1431], 192, []) := by decide +kernel
theorem f224_192 : fch 224 192 = some (.aload 1, 193, []) := by decide +kernel
theorem f224_193 : fch 224 193 = some (.aload 0, 194, []) := by decide +kernel
theorem f224_194 : fch 224 194 = some (.iload 3, 195, []) := by decide +kernel
theorem f224_195 : fch 224 195 = some (.iconst 1, 196, []) := by decide +kernel
theorem f224_196 : fch 224 196 = some (.iadd, 197, []) := by decide +kernel
theorem f224_197 : fch 224 197 = some (.faload, 198, []) := by decide +kernel
theorem f224_198 : fch 224 198 = some (.aload 0, 199, []) := by decide +kernel
theorem f224_199 : fch 224 199 = some (.iload 3, 200, []) := by decide +kernel
theorem f224_200 : fch 224 200 = some (.iconst 2, 201, []) := by decide +kernel
theorem f224_201 : fch 224 201 = some (.iadd, 202, []) := by decide +kernel
theorem f224_202 : fch 224 202 = some (.faload, 203, []) := by decide +kernel
theorem f224_203 : fch 224 203 = some (.i2l, 204, []) := by decide +kernel
theorem f224_204 : fch 224 204 = some (.iconst 32, 206, []) := by decide +kernel
theorem f224_206 : fch 224 206 = some (.lshl, 207, []) := by decide +kernel
theorem f224_207 : fch 224 207 = some (.aload 0, 208, []) := by decide +kernel
theorem f224_208 : fch 224 208 = some (.iload 3, 209, []) := by decide +kernel
theorem f224_209 : fch 224 209 = some (.iconst 3, 210, []) := by decide +kernel
theorem f224_210 : fch 224 210 = some (.iadd, 211, []) := by decide +kernel
theorem f224_211 : fch 224 211 = some (.faload, 212, []) := by decide +kernel
theorem f224_212 : fch 224 212 = some (.i2l, 213, []) := by decide +kernel
theorem f224_213 : fch 224 213 = some (.sipush 4294967295, 216, []) := by decide +kernel
theorem f224_216 : fch 224 216 = some (.land, 217, []) := by decide +kernel
theorem f224_217 : fch 224 217 = some (.lor, 218, []) := by decide +kernel
theorem f224_218 : fch 224 218 = some (.invokevirtual 103, 221, []) := by decide +kernel
theorem f224_221 : fch 224 221 = some (.aload 2, 222, []) := by decide +kernel
theorem f224_222 : fch 224 222 = some (.aload 0, 223, []) := by decide +kernel
theorem f224_223 : fch 224 223 = some (.iload 3, 224, []) := by decide +kernel
theorem f224_224 : fch 224 224 = some (.iconst 1, 225, []) := by decide +kernel
theorem f224_225 : fch 224 225 = some (.iadd, 226, []) := by decide +kernel
theorem f224_226 : fch 224 226 = some (.faload, 227, []) := by decide +kernel
theorem f224_227 : fch 224 227 = some (.aload 0, 228, []) := by decide +kernel
theorem f224_228 : fch 224 228 = some (.iload 3, 229, []) := by decide +kernel
theorem f224_229 : fch 224 229 = some (.iconst 2, 230, []) := by decide +kernel
theorem f224_230 : fch 224 230 = some (.iadd, 231, []) := by decide +kernel
theorem f224_231 : fch 224 231 = some (.faload, 232, []) := by decide +kernel
theorem f224_232 : fch 224 232 = some (.i2l, 233, []) := by decide +kernel
theorem f224_233 : fch 224 233 = some (.iconst 32, 235, []) := by decide +kernel
theorem f224_235 : fch 224 235 = some (.lshl, 236, []) := by decide +kernel
theorem f224_236 : fch 224 236 = some (.aload 0, 237, []) := by decide +kernel
theorem f224_237 : fch 224 237 = some (.iload 3, 238, []) := by decide +kernel
theorem f224_238 : fch 224 238 = some (.iconst 3, 239, []) := by decide +kernel
theorem f224_239 : fch 224 239 = some (.iadd, 240, []) := by decide +kernel
theorem f224_240 : fch 224 240 = some (.faload, 241, []) := by decide +kernel
theorem f224_241 : fch 224 241 = some (.i2l, 242, []) := by decide +kernel
theorem f224_242 : fch 224 242 = some (.sipush 4294967295, 245, []) := by decide +kernel
theorem f224_245 : fch 224 245 = some (.land, 246, []) := by decide +kernel
theorem f224_246 : fch 224 246 = some (.lor, 247, []) := by decide +kernel
theorem f224_247 : fch 224 247 = some (.invokevirtual 155, 250, []) := by decide +kernel
theorem f224_250 : fch 224 250 = some (.if_icmp .eq 1454, 253, []) := by decide +kernel
theorem f224_253 : fch 224 253 = some (.iconst 0, 254, []) := by decide +kernel
theorem f224_254 : fch 224 254 = some (.ireturn, 255, []) := by decide +kernel
theorem f224_255 : fch 224 255 = some (.aload 1, 256, []) := by decide +kernel
theorem f224_256 : fch 224 256 = some (.invokevirtual 104, 259, []) := by decide +kernel
theorem f224_259 : fch 224 259 = some (.aload 2, 260, []) := by decide +kernel
theorem f224_260 : fch 224 260 = some (.invokevirtual 156, 263, []) := by decide +kernel
theorem f224_263 : fch 224 263 = some (.if_icmp .eq 1454, 266, []) := by decide +kernel
theorem f224_266 : fch 224 266 = some (.iconst 0, 267, []) := by decide +kernel
theorem f224_267 : fch 224 267 = some (.ireturn, 268, []) := by decide +kernel
theorem f224_268 : fch 224 268 = some (.aload 1, 269, []) := by decide +kernel
theorem f224_269 : fch 224 269 = some (.invokevirtual 105, 272, []) := by decide +kernel
theorem f224_272 : fch 224 272 = some (.aload 2, 273, []) := by decide +kernel
theorem f224_273 : fch 224 273 = some (.invokevirtual 161, 276, []) := by decide +kernel
theorem f224_276 : fch 224 276 = some (.if_icmp .eq 1454, 279, []) := by decide +kernel
theorem f224_279 : fch 224 279 = some (.iconst 0, 280, []) := by decide +kernel
theorem f224_280 : fch 224 280 = some (.ireturn, 281, []) := by decide +kernel
theorem f224_281 : fch 224 281 = some (.aload 1, 282, []) := by decide +kernel
theorem f224_282 : fch 224 282 = some (.invokevirtual 106, 285, []) := by decide +kernel
theorem f224_285 : fch 224 285 = some (.aload 2, 286, []) := by decide +kernel
theorem f224_286 : fch 224 286 = some (.invokevirtual 162, 289, []) := by decide +kernel
theorem f224_289 : fch 224 289 = some (.if_icmp .eq 1454, 292, []) := by decide +kernel
theorem f224_292 : fch 224 292 = some (.iconst 0, 293, []) := by decide +kernel
theorem f224_293 : fch 224 293 = some (.ireturn, 294, []) := by decide +kernel
theorem f224_294 : fch 224 294 = some (.aload 1, 295, []) := by decide +kernel
theorem f224_295 : fch 224 295 = some (.aload 0, 296, []) := by decide +kernel
theorem f224_296 : fch 224 296 = some (.iload 3, 297, []) := by decide +kernel
theorem f224_297 : fch 224 297 = some (.iconst 1, 298, []) := by decide +kernel
theorem f224_298 : fch 224 298 = some (.iadd, 299, []) := by decide +kernel
theorem f224_299 : fch 224 299 = some (.faload, 300, []) := by decide +kernel
theorem f224_300 : fch 224 300 = some (.aload 0, 301, []) := by decide +kernel
theorem f224_301 : fch 224 301 = some (.iload 3, 302, []) := by decide +kernel
theorem f224_302 : fch 224 302 = some (.iconst 2, 303, []) := by decide +kernel
theorem f224_303 : fch 224 303 = some (.iadd, 304, []) := by decide +kernel
theorem f224_304 : fch 224 304 = some (.faload, 305, []) := by decide +kernel
theorem f224_305 : fch 224 305 = some (.aload 0, 306, []) := by decide +kernel
theorem f224_306 : fch 224 306 = some (.iload 3, 307, []) := by decide +kernel
theorem f224_307 : fch 224 307 = some (.iconst 3, 308, []) := by decide +kernel
theorem f224_308 : fch 224 308 = some (.iadd, 309, []) := by decide +kernel
theorem f224_309 : fch 224 309 = some (.faload, 310, []) := by decide +kernel
theorem f224_310 : fch 224 310 = some (.invokevirtual 107, 313, []) := by decide +kernel
theorem f224_313 : fch 224 313 = some (.aload 2, 314, []) := by decide +kernel
theorem f224_314 : fch 224 314 = some (.aload 0, 315, []) := by decide +kernel
theorem f224_315 : fch 224 315 = some (.iload 3, 316, []) := by decide +kernel
theorem f224_316 : fch 224 316 = some (.iconst 1, 317, []) := by decide +kernel
theorem f224_317 : fch 224 317 = some (.iadd, 318, []) := by decide +kernel
theorem f224_318 : fch 224 318 = some (.faload, 319, []) := by decide +kernel
theorem f224_319 : fch 224 319 = some (.aload 0, 320, []) := by decide +kernel
theorem f224_320 : fch 224 320 = some (.iload 3, 321, []) := by decide +kernel
theorem f224_321 : fch 224 321 = some (.iconst 2, 322, []) := by decide +kernel
theorem f224_322 : fch 224 322 = some (.iadd, 323, []) := by decide +kernel
theorem f224_323 : fch 224 323 = some (.faload, 324, []) := by decide +kernel
theorem f224_324 : fch 224 324 = some (.aload 0, 325, []) := by decide +kernel
theorem f224_325 : fch 224 325 = some (.iload 3, 326, []) := by decide +kernel
theorem f224_326 : fch 224 326 = some (.iconst 3, 327, []) := by decide +kernel
theorem f224_327 : fch 224 327 = some (.iadd, 328, []) := by decide +kernel
theorem f224_328 : fch 224 328 = some (.faload, 329, []) := by decide +kernel
theorem f224_329 : fch 224 329 = some (.invokevirtual 165, 332, []) := by decide +kernel
theorem f224_332 : fch 224 332 = some (.if_icmp .eq 1454, 335, []) := by decide +kernel
theorem f224_335 : fch 224 335 = some (.iconst 0, 336, []) := by decide +kernel
theorem f224_336 : fch 224 336 = some (.ireturn, 337, []) := by decide +kernel
theorem f224_337 : fch 224 337 = some (.aload 1, 338, []) := by decide +kernel
theorem f224_338 : fch 224 338 = some (.aload 0, 339, []) := by decide +kernel
theorem f224_339 : fch 224 339 = some (.iload 3, 340, []) := by decide +kernel
theorem f224_340 : fch 224 340 = some (.iconst 1, 341, []) := by decide +kernel
theorem f224_341 : fch 224 341 = some (.iadd, 342, []) := by decide +kernel
theorem f224_342 : fch 224 342 = some (.faload, 343, []) := by decide +kernel
theorem f224_343 : fch 224 343 = some (.invokevirtual 108, 346, []) := by decide +kernel
theorem f224_346 : fch 224 346 = some (.aload 2, 347, []) := by decide +kernel
theorem f224_347 : fch 224 347 = some (.aload 0, 348, []) := by decide +kernel
theorem f224_348 : fch 224 348 = some (.iload 3, 349, []) := by decide +kernel
theorem f224_349 : fch 224 349 = some (.iconst 1, 350, []) := by decide +kernel
theorem f224_350 : fch 224 350 = some (.iadd, 351, []) := by decide +kernel
theorem f224_351 : fch 224 351 = some (.faload, 352, []) := by decide +kernel
theorem f224_352 : fch 224 352 = some (.invokevirtual 166, 355, []) := by decide +kernel
theorem f224_355 : fch 224 355 = some (.if_icmp .eq 1454, 358, []) := by decide +kernel
theorem f224_358 : fch 224 358 = some (.iconst 0, 359, []) := by decide +kernel
theorem f224_359 : fch 224 359 = some (.ireturn, 360, []) := by decide +kernel
theorem f224_360 : fch 224 360 = some (.aload 1, 361, []) := by decide +kernel
theorem f224_361 : fch 224 361 = some (.aload 0, 362, []) := by decide +kernel
theorem f224_362 : fch 224 362 = some (.iload 3, 363, []) := by decide +kernel
theorem f224_363 : fch 224 363 = some (.iconst 1, 364, []) := by decide +kernel
theorem f224_364 : fch 224 364 = some (.iadd, 365, []) := by decide +kernel
theorem f224_365 : fch 224 365 = some (.faload, 366, []) := by decide +kernel
theorem f224_366 : fch 224 366 = some (.aload 0, 367, []) := by decide +kernel
theorem f224_367 : fch 224 367 = some (.iload 3, 368, []) := by decide +kernel
theorem f224_368 : fch 224 368 = some (.iconst 2, 369, []) := by decide +kernel
theorem f224_369 : fch 224 369 = some (.iadd, 370, []) := by decide +kernel
theorem f224_370 : fch 224 370 = some (.faload, 371, []) := by decide +kernel
theorem f224_371 : fch 224 371 = some (.aload 0, 372, []) := by decide +kernel
theorem f224_372 : fch 224 372 = some (.iload 3, 373, []) := by decide +kernel
theorem f224_373 : fch 224 373 = some (.iconst 3, 374, []) := by decide +kernel
theorem f224_374 : fch 224 374 = some (.iadd, 375, []) := by decide +kernel
theorem f224_375 : fch 224 375 = some (.faload, 376, []) := by decide +kernel
theorem f224_376 : fch 224 376 = some (.ifCond .eq 383, 379, []) := by decide +kernel
theorem f224_379 : fch 224 379 = some (.iconst 1, 380, []) := by decide +kernel
theorem f224_380 : fch 224 380 = some (.goto 384, 383, []) := by decide +kernel
theorem f224_383 : fch 224 383 = some (.iconst 0, 384, []) := by decide +kernel
theorem f224_384 : fch 224 384 = some (.invokevirtual 109, 387, []) := by decide +kernel
theorem f224_387 : fch 224 387 = some (.aload 2, 388, []) := by decide +kernel
theorem f224_388 : fch 224 388 = some (.aload 0, 389, []) := by decide +kernel
theorem f224_389 : fch 224 389 = some (.iload 3, 390, []) := by decide +kernel
theorem f224_390 : fch 224 390 = some (.iconst 1, 391, []) := by decide +kernel
theorem f224_391 : fch 224 391 = some (.iadd, 392, []) := by decide +kernel
theorem f224_392 : fch 224 392 = some (.faload, 393, []) := by decide +kernel
theorem f224_393 : fch 224 393 = some (.aload 0, 394, []) := by decide +kernel
theorem f224_394 : fch 224 394 = some (.iload 3, 395, []) := by decide +kernel
theorem f224_395 : fch 224 395 = some (.iconst 2, 396, []) := by decide +kernel
theorem f224_396 : fch 224 396 = some (.iadd, 397, []) := by decide +kernel
theorem f224_397 : fch 224 397 = some (.faload, 398, []) := by decide +kernel
theorem f224_398 : fch 224 398 = some (.aload 0, 399, []) := by decide +kernel
theorem f224_399 : fch 224 399 = some (.iload 3, 400, []) := by decide +kernel
theorem f224_400 : fch 224 400 = some (.iconst 3, 401, []) := by decide +kernel
theorem f224_401 : fch 224 401 = some (.iadd, 402, []) := by decide +kernel
theorem f224_402 : fch 224 402 = some (.faload, 403, []) := by decide +kernel
theorem f224_403 : fch 224 403 = some (.ifCond .eq 410, 406, []) := by decide +kernel
theorem f224_406 : fch 224 406 = some (.iconst 1, 407, []) := by decide +kernel
theorem f224_407 : fch 224 407 = some (.goto 411, 410, []) := by decide +kernel
theorem f224_410 : fch 224 410 = some (.iconst 0, 411, []) := by decide +kernel
theorem f224_411 : fch 224 411 = some (.invokevirtual 171, 414, []) := by decide +kernel
theorem f224_414 : fch 224 414 = some (.lcmp, 415, []) := by decide +kernel
theorem f224_415 : fch 224 415 = some (.ifCond .eq 1454, 418, []) := by decide +kernel
theorem f224_418 : fch 224 418 = some (.iconst 0, 419, []) := by decide +kernel
theorem f224_419 : fch 224 419 = some (.ireturn, 420, []) := by decide +kernel
theorem f224_420 : fch 224 420 = some (.aload 1, 421, []) := by decide +kernel
theorem f224_421 : fch 224 421 = some (.aload 0, 422, []) := by decide +kernel
theorem f224_422 : fch 224 422 = some (.iload 3, 423, []) := by decide +kernel
theorem f224_423 : fch 224 423 = some (.iconst 1, 424, []) := by decide +kernel
theorem f224_424 : fch 224 424 = some (.iadd, 425, []) := by decide +kernel
theorem f224_425 : fch 224 425 = some (.faload, 426, []) := by decide +kernel
theorem f224_426 : fch 224 426 = some (.aload 0, 427, []) := by decide +kernel
theorem f224_427 : fch 224 427 = some (.iload 3, 428, []) := by decide +kernel
theorem f224_428 : fch 224 428 = some (.iconst 2, 429, []) := by decide +kernel
theorem f224_429 : fch 224 429 = some (.iadd, 430, []) := by decide +kernel
theorem f224_430 : fch 224 430 = some (.faload, 431, []) := by decide +kernel
theorem f224_431 : fch 224 431 = some (.aload 0, 432, []) := by decide +kernel
theorem f224_432 : fch 224 432 = some (.iload 3, 433, []) := by decide +kernel
theorem f224_433 : fch 224 433 = some (.iconst 3, 434, []) := by decide +kernel
theorem f224_434 : fch 224 434 = some (.iadd, 435, []) := by decide +kernel
theorem f224_435 : fch 224 435 = some (.faload, 436, []) := by decide +kernel
theorem f224_436 : fch 224 436 = some (.ifCond .eq 443, 439, []) := by decide +kernel
theorem f224_439 : fch 224 439 = some (.iconst 1, 440, []) := by decide +kernel
theorem f224_440 : fch 224 440 = some (.goto 444, 443, []) := by decide +kernel
theorem f224_443 : fch 224 443 = some (.iconst 0, 444, []) := by decide +kernel
theorem f224_444 : fch 224 444 = some (.invokevirtual 110, 447, []) := by decide +kernel
theorem f224_447 : fch 224 447 = some (.aload 2, 448, []) := by decide +kernel
theorem f224_448 : fch 224 448 = some (.aload 0, 449, []) := by decide +kernel
theorem f224_449 : fch 224 449 = some (.iload 3, 450, []) := by decide +kernel
theorem f224_450 : fch 224 450 = some (.iconst 1, 451, []) := by decide +kernel
theorem f224_451 : fch 224 451 = some (.iadd, 452, []) := by decide +kernel
theorem f224_452 : fch 224 452 = some (.faload, 453, []) := by decide +kernel
theorem f224_453 : fch 224 453 = some (.aload 0, 454, []) := by decide +kernel
theorem f224_454 : fch 224 454 = some (.iload 3, 455, []) := by decide +kernel
theorem f224_455 : fch 224 455 = some (.iconst 2, 456, []) := by decide +kernel
theorem f224_456 : fch 224 456 = some (.iadd, 457, []) := by decide +kernel
theorem f224_457 : fch 224 457 = some (.faload, 458, []) := by decide +kernel
theorem f224_458 : fch 224 458 = some (.aload 0, 459, []) := by decide +kernel
theorem f224_459 : fch 224 459 = some (.iload 3, 460, []) := by decide +kernel
theorem f224_460 : fch 224 460 = some (.iconst 3, 461, []) := by decide +kernel
theorem f224_461 : fch 224 461 = some (.iadd, 462, []) := by decide +kernel
theorem f224_462 : fch 224 462 = some (.faload, 463, []) := by decide +kernel
theorem f224_463 : fch 224 463 = some (.ifCond .eq 470, 466, []) := by decide +kernel
theorem f224_466 : fch 224 466 = some (.iconst 1, 467, []) := by decide +kernel
theorem f224_467 : fch 224 467 = some (.goto 471, 470, []) := by decide +kernel
theorem f224_470 : fch 224 470 = some (.iconst 0, 471, []) := by decide +kernel
theorem f224_471 : fch 224 471 = some (.invokevirtual 172, 474, []) := by decide +kernel
theorem f224_474 : fch 224 474 = some (.lcmp, 475, []) := by decide +kernel
theorem f224_475 : fch 224 475 = some (.ifCond .eq 1454, 478, []) := by decide +kernel
theorem f224_478 : fch 224 478 = some (.iconst 0, 479, []) := by decide +kernel
theorem f224_479 : fch 224 479 = some (.ireturn, 480, []) := by decide +kernel
theorem f224_480 : fch 224 480 = some (.aload 1, 481, []) := by decide +kernel
theorem f224_481 : fch 224 481 = some (.aload 0, 482, []) := by decide +kernel
theorem f224_482 : fch 224 482 = some (.iload 3, 483, []) := by decide +kernel
theorem f224_483 : fch 224 483 = some (.iconst 1, 484, []) := by decide +kernel
theorem f224_484 : fch 224 484 = some (.iadd, 485, []) := by decide +kernel
theorem f224_485 : fch 224 485 = some (.faload, 486, []) := by decide +kernel
theorem f224_486 : fch 224 486 = some (.aload 0, 487, []) := by decide +kernel
theorem f224_487 : fch 224 487 = some (.iload 3, 488, []) := by decide +kernel
theorem f224_488 : fch 224 488 = some (.iconst 2, 489, []) := by decide +kernel
theorem f224_489 : fch 224 489 = some (.iadd, 490, []) := by decide +kernel
theorem f224_490 : fch 224 490 = some (.faload, 491, []) := by decide +kernel
theorem f224_491 : fch 224 491 = some (.invokevirtual 111, 494, []) := by decide +kernel
theorem f224_494 : fch 224 494 = some (.aload 2, 495, []) := by decide +kernel
theorem f224_495 : fch 224 495 = some (.aload 0, 496, []) := by decide +kernel
theorem f224_496 : fch 224 496 = some (.iload 3, 497, []) := by decide +kernel
theorem f224_497 : fch 224 497 = some (.iconst 1, 498, []) := by decide +kernel
theorem f224_498 : fch 224 498 = some (.iadd, 499, []) := by decide +kernel
theorem f224_499 : fch 224 499 = some (.faload, 500, []) := by decide +kernel
theorem f224_500 : fch 224 500 = some (.aload 0, 501, []) := by decide +kernel
theorem f224_501 : fch 224 501 = some (.iload 3, 502, []) := by decide +kernel
theorem f224_502 : fch 224 502 = some (.iconst 2, 503, []) := by decide +kernel
theorem f224_503 : fch 224 503 = some (.iadd, 504, []) := by decide +kernel
theorem f224_504 : fch 224 504 = some (.faload, 505, []) := by decide +kernel
theorem f224_505 : fch 224 505 = some (.invokevirtual 175, 508, []) := by decide +kernel
theorem f224_508 : fch 224 508 = some (.if_icmp .eq 1454, 511, []) := by decide +kernel
theorem f224_511 : fch 224 511 = some (.iconst 0, 512, []) := by decide +kernel
theorem f224_512 : fch 224 512 = some (.ireturn, 513, []) := by decide +kernel
theorem f224_513 : fch 224 513 = some (.aload 1, 514, []) := by decide +kernel
theorem f224_514 : fch 224 514 = some (.aload 0, 515, []) := by decide +kernel
theorem f224_515 : fch 224 515 = some (.iload 3, 516, []) := by decide +kernel
theorem f224_516 : fch 224 516 = some (.iconst 1, 517, []) := by decide +kernel
theorem f224_517 : fch 224 517 = some (.iadd, 518, []) := by decide +kernel
theorem f224_518 : fch 224 518 = some (.faload, 519, []) := by decide +kernel
theorem f224_519 : fch 224 519 = some (.aload 0, 520, []) := by decide +kernel
theorem f224_520 : fch 224 520 = some (.iload 3, 521, []) := by decide +kernel
theorem f224_521 : fch 224 521 = some (.iconst 2, 522, []) := by decide +kernel
theorem f224_522 : fch 224 522 = some (.iadd, 523, []) := by decide +kernel
theorem f224_523 : fch 224 523 = some (.faload, 524, []) := by decide +kernel
theorem f224_524 : fch 224 524 = some (.ifCond .eq 531, 527, []) := by decide +kernel
theorem f224_527 : fch 224 527 = some (.iconst 1, 528, []) := by decide +kernel
theorem f224_528 : fch 224 528 = some (.goto 532, 531, []) := by decide +kernel
theorem f224_531 : fch 224 531 = some (.iconst 0, 532, []) := by decide +kernel
theorem f224_532 : fch 224 532 = some (.invokevirtual 112, 535, []) := by decide +kernel
theorem f224_535 : fch 224 535 = some (.aload 2, 536, []) := by decide +kernel
theorem f224_536 : fch 224 536 = some (.aload 0, 537, []) := by decide +kernel
theorem f224_537 : fch 224 537 = some (.iload 3, 538, []) := by decide +kernel
theorem f224_538 : fch 224 538 = some (.iconst 1, 539, []) := by decide +kernel
theorem f224_539 : fch 224 539 = some (.iadd, 540, []) := by decide +kernel
theorem f224_540 : fch 224 540 = some (.faload, 541, []) := by decide +kernel
theorem f224_541 : fch 224 541 = some (.aload 0, 542, []) := by decide +kernel
theorem f224_542 : fch 224 542 = some (.iload 3, 543, []) := by decide +kernel
theorem f224_543 : fch 224 543 = some (.iconst 2, 544, []) := by decide +kernel
theorem f224_544 : fch 224 544 = some (.iadd, 545, []) := by decide +kernel
theorem f224_545 : fch 224 545 = some (.faload, 546, []) := by decide +kernel
theorem f224_546 : fch 224 546 = some (.ifCond .eq 553, 549, []) := by decide +kernel
theorem f224_549 : fch 224 549 = some (.iconst 1, 550, []) := by decide +kernel
theorem f224_550 : fch 224 550 = some (.goto 554, 553, []) := by decide +kernel
theorem f224_553 : fch 224 553 = some (.iconst 0, 554, []) := by decide +kernel
theorem f224_554 : fch 224 554 = some (.invokevirtual 176, 557, []) := by decide +kernel
theorem f224_557 : fch 224 557 = some (.lcmp, 558, []) := by decide +kernel
theorem f224_558 : fch 224 558 = some (.ifCond .eq 1454, 561, []) := by decide +kernel
theorem f224_561 : fch 224 561 = some (.iconst 0, 562, []) := by decide +kernel
theorem f224_562 : fch 224 562 = some (.ireturn, 563, []) := by decide +kernel
theorem f224_563 : fch 224 563 = some (.aload 1, 564, []) := by decide +kernel
theorem f224_564 : fch 224 564 = some (.invokevirtual 113, 567, []) := by decide +kernel
theorem f224_567 : fch 224 567 = some (.aload 2, 568, []) := by decide +kernel
theorem f224_568 : fch 224 568 = some (.invokevirtual 177, 571, []) := by decide +kernel
theorem f224_571 : fch 224 571 = some (.if_icmp .eq 1454, 574, []) := by decide +kernel
theorem f224_574 : fch 224 574 = some (.iconst 0, 575, []) := by decide +kernel
theorem f224_575 : fch 224 575 = some (.ireturn, 576, []) := by decide +kernel
theorem f224_576 : fch 224 576 = some (.aload 1, 577, []) := by decide +kernel
theorem f224_577 : fch 224 577 = some (.aload 0, 578, []) := by decide +kernel
theorem f224_578 : fch 224 578 = some (.iload 3, 579, []) := by decide +kernel
theorem f224_579 : fch 224 579 = some (.iconst 1, 580, []) := by decide +kernel
theorem f224_580 : fch 224 580 = some (.iadd, 581, []) := by decide +kernel
theorem f224_581 : fch 224 581 = some (.faload, 582, []) := by decide +kernel
theorem f224_582 : fch 224 582 = some (.aload 0, 583, []) := by decide +kernel
theorem f224_583 : fch 224 583 = some (.iload 3, 584, []) := by decide +kernel
theorem f224_584 : fch 224 584 = some (.iconst 2, 585, []) := by decide +kernel
theorem f224_585 : fch 224 585 = some (.iadd, 586, []) := by decide +kernel
theorem f224_586 : fch 224 586 = some (.faload, 587, []) := by decide +kernel
theorem f224_587 : fch 224 587 = some (.aload 0, 588, []) := by decide +kernel
theorem f224_588 : fch 224 588 = some (.iload 3, 589, []) := by decide +kernel
theorem f224_589 : fch 224 589 = some (.iconst 3, 590, []) := by decide +kernel
theorem f224_590 : fch 224 590 = some (.iadd, 591, []) := by decide +kernel
theorem f224_591 : fch 224 591 = some (.faload, 592, []) := by decide +kernel
theorem f224_592 : fch 224 592 = some (.aload 0, 593, []) := by decide +kernel
theorem f224_593 : fch 224 593 = some (.iload 3, 594, []) := by decide +kernel
theorem f224_594 : fch 224 594 = some (.iconst 4, 595, []) := by decide +kernel
theorem f224_595 : fch 224 595 = some (.iadd, 596, []) := by decide +kernel
theorem f224_596 : fch 224 596 = some (.faload, 597, []) := by decide +kernel
theorem f224_597 : fch 224 597 = some (.ifCond .eq 604, 600, []) := by decide +kernel
theorem f224_600 : fch 224 600 = some (.iconst 1, 601, []) := by decide +kernel
theorem f224_601 : fch 224 601 = some (.goto 605, 604, []) := by decide +kernel
theorem f224_604 : fch 224 604 = some (.iconst 0, 605, []) := by decide +kernel
theorem f224_605 : fch 224 605 = some (.invokevirtual 114, 608, []) := by decide +kernel
theorem f224_608 : fch 224 608 = some (.aload 2, 609, []) := by decide +kernel
theorem f224_609 : fch 224 609 = some (.aload 0, 610, []) := by decide +kernel
theorem f224_610 : fch 224 610 = some (.iload 3, 611, []) := by decide +kernel
theorem f224_611 : fch 224 611 = some (.iconst 1, 612, []) := by decide +kernel
theorem f224_612 : fch 224 612 = some (.iadd, 613, []) := by decide +kernel
theorem f224_613 : fch 224 613 = some (.faload, 614, []) := by decide +kernel
theorem f224_614 : fch 224 614 = some (.aload 0, 615, []) := by decide +kernel
theorem f224_615 : fch 224 615 = some (.iload 3, 616, []) := by decide +kernel
theorem f224_616 : fch 224 616 = some (.iconst 2, 617, []) := by decide +kernel
theorem f224_617 : fch 224 617 = some (.iadd, 618, []) := by decide +kernel
theorem f224_618 : fch 224 618 = some (.faload, 619, []) := by decide +kernel
theorem f224_619 : fch 224 619 = some (.aload 0, 620, []) := by decide +kernel
theorem f224_620 : fch 224 620 = some (.iload 3, 621, []) := by decide +kernel
theorem f224_621 : fch 224 621 = some (.iconst 3, 622, []) := by decide +kernel
theorem f224_622 : fch 224 622 = some (.iadd, 623, []) := by decide +kernel
theorem f224_623 : fch 224 623 = some (.faload, 624, []) := by decide +kernel
theorem f224_624 : fch 224 624 = some (.aload 0, 625, []) := by decide +kernel
theorem f224_625 : fch 224 625 = some (.iload 3, 626, []) := by decide +kernel
theorem f224_626 : fch 224 626 = some (.iconst 4, 627, []) := by decide +kernel
theorem f224_627 : fch 224 627 = some (.iadd, 628, []) := by decide +kernel
theorem f224_628 : fch 224 628 = some (.faload, 629, []) := by decide +kernel
theorem f224_629 : fch 224 629 = some (.ifCond .eq 636, 632, []) := by decide +kernel
theorem f224_632 : fch 224 632 = some (.iconst 1, 633, []) := by decide +kernel
theorem f224_633 : fch 224 633 = some (.goto 637, 636, []) := by decide +kernel
theorem f224_636 : fch 224 636 = some (.iconst 0, 637, []) := by decide +kernel
theorem f224_637 : fch 224 637 = some (.invokevirtual 178, 640, []) := by decide +kernel
theorem f224_640 : fch 224 640 = some (.lcmp, 641, []) := by decide +kernel
theorem f224_641 : fch 224 641 = some (.ifCond .eq 1454, 644, []) := by decide +kernel
theorem f224_644 : fch 224 644 = some (.iconst 0, 645, []) := by decide +kernel
theorem f224_645 : fch 224 645 = some (.ireturn, 646, []) := by decide +kernel
theorem f224_646 : fch 224 646 = some (.aload 1, 647, []) := by decide +kernel
theorem f224_647 : fch 224 647 = some (.aload 0, 648, []) := by decide +kernel
theorem f224_648 : fch 224 648 = some (.iload 3, 649, []) := by decide +kernel
theorem f224_649 : fch 224 649 = some (.iconst 1, 650, []) := by decide +kernel
theorem f224_650 : fch 224 650 = some (.iadd, 651, []) := by decide +kernel
theorem f224_651 : fch 224 651 = some (.faload, 652, []) := by decide +kernel
theorem f224_652 : fch 224 652 = some (.aload 0, 653, []) := by decide +kernel
theorem f224_653 : fch 224 653 = some (.iload 3, 654, []) := by decide +kernel
theorem f224_654 : fch 224 654 = some (.iconst 2, 655, []) := by decide +kernel
theorem f224_655 : fch 224 655 = some (.iadd, 656, []) := by decide +kernel
theorem f224_656 : fch 224 656 = some (.faload, 657, []) := by decide +kernel
theorem f224_657 : fch 224 657 = some (.invokevirtual 115, 660, []) := by decide +kernel
theorem f224_660 : fch 224 660 = some (.aload 2, 661, []) := by decide +kernel
theorem f224_661 : fch 224 661 = some (.aload 0, 662, []) := by decide +kernel
theorem f224_662 : fch 224 662 = some (.iload 3, 663, []) := by decide +kernel
theorem f224_663 : fch 224 663 = some (.iconst 1, 664, []) := by decide +kernel
theorem f224_664 : fch 224 664 = some (.iadd, 665, []) := by decide +kernel
theorem f224_665 : fch 224 665 = some (.faload, 666, []) := by decide +kernel
theorem f224_666 : fch 224 666 = some (.aload 0, 667, []) := by decide +kernel
theorem f224_667 : fch 224 667 = some (.iload 3, 668, []) := by decide +kernel
theorem f224_668 : fch 224 668 = some (.iconst 2, 669, []) := by decide +kernel
theorem f224_669 : fch 224 669 = some (.iadd, 670, []) := by decide +kernel
theorem f224_670 : fch 224 670 = some (.faload, 671, []) := by decide +kernel
theorem f224_671 : fch 224 671 = some (.invokevirtual 179, 674, []) := by decide +kernel
theorem f224_674 : fch 224 674 = some (.if_icmp .eq 1454, 677, []) := by decide +kernel
theorem f224_677 : fch 224 677 = some (.iconst 0, 678, []) := by decide +kernel
theorem f224_678 : fch 224 678 = some (.ireturn, 679, []) := by decide +kernel
theorem f224_679 : fch 224 679 = some (.aload 1, 680, []) := by decide +kernel
theorem f224_680 : fch 224 680 = some (.invokevirtual 116, 683, []) := by decide +kernel
theorem f224_683 : fch 224 683 = some (.aload 2, 684, []) := by decide +kernel
theorem f224_684 : fch 224 684 = some (.invokevirtual 180, 687, []) := by decide +kernel
theorem f224_687 : fch 224 687 = some (.if_icmp .eq 1454, 690, []) := by decide +kernel
theorem f224_690 : fch 224 690 = some (.iconst 0, 691, []) := by decide +kernel
theorem f224_691 : fch 224 691 = some (.ireturn, 692, []) := by decide +kernel
theorem f224_692 : fch 224 692 = some (.aload 1, 693, []) := by decide +kernel
theorem f224_693 : fch 224 693 = some (.aload 0, 694, []) := by decide +kernel
theorem f224_694 : fch 224 694 = some (.iload 3, 695, []) := by decide +kernel
theorem f224_695 : fch 224 695 = some (.iconst 1, 696, []) := by decide +kernel
theorem f224_696 : fch 224 696 = some (.iadd, 697, []) := by decide +kernel
theorem f224_697 : fch 224 697 = some (.faload, 698, []) := by decide +kernel
theorem f224_698 : fch 224 698 = some (.aload 0, 699, []) := by decide +kernel
theorem f224_699 : fch 224 699 = some (.iload 3, 700, []) := by decide +kernel
theorem f224_700 : fch 224 700 = some (.iconst 2, 701, []) := by decide +kernel
theorem f224_701 : fch 224 701 = some (.iadd, 702, []) := by decide +kernel
theorem f224_702 : fch 224 702 = some (.faload, 703, []) := by decide +kernel
theorem f224_703 : fch 224 703 = some (.ifCond .eq 710, 706, []) := by decide +kernel
theorem f224_706 : fch 224 706 = some (.iconst 1, 707, []) := by decide +kernel
theorem f224_707 : fch 224 707 = some (.goto 711, 710, []) := by decide +kernel
theorem f224_710 : fch 224 710 = some (.iconst 0, 711, []) := by decide +kernel
theorem f224_711 : fch 224 711 = some (.invokevirtual 117, 714, []) := by decide +kernel
theorem f224_714 : fch 224 714 = some (.aload 2, 715, []) := by decide +kernel
theorem f224_715 : fch 224 715 = some (.aload 0, 716, []) := by decide +kernel
theorem f224_716 : fch 224 716 = some (.iload 3, 717, []) := by decide +kernel
theorem f224_717 : fch 224 717 = some (.iconst 1, 718, []) := by decide +kernel
theorem f224_718 : fch 224 718 = some (.iadd, 719, []) := by decide +kernel
theorem f224_719 : fch 224 719 = some (.faload, 720, []) := by decide +kernel
theorem f224_720 : fch 224 720 = some (.aload 0, 721, []) := by decide +kernel
theorem f224_721 : fch 224 721 = some (.iload 3, 722, []) := by decide +kernel
theorem f224_722 : fch 224 722 = some (.iconst 2, 723, []) := by decide +kernel
theorem f224_723 : fch 224 723 = some (.iadd, 724, []) := by decide +kernel
theorem f224_724 : fch 224 724 = some (.faload, 725, []) := by decide +kernel
theorem f224_725 : fch 224 725 = some (.ifCond .eq 732, 728, []) := by decide +kernel
theorem f224_728 : fch 224 728 = some (.iconst 1, 729, []) := by decide +kernel
theorem f224_729 : fch 224 729 = some (.goto 733, 732, []) := by decide +kernel
theorem f224_732 : fch 224 732 = some (.iconst 0, 733, []) := by decide +kernel
theorem f224_733 : fch 224 733 = some (.invokevirtual 183, 736, []) := by decide +kernel
theorem f224_736 : fch 224 736 = some (.lcmp, 737, []) := by decide +kernel
theorem f224_737 : fch 224 737 = some (.ifCond .eq 1454, 740, []) := by decide +kernel
theorem f224_740 : fch 224 740 = some (.iconst 0, 741, []) := by decide +kernel
theorem f224_741 : fch 224 741 = some (.ireturn, 742, []) := by decide +kernel
theorem f224_742 : fch 224 742 = some (.aload 1, 743, []) := by decide +kernel
theorem f224_743 : fch 224 743 = some (.invokevirtual 118, 746, []) := by decide +kernel
theorem f224_746 : fch 224 746 = some (.aload 2, 747, []) := by decide +kernel
theorem f224_747 : fch 224 747 = some (.invokevirtual 184, 750, []) := by decide +kernel
theorem f224_750 : fch 224 750 = some (.if_icmp .eq 1454, 753, []) := by decide +kernel
theorem f224_753 : fch 224 753 = some (.iconst 0, 754, []) := by decide +kernel
theorem f224_754 : fch 224 754 = some (.ireturn, 755, []) := by decide +kernel
theorem f224_755 : fch 224 755 = some (.aload 1, 756, []) := by decide +kernel
theorem f224_756 : fch 224 756 = some (.invokevirtual 119, 759, []) := by decide +kernel
theorem f224_759 : fch 224 759 = some (.aload 2, 760, []) := by decide +kernel
theorem f224_760 : fch 224 760 = some (.invokevirtual 186, 763, []) := by decide +kernel
theorem f224_763 : fch 224 763 = some (.if_icmp .eq 1454, 766, []) := by decide +kernel
theorem f224_766 : fch 224 766 = some (.iconst 0, 767, []) := by decide +kernel
theorem f224_767 : fch 224 767 = some (.ireturn, 768, []) := by decide +kernel
theorem f224_768 : fch 224 768 = some (.aload 1, 769, []) := by decide +kernel
theorem f224_769 : fch 224 769 = some (.aload 0, 770, []) := by decide +kernel
theorem f224_770 : fch 224 770 = some (.iload 3, 771, []) := by decide +kernel
theorem f224_771 : fch 224 771 = some (.iconst 1, 772, []) := by decide +kernel
theorem f224_772 : fch 224 772 = some (.iadd, 773, []) := by decide +kernel
theorem f224_773 : fch 224 773 = some (.faload, 774, []) := by decide +kernel
theorem f224_774 : fch 224 774 = some (.aload 0, 775, []) := by decide +kernel
theorem f224_775 : fch 224 775 = some (.iload 3, 776, []) := by decide +kernel
theorem f224_776 : fch 224 776 = some (.iconst 2, 777, []) := by decide +kernel
theorem f224_777 : fch 224 777 = some (.iadd, 778, []) := by decide +kernel
theorem f224_778 : fch 224 778 = some (.faload, 779, []) := by decide +kernel
theorem f224_779 : fch 224 779 = some (.aload 0, 780, []) := by decide +kernel
theorem f224_780 : fch 224 780 = some (.iload 3, 781, []) := by decide +kernel
theorem f224_781 : fch 224 781 = some (.iconst 3, 782, []) := by decide +kernel
theorem f224_782 : fch 224 782 = some (.iadd, 783, []) := by decide +kernel
theorem f224_783 : fch 224 783 = some (.faload, 784, []) := by decide +kernel
theorem f224_784 : fch 224 784 = some (.aload 0, 785, []) := by decide +kernel
theorem f224_785 : fch 224 785 = some (.iload 3, 786, []) := by decide +kernel
theorem f224_786 : fch 224 786 = some (.iconst 4, 787, []) := by decide +kernel
theorem f224_787 : fch 224 787 = some (.iadd, 788, []) := by decide +kernel
theorem f224_788 : fch 224 788 = some (.faload, 789, []) := by decide +kernel
theorem f224_789 : fch 224 789 = some (.aload 0, 790, []) := by decide +kernel
theorem f224_790 : fch 224 790 = some (.iload 3, 791, []) := by decide +kernel
theorem f224_791 : fch 224 791 = some (.iconst 5, 792, []) := by decide +kernel
theorem f224_792 : fch 224 792 = some (.iadd, 793, []) := by decide +kernel
theorem f224_793 : fch 224 793 = some (.faload, 794, []) := by decide +kernel
theorem f224_794 : fch 224 794 = some (.aload 0, 795, []) := by decide +kernel
theorem f224_795 : fch 224 795 = some (.iload 3, 796, []) := by decide +kernel
theorem f224_796 : fch 224 796 = some (.iconst 6, 798, []) := by decide +kernel
theorem f224_798 : fch 224 798 = some (.iadd, 799, []) := by decide +kernel
theorem f224_799 : fch 224 799 = some (.faload, 800, []) := by decide +kernel
theorem f224_800 : fch 224 800 = some (.ifCond .eq 807, 803, []) := by decide +kernel
theorem f224_803 : fch 224 803 = some (.iconst 1, 804, []) := by decide +kernel
theorem f224_804 : fch 224 804 = some (.goto 808, 807, []) := by decide +kernel
theorem f224_807 : fch 224 807 = some (.iconst 0, 808, []) := by decide +kernel
theorem f224_808 : fch 224 808 = some (.invokevirtual 120, 811, []) := by decide +kernel
theorem f224_811 : fch 224 811 = some (.aload 2, 812, []) := by decide +kernel
theorem f224_812 : fch 224 812 = some (.aload 0, 813, []) := by decide +kernel
theorem f224_813 : fch 224 813 = some (.iload 3, 814, []) := by decide +kernel
theorem f224_814 : fch 224 814 = some (.iconst 1, 815, []) := by decide +kernel
theorem f224_815 : fch 224 815 = some (.iadd, 816, []) := by decide +kernel
theorem f224_816 : fch 224 816 = some (.faload, 817, []) := by decide +kernel
theorem f224_817 : fch 224 817 = some (.aload 0, 818, []) := by decide +kernel
theorem f224_818 : fch 224 818 = some (.iload 3, 819, []) := by decide +kernel
theorem f224_819 : fch 224 819 = some (.iconst 2, 820, []) := by decide +kernel
theorem f224_820 : fch 224 820 = some (.iadd, 821, []) := by decide +kernel
theorem f224_821 : fch 224 821 = some (.faload, 822, []) := by decide +kernel
theorem f224_822 : fch 224 822 = some (.aload 0, 823, []) := by decide +kernel
theorem f224_823 : fch 224 823 = some (.iload 3, 824, []) := by decide +kernel
theorem f224_824 : fch 224 824 = some (.iconst 3, 825, []) := by decide +kernel
theorem f224_825 : fch 224 825 = some (.iadd, 826, []) := by decide +kernel
theorem f224_826 : fch 224 826 = some (.faload, 827, []) := by decide +kernel
theorem f224_827 : fch 224 827 = some (.aload 0, 828, []) := by decide +kernel
theorem f224_828 : fch 224 828 = some (.iload 3, 829, []) := by decide +kernel
theorem f224_829 : fch 224 829 = some (.iconst 4, 830, []) := by decide +kernel
theorem f224_830 : fch 224 830 = some (.iadd, 831, []) := by decide +kernel
theorem f224_831 : fch 224 831 = some (.faload, 832, []) := by decide +kernel
theorem f224_832 : fch 224 832 = some (.aload 0, 833, []) := by decide +kernel
theorem f224_833 : fch 224 833 = some (.iload 3, 834, []) := by decide +kernel
theorem f224_834 : fch 224 834 = some (.iconst 5, 835, []) := by decide +kernel
theorem f224_835 : fch 224 835 = some (.iadd, 836, []) := by decide +kernel
theorem f224_836 : fch 224 836 = some (.faload, 837, []) := by decide +kernel
theorem f224_837 : fch 224 837 = some (.aload 0, 838, []) := by decide +kernel
theorem f224_838 : fch 224 838 = some (.iload 3, 839, []) := by decide +kernel
theorem f224_839 : fch 224 839 = some (.iconst 6, 841, []) := by decide +kernel
theorem f224_841 : fch 224 841 = some (.iadd, 842, []) := by decide +kernel
theorem f224_842 : fch 224 842 = some (.faload, 843, []) := by decide +kernel
theorem f224_843 : fch 224 843 = some (.ifCond .eq 850, 846, []) := by decide +kernel
theorem f224_846 : fch 224 846 = some (.iconst 1, 847, []) := by decide +kernel
theorem f224_847 : fch 224 847 = some (.goto 851, 850, []) := by decide +kernel
theorem f224_850 : fch 224 850 = some (.iconst 0, 851, []) := by decide +kernel
theorem f224_851 : fch 224 851 = some (.invokevirtual 193, 854, []) := by decide +kernel
theorem f224_854 : fch 224 854 = some (.lcmp, 855, []) := by decide +kernel
theorem f224_855 : fch 224 855 = some (.ifCond .eq 1454, 858, []) := by decide +kernel
theorem f224_858 : fch 224 858 = some (.iconst 0, 859, []) := by decide +kernel
theorem f224_859 : fch 224 859 = some (.ireturn, 860, []) := by decide +kernel
theorem f224_860 : fch 224 860 = some (.aload 1, 861, []) := by decide +kernel
theorem f224_861 : fch 224 861 = some (.aload 0, 862, []) := by decide +kernel
theorem f224_862 : fch 224 862 = some (.iload 3, 863, []) := by decide +kernel
theorem f224_863 : fch 224 863 = some (.iconst 1, 864, []) := by decide +kernel
theorem f224_864 : fch 224 864 = some (.iadd, 865, []) := by decide +kernel
theorem f224_865 : fch 224 865 = some (.faload, 866, []) := by decide +kernel
theorem f224_866 : fch 224 866 = some (.aload 0, 867, []) := by decide +kernel
theorem f224_867 : fch 224 867 = some (.iload 3, 868, []) := by decide +kernel
theorem f224_868 : fch 224 868 = some (.iconst 2, 869, []) := by decide +kernel
theorem f224_869 : fch 224 869 = some (.iadd, 870, []) := by decide +kernel
theorem f224_870 : fch 224 870 = some (.faload, 871, []) := by decide +kernel
theorem f224_871 : fch 224 871 = some (.aload 0, 872, []) := by decide +kernel
theorem f224_872 : fch 224 872 = some (.iload 3, 873, []) := by decide +kernel
theorem f224_873 : fch 224 873 = some (.iconst 3, 874, []) := by decide +kernel
theorem f224_874 : fch 224 874 = some (.iadd, 875, []) := by decide +kernel
theorem f224_875 : fch 224 875 = some (.faload, 876, []) := by decide +kernel
theorem f224_876 : fch 224 876 = some (.aload 0, 877, []) := by decide +kernel
theorem f224_877 : fch 224 877 = some (.iload 3, 878, []) := by decide +kernel
theorem f224_878 : fch 224 878 = some (.iconst 4, 879, []) := by decide +kernel
theorem f224_879 : fch 224 879 = some (.iadd, 880, []) := by decide +kernel
theorem f224_880 : fch 224 880 = some (.faload, 881, []) := by decide +kernel
theorem f224_881 : fch 224 881 = some (.aload 0, 882, []) := by decide +kernel
theorem f224_882 : fch 224 882 = some (.iload 3, 883, []) := by decide +kernel
theorem f224_883 : fch 224 883 = some (.iconst 5, 884, []) := by decide +kernel
theorem f224_884 : fch 224 884 = some (.iadd, 885, []) := by decide +kernel
theorem f224_885 : fch 224 885 = some (.faload, 886, []) := by decide +kernel
theorem f224_886 : fch 224 886 = some (.invokevirtual 121, 889, []) := by decide +kernel
theorem f224_889 : fch 224 889 = some (.aload 2, 890, []) := by decide +kernel
theorem f224_890 : fch 224 890 = some (.aload 0, 891, []) := by decide +kernel
theorem f224_891 : fch 224 891 = some (.iload 3, 892, []) := by decide +kernel
theorem f224_892 : fch 224 892 = some (.iconst 1, 893, []) := by decide +kernel
theorem f224_893 : fch 224 893 = some (.iadd, 894, []) := by decide +kernel
theorem f224_894 : fch 224 894 = some (.faload, 895, []) := by decide +kernel
theorem f224_895 : fch 224 895 = some (.aload 0, 896, []) := by decide +kernel
theorem f224_896 : fch 224 896 = some (.iload 3, 897, []) := by decide +kernel
theorem f224_897 : fch 224 897 = some (.iconst 2, 898, []) := by decide +kernel
theorem f224_898 : fch 224 898 = some (.iadd, 899, []) := by decide +kernel
theorem f224_899 : fch 224 899 = some (.faload, 900, []) := by decide +kernel
theorem f224_900 : fch 224 900 = some (.aload 0, 901, []) := by decide +kernel
theorem f224_901 : fch 224 901 = some (.iload 3, 902, []) := by decide +kernel
theorem f224_902 : fch 224 902 = some (.iconst 3, 903, []) := by decide +kernel
theorem f224_903 : fch 224 903 = some (.iadd, 904, []) := by decide +kernel
theorem f224_904 : fch 224 904 = some (.faload, 905, []) := by decide +kernel
theorem f224_905 : fch 224 905 = some (.aload 0, 906, []) := by decide +kernel
theorem f224_906 : fch 224 906 = some (.iload 3, 907, []) := by decide +kernel
theorem f224_907 : fch 224 907 = some (.iconst 4, 908, []) := by decide +kernel
theorem f224_908 : fch 224 908 = some (.iadd, 909, []) := by decide +kernel
theorem f224_909 : fch 224 909 = some (.faload, 910, []) := by decide +kernel
theorem f224_910 : fch 224 910 = some (.aload 0, 911, []) := by decide +kernel
theorem f224_911 : fch 224 911 = some (.iload 3, 912, []) := by decide +kernel
theorem f224_912 : fch 224 912 = some (.iconst 5, 913, []) := by decide +kernel
theorem f224_913 : fch 224 913 = some (.iadd, 914, []) := by decide +kernel
theorem f224_914 : fch 224 914 = some (.faload, 915, []) := by decide +kernel
theorem f224_915 : fch 224 915 = some (.invokevirtual 194, 918, []) := by decide +kernel
theorem f224_918 : fch 224 918 = some (.if_icmp .eq 1454, 921, []) := by decide +kernel
theorem f224_921 : fch 224 921 = some (.iconst 0, 922, []) := by decide +kernel
theorem f224_922 : fch 224 922 = some (.ireturn, 923, []) := by decide +kernel
theorem f224_923 : fch 224 923 = some (.aload 1, 924, []) := by decide +kernel
theorem f224_924 : fch 224 924 = some (.aload 0, 925, []) := by decide +kernel
theorem f224_925 : fch 224 925 = some (.iload 3, 926, []) := by decide +kernel
theorem f224_926 : fch 224 926 = some (.iconst 1, 927, []) := by decide +kernel
theorem f224_927 : fch 224 927 = some (.iadd, 928, []) := by decide +kernel
theorem f224_928 : fch 224 928 = some (.faload, 929, []) := by decide +kernel
theorem f224_929 : fch 224 929 = some (.invokevirtual 122, 932, []) := by decide +kernel
theorem f224_932 : fch 224 932 = some (.aload 2, 933, []) := by decide +kernel
theorem f224_933 : fch 224 933 = some (.aload 0, 934, []) := by decide +kernel
theorem f224_934 : fch 224 934 = some (.iload 3, 935, []) := by decide +kernel
theorem f224_935 : fch 224 935 = some (.iconst 1, 936, []) := by decide +kernel
theorem f224_936 : fch 224 936 = some (.iadd, 937, []) := by decide +kernel
theorem f224_937 : fch 224 937 = some (.faload, 938, []) := by decide +kernel
theorem f224_938 : fch 224 938 = some (.invokevirtual 196, 941, []) := by decide +kernel
theorem f224_941 : fch 224 941 = some (.if_icmp .eq 1454, 944, []) := by decide +kernel
theorem f224_944 : fch 224 944 = some (.iconst 0, 945, []) := by decide +kernel
theorem f224_945 : fch 224 945 = some (.ireturn, 946, []) := by decide +kernel
theorem f224_946 : fch 224 946 = some (.aload 1, 947, []) := by decide +kernel
theorem f224_947 : fch 224 947 = some (.aload 0, 948, []) := by decide +kernel
theorem f224_948 : fch 224 948 = some (.iload 3, 949, []) := by decide +kernel
theorem f224_949 : fch 224 949 = some (.iconst 1, 950, []) := by decide +kernel
theorem f224_950 : fch 224 950 = some (.iadd, 951, []) := by decide +kernel
theorem f224_951 : fch 224 951 = some (.faload, 952, []) := by decide +kernel
theorem f224_952 : fch 224 952 = some (.aload 0, 953, []) := by decide +kernel
theorem f224_953 : fch 224 953 = some (.iload 3, 954, []) := by decide +kernel
theorem f224_954 : fch 224 954 = some (.iconst 2, 955, []) := by decide +kernel
theorem f224_955 : fch 224 955 = some (.iadd, 956, []) := by decide +kernel
theorem f224_956 : fch 224 956 = some (.faload, 957, []) := by decide +kernel
theorem f224_957 : fch 224 957 = some (.invokevirtual 123, 960, []) := by decide +kernel
theorem f224_960 : fch 224 960 = some (.aload 2, 961, []) := by decide +kernel
theorem f224_961 : fch 224 961 = some (.aload 0, 962, []) := by decide +kernel
theorem f224_962 : fch 224 962 = some (.iload 3, 963, []) := by decide +kernel
theorem f224_963 : fch 224 963 = some (.iconst 1, 964, []) := by decide +kernel
theorem f224_964 : fch 224 964 = some (.iadd, 965, []) := by decide +kernel
theorem f224_965 : fch 224 965 = some (.faload, 966, []) := by decide +kernel
theorem f224_966 : fch 224 966 = some (.aload 0, 967, []) := by decide +kernel
theorem f224_967 : fch 224 967 = some (.iload 3, 968, []) := by decide +kernel
theorem f224_968 : fch 224 968 = some (.iconst 2, 969, []) := by decide +kernel
theorem f224_969 : fch 224 969 = some (.iadd, 970, []) := by decide +kernel
theorem f224_970 : fch 224 970 = some (.faload, 971, []) := by decide +kernel
theorem f224_971 : fch 224 971 = some (.invokevirtual 197, 974, []) := by decide +kernel
theorem f224_974 : fch 224 974 = some (.if_icmp .eq 1454, 977, []) := by decide +kernel
theorem f224_977 : fch 224 977 = some (.iconst 0, 978, []) := by decide +kernel
theorem f224_978 : fch 224 978 = some (.ireturn, 979, []) := by decide +kernel
theorem f224_979 : fch 224 979 = some (.aload 1, 980, []) := by decide +kernel
theorem f224_980 : fch 224 980 = some (.aload 0, 981, []) := by decide +kernel
theorem f224_981 : fch 224 981 = some (.iload 3, 982, []) := by decide +kernel
theorem f224_982 : fch 224 982 = some (.iconst 1, 983, []) := by decide +kernel
theorem f224_983 : fch 224 983 = some (.iadd, 984, []) := by decide +kernel
theorem f224_984 : fch 224 984 = some (.faload, 985, []) := by decide +kernel
theorem f224_985 : fch 224 985 = some (.aload 0, 986, []) := by decide +kernel
theorem f224_986 : fch 224 986 = some (.iload 3, 987, []) := by decide +kernel
theorem f224_987 : fch 224 987 = some (.iconst 2, 988, []) := by decide +kernel
theorem f224_988 : fch 224 988 = some (.iadd, 989, []) := by decide +kernel
theorem f224_989 : fch 224 989 = some (.faload, 990, []) := by decide +kernel
theorem f224_990 : fch 224 990 = some (.invokevirtual 124, 993, []) := by decide +kernel
theorem f224_993 : fch 224 993 = some (.aload 2, 994, []) := by decide +kernel
theorem f224_994 : fch 224 994 = some (.aload 0, 995, []) := by decide +kernel
theorem f224_995 : fch 224 995 = some (.iload 3, 996, []) := by decide +kernel
theorem f224_996 : fch 224 996 = some (.iconst 1, 997, []) := by decide +kernel
theorem f224_997 : fch 224 997 = some (.iadd, 998, []) := by decide +kernel
theorem f224_998 : fch 224 998 = some (.faload, 999, []) := by decide +kernel
theorem f224_999 : fch 224 999 = some (.aload 0, 1000, []) := by decide +kernel
theorem f224_1000 : fch 224 1000 = some (.iload 3, 1001, []) := by decide +kernel
theorem f224_1001 : fch 224 1001 = some (.iconst 2, 1002, []) := by decide +kernel
theorem f224_1002 : fch 224 1002 = some (.iadd, 1003, []) := by decide +kernel
theorem f224_1003 : fch 224 1003 = some (.faload, 1004, []) := by decide +kernel
theorem f224_1004 : fch 224 1004 = some (.invokevirtual 198, 1007, []) := by decide +kernel
theorem f224_1007 : fch 224 1007 = some (.if_icmp .eq 1454, 1010, []) := by decide +kernel
theorem f224_1010 : fch 224 1010 = some (.iconst 0, 1011, []) := by decide +kernel
theorem f224_1011 : fch 224 1011 = some (.ireturn, 1012, []) := by decide +kernel
theorem f224_1012 : fch 224 1012 = some (.aload 1, 1013, []) := by decide +kernel
theorem f224_1013 : fch 224 1013 = some (.aload 0, 1014, []) := by decide +kernel
theorem f224_1014 : fch 224 1014 = some (.iload 3, 1015, []) := by decide +kernel
theorem f224_1015 : fch 224 1015 = some (.iconst 1, 1016, []) := by decide +kernel
theorem f224_1016 : fch 224 1016 = some (.iadd, 1017, []) := by decide +kernel
theorem f224_1017 : fch 224 1017 = some (.faload, 1018, []) := by decide +kernel
theorem f224_1018 : fch 224 1018 = some (.aload 0, 1019, []) := by decide +kernel
theorem f224_1019 : fch 224 1019 = some (.iload 3, 1020, []) := by decide +kernel
theorem f224_1020 : fch 224 1020 = some (.iconst 2, 1021, []) := by decide +kernel
theorem f224_1021 : fch 224 1021 = some (.iadd, 1022, []) := by decide +kernel
theorem f224_1022 : fch 224 1022 = some (.faload, 1023, []) := by decide +kernel
theorem f224_1023 : fch 224 1023 = some (.aload 0, 1024, []) := by decide +kernel
theorem f224_1024 : fch 224 1024 = some (.iload 3, 1025, []) := by decide +kernel
theorem f224_1025 : fch 224 1025 = some (.iconst 3, 1026, []) := by decide +kernel
theorem f224_1026 : fch 224 1026 = some (.iadd, 1027, []) := by decide +kernel
theorem f224_1027 : fch 224 1027 = some (.faload, 1028, []) := by decide +kernel
theorem f224_1028 : fch 224 1028 = some (.invokevirtual 125, 1031, []) := by decide +kernel
theorem f224_1031 : fch 224 1031 = some (.aload 2, 1032, []) := by decide +kernel
theorem f224_1032 : fch 224 1032 = some (.aload 0, 1033, []) := by decide +kernel
theorem f224_1033 : fch 224 1033 = some (.iload 3, 1034, []) := by decide +kernel
theorem f224_1034 : fch 224 1034 = some (.iconst 1, 1035, []) := by decide +kernel
theorem f224_1035 : fch 224 1035 = some (.iadd, 1036, []) := by decide +kernel
theorem f224_1036 : fch 224 1036 = some (.faload, 1037, []) := by decide +kernel
theorem f224_1037 : fch 224 1037 = some (.aload 0, 1038, []) := by decide +kernel
theorem f224_1038 : fch 224 1038 = some (.iload 3, 1039, []) := by decide +kernel
theorem f224_1039 : fch 224 1039 = some (.iconst 2, 1040, []) := by decide +kernel
theorem f224_1040 : fch 224 1040 = some (.iadd, 1041, []) := by decide +kernel
theorem f224_1041 : fch 224 1041 = some (.faload, 1042, []) := by decide +kernel
theorem f224_1042 : fch 224 1042 = some (.aload 0, 1043, []) := by decide +kernel
theorem f224_1043 : fch 224 1043 = some (.iload 3, 1044, []) := by decide +kernel
theorem f224_1044 : fch 224 1044 = some (.iconst 3, 1045, []) := by decide +kernel
theorem f224_1045 : fch 224 1045 = some (.iadd, 1046, []) := by decide +kernel
theorem f224_1046 : fch 224 1046 = some (.faload, 1047, []) := by decide +kernel
theorem f224_1047 : fch 224 1047 = some (.invokevirtual 199, 1050, []) := by decide +kernel
theorem f224_1050 : fch 224 1050 = some (.if_icmp .eq 1454, 1053, []) := by decide +kernel
theorem f224_1053 : fch 224 1053 = some (.iconst 0, 1054, []) := by decide +kernel
theorem f224_1054 : fch 224 1054 = some (.ireturn, 1055, []) := by decide +kernel
theorem f224_1055 : fch 224 1055 = some (.aload 1, 1056, []) := by decide +kernel
theorem f224_1056 : fch 224 1056 = some (.aload 0, 1057, []) := by decide +kernel
theorem f224_1057 : fch 224 1057 = some (.iload 3, 1058, []) := by decide +kernel
theorem f224_1058 : fch 224 1058 = some (.iconst 1, 1059, []) := by decide +kernel
theorem f224_1059 : fch 224 1059 = some (.iadd, 1060, []) := by decide +kernel
theorem f224_1060 : fch 224 1060 = some (.faload, 1061, []) := by decide +kernel
theorem f224_1061 : fch 224 1061 = some (.aload 0, 1062, []) := by decide +kernel
theorem f224_1062 : fch 224 1062 = some (.iload 3, 1063, []) := by decide +kernel
theorem f224_1063 : fch 224 1063 = some (.iconst 2, 1064, []) := by decide +kernel
theorem f224_1064 : fch 224 1064 = some (.iadd, 1065, []) := by decide +kernel
theorem f224_1065 : fch 224 1065 = some (.faload, 1066, []) := by decide +kernel
theorem f224_1066 : fch 224 1066 = some (.aload 0, 1067, []) := by decide +kernel
theorem f224_1067 : fch 224 1067 = some (.iload 3, 1068, []) := by decide +kernel
theorem f224_1068 : fch 224 1068 = some (.iconst 3, 1069, []) := by decide +kernel
theorem f224_1069 : fch 224 1069 = some (.iadd, 1070, []) := by decide +kernel
theorem f224_1070 : fch 224 1070 = some (.faload, 1071, []) := by decide +kernel
theorem f224_1071 : fch 224 1071 = some (.invokevirtual 126, 1074, []) := by decide +kernel
theorem f224_1074 : fch 224 1074 = some (.aload 2, 1075, []) := by decide +kernel
theorem f224_1075 : fch 224 1075 = some (.aload 0, 1076, []) := by decide +kernel
theorem f224_1076 : fch 224 1076 = some (.iload 3, 1077, []) := by decide +kernel
theorem f224_1077 : fch 224 1077 = some (.iconst 1, 1078, []) := by decide +kernel
theorem f224_1078 : fch 224 1078 = some (.iadd, 1079, []) := by decide +kernel
theorem f224_1079 : fch 224 1079 = some (.faload, 1080, []) := by decide +kernel
theorem f224_1080 : fch 224 1080 = some (.aload 0, 1081, []) := by decide +kernel
theorem f224_1081 : fch 224 1081 = some (.iload 3, 1082, []) := by decide +kernel
theorem f224_1082 : fch 224 1082 = some (.iconst 2, 1083, []) := by decide +kernel
theorem f224_1083 : fch 224 1083 = some (.iadd, 1084, []) := by decide +kernel
theorem f224_1084 : fch 224 1084 = some (.faload, 1085, []) := by decide +kernel
theorem f224_1085 : fch 224 1085 = some (.aload 0, 1086, []) := by decide +kernel
theorem f224_1086 : fch 224 1086 = some (.iload 3, 1087, []) := by decide +kernel
theorem f224_1087 : fch 224 1087 = some (.iconst 3, 1088, []) := by decide +kernel
theorem f224_1088 : fch 224 1088 = some (.iadd, 1089, []) := by decide +kernel
theorem f224_1089 : fch 224 1089 = some (.faload, 1090, []) := by decide +kernel
theorem f224_1090 : fch 224 1090 = some (.invokevirtual 200, 1093, []) := by decide +kernel
theorem f224_1093 : fch 224 1093 = some (.if_icmp .eq 1454, 1096, []) := by decide +kernel
theorem f224_1096 : fch 224 1096 = some (.iconst 0, 1097, []) := by decide +kernel
theorem f224_1097 : fch 224 1097 = some (.ireturn, 1098, []) := by decide +kernel
theorem f224_1098 : fch 224 1098 = some (.aload 1, 1099, []) := by decide +kernel
theorem f224_1099 : fch 224 1099 = some (.invokevirtual 127, 1102, []) := by decide +kernel
theorem f224_1102 : fch 224 1102 = some (.aload 2, 1103, []) := by decide +kernel
theorem f224_1103 : fch 224 1103 = some (.invokevirtual 201, 1106, []) := by decide +kernel
theorem f224_1106 : fch 224 1106 = some (.if_icmp .eq 1454, 1109, []) := by decide +kernel
theorem f224_1109 : fch 224 1109 = some (.iconst 0, 1110, []) := by decide +kernel
theorem f224_1110 : fch 224 1110 = some (.ireturn, 1111, []) := by decide +kernel
theorem f224_1111 : fch 224 1111 = some (.aload 1, 1112, []) := by decide +kernel
theorem f224_1112 : fch 224 1112 = some (.aload 0, 1113, []) := by decide +kernel
theorem f224_1113 : fch 224 1113 = some (.iload 3, 1114, []) := by decide +kernel
theorem f224_1114 : fch 224 1114 = some (.iconst 1, 1115, []) := by decide +kernel
theorem f224_1115 : fch 224 1115 = some (.iadd, 1116, []) := by decide +kernel
theorem f224_1116 : fch 224 1116 = some (.faload, 1117, []) := by decide +kernel
theorem f224_1117 : fch 224 1117 = some (.aload 0, 1118, []) := by decide +kernel
theorem f224_1118 : fch 224 1118 = some (.iload 3, 1119, []) := by decide +kernel
theorem f224_1119 : fch 224 1119 = some (.iconst 2, 1120, []) := by decide +kernel
theorem f224_1120 : fch 224 1120 = some (.iadd, 1121, []) := by decide +kernel
theorem f224_1121 : fch 224 1121 = some (.faload, 1122, []) := by decide +kernel
theorem f224_1122 : fch 224 1122 = some (.aload 0, 1123, []) := by decide +kernel
theorem f224_1123 : fch 224 1123 = some (.iload 3, 1124, []) := by decide +kernel
theorem f224_1124 : fch 224 1124 = some (.iconst 3, 1125, []) := by decide +kernel
theorem f224_1125 : fch 224 1125 = some (.iadd, 1126, []) := by decide +kernel
theorem f224_1126 : fch 224 1126 = some (.faload, 1127, []) := by decide +kernel
theorem f224_1127 : fch 224 1127 = some (.invokevirtual 128, 1130, []) := by decide +kernel
theorem f224_1130 : fch 224 1130 = some (.aload 2, 1131, []) := by decide +kernel
theorem f224_1131 : fch 224 1131 = some (.aload 0, 1132, []) := by decide +kernel
theorem f224_1132 : fch 224 1132 = some (.iload 3, 1133, []) := by decide +kernel
theorem f224_1133 : fch 224 1133 = some (.iconst 1, 1134, []) := by decide +kernel
theorem f224_1134 : fch 224 1134 = some (.iadd, 1135, []) := by decide +kernel
theorem f224_1135 : fch 224 1135 = some (.faload, 1136, []) := by decide +kernel
theorem f224_1136 : fch 224 1136 = some (.aload 0, 1137, []) := by decide +kernel
theorem f224_1137 : fch 224 1137 = some (.iload 3, 1138, []) := by decide +kernel
theorem f224_1138 : fch 224 1138 = some (.iconst 2, 1139, []) := by decide +kernel
theorem f224_1139 : fch 224 1139 = some (.iadd, 1140, []) := by decide +kernel
theorem f224_1140 : fch 224 1140 = some (.faload, 1141, []) := by decide +kernel
theorem f224_1141 : fch 224 1141 = some (.aload 0, 1142, []) := by decide +kernel
theorem f224_1142 : fch 224 1142 = some (.iload 3, 1143, []) := by decide +kernel
theorem f224_1143 : fch 224 1143 = some (.iconst 3, 1144, []) := by decide +kernel
theorem f224_1144 : fch 224 1144 = some (.iadd, 1145, []) := by decide +kernel
theorem f224_1145 : fch 224 1145 = some (.faload, 1146, []) := by decide +kernel
theorem f224_1146 : fch 224 1146 = some (.invokevirtual 207, 1149, []) := by decide +kernel
theorem f224_1149 : fch 224 1149 = some (.if_icmp .eq 1454, 1152, []) := by decide +kernel
theorem f224_1152 : fch 224 1152 = some (.iconst 0, 1153, []) := by decide +kernel
theorem f224_1153 : fch 224 1153 = some (.ireturn, 1154, []) := by decide +kernel
theorem f224_1154 : fch 224 1154 = some (.aload 1, 1155, []) := by decide +kernel
theorem f224_1155 : fch 224 1155 = some (.aload 0, 1156, []) := by decide +kernel
theorem f224_1156 : fch 224 1156 = some (.iload 3, 1157, []) := by decide +kernel
theorem f224_1157 : fch 224 1157 = some (.iconst 1, 1158, []) := by decide +kernel
theorem f224_1158 : fch 224 1158 = some (.iadd, 1159, []) := by decide +kernel
theorem f224_1159 : fch 224 1159 = some (.faload, 1160, []) := by decide +kernel
theorem f224_1160 : fch 224 1160 = some (.invokevirtual 129, 1163, []) := by decide +kernel
theorem f224_1163 : fch 224 1163 = some (.aload 2, 1164, []) := by decide +kernel
theorem f224_1164 : fch 224 1164 = some (.aload 0, 1165, []) := by decide +kernel
theorem f224_1165 : fch 224 1165 = some (.iload 3, 1166, []) := by decide +kernel
theorem f224_1166 : fch 224 1166 = some (.iconst 1, 1167, []) := by decide +kernel
theorem f224_1167 : fch 224 1167 = some (.iadd, 1168, []) := by decide +kernel
theorem f224_1168 : fch 224 1168 = some (.faload, 1169, []) := by decide +kernel
theorem f224_1169 : fch 224 1169 = some (.invokevirtual 210, 1172, []) := by decide +kernel
theorem f224_1172 : fch 224 1172 = some (.if_icmp .eq 1454, 1175, []) := by decide +kernel
theorem f224_1175 : fch 224 1175 = some (.iconst 0, 1176, []) := by decide +kernel
theorem f224_1176 : fch 224 1176 = some (.ireturn, 1177, []) := by decide +kernel
theorem f224_1177 : fch 224 1177 = some (.aload 1, 1178, []) := by decide +kernel
theorem f224_1178 : fch 224 1178 = some (.aload 0, 1179, []) := by decide +kernel
theorem f224_1179 : fch 224 1179 = some (.iload 3, 1180, []) := by decide +kernel
theorem f224_1180 : fch 224 1180 = some (.iconst 1, 1181, []) := by decide +kernel
theorem f224_1181 : fch 224 1181 = some (.iadd, 1182, []) := by decide +kernel
theorem f224_1182 : fch 224 1182 = some (.faload, 1183, []) := by decide +kernel
theorem f224_1183 : fch 224 1183 = some (.invokevirtual 130, 1186, []) := by decide +kernel
theorem f224_1186 : fch 224 1186 = some (.aload 2, 1187, []) := by decide +kernel
theorem f224_1187 : fch 224 1187 = some (.aload 0, 1188, []) := by decide +kernel
theorem f224_1188 : fch 224 1188 = some (.iload 3, 1189, []) := by decide +kernel
theorem f224_1189 : fch 224 1189 = some (.iconst 1, 1190, []) := by decide +kernel
theorem f224_1190 : fch 224 1190 = some (.iadd, 1191, []) := by decide +kernel
theorem f224_1191 : fch 224 1191 = some (.faload, 1192, []) := by decide +kernel
theorem f224_1192 : fch 224 1192 = some (.invokevirtual 212, 1195, []) := by decide +kernel
theorem f224_1195 : fch 224 1195 = some (.if_icmp .eq 1454, 1198, []) := by decide +kernel
theorem f224_1198 : fch 224 1198 = some (.iconst 0, 1199, []) := by decide +kernel
theorem f224_1199 : fch 224 1199 = some (.ireturn, 1200, []) := by decide +kernel
theorem f224_1200 : fch 224 1200 = some (.aload 1, 1201, []) := by decide +kernel
theorem f224_1201 : fch 224 1201 = some (.aload 0, 1202, []) := by decide +kernel
theorem f224_1202 : fch 224 1202 = some (.iload 3, 1203, []) := by decide +kernel
theorem f224_1203 : fch 224 1203 = some (.iconst 1, 1204, []) := by decide +kernel
theorem f224_1204 : fch 224 1204 = some (.iadd, 1205, []) := by decide +kernel
theorem f224_1205 : fch 224 1205 = some (.faload, 1206, []) := by decide +kernel
theorem f224_1206 : fch 224 1206 = some (.invokevirtual 131, 1209, []) := by decide +kernel
theorem f224_1209 : fch 224 1209 = some (.aload 2, 1210, []) := by decide +kernel
theorem f224_1210 : fch 224 1210 = some (.aload 0, 1211, []) := by decide +kernel
theorem f224_1211 : fch 224 1211 = some (.iload 3, 1212, []) := by decide +kernel
theorem f224_1212 : fch 224 1212 = some (.iconst 1, 1213, []) := by decide +kernel
theorem f224_1213 : fch 224 1213 = some (.iadd, 1214, []) := by decide +kernel
theorem f224_1214 : fch 224 1214 = some (.faload, 1215, []) := by decide +kernel
theorem f224_1215 : fch 224 1215 = some (.invokevirtual 213, 1218, []) := by decide +kernel
theorem f224_1218 : fch 224 1218 = some (.if_icmp .eq 1454, 1221, []) := by decide +kernel
theorem f224_1221 : fch 224 1221 = some (.iconst 0, 1222, []) := by decide +kernel
theorem f224_1222 : fch 224 1222 = some (.ireturn, 1223, []) := by decide +kernel
theorem f224_1223 : fch 224 1223 = some (.aload 1, 1224, []) := by decide +kernel
theorem f224_1224 : fch 224 1224 = some (.aload 0, 1225, []) := by decide +kernel
theorem f224_1225 : fch 224 1225 = some (.iload 3, 1226, []) := by decide +kernel
theorem f224_1226 : fch 224 1226 = some (.iconst 1, 1227, []) := by decide +kernel
theorem f224_1227 : fch 224 1227 = some (.iadd, 1228, []) := by decide +kernel
theorem f224_1228 : fch 224 1228 = some (.faload, 1229, []) := by decide +kernel
theorem f224_1229 : fch 224 1229 = some (.invokevirtual 132, 1232, []) := by decide +kernel
theorem f224_1232 : fch 224 1232 = some (.aload 2, 1233, []) := by decide +kernel
theorem f224_1233 : fch 224 1233 = some (.aload 0, 1234, []) := by decide +kernel
theorem f224_1234 : fch 224 1234 = some (.iload 3, 1235, []) := by decide +kernel
theorem f224_1235 : fch 224 1235 = some (.iconst 1, 1236, []) := by decide +kernel
theorem f224_1236 : fch 224 1236 = some (.iadd, 1237, []) := by decide +kernel
theorem f224_1237 : fch 224 1237 = some (.faload, 1238, []) := by decide +kernel
theorem f224_1238 : fch 224 1238 = some (.invokevirtual 214, 1241, []) := by decide +kernel
theorem f224_1241 : fch 224 1241 = some (.if_icmp .eq 1454, 1244, []) := by decide +kernel
theorem f224_1244 : fch 224 1244 = some (.iconst 0, 1245, []) := by decide +kernel
theorem f224_1245 : fch 224 1245 = some (.ireturn, 1246, []) := by decide +kernel
theorem f224_1246 : fch 224 1246 = some (.aload 1, 1247, []) := by decide +kernel
theorem f224_1247 : fch 224 1247 = some (.aload 0, 1248, []) := by decide +kernel
theorem f224_1248 : fch 224 1248 = some (.iload 3, 1249, []) := by decide +kernel
theorem f224_1249 : fch 224 1249 = some (.iconst 1, 1250, []) := by decide +kernel
theorem f224_1250 : fch 224 1250 = some (.iadd, 1251, []) := by decide +kernel
theorem f224_1251 : fch 224 1251 = some (.faload, 1252, []) := by decide +kernel
theorem f224_1252 : fch 224 1252 = some (.aload 0, 1253, []) := by decide +kernel
theorem f224_1253 : fch 224 1253 = some (.iload 3, 1254, []) := by decide +kernel
theorem f224_1254 : fch 224 1254 = some (.iconst 2, 1255, []) := by decide +kernel
theorem f224_1255 : fch 224 1255 = some (.iadd, 1256, []) := by decide +kernel
theorem f224_1256 : fch 224 1256 = some (.faload, 1257, []) := by decide +kernel
theorem f224_1257 : fch 224 1257 = some (.aload 0, 1258, []) := by decide +kernel
theorem f224_1258 : fch 224 1258 = some (.iload 3, 1259, []) := by decide +kernel
theorem f224_1259 : fch 224 1259 = some (.iconst 3, 1260, []) := by decide +kernel
theorem f224_1260 : fch 224 1260 = some (.iadd, 1261, []) := by decide +kernel
theorem f224_1261 : fch 224 1261 = some (.faload, 1262, []) := by decide +kernel
theorem f224_1262 : fch 224 1262 = some (.aload 0, 1263, []) := by decide +kernel
theorem f224_1263 : fch 224 1263 = some (.iload 3, 1264, []) := by decide +kernel
theorem f224_1264 : fch 224 1264 = some (.iconst 4, 1265, []) := by decide +kernel
theorem f224_1265 : fch 224 1265 = some (.iadd, 1266, []) := by decide +kernel
theorem f224_1266 : fch 224 1266 = some (.faload, 1267, []) := by decide +kernel
theorem f224_1267 : fch 224 1267 = some (.invokevirtual 133, 1270, []) := by decide +kernel
theorem f224_1270 : fch 224 1270 = some (.aload 2, 1271, []) := by decide +kernel
theorem f224_1271 : fch 224 1271 = some (.aload 0, 1272, []) := by decide +kernel
theorem f224_1272 : fch 224 1272 = some (.iload 3, 1273, []) := by decide +kernel
theorem f224_1273 : fch 224 1273 = some (.iconst 1, 1274, []) := by decide +kernel
theorem f224_1274 : fch 224 1274 = some (.iadd, 1275, []) := by decide +kernel
theorem f224_1275 : fch 224 1275 = some (.faload, 1276, []) := by decide +kernel
theorem f224_1276 : fch 224 1276 = some (.aload 0, 1277, []) := by decide +kernel
theorem f224_1277 : fch 224 1277 = some (.iload 3, 1278, []) := by decide +kernel
theorem f224_1278 : fch 224 1278 = some (.iconst 2, 1279, []) := by decide +kernel
theorem f224_1279 : fch 224 1279 = some (.iadd, 1280, []) := by decide +kernel
theorem f224_1280 : fch 224 1280 = some (.faload, 1281, []) := by decide +kernel
theorem f224_1281 : fch 224 1281 = some (.aload 0, 1282, []) := by decide +kernel
theorem f224_1282 : fch 224 1282 = some (.iload 3, 1283, []) := by decide +kernel
theorem f224_1283 : fch 224 1283 = some (.iconst 3, 1284, []) := by decide +kernel
theorem f224_1284 : fch 224 1284 = some (.iadd, 1285, []) := by decide +kernel
theorem f224_1285 : fch 224 1285 = some (.faload, 1286, []) := by decide +kernel
theorem f224_1286 : fch 224 1286 = some (.aload 0, 1287, []) := by decide +kernel
theorem f224_1287 : fch 224 1287 = some (.iload 3, 1288, []) := by decide +kernel
theorem f224_1288 : fch 224 1288 = some (.iconst 4, 1289, []) := by decide +kernel
theorem f224_1289 : fch 224 1289 = some (.iadd, 1290, []) := by decide +kernel
theorem f224_1290 : fch 224 1290 = some (.faload, 1291, []) := by decide +kernel
theorem f224_1291 : fch 224 1291 = some (.invokevirtual 215, 1294, []) := by decide +kernel
theorem f224_1294 : fch 224 1294 = some (.if_icmp .eq 1454, 1297, []) := by decide +kernel
theorem f224_1297 : fch 224 1297 = some (.iconst 0, 1298, []) := by decide +kernel
theorem f224_1298 : fch 224 1298 = some (.ireturn, 1299, []) := by decide +kernel
theorem f224_1299 : fch 224 1299 = some (.aload 1, 1300, []) := by decide +kernel
theorem f224_1300 : fch 224 1300 = some (.aload 0, 1301, []) := by decide +kernel
theorem f224_1301 : fch 224 1301 = some (.iload 3, 1302, []) := by decide +kernel
theorem f224_1302 : fch 224 1302 = some (.iconst 1, 1303, []) := by decide +kernel
theorem f224_1303 : fch 224 1303 = some (.iadd, 1304, []) := by decide +kernel
theorem f224_1304 : fch 224 1304 = some (.faload, 1305, []) := by decide +kernel
theorem f224_1305 : fch 224 1305 = some (.aload 0, 1306, []) := by decide +kernel
theorem f224_1306 : fch 224 1306 = some (.iload 3, 1307, []) := by decide +kernel
theorem f224_1307 : fch 224 1307 = some (.iconst 2, 1308, []) := by decide +kernel
theorem f224_1308 : fch 224 1308 = some (.iadd, 1309, []) := by decide +kernel
theorem f224_1309 : fch 224 1309 = some (.faload, 1310, []) := by decide +kernel
theorem f224_1310 : fch 224 1310 = some (.aload 0, 1311, []) := by decide +kernel
theorem f224_1311 : fch 224 1311 = some (.iload 3, 1312, []) := by decide +kernel
theorem f224_1312 : fch 224 1312 = some (.iconst 3, 1313, []) := by decide +kernel
theorem f224_1313 : fch 224 1313 = some (.iadd, 1314, []) := by decide +kernel
theorem f224_1314 : fch 224 1314 = some (.faload, 1315, []) := by decide +kernel
theorem f224_1315 : fch 224 1315 = some (.invokevirtual 134, 1318, []) := by decide +kernel
theorem f224_1318 : fch 224 1318 = some (.aload 2, 1319, []) := by decide +kernel
theorem f224_1319 : fch 224 1319 = some (.aload 0, 1320, []) := by decide +kernel
theorem f224_1320 : fch 224 1320 = some (.iload 3, 1321, []) := by decide +kernel
theorem f224_1321 : fch 224 1321 = some (.iconst 1, 1322, []) := by decide +kernel
theorem f224_1322 : fch 224 1322 = some (.iadd, 1323, []) := by decide +kernel
theorem f224_1323 : fch 224 1323 = some (.faload, 1324, []) := by decide +kernel
theorem f224_1324 : fch 224 1324 = some (.aload 0, 1325, []) := by decide +kernel
theorem f224_1325 : fch 224 1325 = some (.iload 3, 1326, []) := by decide +kernel
theorem f224_1326 : fch 224 1326 = some (.iconst 2, 1327, []) := by decide +kernel
theorem f224_1327 : fch 224 1327 = some (.iadd, 1328, []) := by decide +kernel
theorem f224_1328 : fch 224 1328 = some (.faload, 1329, []) := by decide +kernel
theorem f224_1329 : fch 224 1329 = some (.aload 0, 1330, []) := by decide +kernel
theorem f224_1330 : fch 224 1330 = some (.iload 3, 1331, []) := by decide +kernel
theorem f224_1331 : fch 224 1331 = some (.iconst 3, 1332, []) := by decide +kernel
theorem f224_1332 : fch 224 1332 = some (.iadd, 1333, []) := by decide +kernel
theorem f224_1333 : fch 224 1333 = some (.faload, 1334, []) := by decide +kernel
theorem f224_1334 : fch 224 1334 = some (.invokevirtual 217, 1337, []) := by decide +kernel
theorem f224_1337 : fch 224 1337 = some (.if_icmp .eq 1454, 1340, []) := by decide +kernel
theorem f224_1340 : fch 224 1340 = some (.iconst 0, 1341, []) := by decide +kernel
theorem f224_1341 : fch 224 1341 = some (.ireturn, 1342, []) := by decide +kernel
theorem f224_1342 : fch 224 1342 = some (.aload 1, 1343, []) := by decide +kernel
theorem f224_1343 : fch 224 1343 = some (.aload 0, 1344, []) := by decide +kernel
theorem f224_1344 : fch 224 1344 = some (.iload 3, 1345, []) := by decide +kernel
theorem f224_1345 : fch 224 1345 = some (.iconst 1, 1346, []) := by decide +kernel
theorem f224_1346 : fch 224 1346 = some (.iadd, 1347, []) := by decide +kernel
theorem f224_1347 : fch 224 1347 = some (.faload, 1348, []) := by decide +kernel
theorem f224_1348 : fch 224 1348 = some (.aload 0, 1349, []) := by decide +kernel
theorem f224_1349 : fch 224 1349 = some (.iload 3, 1350, []) := by decide +kernel
theorem f224_1350 : fch 224 1350 = some (.iconst 2, 1351, []) := by decide +kernel
theorem f224_1351 : fch 224 1351 = some (.iadd, 1352, []) := by decide +kernel
theorem f224_1352 : fch 224 1352 = some (.faload, 1353, []) := by decide +kernel
theorem f224_1353 : fch 224 1353 = some (.aload 0, 1354, []) := by decide +kernel
theorem f224_1354 : fch 224 1354 = some (.iload 3, 1355, []) := by decide +kernel
theorem f224_1355 : fch 224 1355 = some (.iconst 3, 1356, []) := by decide +kernel
theorem f224_1356 : fch 224 1356 = some (.iadd, 1357, []) := by decide +kernel
theorem f224_1357 : fch 224 1357 = some (.faload, 1358, []) := by decide +kernel
theorem f224_1358 : fch 224 1358 = some (.invokevirtual 135, 1361, []) := by decide +kernel
theorem f224_1361 : fch 224 1361 = some (.aload 2, 1362, []) := by decide +kernel
theorem f224_1362 : fch 224 1362 = some (.aload 0, 1363, []) := by decide +kernel
theorem f224_1363 : fch 224 1363 = some (.iload 3, 1364, []) := by decide +kernel
theorem f224_1364 : fch 224 1364 = some (.iconst 1, 1365, []) := by decide +kernel
theorem f224_1365 : fch 224 1365 = some (.iadd, 1366, []) := by decide +kernel
theorem f224_1366 : fch 224 1366 = some (.faload, 1367, []) := by decide +kernel
theorem f224_1367 : fch 224 1367 = some (.aload 0, 1368, []) := by decide +kernel
theorem f224_1368 : fch 224 1368 = some (.iload 3, 1369, []) := by decide +kernel
theorem f224_1369 : fch 224 1369 = some (.iconst 2, 1370, []) := by decide +kernel
theorem f224_1370 : fch 224 1370 = some (.iadd, 1371, []) := by decide +kernel
theorem f224_1371 : fch 224 1371 = some (.faload, 1372, []) := by decide +kernel
theorem f224_1372 : fch 224 1372 = some (.aload 0, 1373, []) := by decide +kernel
theorem f224_1373 : fch 224 1373 = some (.iload 3, 1374, []) := by decide +kernel
theorem f224_1374 : fch 224 1374 = some (.iconst 3, 1375, []) := by decide +kernel
theorem f224_1375 : fch 224 1375 = some (.iadd, 1376, []) := by decide +kernel
theorem f224_1376 : fch 224 1376 = some (.faload, 1377, []) := by decide +kernel
theorem f224_1377 : fch 224 1377 = some (.invokevirtual 218, 1380, []) := by decide +kernel
theorem f224_1380 : fch 224 1380 = some (.if_icmp .eq 1454, 1383, []) := by decide +kernel
theorem f224_1383 : fch 224 1383 = some (.iconst 0, 1384, []) := by decide +kernel
theorem f224_1384 : fch 224 1384 = some (.ireturn, 1385, []) := by decide +kernel
theorem f224_1385 : fch 224 1385 = some (.aload 1, 1386, []) := by decide +kernel
theorem f224_1386 : fch 224 1386 = some (.aload 0, 1387, []) := by decide +kernel
theorem f224_1387 : fch 224 1387 = some (.iload 3, 1388, []) := by decide +kernel
theorem f224_1388 : fch 224 1388 = some (.iconst 1, 1389, []) := by decide +kernel
theorem f224_1389 : fch 224 1389 = some (.iadd, 1390, []) := by decide +kernel
theorem f224_1390 : fch 224 1390 = some (.faload, 1391, []) := by decide +kernel
theorem f224_1391 : fch 224 1391 = some (.invokevirtual 136, 1394, []) := by decide +kernel
theorem f224_1394 : fch 224 1394 = some (.aload 2, 1395, []) := by decide +kernel
theorem f224_1395 : fch 224 1395 = some (.aload 0, 1396, []) := by decide +kernel
theorem f224_1396 : fch 224 1396 = some (.iload 3, 1397, []) := by decide +kernel
theorem f224_1397 : fch 224 1397 = some (.iconst 1, 1398, []) := by decide +kernel
theorem f224_1398 : fch 224 1398 = some (.iadd, 1399, []) := by decide +kernel
theorem f224_1399 : fch 224 1399 = some (.faload, 1400, []) := by decide +kernel
theorem f224_1400 : fch 224 1400 = some (.invokevirtual 219, 1403, []) := by decide +kernel
theorem f224_1403 : fch 224 1403 = some (.if_icmp .eq 1454, 1406, []) := by decide +kernel
theorem f224_1406 : fch 224 1406 = some (.iconst 0, 1407, []) := by decide +kernel
theorem f224_1407 : fch 224 1407 = some (.ireturn, 1408, []) := by decide +kernel
theorem f224_1408 : fch 224 1408 = some (.aload 1, 1409, []) := by decide +kernel
theorem f224_1409 : fch 224 1409 = some (.aload 0, 1410, []) := by decide +kernel
theorem f224_1410 : fch 224 1410 = some (.iload 3, 1411, []) := by decide +kernel
theorem f224_1411 : fch 224 1411 = some (.iconst 1, 1412, []) := by decide +kernel
theorem f224_1412 : fch 224 1412 = some (.iadd, 1413, []) := by decide +kernel
theorem f224_1413 : fch 224 1413 = some (.faload, 1414, []) := by decide +kernel
theorem f224_1414 : fch 224 1414 = some (.invokevirtual 137, 1417, []) := by decide +kernel
theorem f224_1417 : fch 224 1417 = some (.aload 2, 1418, []) := by decide +kernel
theorem f224_1418 : fch 224 1418 = some (.aload 0, 1419, []) := by decide +kernel
theorem f224_1419 : fch 224 1419 = some (.iload 3, 1420, []) := by decide +kernel
theorem f224_1420 : fch 224 1420 = some (.iconst 1, 1421, []) := by decide +kernel
theorem f224_1421 : fch 224 1421 = some (.iadd, 1422, []) := by decide +kernel
theorem f224_1422 : fch 224 1422 = some (.faload, 1423, []) := by decide +kernel
theorem f224_1423 : fch 224 1423 = some (.invokevirtual 220, 1426, []) := by decide +kernel
theorem f224_1426 : fch 224 1426 = some (.if_icmp .eq 1454, 1429, []) := by decide +kernel
theorem f224_1429 : fch 224 1429 = some (.iconst 0, 1430, []) := by decide +kernel
theorem f224_1430 : fch 224 1430 = some (.ireturn, 1431, []) := by decide +kernel
theorem f224_1431 : fch 224 1431 = some (.aload 1, 1432, []) := by decide +kernel
theorem f224_1432 : fch 224 1432 = some (.aload 0, 1433, []) := by decide +kernel
theorem f224_1433 : fch 224 1433 = some (.iload 3, 1434, []) := by decide +kernel
theorem f224_1434 : fch 224 1434 = some (.iconst 1, 1435, []) := by decide +kernel
theorem f224_1435 : fch 224 1435 = some (.iadd, 1436, []) := by decide +kernel
theorem f224_1436 : fch 224 1436 = some (.faload, 1437, []) := by decide +kernel
theorem f224_1437 : fch 224 1437 = some (.invokevirtual 138, 1440, []) := by decide +kernel
theorem f224_1440 : fch 224 1440 = some (.aload 2, 1441, []) := by decide +kernel
theorem f224_1441 : fch 224 1441 = some (.aload 0, 1442, []) := by decide +kernel
theorem f224_1442 : fch 224 1442 = some (.iload 3, 1443, []) := by decide +kernel
theorem f224_1443 : fch 224 1443 = some (.iconst 1, 1444, []) := by decide +kernel
theorem f224_1444 : fch 224 1444 = some (.iadd, 1445, []) := by decide +kernel
theorem f224_1445 : fch 224 1445 = some (.faload, 1446, []) := by decide +kernel
theorem f224_1446 : fch 224 1446 = some (.invokevirtual 221, 1449, []) := by decide +kernel
theorem f224_1449 : fch 224 1449 = some (.if_icmp .eq 1454, 1452, []) := by decide +kernel
theorem f224_1452 : fch 224 1452 = some (.iconst 0, 1453, []) := by decide +kernel
theorem f224_1453 : fch 224 1453 = some (.ireturn, 1454, []) := by decide +kernel
theorem f224_1454 : fch 224 1454 = some (.iinc 3 7, 1457, []) := by decide +kernel
theorem f224_1457 : fch 224 1457 = some (.goto 18, 1460, []) := by decide +kernel
theorem f224_1460 : fch 224 1460 = some (.iconst 1, 1461, []) := by decide +kernel
theorem f224_1461 : fch 224 1461 = some (.ireturn, 1462, []) := by decide +kernel
set_option maxRecDepth 10000 in
theorem e224_0 (l0 : Int) (s : SG) : sem 224 0 [aA l0, aU, aU, aU] [] s = grd (kd (s (-1) 0) = 8) (grd (kd (s (-1) 0) = 8) (bnV (sem 102 0 [aA (s (-1) 0), aU] [] (alc s (kl (s (-1) 0)) (fun i => if fty 8 i.toNat = 2 then -1 else 0))) fun s1 => grd (kd (s1 (-1) 0) = 9) (grd (kd (s1 (-1) 0) = 9) (bnV (sem 151 0 [aA (s1 (-1) 0)] [] (alc s1 (kl (s1 (-1) 0)) (fun i => if fty 9 i.toNat = 2 then -1 else 0))) fun s2 => sem 224 18 [aA l0, aA (s (-1) 0), aA (s1 (-1) 0), aI 0] [] s2)))) := by
  refine (x_new f224_0 rfl).trans ?_
  refine g_c ?_
  refine (x_dup f224_3 rfl rfl).trans ?_
  refine (x_invokespecial (G := grd (kd (s (-1) 0) = 8) (bnV (sem 102 0 [aA (s (-1) 0), aU] [] (alc s (kl (s (-1) 0)) (fun i => if fty 8 i.toNat = 2 then -1 else 0))) fun s1 => sem 224 7 [aA l0, aU, aU, aU] [aA (s (-1) 0)] s1)) f224_4 rfl rfl).trans ?_
  refine g_c ?_
  refine bV_c fun s1 => ?_
  refine (x_astore (l2 := [aA l0, aA (s (-1) 0), aU, aU]) f224_7 rfl rfl).trans ?_
  refine (x_new f224_8 rfl).trans ?_
  refine g_c ?_
  refine (x_dup f224_11 rfl rfl).trans ?_
  refine (x_invokespecial (G := grd (kd (s1 (-1) 0) = 9) (bnV (sem 151 0 [aA (s1 (-1) 0)] [] (alc s1 (kl (s1 (-1) 0)) (fun i => if fty 9 i.toNat = 2 then -1 else 0))) fun s2 => sem 224 15 [aA l0, aA (s (-1) 0), aU, aU] [aA (s1 (-1) 0)] s2)) f224_12 rfl rfl).trans ?_
  refine g_c ?_
  refine bV_c fun s2 => ?_
  refine (x_astore (l2 := [aA l0, aA (s (-1) 0), aA (s1 (-1) 0), aU]) f224_15 rfl rfl).trans ?_
  refine (x_iconst f224_16 rfl).trans ?_
  refine (x_istore (l2 := [aA l0, aA (s (-1) 0), aA (s1 (-1) 0), aI 0]) f224_17 rfl rfl).trans ?_
  rfl
set_option maxRecDepth 10000 in
theorem e224_18 (l0 l1 l2 l3 : Int) (s : SG) : sem 224 18 [aA l0, aA l1, aA l2, aI l3] [] s = grd (l0 = -7) (if (w32 ((s (-7) (-1)) - 7)) < l3 then some (aI 1, s) else grd (l0 = -7) (grd ((0 : Int) ≤ l3 ∧ l3 < s (-7) (-1)) (if (iandA (s (-7) l3) 63) = 0 then grd (l0 = -7) (grd ((0 : Int) ≤ (w32 (l3 + 1)) ∧ (w32 (l3 + 1)) < s (-7) (-1)) (grd (l0 = -7) (grd ((0 : Int) ≤ (w32 (l3 + 2)) ∧ (w32 (l3 + 2)) < s (-7) (-1)) (grd (l0 = -7) (grd ((0 : Int) ≤ (w32 (l3 + 3)) ∧ (w32 (l3 + 3)) < s (-7) (-1)) (grd (kd l1 = 8) (bnI (sem 103 0 [aA l1, aI (s (-7) (w32 (l3 + 1))), aL (lorA (lshlA (s (-7) (w32 (l3 + 2))) 32) (landA (s (-7) (w32 (l3 + 3))) 4294967295)), aU] [] s) fun a2 s1 => grd (l0 = -7) (grd ((0 : Int) ≤ (w32 (l3 + 1)) ∧ (w32 (l3 + 1)) < s1 (-7) (-1)) (grd (l0 = -7) (grd ((0 : Int) ≤ (w32 (l3 + 2)) ∧ (w32 (l3 + 2)) < s1 (-7) (-1)) (grd (l0 = -7) (grd ((0 : Int) ≤ (w32 (l3 + 3)) ∧ (w32 (l3 + 3)) < s1 (-7) (-1)) (grd (kd l2 = 9) (bnI (sem 155 0 [aA l2, aI (s1 (-7) (w32 (l3 + 1))), aL (lorA (lshlA (s1 (-7) (w32 (l3 + 2))) 32) (landA (s1 (-7) (w32 (l3 + 3))) 4294967295)), aU, aU] [] s1) fun a4 s3 => if a2 = a4 then sem 224 18 [aA l0, aA l1, aA l2, aI (w32 (l3 + 7))] [] s3 else some (aI 0, s3))))))))))))))) else if (iandA (s (-7) l3) 63) = 1 then grd (kd l1 = 8) (bnI (sem 104 0 [aA l1] [] s) fun a6 s5 => grd (kd l2 = 9) (bnI (sem 156 0 [aA l2, aU] [] s5) fun a8 s7 => if a6 = a8 then sem 224 18 [aA l0, aA l1, aA l2, aI (w32 (l3 + 7))] [] s7 else some (aI 0, s7))) else if (iandA (s (-7) l3) 63) = 2 then grd (kd l1 = 8) (bnI (sem 105 0 [aA l1] [] s) fun a10 s9 => grd (kd l2 = 9) (bnI (sem 161 0 [aA l2] [] s9) fun a12 s11 => if a10 = a12 then sem 224 18 [aA l0, aA l1, aA l2, aI (w32 (l3 + 7))] [] s11 else some (aI 0, s11))) else if (iandA (s (-7) l3) 63) = 3 then grd (kd l1 = 8) (bnI (sem 106 0 [aA l1, aU, aU] [] s) fun a14 s13 => grd (kd l2 = 9) (bnI (sem 162 0 [aA l2] [] s13) fun a16 s15 => if a14 = a16 then sem 224 18 [aA l0, aA l1, aA l2, aI (w32 (l3 + 7))] [] s15 else some (aI 0, s15))) else if (iandA (s (-7) l3) 63) = 4 then grd (l0 = -7) (grd ((0 : Int) ≤ (w32 (l3 + 1)) ∧ (w32 (l3 + 1)) < s (-7) (-1)) (grd (l0 = -7) (grd ((0 : Int) ≤ (w32 (l3 + 2)) ∧ (w32 (l3 + 2)) < s (-7) (-1)) (grd (l0 = -7) (grd ((0 : Int) ≤ (w32 (l3 + 3)) ∧ (w32 (l3 + 3)) < s (-7) (-1)) (grd (kd l1 = 8) (bnI (sem 107 0 [aA l1, aI (s (-7) (w32 (l3 + 1))), aI (s (-7) (w32 (l3 + 2))), aI (s (-7) (w32 (l3 + 3)))] [] s) fun a18 s17 => grd (l0 = -7) (grd ((0 : Int) ≤ (w32 (l3 + 1)) ∧ (w32 (l3 + 1)) < s17 (-7) (-1)) (grd (l0 = -7) (grd ((0 : Int) ≤ (w32 (l3 + 2)) ∧ (w32 (l3 + 2)) < s17 (-7) (-1)) (grd (l0 = -7) (grd ((0 : Int) ≤ (w32 (l3 + 3)) ∧ (w32 (l3 + 3)) < s17 (-7) (-1)) (grd (kd l2 = 9) (bnI (sem 165 0 [aA l2, aI (s17 (-7) (w32 (l3 + 1))), aI (s17 (-7) (w32 (l3 + 2))), aI (s17 (-7) (w32 (l3 + 3)))] [] s17) fun a20 s19 => if a18 = a20 then sem 224 18 [aA l0, aA l1, aA l2, aI (w32 (l3 + 7))] [] s19 else some (aI 0, s19))))))))))))))) else if (iandA (s (-7) l3) 63) = 5 then grd (l0 = -7) (grd ((0 : Int) ≤ (w32 (l3 + 1)) ∧ (w32 (l3 + 1)) < s (-7) (-1)) (grd (kd l1 = 8) (bnI (sem 108 0 [aA l1, aI (s (-7) (w32 (l3 + 1)))] [] s) fun a22 s21 => grd (l0 = -7) (grd ((0 : Int) ≤ (w32 (l3 + 1)) ∧ (w32 (l3 + 1)) < s21 (-7) (-1)) (grd (kd l2 = 9) (bnI (sem 166 0 [aA l2, aI (s21 (-7) (w32 (l3 + 1)))] [] s21) fun a24 s23 => if a22 = a24 then sem 224 18 [aA l0, aA l1, aA l2, aI (w32 (l3 + 7))] [] s23 else some (aI 0, s23))))))) else if (iandA (s (-7) l3) 63) = 6 then grd (l0 = -7) (grd ((0 : Int) ≤ (w32 (l3 + 1)) ∧ (w32 (l3 + 1)) < s (-7) (-1)) (grd (l0 = -7) (grd ((0 : Int) ≤ (w32 (l3 + 2)) ∧ (w32 (l3 + 2)) < s (-7) (-1)) (grd (l0 = -7) (grd ((0 : Int) ≤ (w32 (l3 + 3)) ∧ (w32 (l3 + 3)) < s (-7) (-1)) (grd (kd l1 = 8) (bnL (sem 109 0 [aA l1, aI (s (-7) (w32 (l3 + 1))), aI (s (-7) (w32 (l3 + 2))), aI (if (s (-7) (w32 (l3 + 3))) = 0 then 0 else 1), aU] [] s) fun a26 s25 => grd (l0 = -7) (grd ((0 : Int) ≤ (w32 (l3 + 1)) ∧ (w32 (l3 + 1)) < s25 (-7) (-1)) (grd (l0 = -7) (grd ((0 : Int) ≤ (w32 (l3 + 2)) ∧ (w32 (l3 + 2)) < s25 (-7) (-1)) (grd (l0 = -7) (grd ((0 : Int) ≤ (w32 (l3 + 3)) ∧ (w32 (l3 + 3)) < s25 (-7) (-1)) (grd (kd l2 = 9) (bnL (sem 171 0 [aA l2, aI (s25 (-7) (w32 (l3 + 1))), aI (s25 (-7) (w32 (l3 + 2))), aI (if (s25 (-7) (w32 (l3 + 3))) = 0 then 0 else 1)] [] s25) fun a28 s27 => if (cmpL a26 a28) = 0 then sem 224 18 [aA l0, aA l1, aA l2, aI (w32 (l3 + 7))] [] s27 else some (aI 0, s27))))))))))))))) else if (iandA (s (-7) l3) 63) = 7 then grd (l0 = -7) (grd ((0 : Int) ≤ (w32 (l3 + 1)) ∧ (w32 (l3 + 1)) < s (-7) (-1)) (grd (l0 = -7) (grd ((0 : Int) ≤ (w32 (l3 + 2)) ∧ (w32 (l3 + 2)) < s (-7) (-1)) (grd (l0 = -7) (grd ((0 : Int) ≤ (w32 (l3 + 3)) ∧ (w32 (l3 + 3)) < s (-7) (-1)) (grd (kd l1 = 8) (bnL (sem 110 0 [aA l1, aI (s (-7) (w32 (l3 + 1))), aI (s (-7) (w32 (l3 + 2))), aI (if (s (-7) (w32 (l3 + 3))) = 0 then 0 else 1), aU] [] s) fun a30 s29 => grd (l0 = -7) (grd ((0 : Int) ≤ (w32 (l3 + 1)) ∧ (w32 (l3 + 1)) < s29 (-7) (-1)) (grd (l0 = -7) (grd ((0 : Int) ≤ (w32 (l3 + 2)) ∧ (w32 (l3 + 2)) < s29 (-7) (-1)) (grd (l0 = -7) (grd ((0 : Int) ≤ (w32 (l3 + 3)) ∧ (w32 (l3 + 3)) < s29 (-7) (-1)) (grd (kd l2 = 9) (bnL (sem 172 0 [aA l2, aI (s29 (-7) (w32 (l3 + 1))), aI (s29 (-7) (w32 (l3 + 2))), aI (if (s29 (-7) (w32 (l3 + 3))) = 0 then 0 else 1)] [] s29) fun a32 s31 => if (cmpL a30 a32) = 0 then sem 224 18 [aA l0, aA l1, aA l2, aI (w32 (l3 + 7))] [] s31 else some (aI 0, s31))))))))))))))) else if (iandA (s (-7) l3) 63) = 8 then grd (l0 = -7) (grd ((0 : Int) ≤ (w32 (l3 + 1)) ∧ (w32 (l3 + 1)) < s (-7) (-1)) (grd (l0 = -7) (grd ((0 : Int) ≤ (w32 (l3 + 2)) ∧ (w32 (l3 + 2)) < s (-7) (-1)) (grd (kd l1 = 8) (bnI (sem 111 0 [aA l1, aI (s (-7) (w32 (l3 + 1))), aI (s (-7) (w32 (l3 + 2))), aU] [] s) fun a34 s33 => grd (l0 = -7) (grd ((0 : Int) ≤ (w32 (l3 + 1)) ∧ (w32 (l3 + 1)) < s33 (-7) (-1)) (grd (l0 = -7) (grd ((0 : Int) ≤ (w32 (l3 + 2)) ∧ (w32 (l3 + 2)) < s33 (-7) (-1)) (grd (kd l2 = 9) (bnI (sem 175 0 [aA l2, aI (s33 (-7) (w32 (l3 + 1))), aI (s33 (-7) (w32 (l3 + 2)))] [] s33) fun a36 s35 => if a34 = a36 then sem 224 18 [aA l0, aA l1, aA l2, aI (w32 (l3 + 7))] [] s35 else some (aI 0, s35))))))))))) else if (iandA (s (-7) l3) 63) = 9 then grd (l0 = -7) (grd ((0 : Int) ≤ (w32 (l3 + 1)) ∧ (w32 (l3 + 1)) < s (-7) (-1)) (grd (l0 = -7) (grd ((0 : Int) ≤ (w32 (l3 + 2)) ∧ (w32 (l3 + 2)) < s (-7) (-1)) (grd (kd l1 = 8) (bnL (sem 112 0 [aA l1, aI (s (-7) (w32 (l3 + 1))), aI (if (s (-7) (w32 (l3 + 2))) = 0 then 0 else 1), aU, aU] [] s) fun a38 s37 => grd (l0 = -7) (grd ((0 : Int) ≤ (w32 (l3 + 1)) ∧ (w32 (l3 + 1)) < s37 (-7) (-1)) (grd (l0 = -7) (grd ((0 : Int) ≤ (w32 (l3 + 2)) ∧ (w32 (l3 + 2)) < s37 (-7) (-1)) (grd (kd l2 = 9) (bnL (sem 176 0 [aA l2, aI (s37 (-7) (w32 (l3 + 1))), aI (if (s37 (-7) (w32 (l3 + 2))) = 0 then 0 else 1), aU, aU] [] s37) fun a40 s39 => if (cmpL a38 a40) = 0 then sem 224 18 [aA l0, aA l1, aA l2, aI (w32 (l3 + 7))] [] s39 else some (aI 0, s39))))))))))) else if (iandA (s (-7) l3) 63) = 10 then grd (kd l1 = 8) (bnI (sem 113 0 [aA l1] [] s) fun a42 s41 => grd (kd l2 = 9) (bnI (sem 177 0 [aA l2, aU, aU, aU, aU, aU, aU] [] s41) fun a44 s43 => if a42 = a44 then sem 224 18 [aA l0, aA l1, aA l2, aI (w32 (l3 + 7))] [] s43 else some (aI 0, s43))) else if (iandA (s (-7) l3) 63) = 11 then grd (l0 = -7) (grd ((0 : Int) ≤ (w32 (l3 + 1)) ∧ (w32 (l3 + 1)) < s (-7) (-1)) (grd (l0 = -7) (grd ((0 : Int) ≤ (w32 (l3 + 2)) ∧ (w32 (l3 + 2)) < s (-7) (-1)) (grd (l0 = -7) (grd ((0 : Int) ≤ (w32 (l3 + 3)) ∧ (w32 (l3 + 3)) < s (-7) (-1)) (grd (l0 = -7) (grd ((0 : Int) ≤ (w32 (l3 + 4)) ∧ (w32 (l3 + 4)) < s (-7) (-1)) (grd (kd l1 = 8) (bnL (sem 114 0 [aA l1, aI (s (-7) (w32 (l3 + 1))), aI (s (-7) (w32 (l3 + 2))), aI (s (-7) (w32 (l3 + 3))), aI (if (s (-7) (w32 (l3 + 4))) = 0 then 0 else 1), aU, aU, aU] [] s) fun a46 s45 => grd (l0 = -7) (grd ((0 : Int) ≤ (w32 (l3 + 1)) ∧ (w32 (l3 + 1)) < s45 (-7) (-1)) (grd (l0 = -7) (grd ((0 : Int) ≤ (w32 (l3 + 2)) ∧ (w32 (l3 + 2)) < s45 (-7) (-1)) (grd (l0 = -7) (grd ((0 : Int) ≤ (w32 (l3 + 3)) ∧ (w32 (l3 + 3)) < s45 (-7) (-1)) (grd (l0 = -7) (grd ((0 : Int) ≤ (w32 (l3 + 4)) ∧ (w32 (l3 + 4)) < s45 (-7) (-1)) (grd (kd l2 = 9) (bnL (sem 178 0 [aA l2, aI (s45 (-7) (w32 (l3 + 1))), aI (s45 (-7) (w32 (l3 + 2))), aI (s45 (-7) (w32 (l3 + 3))), aI (if (s45 (-7) (w32 (l3 + 4))) = 0 then 0 else 1), aU, aU] [] s45) fun a48 s47 => if (cmpL a46 a48) = 0 then sem 224 18 [aA l0, aA l1, aA l2, aI (w32 (l3 + 7))] [] s47 else some (aI 0, s47))))))))))))))))))) else if (iandA (s (-7) l3) 63) = 12 then grd (l0 = -7) (grd ((0 : Int) ≤ (w32 (l3 + 1)) ∧ (w32 (l3 + 1)) < s (-7) (-1)) (grd (l0 = -7) (grd ((0 : Int) ≤ (w32 (l3 + 2)) ∧ (w32 (l3 + 2)) < s (-7) (-1)) (grd (kd l1 = 8) (bnI (sem 115 0 [aA l1, aI (s (-7) (w32 (l3 + 1))), aI (s (-7) (w32 (l3 + 2)))] [] s) fun a50 s49 => grd (l0 = -7) (grd ((0 : Int) ≤ (w32 (l3 + 1)) ∧ (w32 (l3 + 1)) < s49 (-7) (-1)) (grd (l0 = -7) (grd ((0 : Int) ≤ (w32 (l3 + 2)) ∧ (w32 (l3 + 2)) < s49 (-7) (-1)) (grd (kd l2 = 9) (bnI (sem 179 0 [aA l2, aI (s49 (-7) (w32 (l3 + 1))), aI (s49 (-7) (w32 (l3 + 2)))] [] s49) fun a52 s51 => if a50 = a52 then sem 224 18 [aA l0, aA l1, aA l2, aI (w32 (l3 + 7))] [] s51 else some (aI 0, s51))))))))))) else if (iandA (s (-7) l3) 63) = 13 then grd (kd l1 = 8) (bnI (sem 116 0 [aA l1] [] s) fun a54 s53 => grd (kd l2 = 9) (bnI (sem 180 0 [aA l2, aU] [] s53) fun a56 s55 => if a54 = a56 then sem 224 18 [aA l0, aA l1, aA l2, aI (w32 (l3 + 7))] [] s55 else some (aI 0, s55))) else if (iandA (s (-7) l3) 63) = 14 then grd (l0 = -7) (grd ((0 : Int) ≤ (w32 (l3 + 1)) ∧ (w32 (l3 + 1)) < s (-7) (-1)) (grd (l0 = -7) (grd ((0 : Int) ≤ (w32 (l3 + 2)) ∧ (w32 (l3 + 2)) < s (-7) (-1)) (grd (kd l1 = 8) (bnL (sem 117 0 [aA l1, aI (s (-7) (w32 (l3 + 1))), aI (if (s (-7) (w32 (l3 + 2))) = 0 then 0 else 1), aU, aU] [] s) fun a58 s57 => grd (l0 = -7) (grd ((0 : Int) ≤ (w32 (l3 + 1)) ∧ (w32 (l3 + 1)) < s57 (-7) (-1)) (grd (l0 = -7) (grd ((0 : Int) ≤ (w32 (l3 + 2)) ∧ (w32 (l3 + 2)) < s57 (-7) (-1)) (grd (kd l2 = 9) (bnL (sem 183 0 [aA l2, aI (s57 (-7) (w32 (l3 + 1))), aI (if (s57 (-7) (w32 (l3 + 2))) = 0 then 0 else 1)] [] s57) fun a60 s59 => if (cmpL a58 a60) = 0 then sem 224 18 [aA l0, aA l1, aA l2, aI (w32 (l3 + 7))] [] s59 else some (aI 0, s59))))))))))) else if (iandA (s (-7) l3) 63) = 15 then grd (kd l1 = 8) (bnI (sem 118 0 [aA l1] [] s) fun a62 s61 => grd (kd l2 = 9) (bnI (sem 184 0 [aA l2, aU] [] s61) fun a64 s63 => if a62 = a64 then sem 224 18 [aA l0, aA l1, aA l2, aI (w32 (l3 + 7))] [] s63 else some (aI 0, s63))) else if (iandA (s (-7) l3) 63) = 16 then grd (kd l1 = 8) (bnI (sem 119 0 [aA l1] [] s) fun a66 s65 => grd (kd l2 = 9) (bnI (sem 186 0 [aA l2, aU, aU, aU, aU, aU, aU, aU] [] s65) fun a68 s67 => if a66 = a68 then sem 224 18 [aA l0, aA l1, aA l2, aI (w32 (l3 + 7))] [] s67 else some (aI 0, s67))) else if (iandA (s (-7) l3) 63) = 17 then grd (l0 = -7) (grd ((0 : Int) ≤ (w32 (l3 + 1)) ∧ (w32 (l3 + 1)) < s (-7) (-1)) (grd (l0 = -7) (grd ((0 : Int) ≤ (w32 (l3 + 2)) ∧ (w32 (l3 + 2)) < s (-7) (-1)) (grd (l0 = -7) (grd ((0 : Int) ≤ (w32 (l3 + 3)) ∧ (w32 (l3 + 3)) < s (-7) (-1)) (grd (l0 = -7) (grd ((0 : Int) ≤ (w32 (l3 + 4)) ∧ (w32 (l3 + 4)) < s (-7) (-1)) (grd (l0 = -7) (grd ((0 : Int) ≤ (w32 (l3 + 5)) ∧ (w32 (l3 + 5)) < s (-7) (-1)) (grd (l0 = -7) (grd ((0 : Int) ≤ (w32 (l3 + 6)) ∧ (w32 (l3 + 6)) < s (-7) (-1)) (grd (kd l1 = 8) (bnL (sem 120 0 [aA l1, aI (s (-7) (w32 (l3 + 1))), aI (s (-7) (w32 (l3 + 2))), aI (s (-7) (w32 (l3 + 3))), aI (s (-7) (w32 (l3 + 4))), aI (s (-7) (w32 (l3 + 5))), aI (if (s (-7) (w32 (l3 + 6))) = 0 then 0 else 1), aU] [] s) fun a70 s69 => grd (l0 = -7) (grd ((0 : Int) ≤ (w32 (l3 + 1)) ∧ (w32 (l3 + 1)) < s69 (-7) (-1)) (grd (l0 = -7) (grd ((0 : Int) ≤ (w32 (l3 + 2)) ∧ (w32 (l3 + 2)) < s69 (-7) (-1)) (grd (l0 = -7) (grd ((0 : Int) ≤ (w32 (l3 + 3)) ∧ (w32 (l3 + 3)) < s69 (-7) (-1)) (grd (l0 = -7) (grd ((0 : Int) ≤ (w32 (l3 + 4)) ∧ (w32 (l3 + 4)) < s69 (-7) (-1)) (grd (l0 = -7) (grd ((0 : Int) ≤ (w32 (l3 + 5)) ∧ (w32 (l3 + 5)) < s69 (-7) (-1)) (grd (l0 = -7) (grd ((0 : Int) ≤ (w32 (l3 + 6)) ∧ (w32 (l3 + 6)) < s69 (-7) (-1)) (grd (kd l2 = 9) (bnL (sem 193 0 [aA l2, aI (s69 (-7) (w32 (l3 + 1))), aI (s69 (-7) (w32 (l3 + 2))), aI (s69 (-7) (w32 (l3 + 3))), aI (s69 (-7) (w32 (l3 + 4))), aI (s69 (-7) (w32 (l3 + 5))), aI (if (s69 (-7) (w32 (l3 + 6))) = 0 then 0 else 1), aU, aU, aU, aU, aU, aU, aU] [] s69) fun a72 s71 => if (cmpL a70 a72) = 0 then sem 224 18 [aA l0, aA l1, aA l2, aI (w32 (l3 + 7))] [] s71 else some (aI 0, s71))))))))))))))))))))))))))) else if (iandA (s (-7) l3) 63) = 18 then grd (l0 = -7) (grd ((0 : Int) ≤ (w32 (l3 + 1)) ∧ (w32 (l3 + 1)) < s (-7) (-1)) (grd (l0 = -7) (grd ((0 : Int) ≤ (w32 (l3 + 2)) ∧ (w32 (l3 + 2)) < s (-7) (-1)) (grd (l0 = -7) (grd ((0 : Int) ≤ (w32 (l3 + 3)) ∧ (w32 (l3 + 3)) < s (-7) (-1)) (grd (l0 = -7) (grd ((0 : Int) ≤ (w32 (l3 + 4)) ∧ (w32 (l3 + 4)) < s (-7) (-1)) (grd (l0 = -7) (grd ((0 : Int) ≤ (w32 (l3 + 5)) ∧ (w32 (l3 + 5)) < s (-7) (-1)) (grd (kd l1 = 8) (bnI (sem 121 0 [aA l1, aI (s (-7) (w32 (l3 + 1))), aI (s (-7) (w32 (l3 + 2))), aI (s (-7) (w32 (l3 + 3))), aI (s (-7) (w32 (l3 + 4))), aI (s (-7) (w32 (l3 + 5))), aU] [] s) fun a74 s73 => grd (l0 = -7) (grd ((0 : Int) ≤ (w32 (l3 + 1)) ∧ (w32 (l3 + 1)) < s73 (-7) (-1)) (grd (l0 = -7) (grd ((0 : Int) ≤ (w32 (l3 + 2)) ∧ (w32 (l3 + 2)) < s73 (-7) (-1)) (grd (l0 = -7) (grd ((0 : Int) ≤ (w32 (l3 + 3)) ∧ (w32 (l3 + 3)) < s73 (-7) (-1)) (grd (l0 = -7) (grd ((0 : Int) ≤ (w32 (l3 + 4)) ∧ (w32 (l3 + 4)) < s73 (-7) (-1)) (grd (l0 = -7) (grd ((0 : Int) ≤ (w32 (l3 + 5)) ∧ (w32 (l3 + 5)) < s73 (-7) (-1)) (grd (kd l2 = 9) (bnI (sem 194 0 [aA l2, aI (s73 (-7) (w32 (l3 + 1))), aI (s73 (-7) (w32 (l3 + 2))), aI (s73 (-7) (w32 (l3 + 3))), aI (s73 (-7) (w32 (l3 + 4))), aI (s73 (-7) (w32 (l3 + 5))), aU, aU, aU, aU, aU, aU, aU] [] s73) fun a76 s75 => if a74 = a76 then sem 224 18 [aA l0, aA l1, aA l2, aI (w32 (l3 + 7))] [] s75 else some (aI 0, s75))))))))))))))))))))))) else if (iandA (s (-7) l3) 63) = 19 then grd (l0 = -7) (grd ((0 : Int) ≤ (w32 (l3 + 1)) ∧ (w32 (l3 + 1)) < s (-7) (-1)) (grd (kd l1 = 8) (bnI (sem 122 0 [aA l1, aI (s (-7) (w32 (l3 + 1))), aU] [] s) fun a78 s77 => grd (l0 = -7) (grd ((0 : Int) ≤ (w32 (l3 + 1)) ∧ (w32 (l3 + 1)) < s77 (-7) (-1)) (grd (kd l2 = 9) (bnI (sem 196 0 [aA l2, aI (s77 (-7) (w32 (l3 + 1))), aU] [] s77) fun a80 s79 => if a78 = a80 then sem 224 18 [aA l0, aA l1, aA l2, aI (w32 (l3 + 7))] [] s79 else some (aI 0, s79))))))) else if (iandA (s (-7) l3) 63) = 20 then grd (l0 = -7) (grd ((0 : Int) ≤ (w32 (l3 + 1)) ∧ (w32 (l3 + 1)) < s (-7) (-1)) (grd (l0 = -7) (grd ((0 : Int) ≤ (w32 (l3 + 2)) ∧ (w32 (l3 + 2)) < s (-7) (-1)) (grd (kd l1 = 8) (bnI (sem 123 0 [aA l1, aI (s (-7) (w32 (l3 + 1))), aI (s (-7) (w32 (l3 + 2))), aU] [] s) fun a82 s81 => grd (l0 = -7) (grd ((0 : Int) ≤ (w32 (l3 + 1)) ∧ (w32 (l3 + 1)) < s81 (-7) (-1)) (grd (l0 = -7) (grd ((0 : Int) ≤ (w32 (l3 + 2)) ∧ (w32 (l3 + 2)) < s81 (-7) (-1)) (grd (kd l2 = 9) (bnI (sem 197 0 [aA l2, aI (s81 (-7) (w32 (l3 + 1))), aI (s81 (-7) (w32 (l3 + 2))), aU] [] s81) fun a84 s83 => if a82 = a84 then sem 224 18 [aA l0, aA l1, aA l2, aI (w32 (l3 + 7))] [] s83 else some (aI 0, s83))))))))))) else if (iandA (s (-7) l3) 63) = 21 then grd (l0 = -7) (grd ((0 : Int) ≤ (w32 (l3 + 1)) ∧ (w32 (l3 + 1)) < s (-7) (-1)) (grd (l0 = -7) (grd ((0 : Int) ≤ (w32 (l3 + 2)) ∧ (w32 (l3 + 2)) < s (-7) (-1)) (grd (kd l1 = 8) (bnI (sem 124 0 [aA l1, aI (s (-7) (w32 (l3 + 1))), aI (s (-7) (w32 (l3 + 2)))] [] s) fun a86 s85 => grd (l0 = -7) (grd ((0 : Int) ≤ (w32 (l3 + 1)) ∧ (w32 (l3 + 1)) < s85 (-7) (-1)) (grd (l0 = -7) (grd ((0 : Int) ≤ (w32 (l3 + 2)) ∧ (w32 (l3 + 2)) < s85 (-7) (-1)) (grd (kd l2 = 9) (bnI (sem 198 0 [aA l2, aI (s85 (-7) (w32 (l3 + 1))), aI (s85 (-7) (w32 (l3 + 2))), aU] [] s85) fun a88 s87 => if a86 = a88 then sem 224 18 [aA l0, aA l1, aA l2, aI (w32 (l3 + 7))] [] s87 else some (aI 0, s87))))))))))) else if (iandA (s (-7) l3) 63) = 22 then grd (l0 = -7) (grd ((0 : Int) ≤ (w32 (l3 + 1)) ∧ (w32 (l3 + 1)) < s (-7) (-1)) (grd (l0 = -7) (grd ((0 : Int) ≤ (w32 (l3 + 2)) ∧ (w32 (l3 + 2)) < s (-7) (-1)) (grd (l0 = -7) (grd ((0 : Int) ≤ (w32 (l3 + 3)) ∧ (w32 (l3 + 3)) < s (-7) (-1)) (grd (kd l1 = 8) (bnI (sem 125 0 [aA l1, aI (s (-7) (w32 (l3 + 1))), aI (s (-7) (w32 (l3 + 2))), aI (s (-7) (w32 (l3 + 3))), aU] [] s) fun a90 s89 => grd (l0 = -7) (grd ((0 : Int) ≤ (w32 (l3 + 1)) ∧ (w32 (l3 + 1)) < s89 (-7) (-1)) (grd (l0 = -7) (grd ((0 : Int) ≤ (w32 (l3 + 2)) ∧ (w32 (l3 + 2)) < s89 (-7) (-1)) (grd (l0 = -7) (grd ((0 : Int) ≤ (w32 (l3 + 3)) ∧ (w32 (l3 + 3)) < s89 (-7) (-1)) (grd (kd l2 = 9) (bnI (sem 199 0 [aA l2, aI (s89 (-7) (w32 (l3 + 1))), aI (s89 (-7) (w32 (l3 + 2))), aI (s89 (-7) (w32 (l3 + 3))), aU] [] s89) fun a92 s91 => if a90 = a92 then sem 224 18 [aA l0, aA l1, aA l2, aI (w32 (l3 + 7))] [] s91 else some (aI 0, s91))))))))))))))) else if (iandA (s (-7) l3) 63) = 23 then grd (l0 = -7) (grd ((0 : Int) ≤ (w32 (l3 + 1)) ∧ (w32 (l3 + 1)) < s (-7) (-1)) (grd (l0 = -7) (grd ((0 : Int) ≤ (w32 (l3 + 2)) ∧ (w32 (l3 + 2)) < s (-7) (-1)) (grd (l0 = -7) (grd ((0 : Int) ≤ (w32 (l3 + 3)) ∧ (w32 (l3 + 3)) < s (-7) (-1)) (grd (kd l1 = 8) (bnI (sem 126 0 [aA l1, aI (s (-7) (w32 (l3 + 1))), aI (s (-7) (w32 (l3 + 2))), aI (s (-7) (w32 (l3 + 3)))] [] s) fun a94 s93 => grd (l0 = -7) (grd ((0 : Int) ≤ (w32 (l3 + 1)) ∧ (w32 (l3 + 1)) < s93 (-7) (-1)) (grd (l0 = -7) (grd ((0 : Int) ≤ (w32 (l3 + 2)) ∧ (w32 (l3 + 2)) < s93 (-7) (-1)) (grd (l0 = -7) (grd ((0 : Int) ≤ (w32 (l3 + 3)) ∧ (w32 (l3 + 3)) < s93 (-7) (-1)) (grd (kd l2 = 9) (bnI (sem 200 0 [aA l2, aI (s93 (-7) (w32 (l3 + 1))), aI (s93 (-7) (w32 (l3 + 2))), aI (s93 (-7) (w32 (l3 + 3)))] [] s93) fun a96 s95 => if a94 = a96 then sem 224 18 [aA l0, aA l1, aA l2, aI (w32 (l3 + 7))] [] s95 else some (aI 0, s95))))))))))))))) else if (iandA (s (-7) l3) 63) = 24 then grd (kd l1 = 8) (bnI (sem 127 0 [aA l1, aU] [] s) fun a98 s97 => grd (kd l2 = 9) (bnI (sem 201 0 [aA l2, aU] [] s97) fun a100 s99 => if a98 = a100 then sem 224 18 [aA l0, aA l1, aA l2, aI (w32 (l3 + 7))] [] s99 else some (aI 0, s99))) else if (iandA (s (-7) l3) 63) = 25 then grd (l0 = -7) (grd ((0 : Int) ≤ (w32 (l3 + 1)) ∧ (w32 (l3 + 1)) < s (-7) (-1)) (grd (l0 = -7) (grd ((0 : Int) ≤ (w32 (l3 + 2)) ∧ (w32 (l3 + 2)) < s (-7) (-1)) (grd (l0 = -7) (grd ((0 : Int) ≤ (w32 (l3 + 3)) ∧ (w32 (l3 + 3)) < s (-7) (-1)) (grd (kd l1 = 8) (bnI (sem 128 0 [aA l1, aI (s (-7) (w32 (l3 + 1))), aI (s (-7) (w32 (l3 + 2))), aI (s (-7) (w32 (l3 + 3)))] [] s) fun a102 s101 => grd (l0 = -7) (grd ((0 : Int) ≤ (w32 (l3 + 1)) ∧ (w32 (l3 + 1)) < s101 (-7) (-1)) (grd (l0 = -7) (grd ((0 : Int) ≤ (w32 (l3 + 2)) ∧ (w32 (l3 + 2)) < s101 (-7) (-1)) (grd (l0 = -7) (grd ((0 : Int) ≤ (w32 (l3 + 3)) ∧ (w32 (l3 + 3)) < s101 (-7) (-1)) (grd (kd l2 = 9) (bnI (sem 207 0 [aA l2, aI (s101 (-7) (w32 (l3 + 1))), aI (s101 (-7) (w32 (l3 + 2))), aI (s101 (-7) (w32 (l3 + 3))), aU] [] s101) fun a104 s103 => if a102 = a104 then sem 224 18 [aA l0, aA l1, aA l2, aI (w32 (l3 + 7))] [] s103 else some (aI 0, s103))))))))))))))) else if (iandA (s (-7) l3) 63) = 26 then grd (l0 = -7) (grd ((0 : Int) ≤ (w32 (l3 + 1)) ∧ (w32 (l3 + 1)) < s (-7) (-1)) (grd (kd l1 = 8) (bnI (sem 129 0 [aA l1, aI (s (-7) (w32 (l3 + 1)))] [] s) fun a106 s105 => grd (l0 = -7) (grd ((0 : Int) ≤ (w32 (l3 + 1)) ∧ (w32 (l3 + 1)) < s105 (-7) (-1)) (grd (kd l2 = 9) (bnI (sem 210 0 [aA l2, aI (s105 (-7) (w32 (l3 + 1))), aU, aU] [] s105) fun a108 s107 => if a106 = a108 then sem 224 18 [aA l0, aA l1, aA l2, aI (w32 (l3 + 7))] [] s107 else some (aI 0, s107))))))) else if (iandA (s (-7) l3) 63) = 27 then grd (l0 = -7) (grd ((0 : Int) ≤ (w32 (l3 + 1)) ∧ (w32 (l3 + 1)) < s (-7) (-1)) (grd (kd l1 = 8) (bnI (sem 130 0 [aA l1, aI (s (-7) (w32 (l3 + 1)))] [] s) fun a110 s109 => grd (l0 = -7) (grd ((0 : Int) ≤ (w32 (l3 + 1)) ∧ (w32 (l3 + 1)) < s109 (-7) (-1)) (grd (kd l2 = 9) (bnI (sem 212 0 [aA l2, aI (s109 (-7) (w32 (l3 + 1)))] [] s109) fun a112 s111 => if a110 = a112 then sem 224 18 [aA l0, aA l1, aA l2, aI (w32 (l3 + 7))] [] s111 else some (aI 0, s111))))))) else if (iandA (s (-7) l3) 63) = 28 then grd (l0 = -7) (grd ((0 : Int) ≤ (w32 (l3 + 1)) ∧ (w32 (l3 + 1)) < s (-7) (-1)) (grd (kd l1 = 8) (bnI (sem 131 0 [aA l1, aI (s (-7) (w32 (l3 + 1)))] [] s) fun a114 s113 => grd (l0 = -7) (grd ((0 : Int) ≤ (w32 (l3 + 1)) ∧ (w32 (l3 + 1)) < s113 (-7) (-1)) (grd (kd l2 = 9) (bnI (sem 213 0 [aA l2, aI (s113 (-7) (w32 (l3 + 1)))] [] s113) fun a116 s115 => if a114 = a116 then sem 224 18 [aA l0, aA l1, aA l2, aI (w32 (l3 + 7))] [] s115 else some (aI 0, s115))))))) else if (iandA (s (-7) l3) 63) = 29 then grd (l0 = -7) (grd ((0 : Int) ≤ (w32 (l3 + 1)) ∧ (w32 (l3 + 1)) < s (-7) (-1)) (grd (kd l1 = 8) (bnI (sem 132 0 [aA l1, aI (s (-7) (w32 (l3 + 1))), aU, aU] [] s) fun a118 s117 => grd (l0 = -7) (grd ((0 : Int) ≤ (w32 (l3 + 1)) ∧ (w32 (l3 + 1)) < s117 (-7) (-1)) (grd (kd l2 = 9) (bnI (sem 214 0 [aA l2, aI (s117 (-7) (w32 (l3 + 1))), aU, aU, aU, aU, aU] [] s117) fun a120 s119 => if a118 = a120 then sem 224 18 [aA l0, aA l1, aA l2, aI (w32 (l3 + 7))] [] s119 else some (aI 0, s119))))))) else if (iandA (s (-7) l3) 63) = 30 then grd (l0 = -7) (grd ((0 : Int) ≤ (w32 (l3 + 1)) ∧ (w32 (l3 + 1)) < s (-7) (-1)) (grd (l0 = -7) (grd ((0 : Int) ≤ (w32 (l3 + 2)) ∧ (w32 (l3 + 2)) < s (-7) (-1)) (grd (l0 = -7) (grd ((0 : Int) ≤ (w32 (l3 + 3)) ∧ (w32 (l3 + 3)) < s (-7) (-1)) (grd (l0 = -7) (grd ((0 : Int) ≤ (w32 (l3 + 4)) ∧ (w32 (l3 + 4)) < s (-7) (-1)) (grd (kd l1 = 8) (bnI (sem 133 0 [aA l1, aI (s (-7) (w32 (l3 + 1))), aI (s (-7) (w32 (l3 + 2))), aI (s (-7) (w32 (l3 + 3))), aI (s (-7) (w32 (l3 + 4))), aU, aU, aU, aU, aU] [] s) fun a122 s121 => grd (l0 = -7) (grd ((0 : Int) ≤ (w32 (l3 + 1)) ∧ (w32 (l3 + 1)) < s121 (-7) (-1)) (grd (l0 = -7) (grd ((0 : Int) ≤ (w32 (l3 + 2)) ∧ (w32 (l3 + 2)) < s121 (-7) (-1)) (grd (l0 = -7) (grd ((0 : Int) ≤ (w32 (l3 + 3)) ∧ (w32 (l3 + 3)) < s121 (-7) (-1)) (grd (l0 = -7) (grd ((0 : Int) ≤ (w32 (l3 + 4)) ∧ (w32 (l3 + 4)) < s121 (-7) (-1)) (grd (kd l2 = 9) (bnI (sem 215 0 [aA l2, aI (s121 (-7) (w32 (l3 + 1))), aI (s121 (-7) (w32 (l3 + 2))), aI (s121 (-7) (w32 (l3 + 3))), aI (s121 (-7) (w32 (l3 + 4))), aU, aU] [] s121) fun a124 s123 => if a122 = a124 then sem 224 18 [aA l0, aA l1, aA l2, aI (w32 (l3 + 7))] [] s123 else some (aI 0, s123))))))))))))))))))) else if (iandA (s (-7) l3) 63) = 31 then grd (l0 = -7) (grd ((0 : Int) ≤ (w32 (l3 + 1)) ∧ (w32 (l3 + 1)) < s (-7) (-1)) (grd (l0 = -7) (grd ((0 : Int) ≤ (w32 (l3 + 2)) ∧ (w32 (l3 + 2)) < s (-7) (-1)) (grd (l0 = -7) (grd ((0 : Int) ≤ (w32 (l3 + 3)) ∧ (w32 (l3 + 3)) < s (-7) (-1)) (grd (kd l1 = 8) (bnI (sem 134 0 [aA l1, aI (s (-7) (w32 (l3 + 1))), aI (s (-7) (w32 (l3 + 2))), aI (s (-7) (w32 (l3 + 3)))] [] s) fun a126 s125 => grd (l0 = -7) (grd ((0 : Int) ≤ (w32 (l3 + 1)) ∧ (w32 (l3 + 1)) < s125 (-7) (-1)) (grd (l0 = -7) (grd ((0 : Int) ≤ (w32 (l3 + 2)) ∧ (w32 (l3 + 2)) < s125 (-7) (-1)) (grd (l0 = -7) (grd ((0 : Int) ≤ (w32 (l3 + 3)) ∧ (w32 (l3 + 3)) < s125 (-7) (-1)) (grd (kd l2 = 9) (bnI (sem 217 0 [aA l2, aI (s125 (-7) (w32 (l3 + 1))), aI (s125 (-7) (w32 (l3 + 2))), aI (s125 (-7) (w32 (l3 + 3)))] [] s125) fun a128 s127 => if a126 = a128 then sem 224 18 [aA l0, aA l1, aA l2, aI (w32 (l3 + 7))] [] s127 else some (aI 0, s127))))))))))))))) else if (iandA (s (-7) l3) 63) = 32 then grd (l0 = -7) (grd ((0 : Int) ≤ (w32 (l3 + 1)) ∧ (w32 (l3 + 1)) < s (-7) (-1)) (grd (l0 = -7) (grd ((0 : Int) ≤ (w32 (l3 + 2)) ∧ (w32 (l3 + 2)) < s (-7) (-1)) (grd (l0 = -7) (grd ((0 : Int) ≤ (w32 (l3 + 3)) ∧ (w32 (l3 + 3)) < s (-7) (-1)) (grd (kd l1 = 8) (bnI (sem 135 0 [aA l1, aI (s (-7) (w32 (l3 + 1))), aI (s (-7) (w32 (l3 + 2))), aI (s (-7) (w32 (l3 + 3))), aU, aU, aU] [] s) fun a130 s129 => grd (l0 = -7) (grd ((0 : Int) ≤ (w32 (l3 + 1)) ∧ (w32 (l3 + 1)) < s129 (-7) (-1)) (grd (l0 = -7) (grd ((0 : Int) ≤ (w32 (l3 + 2)) ∧ (w32 (l3 + 2)) < s129 (-7) (-1)) (grd (l0 = -7) (grd ((0 : Int) ≤ (w32 (l3 + 3)) ∧ (w32 (l3 + 3)) < s129 (-7) (-1)) (grd (kd l2 = 9) (bnI (sem 218 0 [aA l2, aI (s129 (-7) (w32 (l3 + 1))), aI (s129 (-7) (w32 (l3 + 2))), aI (s129 (-7) (w32 (l3 + 3))), aU] [] s129) fun a132 s131 => if a130 = a132 then sem 224 18 [aA l0, aA l1, aA l2, aI (w32 (l3 + 7))] [] s131 else some (aI 0, s131))))))))))))))) else if (iandA (s (-7) l3) 63) = 33 then grd (l0 = -7) (grd ((0 : Int) ≤ (w32 (l3 + 1)) ∧ (w32 (l3 + 1)) < s (-7) (-1)) (grd (kd l1 = 8) (bnI (sem 136 0 [aA l1, aI (s (-7) (w32 (l3 + 1)))] [] s) fun a134 s133 => grd (l0 = -7) (grd ((0 : Int) ≤ (w32 (l3 + 1)) ∧ (w32 (l3 + 1)) < s133 (-7) (-1)) (grd (kd l2 = 9) (bnI (sem 219 0 [aA l2, aI (s133 (-7) (w32 (l3 + 1))), aU] [] s133) fun a136 s135 => if a134 = a136 then sem 224 18 [aA l0, aA l1, aA l2, aI (w32 (l3 + 7))] [] s135 else some (aI 0, s135))))))) else if (iandA (s (-7) l3) 63) = 34 then grd (l0 = -7) (grd ((0 : Int) ≤ (w32 (l3 + 1)) ∧ (w32 (l3 + 1)) < s (-7) (-1)) (grd (kd l1 = 8) (bnI (sem 137 0 [aA l1, aI (s (-7) (w32 (l3 + 1)))] [] s) fun a138 s137 => grd (l0 = -7) (grd ((0 : Int) ≤ (w32 (l3 + 1)) ∧ (w32 (l3 + 1)) < s137 (-7) (-1)) (grd (kd l2 = 9) (bnI (sem 220 0 [aA l2, aI (s137 (-7) (w32 (l3 + 1))), aU] [] s137) fun a140 s139 => if a138 = a140 then sem 224 18 [aA l0, aA l1, aA l2, aI (w32 (l3 + 7))] [] s139 else some (aI 0, s139))))))) else if (iandA (s (-7) l3) 63) = 35 then grd (l0 = -7) (grd ((0 : Int) ≤ (w32 (l3 + 1)) ∧ (w32 (l3 + 1)) < s (-7) (-1)) (grd (kd l1 = 8) (bnI (sem 138 0 [aA l1, aI (s (-7) (w32 (l3 + 1)))] [] s) fun a142 s141 => grd (l0 = -7) (grd ((0 : Int) ≤ (w32 (l3 + 1)) ∧ (w32 (l3 + 1)) < s141 (-7) (-1)) (grd (kd l2 = 9) (bnI (sem 221 0 [aA l2, aI (s141 (-7) (w32 (l3 + 1)))] [] s141) fun a144 s143 => if a142 = a144 then sem 224 18 [aA l0, aA l1, aA l2, aI (w32 (l3 + 7))] [] s143 else some (aI 0, s143))))))) else sem 224 18 [aA l0, aA l1, aA l2, aI (w32 (l3 + 7))] [] s))) := by
  refine (x_iload f224_18 rfl rfl).trans ?_
  refine (x_aload f224_19 rfl rfl).trans ?_
  refine (x_f2l f224_20 rfl).trans ?_
  refine g_c ?_
  refine (x_iconst f224_21 rfl).trans ?_
  refine (x_isub f224_23 rfl).trans ?_
  refine (x_icmp_gt (tg := 1460) f224_24 rfl rfl).trans (i_c ?_ ?_)
  · refine (x_iconst f224_1460 rfl).trans ?_
    exact x_zreturn1 f224_1461 rfl
  · refine (x_aload f224_27 rfl rfl).trans ?_
    refine (x_iload f224_28 rfl rfl).trans ?_
    refine (x_faload f224_29 rfl).trans ?_
    refine g_c ?_
    refine g_c ?_
    refine (x_iconst f224_30 rfl).trans ?_
    refine (x_iand f224_32 rfl).trans ?_
    refine (x_tsw f224_33 rfl).trans ?_
    refine Eq.trans (b := sem 224 (if (iandA (s (-7) l3) 63) = 0 then 192 else if (iandA (s (-7) l3) 63) = 1 then 255 else if (iandA (s (-7) l3) 63) = 2 then 268 else if (iandA (s (-7) l3) 63) = 3 then 281 else if (iandA (s (-7) l3) 63) = 4 then 294 else if (iandA (s (-7) l3) 63) = 5 then 337 else if (iandA (s (-7) l3) 63) = 6 then 360 else if (iandA (s (-7) l3) 63) = 7 then 420 else if (iandA (s (-7) l3) 63) = 8 then 480 else if (iandA (s (-7) l3) 63) = 9 then 513 else if (iandA (s (-7) l3) 63) = 10 then 563 else if (iandA (s (-7) l3) 63) = 11 then 576 else if (iandA (s (-7) l3) 63) = 12 then 646 else if (iandA (s (-7) l3) 63) = 13 then 679 else if (iandA (s (-7) l3) 63) = 14 then 692 else if (iandA (s (-7) l3) 63) = 15 then 742 else if (iandA (s (-7) l3) 63) = 16 then 755 else if (iandA (s (-7) l3) 63) = 17 then 768 else if (iandA (s (-7) l3) 63) = 18 then 860 else if (iandA (s (-7) l3) 63) = 19 then 923 else if (iandA (s (-7) l3) 63) = 20 then 946 else if (iandA (s (-7) l3) 63) = 21 then 979 else if (iandA (s (-7) l3) 63) = 22 then 1012 else if (iandA (s (-7) l3) 63) = 23 then 1055 else if (iandA (s (-7) l3) 63) = 24 then 1098 else if (iandA (s (-7) l3) 63) = 25 then 1111 else if (iandA (s (-7) l3) 63) = 26 then 1154 else if (iandA (s (-7) l3) 63) = 27 then 1177 else if (iandA (s (-7) l3) 63) = 28 then 1200 else if (iandA (s (-7) l3) 63) = 29 then 1223 else if (iandA (s (-7) l3) 63) = 30 then 1246 else if (iandA (s (-7) l3) 63) = 31 then 1299 else if (iandA (s (-7) l3) 63) = 32 then 1342 else if (iandA (s (-7) l3) 63) = 33 then 1385 else if (iandA (s (-7) l3) 63) = 34 then 1408 else if (iandA (s (-7) l3) 63) = 35 then 1431 else 1454) [aA l0, aA l1, aA l2, aI l3] [] s) rfl ?_
    refine x_ite.trans (i_c ?_ ?_)
    · refine (x_aload f224_192 rfl rfl).trans ?_
      refine (x_aload f224_193 rfl rfl).trans ?_
      refine (x_iload f224_194 rfl rfl).trans ?_
      refine (x_iconst f224_195 rfl).trans ?_
      refine (x_iadd f224_196 rfl).trans ?_
      refine (x_faload f224_197 rfl).trans ?_
      refine g_c ?_
      refine g_c ?_
      refine (x_aload f224_198 rfl rfl).trans ?_
      refine (x_iload f224_199 rfl rfl).trans ?_
      refine (x_iconst f224_200 rfl).trans ?_
      refine (x_iadd f224_201 rfl).trans ?_
      refine (x_faload f224_202 rfl).trans ?_
      refine g_c ?_
      refine g_c ?_
      refine (x_i2l f224_203 rfl).trans ?_
      refine (x_iconst f224_204 rfl).trans ?_
      refine (x_lshl f224_206 rfl).trans ?_
      refine (x_aload f224_207 rfl rfl).trans ?_
      refine (x_iload f224_208 rfl rfl).trans ?_
      refine (x_iconst f224_209 rfl).trans ?_
      refine (x_iadd f224_210 rfl).trans ?_
      refine (x_faload f224_211 rfl).trans ?_
      refine g_c ?_
      refine g_c ?_
      refine (x_i2l f224_212 rfl).trans ?_
      refine (x_lconst f224_213 rfl).trans ?_
      refine (x_land f224_216 rfl).trans ?_
      refine (x_lor f224_217 rfl).trans ?_
      refine (x_invokevirtual (G := grd (kd l1 = 8) (bnI (sem 103 0 [aA l1, aI (s (-7) (w32 (l3 + 1))), aL (lorA (lshlA (s (-7) (w32 (l3 + 2))) 32) (landA (s (-7) (w32 (l3 + 3))) 4294967295)), aU] [] s) fun a2 s1 => sem 224 221 [aA l0, aA l1, aA l2, aI l3] [aI a2] s1)) f224_218 rfl rfl).trans ?_
      refine g_c ?_
      refine bI_c fun a2 s1 => ?_
      refine (x_aload f224_221 rfl rfl).trans ?_
      refine (x_aload f224_222 rfl rfl).trans ?_
      refine (x_iload f224_223 rfl rfl).trans ?_
      refine (x_iconst f224_224 rfl).trans ?_
      refine (x_iadd f224_225 rfl).trans ?_
      refine (x_faload f224_226 rfl).trans ?_
      refine g_c ?_
      refine g_c ?_
      refine (x_aload f224_227 rfl rfl).trans ?_
      refine (x_iload f224_228 rfl rfl).trans ?_
      refine (x_iconst f224_229 rfl).trans ?_
      refine (x_iadd f224_230 rfl).trans ?_
      refine (x_faload f224_231 rfl).trans ?_
      refine g_c ?_
      refine g_c ?_
      refine (x_i2l f224_232 rfl).trans ?_
      refine (x_iconst f224_233 rfl).trans ?_
      refine (x_lshl f224_235 rfl).trans ?_
      refine (x_aload f224_236 rfl rfl).trans ?_
      refine (x_iload f224_237 rfl rfl).trans ?_
      refine (x_iconst f224_238 rfl).trans ?_
      refine (x_iadd f224_239 rfl).trans ?_
      refine (x_faload f224_240 rfl).trans ?_
      refine g_c ?_
      refine g_c ?_
      refine (x_i2l f224_241 rfl).trans ?_
      refine (x_lconst f224_242 rfl).trans ?_
      refine (x_land f224_245 rfl).trans ?_
      refine (x_lor f224_246 rfl).trans ?_
      refine (x_invokevirtual (G := grd (kd l2 = 9) (bnI (sem 155 0 [aA l2, aI (s1 (-7) (w32 (l3 + 1))), aL (lorA (lshlA (s1 (-7) (w32 (l3 + 2))) 32) (landA (s1 (-7) (w32 (l3 + 3))) 4294967295)), aU, aU] [] s1) fun a4 s3 => sem 224 250 [aA l0, aA l1, aA l2, aI l3] [aI a4, aI a2] s3)) f224_247 rfl rfl).trans ?_
      refine g_c ?_
      refine bI_c fun a4 s3 => ?_
      refine (x_icmp_eq (tg := 1454) f224_250 rfl rfl).trans (i_c ?_ ?_)
      · refine (x_iinc (l2 := [aA l0, aA l1, aA l2, aI (w32 (l3 + 7))]) f224_1454 rfl rfl rfl).trans ?_
        refine (x_goto (tg := 18) f224_1457 rfl rfl).trans ?_
        rfl
      · refine (x_iconst f224_253 rfl).trans ?_
        exact x_zreturn0 f224_254 rfl
    refine x_ite.trans (i_c ?_ ?_)
    · refine (x_aload f224_255 rfl rfl).trans ?_
      refine (x_invokevirtual (G := grd (kd l1 = 8) (bnI (sem 104 0 [aA l1] [] s) fun a6 s5 => sem 224 259 [aA l0, aA l1, aA l2, aI l3] [aI a6] s5)) f224_256 rfl rfl).trans ?_
      refine g_c ?_
      refine bI_c fun a6 s5 => ?_
      refine (x_aload f224_259 rfl rfl).trans ?_
      refine (x_invokevirtual (G := grd (kd l2 = 9) (bnI (sem 156 0 [aA l2, aU] [] s5) fun a8 s7 => sem 224 263 [aA l0, aA l1, aA l2, aI l3] [aI a8, aI a6] s7)) f224_260 rfl rfl).trans ?_
      refine g_c ?_
      refine bI_c fun a8 s7 => ?_
      refine (x_icmp_eq (tg := 1454) f224_263 rfl rfl).trans (i_c ?_ ?_)
      · refine (x_iinc (l2 := [aA l0, aA l1, aA l2, aI (w32 (l3 + 7))]) f224_1454 rfl rfl rfl).trans ?_
        refine (x_goto (tg := 18) f224_1457 rfl rfl).trans ?_
        rfl
      · refine (x_iconst f224_266 rfl).trans ?_
        exact x_zreturn0 f224_267 rfl
    refine x_ite.trans (i_c ?_ ?_)
    · refine (x_aload f224_268 rfl rfl).trans ?_
      refine (x_invokevirtual (G := grd (kd l1 = 8) (bnI (sem 105 0 [aA l1] [] s) fun a10 s9 => sem 224 272 [aA l0, aA l1, aA l2, aI l3] [aI a10] s9)) f224_269 rfl rfl).trans ?_
      refine g_c ?_
      refine bI_c fun a10 s9 => ?_
      refine (x_aload f224_272 rfl rfl).trans ?_
      refine (x_invokevirtual (G := grd (kd l2 = 9) (bnI (sem 161 0 [aA l2] [] s9) fun a12 s11 => sem 224 276 [aA l0, aA l1, aA l2, aI l3] [aI a12, aI a10] s11)) f224_273 rfl rfl).trans ?_
      refine g_c ?_
      refine bI_c fun a12 s11 => ?_
      refine (x_icmp_eq (tg := 1454) f224_276 rfl rfl).trans (i_c ?_ ?_)
      · refine (x_iinc (l2 := [aA l0, aA l1, aA l2, aI (w32 (l3 + 7))]) f224_1454 rfl rfl rfl).trans ?_
        refine (x_goto (tg := 18) f224_1457 rfl rfl).trans ?_
        rfl
      · refine (x_iconst f224_279 rfl).trans ?_
        exact x_zreturn0 f224_280 rfl
    refine x_ite.trans (i_c ?_ ?_)
    · refine (x_aload f224_281 rfl rfl).trans ?_
      refine (x_invokevirtual (G := grd (kd l1 = 8) (bnI (sem 106 0 [aA l1, aU, aU] [] s) fun a14 s13 => sem 224 285 [aA l0, aA l1, aA l2, aI l3] [aI a14] s13)) f224_282 rfl rfl).trans ?_
      refine g_c ?_
      refine bI_c fun a14 s13 => ?_
      refine (x_aload f224_285 rfl rfl).trans ?_
      refine (x_invokevirtual (G := grd (kd l2 = 9) (bnI (sem 162 0 [aA l2] [] s13) fun a16 s15 => sem 224 289 [aA l0, aA l1, aA l2, aI l3] [aI a16, aI a14] s15)) f224_286 rfl rfl).trans ?_
      refine g_c ?_
      refine bI_c fun a16 s15 => ?_
      refine (x_icmp_eq (tg := 1454) f224_289 rfl rfl).trans (i_c ?_ ?_)
      · refine (x_iinc (l2 := [aA l0, aA l1, aA l2, aI (w32 (l3 + 7))]) f224_1454 rfl rfl rfl).trans ?_
        refine (x_goto (tg := 18) f224_1457 rfl rfl).trans ?_
        rfl
      · refine (x_iconst f224_292 rfl).trans ?_
        exact x_zreturn0 f224_293 rfl
    refine x_ite.trans (i_c ?_ ?_)
    · refine (x_aload f224_294 rfl rfl).trans ?_
      refine (x_aload f224_295 rfl rfl).trans ?_
      refine (x_iload f224_296 rfl rfl).trans ?_
      refine (x_iconst f224_297 rfl).trans ?_
      refine (x_iadd f224_298 rfl).trans ?_
      refine (x_faload f224_299 rfl).trans ?_
      refine g_c ?_
      refine g_c ?_
      refine (x_aload f224_300 rfl rfl).trans ?_
      refine (x_iload f224_301 rfl rfl).trans ?_
      refine (x_iconst f224_302 rfl).trans ?_
      refine (x_iadd f224_303 rfl).trans ?_
      refine (x_faload f224_304 rfl).trans ?_
      refine g_c ?_
      refine g_c ?_
      refine (x_aload f224_305 rfl rfl).trans ?_
      refine (x_iload f224_306 rfl rfl).trans ?_
      refine (x_iconst f224_307 rfl).trans ?_
      refine (x_iadd f224_308 rfl).trans ?_
      refine (x_faload f224_309 rfl).trans ?_
      refine g_c ?_
      refine g_c ?_
      refine (x_invokevirtual (G := grd (kd l1 = 8) (bnI (sem 107 0 [aA l1, aI (s (-7) (w32 (l3 + 1))), aI (s (-7) (w32 (l3 + 2))), aI (s (-7) (w32 (l3 + 3)))] [] s) fun a18 s17 => sem 224 313 [aA l0, aA l1, aA l2, aI l3] [aI a18] s17)) f224_310 rfl rfl).trans ?_
      refine g_c ?_
      refine bI_c fun a18 s17 => ?_
      refine (x_aload f224_313 rfl rfl).trans ?_
      refine (x_aload f224_314 rfl rfl).trans ?_
      refine (x_iload f224_315 rfl rfl).trans ?_
      refine (x_iconst f224_316 rfl).trans ?_
      refine (x_iadd f224_317 rfl).trans ?_
      refine (x_faload f224_318 rfl).trans ?_
      refine g_c ?_
      refine g_c ?_
      refine (x_aload f224_319 rfl rfl).trans ?_
      refine (x_iload f224_320 rfl rfl).trans ?_
      refine (x_iconst f224_321 rfl).trans ?_
      refine (x_iadd f224_322 rfl).trans ?_
      refine (x_faload f224_323 rfl).trans ?_
      refine g_c ?_
      refine g_c ?_
      refine (x_aload f224_324 rfl rfl).trans ?_
      refine (x_iload f224_325 rfl rfl).trans ?_
      refine (x_iconst f224_326 rfl).trans ?_
      refine (x_iadd f224_327 rfl).trans ?_
      refine (x_faload f224_328 rfl).trans ?_
      refine g_c ?_
      refine g_c ?_
      refine (x_invokevirtual (G := grd (kd l2 = 9) (bnI (sem 165 0 [aA l2, aI (s17 (-7) (w32 (l3 + 1))), aI (s17 (-7) (w32 (l3 + 2))), aI (s17 (-7) (w32 (l3 + 3)))] [] s17) fun a20 s19 => sem 224 332 [aA l0, aA l1, aA l2, aI l3] [aI a20, aI a18] s19)) f224_329 rfl rfl).trans ?_
      refine g_c ?_
      refine bI_c fun a20 s19 => ?_
      refine (x_icmp_eq (tg := 1454) f224_332 rfl rfl).trans (i_c ?_ ?_)
      · refine (x_iinc (l2 := [aA l0, aA l1, aA l2, aI (w32 (l3 + 7))]) f224_1454 rfl rfl rfl).trans ?_
        refine (x_goto (tg := 18) f224_1457 rfl rfl).trans ?_
        rfl
      · refine (x_iconst f224_335 rfl).trans ?_
        exact x_zreturn0 f224_336 rfl
    refine x_ite.trans (i_c ?_ ?_)
    · refine (x_aload f224_337 rfl rfl).trans ?_
      refine (x_aload f224_338 rfl rfl).trans ?_
      refine (x_iload f224_339 rfl rfl).trans ?_
      refine (x_iconst f224_340 rfl).trans ?_
      refine (x_iadd f224_341 rfl).trans ?_
      refine (x_faload f224_342 rfl).trans ?_
      refine g_c ?_
      refine g_c ?_
      refine (x_invokevirtual (G := grd (kd l1 = 8) (bnI (sem 108 0 [aA l1, aI (s (-7) (w32 (l3 + 1)))] [] s) fun a22 s21 => sem 224 346 [aA l0, aA l1, aA l2, aI l3] [aI a22] s21)) f224_343 rfl rfl).trans ?_
      refine g_c ?_
      refine bI_c fun a22 s21 => ?_
      refine (x_aload f224_346 rfl rfl).trans ?_
      refine (x_aload f224_347 rfl rfl).trans ?_
      refine (x_iload f224_348 rfl rfl).trans ?_
      refine (x_iconst f224_349 rfl).trans ?_
      refine (x_iadd f224_350 rfl).trans ?_
      refine (x_faload f224_351 rfl).trans ?_
      refine g_c ?_
      refine g_c ?_
      refine (x_invokevirtual (G := grd (kd l2 = 9) (bnI (sem 166 0 [aA l2, aI (s21 (-7) (w32 (l3 + 1)))] [] s21) fun a24 s23 => sem 224 355 [aA l0, aA l1, aA l2, aI l3] [aI a24, aI a22] s23)) f224_352 rfl rfl).trans ?_
      refine g_c ?_
      refine bI_c fun a24 s23 => ?_
      refine (x_icmp_eq (tg := 1454) f224_355 rfl rfl).trans (i_c ?_ ?_)
      · refine (x_iinc (l2 := [aA l0, aA l1, aA l2, aI (w32 (l3 + 7))]) f224_1454 rfl rfl rfl).trans ?_
        refine (x_goto (tg := 18) f224_1457 rfl rfl).trans ?_
        rfl
      · refine (x_iconst f224_358 rfl).trans ?_
        exact x_zreturn0 f224_359 rfl
    refine x_ite.trans (i_c ?_ ?_)
    · refine (x_aload f224_360 rfl rfl).trans ?_
      refine (x_aload f224_361 rfl rfl).trans ?_
      refine (x_iload f224_362 rfl rfl).trans ?_
      refine (x_iconst f224_363 rfl).trans ?_
      refine (x_iadd f224_364 rfl).trans ?_
      refine (x_faload f224_365 rfl).trans ?_
      refine g_c ?_
      refine g_c ?_
      refine (x_aload f224_366 rfl rfl).trans ?_
      refine (x_iload f224_367 rfl rfl).trans ?_
      refine (x_iconst f224_368 rfl).trans ?_
      refine (x_iadd f224_369 rfl).trans ?_
      refine (x_faload f224_370 rfl).trans ?_
      refine g_c ?_
      refine g_c ?_
      refine (x_aload f224_371 rfl rfl).trans ?_
      refine (x_iload f224_372 rfl rfl).trans ?_
      refine (x_iconst f224_373 rfl).trans ?_
      refine (x_iadd f224_374 rfl).trans ?_
      refine (x_faload f224_375 rfl).trans ?_
      refine g_c ?_
      refine g_c ?_
      refine (x_if_eq (tg := 383) f224_376 rfl rfl).trans ?_
      refine Eq.trans (b := if (s (-7) (w32 (l3 + 3))) = 0 then sem 224 384 [aA l0, aA l1, aA l2, aI l3] [aI 0, aI (s (-7) (w32 (l3 + 2))), aI (s (-7) (w32 (l3 + 1))), aA l1] s else sem 224 384 [aA l0, aA l1, aA l2, aI l3] [aI 1, aI (s (-7) (w32 (l3 + 2))), aI (s (-7) (w32 (l3 + 1))), aA l1] s) (i_c ?_ ?_) ?_
      · refine (x_iconst f224_383 rfl).trans ?_
        rfl
      · refine (x_iconst f224_379 rfl).trans ?_
        refine (x_goto (tg := 384) f224_380 rfl rfl).trans ?_
        rfl
      refine m_I.trans ?_
      refine (x_invokevirtual (G := grd (kd l1 = 8) (bnL (sem 109 0 [aA l1, aI (s (-7) (w32 (l3 + 1))), aI (s (-7) (w32 (l3 + 2))), aI (if (s (-7) (w32 (l3 + 3))) = 0 then 0 else 1), aU] [] s) fun a26 s25 => sem 224 387 [aA l0, aA l1, aA l2, aI l3] [aL a26] s25)) f224_384 rfl rfl).trans ?_
      refine g_c ?_
      refine bL_c fun a26 s25 => ?_
      refine (x_aload f224_387 rfl rfl).trans ?_
      refine (x_aload f224_388 rfl rfl).trans ?_
      refine (x_iload f224_389 rfl rfl).trans ?_
      refine (x_iconst f224_390 rfl).trans ?_
      refine (x_iadd f224_391 rfl).trans ?_
      refine (x_faload f224_392 rfl).trans ?_
      refine g_c ?_
      refine g_c ?_
      refine (x_aload f224_393 rfl rfl).trans ?_
      refine (x_iload f224_394 rfl rfl).trans ?_
      refine (x_iconst f224_395 rfl).trans ?_
      refine (x_iadd f224_396 rfl).trans ?_
      refine (x_faload f224_397 rfl).trans ?_
      refine g_c ?_
      refine g_c ?_
      refine (x_aload f224_398 rfl rfl).trans ?_
      refine (x_iload f224_399 rfl rfl).trans ?_
      refine (x_iconst f224_400 rfl).trans ?_
      refine (x_iadd f224_401 rfl).trans ?_
      refine (x_faload f224_402 rfl).trans ?_
      refine g_c ?_
      refine g_c ?_
      refine (x_if_eq (tg := 410) f224_403 rfl rfl).trans ?_
      refine Eq.trans (b := if (s25 (-7) (w32 (l3 + 3))) = 0 then sem 224 411 [aA l0, aA l1, aA l2, aI l3] [aI 0, aI (s25 (-7) (w32 (l3 + 2))), aI (s25 (-7) (w32 (l3 + 1))), aA l2, aL a26] s25 else sem 224 411 [aA l0, aA l1, aA l2, aI l3] [aI 1, aI (s25 (-7) (w32 (l3 + 2))), aI (s25 (-7) (w32 (l3 + 1))), aA l2, aL a26] s25) (i_c ?_ ?_) ?_
      · refine (x_iconst f224_410 rfl).trans ?_
        rfl
      · refine (x_iconst f224_406 rfl).trans ?_
        refine (x_goto (tg := 411) f224_407 rfl rfl).trans ?_
        rfl
      refine m_I.trans ?_
      refine (x_invokevirtual (G := grd (kd l2 = 9) (bnL (sem 171 0 [aA l2, aI (s25 (-7) (w32 (l3 + 1))), aI (s25 (-7) (w32 (l3 + 2))), aI (if (s25 (-7) (w32 (l3 + 3))) = 0 then 0 else 1)] [] s25) fun a28 s27 => sem 224 414 [aA l0, aA l1, aA l2, aI l3] [aL a28, aL a26] s27)) f224_411 rfl rfl).trans ?_
      refine g_c ?_
      refine bL_c fun a28 s27 => ?_
      refine (x_lcmp f224_414 rfl).trans ?_
      refine (x_if_eq (tg := 1454) f224_415 rfl rfl).trans (i_c ?_ ?_)
      · refine (x_iinc (l2 := [aA l0, aA l1, aA l2, aI (w32 (l3 + 7))]) f224_1454 rfl rfl rfl).trans ?_
        refine (x_goto (tg := 18) f224_1457 rfl rfl).trans ?_
        rfl
      · refine (x_iconst f224_418 rfl).trans ?_
        exact x_zreturn0 f224_419 rfl
    refine x_ite.trans (i_c ?_ ?_)
    · refine (x_aload f224_420 rfl rfl).trans ?_
      refine (x_aload f224_421 rfl rfl).trans ?_
      refine (x_iload f224_422 rfl rfl).trans ?_
      refine (x_iconst f224_423 rfl).trans ?_
      refine (x_iadd f224_424 rfl).trans ?_
      refine (x_faload f224_425 rfl).trans ?_
      refine g_c ?_
      refine g_c ?_
      refine (x_aload f224_426 rfl rfl).trans ?_
      refine (x_iload f224_427 rfl rfl).trans ?_
      refine (x_iconst f224_428 rfl).trans ?_
      refine (x_iadd f224_429 rfl).trans ?_
      refine (x_faload f224_430 rfl).trans ?_
      refine g_c ?_
      refine g_c ?_
      refine (x_aload f224_431 rfl rfl).trans ?_
      refine (x_iload f224_432 rfl rfl).trans ?_
      refine (x_iconst f224_433 rfl).trans ?_
      refine (x_iadd f224_434 rfl).trans ?_
      refine (x_faload f224_435 rfl).trans ?_
      refine g_c ?_
      refine g_c ?_
      refine (x_if_eq (tg := 443) f224_436 rfl rfl).trans ?_
      refine Eq.trans (b := if (s (-7) (w32 (l3 + 3))) = 0 then sem 224 444 [aA l0, aA l1, aA l2, aI l3] [aI 0, aI (s (-7) (w32 (l3 + 2))), aI (s (-7) (w32 (l3 + 1))), aA l1] s else sem 224 444 [aA l0, aA l1, aA l2, aI l3] [aI 1, aI (s (-7) (w32 (l3 + 2))), aI (s (-7) (w32 (l3 + 1))), aA l1] s) (i_c ?_ ?_) ?_
      · refine (x_iconst f224_443 rfl).trans ?_
        rfl
      · refine (x_iconst f224_439 rfl).trans ?_
        refine (x_goto (tg := 444) f224_440 rfl rfl).trans ?_
        rfl
      refine m_I.trans ?_
      refine (x_invokevirtual (G := grd (kd l1 = 8) (bnL (sem 110 0 [aA l1, aI (s (-7) (w32 (l3 + 1))), aI (s (-7) (w32 (l3 + 2))), aI (if (s (-7) (w32 (l3 + 3))) = 0 then 0 else 1), aU] [] s) fun a30 s29 => sem 224 447 [aA l0, aA l1, aA l2, aI l3] [aL a30] s29)) f224_444 rfl rfl).trans ?_
      refine g_c ?_
      refine bL_c fun a30 s29 => ?_
      refine (x_aload f224_447 rfl rfl).trans ?_
      refine (x_aload f224_448 rfl rfl).trans ?_
      refine (x_iload f224_449 rfl rfl).trans ?_
      refine (x_iconst f224_450 rfl).trans ?_
      refine (x_iadd f224_451 rfl).trans ?_
      refine (x_faload f224_452 rfl).trans ?_
      refine g_c ?_
      refine g_c ?_
      refine (x_aload f224_453 rfl rfl).trans ?_
      refine (x_iload f224_454 rfl rfl).trans ?_
      refine (x_iconst f224_455 rfl).trans ?_
      refine (x_iadd f224_456 rfl).trans ?_
      refine (x_faload f224_457 rfl).trans ?_
      refine g_c ?_
      refine g_c ?_
      refine (x_aload f224_458 rfl rfl).trans ?_
      refine (x_iload f224_459 rfl rfl).trans ?_
      refine (x_iconst f224_460 rfl).trans ?_
      refine (x_iadd f224_461 rfl).trans ?_
      refine (x_faload f224_462 rfl).trans ?_
      refine g_c ?_
      refine g_c ?_
      refine (x_if_eq (tg := 470) f224_463 rfl rfl).trans ?_
      refine Eq.trans (b := if (s29 (-7) (w32 (l3 + 3))) = 0 then sem 224 471 [aA l0, aA l1, aA l2, aI l3] [aI 0, aI (s29 (-7) (w32 (l3 + 2))), aI (s29 (-7) (w32 (l3 + 1))), aA l2, aL a30] s29 else sem 224 471 [aA l0, aA l1, aA l2, aI l3] [aI 1, aI (s29 (-7) (w32 (l3 + 2))), aI (s29 (-7) (w32 (l3 + 1))), aA l2, aL a30] s29) (i_c ?_ ?_) ?_
      · refine (x_iconst f224_470 rfl).trans ?_
        rfl
      · refine (x_iconst f224_466 rfl).trans ?_
        refine (x_goto (tg := 471) f224_467 rfl rfl).trans ?_
        rfl
      refine m_I.trans ?_
      refine (x_invokevirtual (G := grd (kd l2 = 9) (bnL (sem 172 0 [aA l2, aI (s29 (-7) (w32 (l3 + 1))), aI (s29 (-7) (w32 (l3 + 2))), aI (if (s29 (-7) (w32 (l3 + 3))) = 0 then 0 else 1)] [] s29) fun a32 s31 => sem 224 474 [aA l0, aA l1, aA l2, aI l3] [aL a32, aL a30] s31)) f224_471 rfl rfl).trans ?_
      refine g_c ?_
      refine bL_c fun a32 s31 => ?_
      refine (x_lcmp f224_474 rfl).trans ?_
      refine (x_if_eq (tg := 1454) f224_475 rfl rfl).trans (i_c ?_ ?_)
      · refine (x_iinc (l2 := [aA l0, aA l1, aA l2, aI (w32 (l3 + 7))]) f224_1454 rfl rfl rfl).trans ?_
        refine (x_goto (tg := 18) f224_1457 rfl rfl).trans ?_
        rfl
      · refine (x_iconst f224_478 rfl).trans ?_
        exact x_zreturn0 f224_479 rfl
    refine x_ite.trans (i_c ?_ ?_)
    · refine (x_aload f224_480 rfl rfl).trans ?_
      refine (x_aload f224_481 rfl rfl).trans ?_
      refine (x_iload f224_482 rfl rfl).trans ?_
      refine (x_iconst f224_483 rfl).trans ?_
      refine (x_iadd f224_484 rfl).trans ?_
      refine (x_faload f224_485 rfl).trans ?_
      refine g_c ?_
      refine g_c ?_
      refine (x_aload f224_486 rfl rfl).trans ?_
      refine (x_iload f224_487 rfl rfl).trans ?_
      refine (x_iconst f224_488 rfl).trans ?_
      refine (x_iadd f224_489 rfl).trans ?_
      refine (x_faload f224_490 rfl).trans ?_
      refine g_c ?_
      refine g_c ?_
      refine (x_invokevirtual (G := grd (kd l1 = 8) (bnI (sem 111 0 [aA l1, aI (s (-7) (w32 (l3 + 1))), aI (s (-7) (w32 (l3 + 2))), aU] [] s) fun a34 s33 => sem 224 494 [aA l0, aA l1, aA l2, aI l3] [aI a34] s33)) f224_491 rfl rfl).trans ?_
      refine g_c ?_
      refine bI_c fun a34 s33 => ?_
      refine (x_aload f224_494 rfl rfl).trans ?_
      refine (x_aload f224_495 rfl rfl).trans ?_
      refine (x_iload f224_496 rfl rfl).trans ?_
      refine (x_iconst f224_497 rfl).trans ?_
      refine (x_iadd f224_498 rfl).trans ?_
      refine (x_faload f224_499 rfl).trans ?_
      refine g_c ?_
      refine g_c ?_
      refine (x_aload f224_500 rfl rfl).trans ?_
      refine (x_iload f224_501 rfl rfl).trans ?_
      refine (x_iconst f224_502 rfl).trans ?_
      refine (x_iadd f224_503 rfl).trans ?_
      refine (x_faload f224_504 rfl).trans ?_
      refine g_c ?_
      refine g_c ?_
      refine (x_invokevirtual (G := grd (kd l2 = 9) (bnI (sem 175 0 [aA l2, aI (s33 (-7) (w32 (l3 + 1))), aI (s33 (-7) (w32 (l3 + 2)))] [] s33) fun a36 s35 => sem 224 508 [aA l0, aA l1, aA l2, aI l3] [aI a36, aI a34] s35)) f224_505 rfl rfl).trans ?_
      refine g_c ?_
      refine bI_c fun a36 s35 => ?_
      refine (x_icmp_eq (tg := 1454) f224_508 rfl rfl).trans (i_c ?_ ?_)
      · refine (x_iinc (l2 := [aA l0, aA l1, aA l2, aI (w32 (l3 + 7))]) f224_1454 rfl rfl rfl).trans ?_
        refine (x_goto (tg := 18) f224_1457 rfl rfl).trans ?_
        rfl
      · refine (x_iconst f224_511 rfl).trans ?_
        exact x_zreturn0 f224_512 rfl
    refine x_ite.trans (i_c ?_ ?_)
    · refine (x_aload f224_513 rfl rfl).trans ?_
      refine (x_aload f224_514 rfl rfl).trans ?_
      refine (x_iload f224_515 rfl rfl).trans ?_
      refine (x_iconst f224_516 rfl).trans ?_
      refine (x_iadd f224_517 rfl).trans ?_
      refine (x_faload f224_518 rfl).trans ?_
      refine g_c ?_
      refine g_c ?_
      refine (x_aload f224_519 rfl rfl).trans ?_
      refine (x_iload f224_520 rfl rfl).trans ?_
      refine (x_iconst f224_521 rfl).trans ?_
      refine (x_iadd f224_522 rfl).trans ?_
      refine (x_faload f224_523 rfl).trans ?_
      refine g_c ?_
      refine g_c ?_
      refine (x_if_eq (tg := 531) f224_524 rfl rfl).trans ?_
      refine Eq.trans (b := if (s (-7) (w32 (l3 + 2))) = 0 then sem 224 532 [aA l0, aA l1, aA l2, aI l3] [aI 0, aI (s (-7) (w32 (l3 + 1))), aA l1] s else sem 224 532 [aA l0, aA l1, aA l2, aI l3] [aI 1, aI (s (-7) (w32 (l3 + 1))), aA l1] s) (i_c ?_ ?_) ?_
      · refine (x_iconst f224_531 rfl).trans ?_
        rfl
      · refine (x_iconst f224_527 rfl).trans ?_
        refine (x_goto (tg := 532) f224_528 rfl rfl).trans ?_
        rfl
      refine m_I.trans ?_
      refine (x_invokevirtual (G := grd (kd l1 = 8) (bnL (sem 112 0 [aA l1, aI (s (-7) (w32 (l3 + 1))), aI (if (s (-7) (w32 (l3 + 2))) = 0 then 0 else 1), aU, aU] [] s) fun a38 s37 => sem 224 535 [aA l0, aA l1, aA l2, aI l3] [aL a38] s37)) f224_532 rfl rfl).trans ?_
      refine g_c ?_
      refine bL_c fun a38 s37 => ?_
      refine (x_aload f224_535 rfl rfl).trans ?_
      refine (x_aload f224_536 rfl rfl).trans ?_
      refine (x_iload f224_537 rfl rfl).trans ?_
      refine (x_iconst f224_538 rfl).trans ?_
      refine (x_iadd f224_539 rfl).trans ?_
      refine (x_faload f224_540 rfl).trans ?_
      refine g_c ?_
      refine g_c ?_
      refine (x_aload f224_541 rfl rfl).trans ?_
      refine (x_iload f224_542 rfl rfl).trans ?_
      refine (x_iconst f224_543 rfl).trans ?_
      refine (x_iadd f224_544 rfl).trans ?_
      refine (x_faload f224_545 rfl).trans ?_
      refine g_c ?_
      refine g_c ?_
      refine (x_if_eq (tg := 553) f224_546 rfl rfl).trans ?_
      refine Eq.trans (b := if (s37 (-7) (w32 (l3 + 2))) = 0 then sem 224 554 [aA l0, aA l1, aA l2, aI l3] [aI 0, aI (s37 (-7) (w32 (l3 + 1))), aA l2, aL a38] s37 else sem 224 554 [aA l0, aA l1, aA l2, aI l3] [aI 1, aI (s37 (-7) (w32 (l3 + 1))), aA l2, aL a38] s37) (i_c ?_ ?_) ?_
      · refine (x_iconst f224_553 rfl).trans ?_
        rfl
      · refine (x_iconst f224_549 rfl).trans ?_
        refine (x_goto (tg := 554) f224_550 rfl rfl).trans ?_
        rfl
      refine m_I.trans ?_
      refine (x_invokevirtual (G := grd (kd l2 = 9) (bnL (sem 176 0 [aA l2, aI (s37 (-7) (w32 (l3 + 1))), aI (if (s37 (-7) (w32 (l3 + 2))) = 0 then 0 else 1), aU, aU] [] s37) fun a40 s39 => sem 224 557 [aA l0, aA l1, aA l2, aI l3] [aL a40, aL a38] s39)) f224_554 rfl rfl).trans ?_
      refine g_c ?_
      refine bL_c fun a40 s39 => ?_
      refine (x_lcmp f224_557 rfl).trans ?_
      refine (x_if_eq (tg := 1454) f224_558 rfl rfl).trans (i_c ?_ ?_)
      · refine (x_iinc (l2 := [aA l0, aA l1, aA l2, aI (w32 (l3 + 7))]) f224_1454 rfl rfl rfl).trans ?_
        refine (x_goto (tg := 18) f224_1457 rfl rfl).trans ?_
        rfl
      · refine (x_iconst f224_561 rfl).trans ?_
        exact x_zreturn0 f224_562 rfl
    refine x_ite.trans (i_c ?_ ?_)
    · refine (x_aload f224_563 rfl rfl).trans ?_
      refine (x_invokevirtual (G := grd (kd l1 = 8) (bnI (sem 113 0 [aA l1] [] s) fun a42 s41 => sem 224 567 [aA l0, aA l1, aA l2, aI l3] [aI a42] s41)) f224_564 rfl rfl).trans ?_
      refine g_c ?_
      refine bI_c fun a42 s41 => ?_
      refine (x_aload f224_567 rfl rfl).trans ?_
      refine (x_invokevirtual (G := grd (kd l2 = 9) (bnI (sem 177 0 [aA l2, aU, aU, aU, aU, aU, aU] [] s41) fun a44 s43 => sem 224 571 [aA l0, aA l1, aA l2, aI l3] [aI a44, aI a42] s43)) f224_568 rfl rfl).trans ?_
      refine g_c ?_
      refine bI_c fun a44 s43 => ?_
      refine (x_icmp_eq (tg := 1454) f224_571 rfl rfl).trans (i_c ?_ ?_)
      · refine (x_iinc (l2 := [aA l0, aA l1, aA l2, aI (w32 (l3 + 7))]) f224_1454 rfl rfl rfl).trans ?_
        refine (x_goto (tg := 18) f224_1457 rfl rfl).trans ?_
        rfl
      · refine (x_iconst f224_574 rfl).trans ?_
        exact x_zreturn0 f224_575 rfl
    refine x_ite.trans (i_c ?_ ?_)
    · refine (x_aload f224_576 rfl rfl).trans ?_
      refine (x_aload f224_577 rfl rfl).trans ?_
      refine (x_iload f224_578 rfl rfl).trans ?_
      refine (x_iconst f224_579 rfl).trans ?_
      refine (x_iadd f224_580 rfl).trans ?_
      refine (x_faload f224_581 rfl).trans ?_
      refine g_c ?_
      refine g_c ?_
      refine (x_aload f224_582 rfl rfl).trans ?_
      refine (x_iload f224_583 rfl rfl).trans ?_
      refine (x_iconst f224_584 rfl).trans ?_
      refine (x_iadd f224_585 rfl).trans ?_
      refine (x_faload f224_586 rfl).trans ?_
      refine g_c ?_
      refine g_c ?_
      refine (x_aload f224_587 rfl rfl).trans ?_
      refine (x_iload f224_588 rfl rfl).trans ?_
      refine (x_iconst f224_589 rfl).trans ?_
      refine (x_iadd f224_590 rfl).trans ?_
      refine (x_faload f224_591 rfl).trans ?_
      refine g_c ?_
      refine g_c ?_
      refine (x_aload f224_592 rfl rfl).trans ?_
      refine (x_iload f224_593 rfl rfl).trans ?_
      refine (x_iconst f224_594 rfl).trans ?_
      refine (x_iadd f224_595 rfl).trans ?_
      refine (x_faload f224_596 rfl).trans ?_
      refine g_c ?_
      refine g_c ?_
      refine (x_if_eq (tg := 604) f224_597 rfl rfl).trans ?_
      refine Eq.trans (b := if (s (-7) (w32 (l3 + 4))) = 0 then sem 224 605 [aA l0, aA l1, aA l2, aI l3] [aI 0, aI (s (-7) (w32 (l3 + 3))), aI (s (-7) (w32 (l3 + 2))), aI (s (-7) (w32 (l3 + 1))), aA l1] s else sem 224 605 [aA l0, aA l1, aA l2, aI l3] [aI 1, aI (s (-7) (w32 (l3 + 3))), aI (s (-7) (w32 (l3 + 2))), aI (s (-7) (w32 (l3 + 1))), aA l1] s) (i_c ?_ ?_) ?_
      · refine (x_iconst f224_604 rfl).trans ?_
        rfl
      · refine (x_iconst f224_600 rfl).trans ?_
        refine (x_goto (tg := 605) f224_601 rfl rfl).trans ?_
        rfl
      refine m_I.trans ?_
      refine (x_invokevirtual (G := grd (kd l1 = 8) (bnL (sem 114 0 [aA l1, aI (s (-7) (w32 (l3 + 1))), aI (s (-7) (w32 (l3 + 2))), aI (s (-7) (w32 (l3 + 3))), aI (if (s (-7) (w32 (l3 + 4))) = 0 then 0 else 1), aU, aU, aU] [] s) fun a46 s45 => sem 224 608 [aA l0, aA l1, aA l2, aI l3] [aL a46] s45)) f224_605 rfl rfl).trans ?_
      refine g_c ?_
      refine bL_c fun a46 s45 => ?_
      refine (x_aload f224_608 rfl rfl).trans ?_
      refine (x_aload f224_609 rfl rfl).trans ?_
      refine (x_iload f224_610 rfl rfl).trans ?_
      refine (x_iconst f224_611 rfl).trans ?_
      refine (x_iadd f224_612 rfl).trans ?_
      refine (x_faload f224_613 rfl).trans ?_
      refine g_c ?_
      refine g_c ?_
      refine (x_aload f224_614 rfl rfl).trans ?_
      refine (x_iload f224_615 rfl rfl).trans ?_
      refine (x_iconst f224_616 rfl).trans ?_
      refine (x_iadd f224_617 rfl).trans ?_
      refine (x_faload f224_618 rfl).trans ?_
      refine g_c ?_
      refine g_c ?_
      refine (x_aload f224_619 rfl rfl).trans ?_
      refine (x_iload f224_620 rfl rfl).trans ?_
      refine (x_iconst f224_621 rfl).trans ?_
      refine (x_iadd f224_622 rfl).trans ?_
      refine (x_faload f224_623 rfl).trans ?_
      refine g_c ?_
      refine g_c ?_
      refine (x_aload f224_624 rfl rfl).trans ?_
      refine (x_iload f224_625 rfl rfl).trans ?_
      refine (x_iconst f224_626 rfl).trans ?_
      refine (x_iadd f224_627 rfl).trans ?_
      refine (x_faload f224_628 rfl).trans ?_
      refine g_c ?_
      refine g_c ?_
      refine (x_if_eq (tg := 636) f224_629 rfl rfl).trans ?_
      refine Eq.trans (b := if (s45 (-7) (w32 (l3 + 4))) = 0 then sem 224 637 [aA l0, aA l1, aA l2, aI l3] [aI 0, aI (s45 (-7) (w32 (l3 + 3))), aI (s45 (-7) (w32 (l3 + 2))), aI (s45 (-7) (w32 (l3 + 1))), aA l2, aL a46] s45 else sem 224 637 [aA l0, aA l1, aA l2, aI l3] [aI 1, aI (s45 (-7) (w32 (l3 + 3))), aI (s45 (-7) (w32 (l3 + 2))), aI (s45 (-7) (w32 (l3 + 1))), aA l2, aL a46] s45) (i_c ?_ ?_) ?_
      · refine (x_iconst f224_636 rfl).trans ?_
        rfl
      · refine (x_iconst f224_632 rfl).trans ?_
        refine (x_goto (tg := 637) f224_633 rfl rfl).trans ?_
        rfl
      refine m_I.trans ?_
      refine (x_invokevirtual (G := grd (kd l2 = 9) (bnL (sem 178 0 [aA l2, aI (s45 (-7) (w32 (l3 + 1))), aI (s45 (-7) (w32 (l3 + 2))), aI (s45 (-7) (w32 (l3 + 3))), aI (if (s45 (-7) (w32 (l3 + 4))) = 0 then 0 else 1), aU, aU] [] s45) fun a48 s47 => sem 224 640 [aA l0, aA l1, aA l2, aI l3] [aL a48, aL a46] s47)) f224_637 rfl rfl).trans ?_
      refine g_c ?_
      refine bL_c fun a48 s47 => ?_
      refine (x_lcmp f224_640 rfl).trans ?_
      refine (x_if_eq (tg := 1454) f224_641 rfl rfl).trans (i_c ?_ ?_)
      · refine (x_iinc (l2 := [aA l0, aA l1, aA l2, aI (w32 (l3 + 7))]) f224_1454 rfl rfl rfl).trans ?_
        refine (x_goto (tg := 18) f224_1457 rfl rfl).trans ?_
        rfl
      · refine (x_iconst f224_644 rfl).trans ?_
        exact x_zreturn0 f224_645 rfl
    refine x_ite.trans (i_c ?_ ?_)
    · refine (x_aload f224_646 rfl rfl).trans ?_
      refine (x_aload f224_647 rfl rfl).trans ?_
      refine (x_iload f224_648 rfl rfl).trans ?_
      refine (x_iconst f224_649 rfl).trans ?_
      refine (x_iadd f224_650 rfl).trans ?_
      refine (x_faload f224_651 rfl).trans ?_
      refine g_c ?_
      refine g_c ?_
      refine (x_aload f224_652 rfl rfl).trans ?_
      refine (x_iload f224_653 rfl rfl).trans ?_
      refine (x_iconst f224_654 rfl).trans ?_
      refine (x_iadd f224_655 rfl).trans ?_
      refine (x_faload f224_656 rfl).trans ?_
      refine g_c ?_
      refine g_c ?_
      refine (x_invokevirtual (G := grd (kd l1 = 8) (bnI (sem 115 0 [aA l1, aI (s (-7) (w32 (l3 + 1))), aI (s (-7) (w32 (l3 + 2)))] [] s) fun a50 s49 => sem 224 660 [aA l0, aA l1, aA l2, aI l3] [aI a50] s49)) f224_657 rfl rfl).trans ?_
      refine g_c ?_
      refine bI_c fun a50 s49 => ?_
      refine (x_aload f224_660 rfl rfl).trans ?_
      refine (x_aload f224_661 rfl rfl).trans ?_
      refine (x_iload f224_662 rfl rfl).trans ?_
      refine (x_iconst f224_663 rfl).trans ?_
      refine (x_iadd f224_664 rfl).trans ?_
      refine (x_faload f224_665 rfl).trans ?_
      refine g_c ?_
      refine g_c ?_
      refine (x_aload f224_666 rfl rfl).trans ?_
      refine (x_iload f224_667 rfl rfl).trans ?_
      refine (x_iconst f224_668 rfl).trans ?_
      refine (x_iadd f224_669 rfl).trans ?_
      refine (x_faload f224_670 rfl).trans ?_
      refine g_c ?_
      refine g_c ?_
      refine (x_invokevirtual (G := grd (kd l2 = 9) (bnI (sem 179 0 [aA l2, aI (s49 (-7) (w32 (l3 + 1))), aI (s49 (-7) (w32 (l3 + 2)))] [] s49) fun a52 s51 => sem 224 674 [aA l0, aA l1, aA l2, aI l3] [aI a52, aI a50] s51)) f224_671 rfl rfl).trans ?_
      refine g_c ?_
      refine bI_c fun a52 s51 => ?_
      refine (x_icmp_eq (tg := 1454) f224_674 rfl rfl).trans (i_c ?_ ?_)
      · refine (x_iinc (l2 := [aA l0, aA l1, aA l2, aI (w32 (l3 + 7))]) f224_1454 rfl rfl rfl).trans ?_
        refine (x_goto (tg := 18) f224_1457 rfl rfl).trans ?_
        rfl
      · refine (x_iconst f224_677 rfl).trans ?_
        exact x_zreturn0 f224_678 rfl
    refine x_ite.trans (i_c ?_ ?_)
    · refine (x_aload f224_679 rfl rfl).trans ?_
      refine (x_invokevirtual (G := grd (kd l1 = 8) (bnI (sem 116 0 [aA l1] [] s) fun a54 s53 => sem 224 683 [aA l0, aA l1, aA l2, aI l3] [aI a54] s53)) f224_680 rfl rfl).trans ?_
      refine g_c ?_
      refine bI_c fun a54 s53 => ?_
      refine (x_aload f224_683 rfl rfl).trans ?_
      refine (x_invokevirtual (G := grd (kd l2 = 9) (bnI (sem 180 0 [aA l2, aU] [] s53) fun a56 s55 => sem 224 687 [aA l0, aA l1, aA l2, aI l3] [aI a56, aI a54] s55)) f224_684 rfl rfl).trans ?_
      refine g_c ?_
      refine bI_c fun a56 s55 => ?_
      refine (x_icmp_eq (tg := 1454) f224_687 rfl rfl).trans (i_c ?_ ?_)
      · refine (x_iinc (l2 := [aA l0, aA l1, aA l2, aI (w32 (l3 + 7))]) f224_1454 rfl rfl rfl).trans ?_
        refine (x_goto (tg := 18) f224_1457 rfl rfl).trans ?_
        rfl
      · refine (x_iconst f224_690 rfl).trans ?_
        exact x_zreturn0 f224_691 rfl
    refine x_ite.trans (i_c ?_ ?_)
    · refine (x_aload f224_692 rfl rfl).trans ?_
      refine (x_aload f224_693 rfl rfl).trans ?_
      refine (x_iload f224_694 rfl rfl).trans ?_
      refine (x_iconst f224_695 rfl).trans ?_
      refine (x_iadd f224_696 rfl).trans ?_
      refine (x_faload f224_697 rfl).trans ?_
      refine g_c ?_
      refine g_c ?_
      refine (x_aload f224_698 rfl rfl).trans ?_
      refine (x_iload f224_699 rfl rfl).trans ?_
      refine (x_iconst f224_700 rfl).trans ?_
      refine (x_iadd f224_701 rfl).trans ?_
      refine (x_faload f224_702 rfl).trans ?_
      refine g_c ?_
      refine g_c ?_
      refine (x_if_eq (tg := 710) f224_703 rfl rfl).trans ?_
      refine Eq.trans (b := if (s (-7) (w32 (l3 + 2))) = 0 then sem 224 711 [aA l0, aA l1, aA l2, aI l3] [aI 0, aI (s (-7) (w32 (l3 + 1))), aA l1] s else sem 224 711 [aA l0, aA l1, aA l2, aI l3] [aI 1, aI (s (-7) (w32 (l3 + 1))), aA l1] s) (i_c ?_ ?_) ?_
      · refine (x_iconst f224_710 rfl).trans ?_
        rfl
      · refine (x_iconst f224_706 rfl).trans ?_
        refine (x_goto (tg := 711) f224_707 rfl rfl).trans ?_
        rfl
      refine m_I.trans ?_
      refine (x_invokevirtual (G := grd (kd l1 = 8) (bnL (sem 117 0 [aA l1, aI (s (-7) (w32 (l3 + 1))), aI (if (s (-7) (w32 (l3 + 2))) = 0 then 0 else 1), aU, aU] [] s) fun a58 s57 => sem 224 714 [aA l0, aA l1, aA l2, aI l3] [aL a58] s57)) f224_711 rfl rfl).trans ?_
      refine g_c ?_
      refine bL_c fun a58 s57 => ?_
      refine (x_aload f224_714 rfl rfl).trans ?_
      refine (x_aload f224_715 rfl rfl).trans ?_
      refine (x_iload f224_716 rfl rfl).trans ?_
      refine (x_iconst f224_717 rfl).trans ?_
      refine (x_iadd f224_718 rfl).trans ?_
      refine (x_faload f224_719 rfl).trans ?_
      refine g_c ?_
      refine g_c ?_
      refine (x_aload f224_720 rfl rfl).trans ?_
      refine (x_iload f224_721 rfl rfl).trans ?_
      refine (x_iconst f224_722 rfl).trans ?_
      refine (x_iadd f224_723 rfl).trans ?_
      refine (x_faload f224_724 rfl).trans ?_
      refine g_c ?_
      refine g_c ?_
      refine (x_if_eq (tg := 732) f224_725 rfl rfl).trans ?_
      refine Eq.trans (b := if (s57 (-7) (w32 (l3 + 2))) = 0 then sem 224 733 [aA l0, aA l1, aA l2, aI l3] [aI 0, aI (s57 (-7) (w32 (l3 + 1))), aA l2, aL a58] s57 else sem 224 733 [aA l0, aA l1, aA l2, aI l3] [aI 1, aI (s57 (-7) (w32 (l3 + 1))), aA l2, aL a58] s57) (i_c ?_ ?_) ?_
      · refine (x_iconst f224_732 rfl).trans ?_
        rfl
      · refine (x_iconst f224_728 rfl).trans ?_
        refine (x_goto (tg := 733) f224_729 rfl rfl).trans ?_
        rfl
      refine m_I.trans ?_
      refine (x_invokevirtual (G := grd (kd l2 = 9) (bnL (sem 183 0 [aA l2, aI (s57 (-7) (w32 (l3 + 1))), aI (if (s57 (-7) (w32 (l3 + 2))) = 0 then 0 else 1)] [] s57) fun a60 s59 => sem 224 736 [aA l0, aA l1, aA l2, aI l3] [aL a60, aL a58] s59)) f224_733 rfl rfl).trans ?_
      refine g_c ?_
      refine bL_c fun a60 s59 => ?_
      refine (x_lcmp f224_736 rfl).trans ?_
      refine (x_if_eq (tg := 1454) f224_737 rfl rfl).trans (i_c ?_ ?_)
      · refine (x_iinc (l2 := [aA l0, aA l1, aA l2, aI (w32 (l3 + 7))]) f224_1454 rfl rfl rfl).trans ?_
        refine (x_goto (tg := 18) f224_1457 rfl rfl).trans ?_
        rfl
      · refine (x_iconst f224_740 rfl).trans ?_
        exact x_zreturn0 f224_741 rfl
    refine x_ite.trans (i_c ?_ ?_)
    · refine (x_aload f224_742 rfl rfl).trans ?_
      refine (x_invokevirtual (G := grd (kd l1 = 8) (bnI (sem 118 0 [aA l1] [] s) fun a62 s61 => sem 224 746 [aA l0, aA l1, aA l2, aI l3] [aI a62] s61)) f224_743 rfl rfl).trans ?_
      refine g_c ?_
      refine bI_c fun a62 s61 => ?_
      refine (x_aload f224_746 rfl rfl).trans ?_
      refine (x_invokevirtual (G := grd (kd l2 = 9) (bnI (sem 184 0 [aA l2, aU] [] s61) fun a64 s63 => sem 224 750 [aA l0, aA l1, aA l2, aI l3] [aI a64, aI a62] s63)) f224_747 rfl rfl).trans ?_
      refine g_c ?_
      refine bI_c fun a64 s63 => ?_
      refine (x_icmp_eq (tg := 1454) f224_750 rfl rfl).trans (i_c ?_ ?_)
      · refine (x_iinc (l2 := [aA l0, aA l1, aA l2, aI (w32 (l3 + 7))]) f224_1454 rfl rfl rfl).trans ?_
        refine (x_goto (tg := 18) f224_1457 rfl rfl).trans ?_
        rfl
      · refine (x_iconst f224_753 rfl).trans ?_
        exact x_zreturn0 f224_754 rfl
    refine x_ite.trans (i_c ?_ ?_)
    · refine (x_aload f224_755 rfl rfl).trans ?_
      refine (x_invokevirtual (G := grd (kd l1 = 8) (bnI (sem 119 0 [aA l1] [] s) fun a66 s65 => sem 224 759 [aA l0, aA l1, aA l2, aI l3] [aI a66] s65)) f224_756 rfl rfl).trans ?_
      refine g_c ?_
      refine bI_c fun a66 s65 => ?_
      refine (x_aload f224_759 rfl rfl).trans ?_
      refine (x_invokevirtual (G := grd (kd l2 = 9) (bnI (sem 186 0 [aA l2, aU, aU, aU, aU, aU, aU, aU] [] s65) fun a68 s67 => sem 224 763 [aA l0, aA l1, aA l2, aI l3] [aI a68, aI a66] s67)) f224_760 rfl rfl).trans ?_
      refine g_c ?_
      refine bI_c fun a68 s67 => ?_
      refine (x_icmp_eq (tg := 1454) f224_763 rfl rfl).trans (i_c ?_ ?_)
      · refine (x_iinc (l2 := [aA l0, aA l1, aA l2, aI (w32 (l3 + 7))]) f224_1454 rfl rfl rfl).trans ?_
        refine (x_goto (tg := 18) f224_1457 rfl rfl).trans ?_
        rfl
      · refine (x_iconst f224_766 rfl).trans ?_
        exact x_zreturn0 f224_767 rfl
    refine x_ite.trans (i_c ?_ ?_)
    · refine (x_aload f224_768 rfl rfl).trans ?_
      refine (x_aload f224_769 rfl rfl).trans ?_
      refine (x_iload f224_770 rfl rfl).trans ?_
      refine (x_iconst f224_771 rfl).trans ?_
      refine (x_iadd f224_772 rfl).trans ?_
      refine (x_faload f224_773 rfl).trans ?_
      refine g_c ?_
      refine g_c ?_
      refine (x_aload f224_774 rfl rfl).trans ?_
      refine (x_iload f224_775 rfl rfl).trans ?_
      refine (x_iconst f224_776 rfl).trans ?_
      refine (x_iadd f224_777 rfl).trans ?_
      refine (x_faload f224_778 rfl).trans ?_
      refine g_c ?_
      refine g_c ?_
      refine (x_aload f224_779 rfl rfl).trans ?_
      refine (x_iload f224_780 rfl rfl).trans ?_
      refine (x_iconst f224_781 rfl).trans ?_
      refine (x_iadd f224_782 rfl).trans ?_
      refine (x_faload f224_783 rfl).trans ?_
      refine g_c ?_
      refine g_c ?_
      refine (x_aload f224_784 rfl rfl).trans ?_
      refine (x_iload f224_785 rfl rfl).trans ?_
      refine (x_iconst f224_786 rfl).trans ?_
      refine (x_iadd f224_787 rfl).trans ?_
      refine (x_faload f224_788 rfl).trans ?_
      refine g_c ?_
      refine g_c ?_
      refine (x_aload f224_789 rfl rfl).trans ?_
      refine (x_iload f224_790 rfl rfl).trans ?_
      refine (x_iconst f224_791 rfl).trans ?_
      refine (x_iadd f224_792 rfl).trans ?_
      refine (x_faload f224_793 rfl).trans ?_
      refine g_c ?_
      refine g_c ?_
      refine (x_aload f224_794 rfl rfl).trans ?_
      refine (x_iload f224_795 rfl rfl).trans ?_
      refine (x_iconst f224_796 rfl).trans ?_
      refine (x_iadd f224_798 rfl).trans ?_
      refine (x_faload f224_799 rfl).trans ?_
      refine g_c ?_
      refine g_c ?_
      refine (x_if_eq (tg := 807) f224_800 rfl rfl).trans ?_
      refine Eq.trans (b := if (s (-7) (w32 (l3 + 6))) = 0 then sem 224 808 [aA l0, aA l1, aA l2, aI l3] [aI 0, aI (s (-7) (w32 (l3 + 5))), aI (s (-7) (w32 (l3 + 4))), aI (s (-7) (w32 (l3 + 3))), aI (s (-7) (w32 (l3 + 2))), aI (s (-7) (w32 (l3 + 1))), aA l1] s else sem 224 808 [aA l0, aA l1, aA l2, aI l3] [aI 1, aI (s (-7) (w32 (l3 + 5))), aI (s (-7) (w32 (l3 + 4))), aI (s (-7) (w32 (l3 + 3))), aI (s (-7) (w32 (l3 + 2))), aI (s (-7) (w32 (l3 + 1))), aA l1] s) (i_c ?_ ?_) ?_
      · refine (x_iconst f224_807 rfl).trans ?_
        rfl
      · refine (x_iconst f224_803 rfl).trans ?_
        refine (x_goto (tg := 808) f224_804 rfl rfl).trans ?_
        rfl
      refine m_I.trans ?_
      refine (x_invokevirtual (G := grd (kd l1 = 8) (bnL (sem 120 0 [aA l1, aI (s (-7) (w32 (l3 + 1))), aI (s (-7) (w32 (l3 + 2))), aI (s (-7) (w32 (l3 + 3))), aI (s (-7) (w32 (l3 + 4))), aI (s (-7) (w32 (l3 + 5))), aI (if (s (-7) (w32 (l3 + 6))) = 0 then 0 else 1), aU] [] s) fun a70 s69 => sem 224 811 [aA l0, aA l1, aA l2, aI l3] [aL a70] s69)) f224_808 rfl rfl).trans ?_
      refine g_c ?_
      refine bL_c fun a70 s69 => ?_
      refine (x_aload f224_811 rfl rfl).trans ?_
      refine (x_aload f224_812 rfl rfl).trans ?_
      refine (x_iload f224_813 rfl rfl).trans ?_
      refine (x_iconst f224_814 rfl).trans ?_
      refine (x_iadd f224_815 rfl).trans ?_
      refine (x_faload f224_816 rfl).trans ?_
      refine g_c ?_
      refine g_c ?_
      refine (x_aload f224_817 rfl rfl).trans ?_
      refine (x_iload f224_818 rfl rfl).trans ?_
      refine (x_iconst f224_819 rfl).trans ?_
      refine (x_iadd f224_820 rfl).trans ?_
      refine (x_faload f224_821 rfl).trans ?_
      refine g_c ?_
      refine g_c ?_
      refine (x_aload f224_822 rfl rfl).trans ?_
      refine (x_iload f224_823 rfl rfl).trans ?_
      refine (x_iconst f224_824 rfl).trans ?_
      refine (x_iadd f224_825 rfl).trans ?_
      refine (x_faload f224_826 rfl).trans ?_
      refine g_c ?_
      refine g_c ?_
      refine (x_aload f224_827 rfl rfl).trans ?_
      refine (x_iload f224_828 rfl rfl).trans ?_
      refine (x_iconst f224_829 rfl).trans ?_
      refine (x_iadd f224_830 rfl).trans ?_
      refine (x_faload f224_831 rfl).trans ?_
      refine g_c ?_
      refine g_c ?_
      refine (x_aload f224_832 rfl rfl).trans ?_
      refine (x_iload f224_833 rfl rfl).trans ?_
      refine (x_iconst f224_834 rfl).trans ?_
      refine (x_iadd f224_835 rfl).trans ?_
      refine (x_faload f224_836 rfl).trans ?_
      refine g_c ?_
      refine g_c ?_
      refine (x_aload f224_837 rfl rfl).trans ?_
      refine (x_iload f224_838 rfl rfl).trans ?_
      refine (x_iconst f224_839 rfl).trans ?_
      refine (x_iadd f224_841 rfl).trans ?_
      refine (x_faload f224_842 rfl).trans ?_
      refine g_c ?_
      refine g_c ?_
      refine (x_if_eq (tg := 850) f224_843 rfl rfl).trans ?_
      refine Eq.trans (b := if (s69 (-7) (w32 (l3 + 6))) = 0 then sem 224 851 [aA l0, aA l1, aA l2, aI l3] [aI 0, aI (s69 (-7) (w32 (l3 + 5))), aI (s69 (-7) (w32 (l3 + 4))), aI (s69 (-7) (w32 (l3 + 3))), aI (s69 (-7) (w32 (l3 + 2))), aI (s69 (-7) (w32 (l3 + 1))), aA l2, aL a70] s69 else sem 224 851 [aA l0, aA l1, aA l2, aI l3] [aI 1, aI (s69 (-7) (w32 (l3 + 5))), aI (s69 (-7) (w32 (l3 + 4))), aI (s69 (-7) (w32 (l3 + 3))), aI (s69 (-7) (w32 (l3 + 2))), aI (s69 (-7) (w32 (l3 + 1))), aA l2, aL a70] s69) (i_c ?_ ?_) ?_
      · refine (x_iconst f224_850 rfl).trans ?_
        rfl
      · refine (x_iconst f224_846 rfl).trans ?_
        refine (x_goto (tg := 851) f224_847 rfl rfl).trans ?_
        rfl
      refine m_I.trans ?_
      refine (x_invokevirtual (G := grd (kd l2 = 9) (bnL (sem 193 0 [aA l2, aI (s69 (-7) (w32 (l3 + 1))), aI (s69 (-7) (w32 (l3 + 2))), aI (s69 (-7) (w32 (l3 + 3))), aI (s69 (-7) (w32 (l3 + 4))), aI (s69 (-7) (w32 (l3 + 5))), aI (if (s69 (-7) (w32 (l3 + 6))) = 0 then 0 else 1), aU, aU, aU, aU, aU, aU, aU] [] s69) fun a72 s71 => sem 224 854 [aA l0, aA l1, aA l2, aI l3] [aL a72, aL a70] s71)) f224_851 rfl rfl).trans ?_
      refine g_c ?_
      refine bL_c fun a72 s71 => ?_
      refine (x_lcmp f224_854 rfl).trans ?_
      refine (x_if_eq (tg := 1454) f224_855 rfl rfl).trans (i_c ?_ ?_)
      · refine (x_iinc (l2 := [aA l0, aA l1, aA l2, aI (w32 (l3 + 7))]) f224_1454 rfl rfl rfl).trans ?_
        refine (x_goto (tg := 18) f224_1457 rfl rfl).trans ?_
        rfl
      · refine (x_iconst f224_858 rfl).trans ?_
        exact x_zreturn0 f224_859 rfl
    refine x_ite.trans (i_c ?_ ?_)
    · refine (x_aload f224_860 rfl rfl).trans ?_
      refine (x_aload f224_861 rfl rfl).trans ?_
      refine (x_iload f224_862 rfl rfl).trans ?_
      refine (x_iconst f224_863 rfl).trans ?_
      refine (x_iadd f224_864 rfl).trans ?_
      refine (x_faload f224_865 rfl).trans ?_
      refine g_c ?_
      refine g_c ?_
      refine (x_aload f224_866 rfl rfl).trans ?_
      refine (x_iload f224_867 rfl rfl).trans ?_
      refine (x_iconst f224_868 rfl).trans ?_
      refine (x_iadd f224_869 rfl).trans ?_
      refine (x_faload f224_870 rfl).trans ?_
      refine g_c ?_
      refine g_c ?_
      refine (x_aload f224_871 rfl rfl).trans ?_
      refine (x_iload f224_872 rfl rfl).trans ?_
      refine (x_iconst f224_873 rfl).trans ?_
      refine (x_iadd f224_874 rfl).trans ?_
      refine (x_faload f224_875 rfl).trans ?_
      refine g_c ?_
      refine g_c ?_
      refine (x_aload f224_876 rfl rfl).trans ?_
      refine (x_iload f224_877 rfl rfl).trans ?_
      refine (x_iconst f224_878 rfl).trans ?_
      refine (x_iadd f224_879 rfl).trans ?_
      refine (x_faload f224_880 rfl).trans ?_
      refine g_c ?_
      refine g_c ?_
      refine (x_aload f224_881 rfl rfl).trans ?_
      refine (x_iload f224_882 rfl rfl).trans ?_
      refine (x_iconst f224_883 rfl).trans ?_
      refine (x_iadd f224_884 rfl).trans ?_
      refine (x_faload f224_885 rfl).trans ?_
      refine g_c ?_
      refine g_c ?_
      refine (x_invokevirtual (G := grd (kd l1 = 8) (bnI (sem 121 0 [aA l1, aI (s (-7) (w32 (l3 + 1))), aI (s (-7) (w32 (l3 + 2))), aI (s (-7) (w32 (l3 + 3))), aI (s (-7) (w32 (l3 + 4))), aI (s (-7) (w32 (l3 + 5))), aU] [] s) fun a74 s73 => sem 224 889 [aA l0, aA l1, aA l2, aI l3] [aI a74] s73)) f224_886 rfl rfl).trans ?_
      refine g_c ?_
      refine bI_c fun a74 s73 => ?_
      refine (x_aload f224_889 rfl rfl).trans ?_
      refine (x_aload f224_890 rfl rfl).trans ?_
      refine (x_iload f224_891 rfl rfl).trans ?_
      refine (x_iconst f224_892 rfl).trans ?_
      refine (x_iadd f224_893 rfl).trans ?_
      refine (x_faload f224_894 rfl).trans ?_
      refine g_c ?_
      refine g_c ?_
      refine (x_aload f224_895 rfl rfl).trans ?_
      refine (x_iload f224_896 rfl rfl).trans ?_
      refine (x_iconst f224_897 rfl).trans ?_
      refine (x_iadd f224_898 rfl).trans ?_
      refine (x_faload f224_899 rfl).trans ?_
      refine g_c ?_
      refine g_c ?_
      refine (x_aload f224_900 rfl rfl).trans ?_
      refine (x_iload f224_901 rfl rfl).trans ?_
      refine (x_iconst f224_902 rfl).trans ?_
      refine (x_iadd f224_903 rfl).trans ?_
      refine (x_faload f224_904 rfl).trans ?_
      refine g_c ?_
      refine g_c ?_
      refine (x_aload f224_905 rfl rfl).trans ?_
      refine (x_iload f224_906 rfl rfl).trans ?_
      refine (x_iconst f224_907 rfl).trans ?_
      refine (x_iadd f224_908 rfl).trans ?_
      refine (x_faload f224_909 rfl).trans ?_
      refine g_c ?_
      refine g_c ?_
      refine (x_aload f224_910 rfl rfl).trans ?_
      refine (x_iload f224_911 rfl rfl).trans ?_
      refine (x_iconst f224_912 rfl).trans ?_
      refine (x_iadd f224_913 rfl).trans ?_
      refine (x_faload f224_914 rfl).trans ?_
      refine g_c ?_
      refine g_c ?_
      refine (x_invokevirtual (G := grd (kd l2 = 9) (bnI (sem 194 0 [aA l2, aI (s73 (-7) (w32 (l3 + 1))), aI (s73 (-7) (w32 (l3 + 2))), aI (s73 (-7) (w32 (l3 + 3))), aI (s73 (-7) (w32 (l3 + 4))), aI (s73 (-7) (w32 (l3 + 5))), aU, aU, aU, aU, aU, aU, aU] [] s73) fun a76 s75 => sem 224 918 [aA l0, aA l1, aA l2, aI l3] [aI a76, aI a74] s75)) f224_915 rfl rfl).trans ?_
      refine g_c ?_
      refine bI_c fun a76 s75 => ?_
      refine (x_icmp_eq (tg := 1454) f224_918 rfl rfl).trans (i_c ?_ ?_)
      · refine (x_iinc (l2 := [aA l0, aA l1, aA l2, aI (w32 (l3 + 7))]) f224_1454 rfl rfl rfl).trans ?_
        refine (x_goto (tg := 18) f224_1457 rfl rfl).trans ?_
        rfl
      · refine (x_iconst f224_921 rfl).trans ?_
        exact x_zreturn0 f224_922 rfl
    refine x_ite.trans (i_c ?_ ?_)
    · refine (x_aload f224_923 rfl rfl).trans ?_
      refine (x_aload f224_924 rfl rfl).trans ?_
      refine (x_iload f224_925 rfl rfl).trans ?_
      refine (x_iconst f224_926 rfl).trans ?_
      refine (x_iadd f224_927 rfl).trans ?_
      refine (x_faload f224_928 rfl).trans ?_
      refine g_c ?_
      refine g_c ?_
      refine (x_invokevirtual (G := grd (kd l1 = 8) (bnI (sem 122 0 [aA l1, aI (s (-7) (w32 (l3 + 1))), aU] [] s) fun a78 s77 => sem 224 932 [aA l0, aA l1, aA l2, aI l3] [aI a78] s77)) f224_929 rfl rfl).trans ?_
      refine g_c ?_
      refine bI_c fun a78 s77 => ?_
      refine (x_aload f224_932 rfl rfl).trans ?_
      refine (x_aload f224_933 rfl rfl).trans ?_
      refine (x_iload f224_934 rfl rfl).trans ?_
      refine (x_iconst f224_935 rfl).trans ?_
      refine (x_iadd f224_936 rfl).trans ?_
      refine (x_faload f224_937 rfl).trans ?_
      refine g_c ?_
      refine g_c ?_
      refine (x_invokevirtual (G := grd (kd l2 = 9) (bnI (sem 196 0 [aA l2, aI (s77 (-7) (w32 (l3 + 1))), aU] [] s77) fun a80 s79 => sem 224 941 [aA l0, aA l1, aA l2, aI l3] [aI a80, aI a78] s79)) f224_938 rfl rfl).trans ?_
      refine g_c ?_
      refine bI_c fun a80 s79 => ?_
      refine (x_icmp_eq (tg := 1454) f224_941 rfl rfl).trans (i_c ?_ ?_)
      · refine (x_iinc (l2 := [aA l0, aA l1, aA l2, aI (w32 (l3 + 7))]) f224_1454 rfl rfl rfl).trans ?_
        refine (x_goto (tg := 18) f224_1457 rfl rfl).trans ?_
        rfl
      · refine (x_iconst f224_944 rfl).trans ?_
        exact x_zreturn0 f224_945 rfl
    refine x_ite.trans (i_c ?_ ?_)
    · refine (x_aload f224_946 rfl rfl).trans ?_
      refine (x_aload f224_947 rfl rfl).trans ?_
      refine (x_iload f224_948 rfl rfl).trans ?_
      refine (x_iconst f224_949 rfl).trans ?_
      refine (x_iadd f224_950 rfl).trans ?_
      refine (x_faload f224_951 rfl).trans ?_
      refine g_c ?_
      refine g_c ?_
      refine (x_aload f224_952 rfl rfl).trans ?_
      refine (x_iload f224_953 rfl rfl).trans ?_
      refine (x_iconst f224_954 rfl).trans ?_
      refine (x_iadd f224_955 rfl).trans ?_
      refine (x_faload f224_956 rfl).trans ?_
      refine g_c ?_
      refine g_c ?_
      refine (x_invokevirtual (G := grd (kd l1 = 8) (bnI (sem 123 0 [aA l1, aI (s (-7) (w32 (l3 + 1))), aI (s (-7) (w32 (l3 + 2))), aU] [] s) fun a82 s81 => sem 224 960 [aA l0, aA l1, aA l2, aI l3] [aI a82] s81)) f224_957 rfl rfl).trans ?_
      refine g_c ?_
      refine bI_c fun a82 s81 => ?_
      refine (x_aload f224_960 rfl rfl).trans ?_
      refine (x_aload f224_961 rfl rfl).trans ?_
      refine (x_iload f224_962 rfl rfl).trans ?_
      refine (x_iconst f224_963 rfl).trans ?_
      refine (x_iadd f224_964 rfl).trans ?_
      refine (x_faload f224_965 rfl).trans ?_
      refine g_c ?_
      refine g_c ?_
      refine (x_aload f224_966 rfl rfl).trans ?_
      refine (x_iload f224_967 rfl rfl).trans ?_
      refine (x_iconst f224_968 rfl).trans ?_
      refine (x_iadd f224_969 rfl).trans ?_
      refine (x_faload f224_970 rfl).trans ?_
      refine g_c ?_
      refine g_c ?_
      refine (x_invokevirtual (G := grd (kd l2 = 9) (bnI (sem 197 0 [aA l2, aI (s81 (-7) (w32 (l3 + 1))), aI (s81 (-7) (w32 (l3 + 2))), aU] [] s81) fun a84 s83 => sem 224 974 [aA l0, aA l1, aA l2, aI l3] [aI a84, aI a82] s83)) f224_971 rfl rfl).trans ?_
      refine g_c ?_
      refine bI_c fun a84 s83 => ?_
      refine (x_icmp_eq (tg := 1454) f224_974 rfl rfl).trans (i_c ?_ ?_)
      · refine (x_iinc (l2 := [aA l0, aA l1, aA l2, aI (w32 (l3 + 7))]) f224_1454 rfl rfl rfl).trans ?_
        refine (x_goto (tg := 18) f224_1457 rfl rfl).trans ?_
        rfl
      · refine (x_iconst f224_977 rfl).trans ?_
        exact x_zreturn0 f224_978 rfl
    refine x_ite.trans (i_c ?_ ?_)
    · refine (x_aload f224_979 rfl rfl).trans ?_
      refine (x_aload f224_980 rfl rfl).trans ?_
      refine (x_iload f224_981 rfl rfl).trans ?_
      refine (x_iconst f224_982 rfl).trans ?_
      refine (x_iadd f224_983 rfl).trans ?_
      refine (x_faload f224_984 rfl).trans ?_
      refine g_c ?_
      refine g_c ?_
      refine (x_aload f224_985 rfl rfl).trans ?_
      refine (x_iload f224_986 rfl rfl).trans ?_
      refine (x_iconst f224_987 rfl).trans ?_
      refine (x_iadd f224_988 rfl).trans ?_
      refine (x_faload f224_989 rfl).trans ?_
      refine g_c ?_
      refine g_c ?_
      refine (x_invokevirtual (G := grd (kd l1 = 8) (bnI (sem 124 0 [aA l1, aI (s (-7) (w32 (l3 + 1))), aI (s (-7) (w32 (l3 + 2)))] [] s) fun a86 s85 => sem 224 993 [aA l0, aA l1, aA l2, aI l3] [aI a86] s85)) f224_990 rfl rfl).trans ?_
      refine g_c ?_
      refine bI_c fun a86 s85 => ?_
      refine (x_aload f224_993 rfl rfl).trans ?_
      refine (x_aload f224_994 rfl rfl).trans ?_
      refine (x_iload f224_995 rfl rfl).trans ?_
      refine (x_iconst f224_996 rfl).trans ?_
      refine (x_iadd f224_997 rfl).trans ?_
      refine (x_faload f224_998 rfl).trans ?_
      refine g_c ?_
      refine g_c ?_
      refine (x_aload f224_999 rfl rfl).trans ?_
      refine (x_iload f224_1000 rfl rfl).trans ?_
      refine (x_iconst f224_1001 rfl).trans ?_
      refine (x_iadd f224_1002 rfl).trans ?_
      refine (x_faload f224_1003 rfl).trans ?_
      refine g_c ?_
      refine g_c ?_
      refine (x_invokevirtual (G := grd (kd l2 = 9) (bnI (sem 198 0 [aA l2, aI (s85 (-7) (w32 (l3 + 1))), aI (s85 (-7) (w32 (l3 + 2))), aU] [] s85) fun a88 s87 => sem 224 1007 [aA l0, aA l1, aA l2, aI l3] [aI a88, aI a86] s87)) f224_1004 rfl rfl).trans ?_
      refine g_c ?_
      refine bI_c fun a88 s87 => ?_
      refine (x_icmp_eq (tg := 1454) f224_1007 rfl rfl).trans (i_c ?_ ?_)
      · refine (x_iinc (l2 := [aA l0, aA l1, aA l2, aI (w32 (l3 + 7))]) f224_1454 rfl rfl rfl).trans ?_
        refine (x_goto (tg := 18) f224_1457 rfl rfl).trans ?_
        rfl
      · refine (x_iconst f224_1010 rfl).trans ?_
        exact x_zreturn0 f224_1011 rfl
    refine x_ite.trans (i_c ?_ ?_)
    · refine (x_aload f224_1012 rfl rfl).trans ?_
      refine (x_aload f224_1013 rfl rfl).trans ?_
      refine (x_iload f224_1014 rfl rfl).trans ?_
      refine (x_iconst f224_1015 rfl).trans ?_
      refine (x_iadd f224_1016 rfl).trans ?_
      refine (x_faload f224_1017 rfl).trans ?_
      refine g_c ?_
      refine g_c ?_
      refine (x_aload f224_1018 rfl rfl).trans ?_
      refine (x_iload f224_1019 rfl rfl).trans ?_
      refine (x_iconst f224_1020 rfl).trans ?_
      refine (x_iadd f224_1021 rfl).trans ?_
      refine (x_faload f224_1022 rfl).trans ?_
      refine g_c ?_
      refine g_c ?_
      refine (x_aload f224_1023 rfl rfl).trans ?_
      refine (x_iload f224_1024 rfl rfl).trans ?_
      refine (x_iconst f224_1025 rfl).trans ?_
      refine (x_iadd f224_1026 rfl).trans ?_
      refine (x_faload f224_1027 rfl).trans ?_
      refine g_c ?_
      refine g_c ?_
      refine (x_invokevirtual (G := grd (kd l1 = 8) (bnI (sem 125 0 [aA l1, aI (s (-7) (w32 (l3 + 1))), aI (s (-7) (w32 (l3 + 2))), aI (s (-7) (w32 (l3 + 3))), aU] [] s) fun a90 s89 => sem 224 1031 [aA l0, aA l1, aA l2, aI l3] [aI a90] s89)) f224_1028 rfl rfl).trans ?_
      refine g_c ?_
      refine bI_c fun a90 s89 => ?_
      refine (x_aload f224_1031 rfl rfl).trans ?_
      refine (x_aload f224_1032 rfl rfl).trans ?_
      refine (x_iload f224_1033 rfl rfl).trans ?_
      refine (x_iconst f224_1034 rfl).trans ?_
      refine (x_iadd f224_1035 rfl).trans ?_
      refine (x_faload f224_1036 rfl).trans ?_
      refine g_c ?_
      refine g_c ?_
      refine (x_aload f224_1037 rfl rfl).trans ?_
      refine (x_iload f224_1038 rfl rfl).trans ?_
      refine (x_iconst f224_1039 rfl).trans ?_
      refine (x_iadd f224_1040 rfl).trans ?_
      refine (x_faload f224_1041 rfl).trans ?_
      refine g_c ?_
      refine g_c ?_
      refine (x_aload f224_1042 rfl rfl).trans ?_
      refine (x_iload f224_1043 rfl rfl).trans ?_
      refine (x_iconst f224_1044 rfl).trans ?_
      refine (x_iadd f224_1045 rfl).trans ?_
      refine (x_faload f224_1046 rfl).trans ?_
      refine g_c ?_
      refine g_c ?_
      refine (x_invokevirtual (G := grd (kd l2 = 9) (bnI (sem 199 0 [aA l2, aI (s89 (-7) (w32 (l3 + 1))), aI (s89 (-7) (w32 (l3 + 2))), aI (s89 (-7) (w32 (l3 + 3))), aU] [] s89) fun a92 s91 => sem 224 1050 [aA l0, aA l1, aA l2, aI l3] [aI a92, aI a90] s91)) f224_1047 rfl rfl).trans ?_
      refine g_c ?_
      refine bI_c fun a92 s91 => ?_
      refine (x_icmp_eq (tg := 1454) f224_1050 rfl rfl).trans (i_c ?_ ?_)
      · refine (x_iinc (l2 := [aA l0, aA l1, aA l2, aI (w32 (l3 + 7))]) f224_1454 rfl rfl rfl).trans ?_
        refine (x_goto (tg := 18) f224_1457 rfl rfl).trans ?_
        rfl
      · refine (x_iconst f224_1053 rfl).trans ?_
        exact x_zreturn0 f224_1054 rfl
    refine x_ite.trans (i_c ?_ ?_)
    · refine (x_aload f224_1055 rfl rfl).trans ?_
      refine (x_aload f224_1056 rfl rfl).trans ?_
      refine (x_iload f224_1057 rfl rfl).trans ?_
      refine (x_iconst f224_1058 rfl).trans ?_
      refine (x_iadd f224_1059 rfl).trans ?_
      refine (x_faload f224_1060 rfl).trans ?_
      refine g_c ?_
      refine g_c ?_
      refine (x_aload f224_1061 rfl rfl).trans ?_
      refine (x_iload f224_1062 rfl rfl).trans ?_
      refine (x_iconst f224_1063 rfl).trans ?_
      refine (x_iadd f224_1064 rfl).trans ?_
      refine (x_faload f224_1065 rfl).trans ?_
      refine g_c ?_
      refine g_c ?_
      refine (x_aload f224_1066 rfl rfl).trans ?_
      refine (x_iload f224_1067 rfl rfl).trans ?_
      refine (x_iconst f224_1068 rfl).trans ?_
      refine (x_iadd f224_1069 rfl).trans ?_
      refine (x_faload f224_1070 rfl).trans ?_
      refine g_c ?_
      refine g_c ?_
      refine (x_invokevirtual (G := grd (kd l1 = 8) (bnI (sem 126 0 [aA l1, aI (s (-7) (w32 (l3 + 1))), aI (s (-7) (w32 (l3 + 2))), aI (s (-7) (w32 (l3 + 3)))] [] s) fun a94 s93 => sem 224 1074 [aA l0, aA l1, aA l2, aI l3] [aI a94] s93)) f224_1071 rfl rfl).trans ?_
      refine g_c ?_
      refine bI_c fun a94 s93 => ?_
      refine (x_aload f224_1074 rfl rfl).trans ?_
      refine (x_aload f224_1075 rfl rfl).trans ?_
      refine (x_iload f224_1076 rfl rfl).trans ?_
      refine (x_iconst f224_1077 rfl).trans ?_
      refine (x_iadd f224_1078 rfl).trans ?_
      refine (x_faload f224_1079 rfl).trans ?_
      refine g_c ?_
      refine g_c ?_
      refine (x_aload f224_1080 rfl rfl).trans ?_
      refine (x_iload f224_1081 rfl rfl).trans ?_
      refine (x_iconst f224_1082 rfl).trans ?_
      refine (x_iadd f224_1083 rfl).trans ?_
      refine (x_faload f224_1084 rfl).trans ?_
      refine g_c ?_
      refine g_c ?_
      refine (x_aload f224_1085 rfl rfl).trans ?_
      refine (x_iload f224_1086 rfl rfl).trans ?_
      refine (x_iconst f224_1087 rfl).trans ?_
      refine (x_iadd f224_1088 rfl).trans ?_
      refine (x_faload f224_1089 rfl).trans ?_
      refine g_c ?_
      refine g_c ?_
      refine (x_invokevirtual (G := grd (kd l2 = 9) (bnI (sem 200 0 [aA l2, aI (s93 (-7) (w32 (l3 + 1))), aI (s93 (-7) (w32 (l3 + 2))), aI (s93 (-7) (w32 (l3 + 3)))] [] s93) fun a96 s95 => sem 224 1093 [aA l0, aA l1, aA l2, aI l3] [aI a96, aI a94] s95)) f224_1090 rfl rfl).trans ?_
      refine g_c ?_
      refine bI_c fun a96 s95 => ?_
      refine (x_icmp_eq (tg := 1454) f224_1093 rfl rfl).trans (i_c ?_ ?_)
      · refine (x_iinc (l2 := [aA l0, aA l1, aA l2, aI (w32 (l3 + 7))]) f224_1454 rfl rfl rfl).trans ?_
        refine (x_goto (tg := 18) f224_1457 rfl rfl).trans ?_
        rfl
      · refine (x_iconst f224_1096 rfl).trans ?_
        exact x_zreturn0 f224_1097 rfl
    refine x_ite.trans (i_c ?_ ?_)
    · refine (x_aload f224_1098 rfl rfl).trans ?_
      refine (x_invokevirtual (G := grd (kd l1 = 8) (bnI (sem 127 0 [aA l1, aU] [] s) fun a98 s97 => sem 224 1102 [aA l0, aA l1, aA l2, aI l3] [aI a98] s97)) f224_1099 rfl rfl).trans ?_
      refine g_c ?_
      refine bI_c fun a98 s97 => ?_
      refine (x_aload f224_1102 rfl rfl).trans ?_
      refine (x_invokevirtual (G := grd (kd l2 = 9) (bnI (sem 201 0 [aA l2, aU] [] s97) fun a100 s99 => sem 224 1106 [aA l0, aA l1, aA l2, aI l3] [aI a100, aI a98] s99)) f224_1103 rfl rfl).trans ?_
      refine g_c ?_
      refine bI_c fun a100 s99 => ?_
      refine (x_icmp_eq (tg := 1454) f224_1106 rfl rfl).trans (i_c ?_ ?_)
      · refine (x_iinc (l2 := [aA l0, aA l1, aA l2, aI (w32 (l3 + 7))]) f224_1454 rfl rfl rfl).trans ?_
        refine (x_goto (tg := 18) f224_1457 rfl rfl).trans ?_
        rfl
      · refine (x_iconst f224_1109 rfl).trans ?_
        exact x_zreturn0 f224_1110 rfl
    refine x_ite.trans (i_c ?_ ?_)
    · refine (x_aload f224_1111 rfl rfl).trans ?_
      refine (x_aload f224_1112 rfl rfl).trans ?_
      refine (x_iload f224_1113 rfl rfl).trans ?_
      refine (x_iconst f224_1114 rfl).trans ?_
      refine (x_iadd f224_1115 rfl).trans ?_
      refine (x_faload f224_1116 rfl).trans ?_
      refine g_c ?_
      refine g_c ?_
      refine (x_aload f224_1117 rfl rfl).trans ?_
      refine (x_iload f224_1118 rfl rfl).trans ?_
      refine (x_iconst f224_1119 rfl).trans ?_
      refine (x_iadd f224_1120 rfl).trans ?_
      refine (x_faload f224_1121 rfl).trans ?_
      refine g_c ?_
      refine g_c ?_
      refine (x_aload f224_1122 rfl rfl).trans ?_
      refine (x_iload f224_1123 rfl rfl).trans ?_
      refine (x_iconst f224_1124 rfl).trans ?_
      refine (x_iadd f224_1125 rfl).trans ?_
      refine (x_faload f224_1126 rfl).trans ?_
      refine g_c ?_
      refine g_c ?_
      refine (x_invokevirtual (G := grd (kd l1 = 8) (bnI (sem 128 0 [aA l1, aI (s (-7) (w32 (l3 + 1))), aI (s (-7) (w32 (l3 + 2))), aI (s (-7) (w32 (l3 + 3)))] [] s) fun a102 s101 => sem 224 1130 [aA l0, aA l1, aA l2, aI l3] [aI a102] s101)) f224_1127 rfl rfl).trans ?_
      refine g_c ?_
      refine bI_c fun a102 s101 => ?_
      refine (x_aload f224_1130 rfl rfl).trans ?_
      refine (x_aload f224_1131 rfl rfl).trans ?_
      refine (x_iload f224_1132 rfl rfl).trans ?_
      refine (x_iconst f224_1133 rfl).trans ?_
      refine (x_iadd f224_1134 rfl).trans ?_
      refine (x_faload f224_1135 rfl).trans ?_
      refine g_c ?_
      refine g_c ?_
      refine (x_aload f224_1136 rfl rfl).trans ?_
      refine (x_iload f224_1137 rfl rfl).trans ?_
      refine (x_iconst f224_1138 rfl).trans ?_
      refine (x_iadd f224_1139 rfl).trans ?_
      refine (x_faload f224_1140 rfl).trans ?_
      refine g_c ?_
      refine g_c ?_
      refine (x_aload f224_1141 rfl rfl).trans ?_
      refine (x_iload f224_1142 rfl rfl).trans ?_
      refine (x_iconst f224_1143 rfl).trans ?_
      refine (x_iadd f224_1144 rfl).trans ?_
      refine (x_faload f224_1145 rfl).trans ?_
      refine g_c ?_
      refine g_c ?_
      refine (x_invokevirtual (G := grd (kd l2 = 9) (bnI (sem 207 0 [aA l2, aI (s101 (-7) (w32 (l3 + 1))), aI (s101 (-7) (w32 (l3 + 2))), aI (s101 (-7) (w32 (l3 + 3))), aU] [] s101) fun a104 s103 => sem 224 1149 [aA l0, aA l1, aA l2, aI l3] [aI a104, aI a102] s103)) f224_1146 rfl rfl).trans ?_
      refine g_c ?_
      refine bI_c fun a104 s103 => ?_
      refine (x_icmp_eq (tg := 1454) f224_1149 rfl rfl).trans (i_c ?_ ?_)
      · refine (x_iinc (l2 := [aA l0, aA l1, aA l2, aI (w32 (l3 + 7))]) f224_1454 rfl rfl rfl).trans ?_
        refine (x_goto (tg := 18) f224_1457 rfl rfl).trans ?_
        rfl
      · refine (x_iconst f224_1152 rfl).trans ?_
        exact x_zreturn0 f224_1153 rfl
    refine x_ite.trans (i_c ?_ ?_)
    · refine (x_aload f224_1154 rfl rfl).trans ?_
      refine (x_aload f224_1155 rfl rfl).trans ?_
      refine (x_iload f224_1156 rfl rfl).trans ?_
      refine (x_iconst f224_1157 rfl).trans ?_
      refine (x_iadd f224_1158 rfl).trans ?_
      refine (x_faload f224_1159 rfl).trans ?_
      refine g_c ?_
      refine g_c ?_
      refine (x_invokevirtual (G := grd (kd l1 = 8) (bnI (sem 129 0 [aA l1, aI (s (-7) (w32 (l3 + 1)))] [] s) fun a106 s105 => sem 224 1163 [aA l0, aA l1, aA l2, aI l3] [aI a106] s105)) f224_1160 rfl rfl).trans ?_
      refine g_c ?_
      refine bI_c fun a106 s105 => ?_
      refine (x_aload f224_1163 rfl rfl).trans ?_
      refine (x_aload f224_1164 rfl rfl).trans ?_
      refine (x_iload f224_1165 rfl rfl).trans ?_
      refine (x_iconst f224_1166 rfl).trans ?_
      refine (x_iadd f224_1167 rfl).trans ?_
      refine (x_faload f224_1168 rfl).trans ?_
      refine g_c ?_
      refine g_c ?_
      refine (x_invokevirtual (G := grd (kd l2 = 9) (bnI (sem 210 0 [aA l2, aI (s105 (-7) (w32 (l3 + 1))), aU, aU] [] s105) fun a108 s107 => sem 224 1172 [aA l0, aA l1, aA l2, aI l3] [aI a108, aI a106] s107)) f224_1169 rfl rfl).trans ?_
      refine g_c ?_
      refine bI_c fun a108 s107 => ?_
      refine (x_icmp_eq (tg := 1454) f224_1172 rfl rfl).trans (i_c ?_ ?_)
      · refine (x_iinc (l2 := [aA l0, aA l1, aA l2, aI (w32 (l3 + 7))]) f224_1454 rfl rfl rfl).trans ?_
        refine (x_goto (tg := 18) f224_1457 rfl rfl).trans ?_
        rfl
      · refine (x_iconst f224_1175 rfl).trans ?_
        exact x_zreturn0 f224_1176 rfl
    refine x_ite.trans (i_c ?_ ?_)
    · refine (x_aload f224_1177 rfl rfl).trans ?_
      refine (x_aload f224_1178 rfl rfl).trans ?_
      refine (x_iload f224_1179 rfl rfl).trans ?_
      refine (x_iconst f224_1180 rfl).trans ?_
      refine (x_iadd f224_1181 rfl).trans ?_
      refine (x_faload f224_1182 rfl).trans ?_
      refine g_c ?_
      refine g_c ?_
      refine (x_invokevirtual (G := grd (kd l1 = 8) (bnI (sem 130 0 [aA l1, aI (s (-7) (w32 (l3 + 1)))] [] s) fun a110 s109 => sem 224 1186 [aA l0, aA l1, aA l2, aI l3] [aI a110] s109)) f224_1183 rfl rfl).trans ?_
      refine g_c ?_
      refine bI_c fun a110 s109 => ?_
      refine (x_aload f224_1186 rfl rfl).trans ?_
      refine (x_aload f224_1187 rfl rfl).trans ?_
      refine (x_iload f224_1188 rfl rfl).trans ?_
      refine (x_iconst f224_1189 rfl).trans ?_
      refine (x_iadd f224_1190 rfl).trans ?_
      refine (x_faload f224_1191 rfl).trans ?_
      refine g_c ?_
      refine g_c ?_
      refine (x_invokevirtual (G := grd (kd l2 = 9) (bnI (sem 212 0 [aA l2, aI (s109 (-7) (w32 (l3 + 1)))] [] s109) fun a112 s111 => sem 224 1195 [aA l0, aA l1, aA l2, aI l3] [aI a112, aI a110] s111)) f224_1192 rfl rfl).trans ?_
      refine g_c ?_
      refine bI_c fun a112 s111 => ?_
      refine (x_icmp_eq (tg := 1454) f224_1195 rfl rfl).trans (i_c ?_ ?_)
      · refine (x_iinc (l2 := [aA l0, aA l1, aA l2, aI (w32 (l3 + 7))]) f224_1454 rfl rfl rfl).trans ?_
        refine (x_goto (tg := 18) f224_1457 rfl rfl).trans ?_
        rfl
      · refine (x_iconst f224_1198 rfl).trans ?_
        exact x_zreturn0 f224_1199 rfl
    refine x_ite.trans (i_c ?_ ?_)
    · refine (x_aload f224_1200 rfl rfl).trans ?_
      refine (x_aload f224_1201 rfl rfl).trans ?_
      refine (x_iload f224_1202 rfl rfl).trans ?_
      refine (x_iconst f224_1203 rfl).trans ?_
      refine (x_iadd f224_1204 rfl).trans ?_
      refine (x_faload f224_1205 rfl).trans ?_
      refine g_c ?_
      refine g_c ?_
      refine (x_invokevirtual (G := grd (kd l1 = 8) (bnI (sem 131 0 [aA l1, aI (s (-7) (w32 (l3 + 1)))] [] s) fun a114 s113 => sem 224 1209 [aA l0, aA l1, aA l2, aI l3] [aI a114] s113)) f224_1206 rfl rfl).trans ?_
      refine g_c ?_
      refine bI_c fun a114 s113 => ?_
      refine (x_aload f224_1209 rfl rfl).trans ?_
      refine (x_aload f224_1210 rfl rfl).trans ?_
      refine (x_iload f224_1211 rfl rfl).trans ?_
      refine (x_iconst f224_1212 rfl).trans ?_
      refine (x_iadd f224_1213 rfl).trans ?_
      refine (x_faload f224_1214 rfl).trans ?_
      refine g_c ?_
      refine g_c ?_
      refine (x_invokevirtual (G := grd (kd l2 = 9) (bnI (sem 213 0 [aA l2, aI (s113 (-7) (w32 (l3 + 1)))] [] s113) fun a116 s115 => sem 224 1218 [aA l0, aA l1, aA l2, aI l3] [aI a116, aI a114] s115)) f224_1215 rfl rfl).trans ?_
      refine g_c ?_
      refine bI_c fun a116 s115 => ?_
      refine (x_icmp_eq (tg := 1454) f224_1218 rfl rfl).trans (i_c ?_ ?_)
      · refine (x_iinc (l2 := [aA l0, aA l1, aA l2, aI (w32 (l3 + 7))]) f224_1454 rfl rfl rfl).trans ?_
        refine (x_goto (tg := 18) f224_1457 rfl rfl).trans ?_
        rfl
      · refine (x_iconst f224_1221 rfl).trans ?_
        exact x_zreturn0 f224_1222 rfl
    refine x_ite.trans (i_c ?_ ?_)
    · refine (x_aload f224_1223 rfl rfl).trans ?_
      refine (x_aload f224_1224 rfl rfl).trans ?_
      refine (x_iload f224_1225 rfl rfl).trans ?_
      refine (x_iconst f224_1226 rfl).trans ?_
      refine (x_iadd f224_1227 rfl).trans ?_
      refine (x_faload f224_1228 rfl).trans ?_
      refine g_c ?_
      refine g_c ?_
      refine (x_invokevirtual (G := grd (kd l1 = 8) (bnI (sem 132 0 [aA l1, aI (s (-7) (w32 (l3 + 1))), aU, aU] [] s) fun a118 s117 => sem 224 1232 [aA l0, aA l1, aA l2, aI l3] [aI a118] s117)) f224_1229 rfl rfl).trans ?_
      refine g_c ?_
      refine bI_c fun a118 s117 => ?_
      refine (x_aload f224_1232 rfl rfl).trans ?_
      refine (x_aload f224_1233 rfl rfl).trans ?_
      refine (x_iload f224_1234 rfl rfl).trans ?_
      refine (x_iconst f224_1235 rfl).trans ?_
      refine (x_iadd f224_1236 rfl).trans ?_
      refine (x_faload f224_1237 rfl).trans ?_
      refine g_c ?_
      refine g_c ?_
      refine (x_invokevirtual (G := grd (kd l2 = 9) (bnI (sem 214 0 [aA l2, aI (s117 (-7) (w32 (l3 + 1))), aU, aU, aU, aU, aU] [] s117) fun a120 s119 => sem 224 1241 [aA l0, aA l1, aA l2, aI l3] [aI a120, aI a118] s119)) f224_1238 rfl rfl).trans ?_
      refine g_c ?_
      refine bI_c fun a120 s119 => ?_
      refine (x_icmp_eq (tg := 1454) f224_1241 rfl rfl).trans (i_c ?_ ?_)
      · refine (x_iinc (l2 := [aA l0, aA l1, aA l2, aI (w32 (l3 + 7))]) f224_1454 rfl rfl rfl).trans ?_
        refine (x_goto (tg := 18) f224_1457 rfl rfl).trans ?_
        rfl
      · refine (x_iconst f224_1244 rfl).trans ?_
        exact x_zreturn0 f224_1245 rfl
    refine x_ite.trans (i_c ?_ ?_)
    · refine (x_aload f224_1246 rfl rfl).trans ?_
      refine (x_aload f224_1247 rfl rfl).trans ?_
      refine (x_iload f224_1248 rfl rfl).trans ?_
      refine (x_iconst f224_1249 rfl).trans ?_
      refine (x_iadd f224_1250 rfl).trans ?_
      refine (x_faload f224_1251 rfl).trans ?_
      refine g_c ?_
      refine g_c ?_
      refine (x_aload f224_1252 rfl rfl).trans ?_
      refine (x_iload f224_1253 rfl rfl).trans ?_
      refine (x_iconst f224_1254 rfl).trans ?_
      refine (x_iadd f224_1255 rfl).trans ?_
      refine (x_faload f224_1256 rfl).trans ?_
      refine g_c ?_
      refine g_c ?_
      refine (x_aload f224_1257 rfl rfl).trans ?_
      refine (x_iload f224_1258 rfl rfl).trans ?_
      refine (x_iconst f224_1259 rfl).trans ?_
      refine (x_iadd f224_1260 rfl).trans ?_
      refine (x_faload f224_1261 rfl).trans ?_
      refine g_c ?_
      refine g_c ?_
      refine (x_aload f224_1262 rfl rfl).trans ?_
      refine (x_iload f224_1263 rfl rfl).trans ?_
      refine (x_iconst f224_1264 rfl).trans ?_
      refine (x_iadd f224_1265 rfl).trans ?_
      refine (x_faload f224_1266 rfl).trans ?_
      refine g_c ?_
      refine g_c ?_
      refine (x_invokevirtual (G := grd (kd l1 = 8) (bnI (sem 133 0 [aA l1, aI (s (-7) (w32 (l3 + 1))), aI (s (-7) (w32 (l3 + 2))), aI (s (-7) (w32 (l3 + 3))), aI (s (-7) (w32 (l3 + 4))), aU, aU, aU, aU, aU] [] s) fun a122 s121 => sem 224 1270 [aA l0, aA l1, aA l2, aI l3] [aI a122] s121)) f224_1267 rfl rfl).trans ?_
      refine g_c ?_
      refine bI_c fun a122 s121 => ?_
      refine (x_aload f224_1270 rfl rfl).trans ?_
      refine (x_aload f224_1271 rfl rfl).trans ?_
      refine (x_iload f224_1272 rfl rfl).trans ?_
      refine (x_iconst f224_1273 rfl).trans ?_
      refine (x_iadd f224_1274 rfl).trans ?_
      refine (x_faload f224_1275 rfl).trans ?_
      refine g_c ?_
      refine g_c ?_
      refine (x_aload f224_1276 rfl rfl).trans ?_
      refine (x_iload f224_1277 rfl rfl).trans ?_
      refine (x_iconst f224_1278 rfl).trans ?_
      refine (x_iadd f224_1279 rfl).trans ?_
      refine (x_faload f224_1280 rfl).trans ?_
      refine g_c ?_
      refine g_c ?_
      refine (x_aload f224_1281 rfl rfl).trans ?_
      refine (x_iload f224_1282 rfl rfl).trans ?_
      refine (x_iconst f224_1283 rfl).trans ?_
      refine (x_iadd f224_1284 rfl).trans ?_
      refine (x_faload f224_1285 rfl).trans ?_
      refine g_c ?_
      refine g_c ?_
      refine (x_aload f224_1286 rfl rfl).trans ?_
      refine (x_iload f224_1287 rfl rfl).trans ?_
      refine (x_iconst f224_1288 rfl).trans ?_
      refine (x_iadd f224_1289 rfl).trans ?_
      refine (x_faload f224_1290 rfl).trans ?_
      refine g_c ?_
      refine g_c ?_
      refine (x_invokevirtual (G := grd (kd l2 = 9) (bnI (sem 215 0 [aA l2, aI (s121 (-7) (w32 (l3 + 1))), aI (s121 (-7) (w32 (l3 + 2))), aI (s121 (-7) (w32 (l3 + 3))), aI (s121 (-7) (w32 (l3 + 4))), aU, aU] [] s121) fun a124 s123 => sem 224 1294 [aA l0, aA l1, aA l2, aI l3] [aI a124, aI a122] s123)) f224_1291 rfl rfl).trans ?_
      refine g_c ?_
      refine bI_c fun a124 s123 => ?_
      refine (x_icmp_eq (tg := 1454) f224_1294 rfl rfl).trans (i_c ?_ ?_)
      · refine (x_iinc (l2 := [aA l0, aA l1, aA l2, aI (w32 (l3 + 7))]) f224_1454 rfl rfl rfl).trans ?_
        refine (x_goto (tg := 18) f224_1457 rfl rfl).trans ?_
        rfl
      · refine (x_iconst f224_1297 rfl).trans ?_
        exact x_zreturn0 f224_1298 rfl
    refine x_ite.trans (i_c ?_ ?_)
    · refine (x_aload f224_1299 rfl rfl).trans ?_
      refine (x_aload f224_1300 rfl rfl).trans ?_
      refine (x_iload f224_1301 rfl rfl).trans ?_
      refine (x_iconst f224_1302 rfl).trans ?_
      refine (x_iadd f224_1303 rfl).trans ?_
      refine (x_faload f224_1304 rfl).trans ?_
      refine g_c ?_
      refine g_c ?_
      refine (x_aload f224_1305 rfl rfl).trans ?_
      refine (x_iload f224_1306 rfl rfl).trans ?_
      refine (x_iconst f224_1307 rfl).trans ?_
      refine (x_iadd f224_1308 rfl).trans ?_
      refine (x_faload f224_1309 rfl).trans ?_
      refine g_c ?_
      refine g_c ?_
      refine (x_aload f224_1310 rfl rfl).trans ?_
      refine (x_iload f224_1311 rfl rfl).trans ?_
      refine (x_iconst f224_1312 rfl).trans ?_
      refine (x_iadd f224_1313 rfl).trans ?_
      refine (x_faload f224_1314 rfl).trans ?_
      refine g_c ?_
      refine g_c ?_
      refine (x_invokevirtual (G := grd (kd l1 = 8) (bnI (sem 134 0 [aA l1, aI (s (-7) (w32 (l3 + 1))), aI (s (-7) (w32 (l3 + 2))), aI (s (-7) (w32 (l3 + 3)))] [] s) fun a126 s125 => sem 224 1318 [aA l0, aA l1, aA l2, aI l3] [aI a126] s125)) f224_1315 rfl rfl).trans ?_
      refine g_c ?_
      refine bI_c fun a126 s125 => ?_
      refine (x_aload f224_1318 rfl rfl).trans ?_
      refine (x_aload f224_1319 rfl rfl).trans ?_
      refine (x_iload f224_1320 rfl rfl).trans ?_
      refine (x_iconst f224_1321 rfl).trans ?_
      refine (x_iadd f224_1322 rfl).trans ?_
      refine (x_faload f224_1323 rfl).trans ?_
      refine g_c ?_
      refine g_c ?_
      refine (x_aload f224_1324 rfl rfl).trans ?_
      refine (x_iload f224_1325 rfl rfl).trans ?_
      refine (x_iconst f224_1326 rfl).trans ?_
      refine (x_iadd f224_1327 rfl).trans ?_
      refine (x_faload f224_1328 rfl).trans ?_
      refine g_c ?_
      refine g_c ?_
      refine (x_aload f224_1329 rfl rfl).trans ?_
      refine (x_iload f224_1330 rfl rfl).trans ?_
      refine (x_iconst f224_1331 rfl).trans ?_
      refine (x_iadd f224_1332 rfl).trans ?_
      refine (x_faload f224_1333 rfl).trans ?_
      refine g_c ?_
      refine g_c ?_
      refine (x_invokevirtual (G := grd (kd l2 = 9) (bnI (sem 217 0 [aA l2, aI (s125 (-7) (w32 (l3 + 1))), aI (s125 (-7) (w32 (l3 + 2))), aI (s125 (-7) (w32 (l3 + 3)))] [] s125) fun a128 s127 => sem 224 1337 [aA l0, aA l1, aA l2, aI l3] [aI a128, aI a126] s127)) f224_1334 rfl rfl).trans ?_
      refine g_c ?_
      refine bI_c fun a128 s127 => ?_
      refine (x_icmp_eq (tg := 1454) f224_1337 rfl rfl).trans (i_c ?_ ?_)
      · refine (x_iinc (l2 := [aA l0, aA l1, aA l2, aI (w32 (l3 + 7))]) f224_1454 rfl rfl rfl).trans ?_
        refine (x_goto (tg := 18) f224_1457 rfl rfl).trans ?_
        rfl
      · refine (x_iconst f224_1340 rfl).trans ?_
        exact x_zreturn0 f224_1341 rfl
    refine x_ite.trans (i_c ?_ ?_)
    · refine (x_aload f224_1342 rfl rfl).trans ?_
      refine (x_aload f224_1343 rfl rfl).trans ?_
      refine (x_iload f224_1344 rfl rfl).trans ?_
      refine (x_iconst f224_1345 rfl).trans ?_
      refine (x_iadd f224_1346 rfl).trans ?_
      refine (x_faload f224_1347 rfl).trans ?_
      refine g_c ?_
      refine g_c ?_
      refine (x_aload f224_1348 rfl rfl).trans ?_
      refine (x_iload f224_1349 rfl rfl).trans ?_
      refine (x_iconst f224_1350 rfl).trans ?_
      refine (x_iadd f224_1351 rfl).trans ?_
      refine (x_faload f224_1352 rfl).trans ?_
      refine g_c ?_
      refine g_c ?_
      refine (x_aload f224_1353 rfl rfl).trans ?_
      refine (x_iload f224_1354 rfl rfl).trans ?_
      refine (x_iconst f224_1355 rfl).trans ?_
      refine (x_iadd f224_1356 rfl).trans ?_
      refine (x_faload f224_1357 rfl).trans ?_
      refine g_c ?_
      refine g_c ?_
      refine (x_invokevirtual (G := grd (kd l1 = 8) (bnI (sem 135 0 [aA l1, aI (s (-7) (w32 (l3 + 1))), aI (s (-7) (w32 (l3 + 2))), aI (s (-7) (w32 (l3 + 3))), aU, aU, aU] [] s) fun a130 s129 => sem 224 1361 [aA l0, aA l1, aA l2, aI l3] [aI a130] s129)) f224_1358 rfl rfl).trans ?_
      refine g_c ?_
      refine bI_c fun a130 s129 => ?_
      refine (x_aload f224_1361 rfl rfl).trans ?_
      refine (x_aload f224_1362 rfl rfl).trans ?_
      refine (x_iload f224_1363 rfl rfl).trans ?_
      refine (x_iconst f224_1364 rfl).trans ?_
      refine (x_iadd f224_1365 rfl).trans ?_
      refine (x_faload f224_1366 rfl).trans ?_
      refine g_c ?_
      refine g_c ?_
      refine (x_aload f224_1367 rfl rfl).trans ?_
      refine (x_iload f224_1368 rfl rfl).trans ?_
      refine (x_iconst f224_1369 rfl).trans ?_
      refine (x_iadd f224_1370 rfl).trans ?_
      refine (x_faload f224_1371 rfl).trans ?_
      refine g_c ?_
      refine g_c ?_
      refine (x_aload f224_1372 rfl rfl).trans ?_
      refine (x_iload f224_1373 rfl rfl).trans ?_
      refine (x_iconst f224_1374 rfl).trans ?_
      refine (x_iadd f224_1375 rfl).trans ?_
      refine (x_faload f224_1376 rfl).trans ?_
      refine g_c ?_
      refine g_c ?_
      refine (x_invokevirtual (G := grd (kd l2 = 9) (bnI (sem 218 0 [aA l2, aI (s129 (-7) (w32 (l3 + 1))), aI (s129 (-7) (w32 (l3 + 2))), aI (s129 (-7) (w32 (l3 + 3))), aU] [] s129) fun a132 s131 => sem 224 1380 [aA l0, aA l1, aA l2, aI l3] [aI a132, aI a130] s131)) f224_1377 rfl rfl).trans ?_
      refine g_c ?_
      refine bI_c fun a132 s131 => ?_
      refine (x_icmp_eq (tg := 1454) f224_1380 rfl rfl).trans (i_c ?_ ?_)
      · refine (x_iinc (l2 := [aA l0, aA l1, aA l2, aI (w32 (l3 + 7))]) f224_1454 rfl rfl rfl).trans ?_
        refine (x_goto (tg := 18) f224_1457 rfl rfl).trans ?_
        rfl
      · refine (x_iconst f224_1383 rfl).trans ?_
        exact x_zreturn0 f224_1384 rfl
    refine x_ite.trans (i_c ?_ ?_)
    · refine (x_aload f224_1385 rfl rfl).trans ?_
      refine (x_aload f224_1386 rfl rfl).trans ?_
      refine (x_iload f224_1387 rfl rfl).trans ?_
      refine (x_iconst f224_1388 rfl).trans ?_
      refine (x_iadd f224_1389 rfl).trans ?_
      refine (x_faload f224_1390 rfl).trans ?_
      refine g_c ?_
      refine g_c ?_
      refine (x_invokevirtual (G := grd (kd l1 = 8) (bnI (sem 136 0 [aA l1, aI (s (-7) (w32 (l3 + 1)))] [] s) fun a134 s133 => sem 224 1394 [aA l0, aA l1, aA l2, aI l3] [aI a134] s133)) f224_1391 rfl rfl).trans ?_
      refine g_c ?_
      refine bI_c fun a134 s133 => ?_
      refine (x_aload f224_1394 rfl rfl).trans ?_
      refine (x_aload f224_1395 rfl rfl).trans ?_
      refine (x_iload f224_1396 rfl rfl).trans ?_
      refine (x_iconst f224_1397 rfl).trans ?_
      refine (x_iadd f224_1398 rfl).trans ?_
      refine (x_faload f224_1399 rfl).trans ?_
      refine g_c ?_
      refine g_c ?_
      refine (x_invokevirtual (G := grd (kd l2 = 9) (bnI (sem 219 0 [aA l2, aI (s133 (-7) (w32 (l3 + 1))), aU] [] s133) fun a136 s135 => sem 224 1403 [aA l0, aA l1, aA l2, aI l3] [aI a136, aI a134] s135)) f224_1400 rfl rfl).trans ?_
      refine g_c ?_
      refine bI_c fun a136 s135 => ?_
      refine (x_icmp_eq (tg := 1454) f224_1403 rfl rfl).trans (i_c ?_ ?_)
      · refine (x_iinc (l2 := [aA l0, aA l1, aA l2, aI (w32 (l3 + 7))]) f224_1454 rfl rfl rfl).trans ?_
        refine (x_goto (tg := 18) f224_1457 rfl rfl).trans ?_
        rfl
      · refine (x_iconst f224_1406 rfl).trans ?_
        exact x_zreturn0 f224_1407 rfl
    refine x_ite.trans (i_c ?_ ?_)
    · refine (x_aload f224_1408 rfl rfl).trans ?_
      refine (x_aload f224_1409 rfl rfl).trans ?_
      refine (x_iload f224_1410 rfl rfl).trans ?_
      refine (x_iconst f224_1411 rfl).trans ?_
      refine (x_iadd f224_1412 rfl).trans ?_
      refine (x_faload f224_1413 rfl).trans ?_
      refine g_c ?_
      refine g_c ?_
      refine (x_invokevirtual (G := grd (kd l1 = 8) (bnI (sem 137 0 [aA l1, aI (s (-7) (w32 (l3 + 1)))] [] s) fun a138 s137 => sem 224 1417 [aA l0, aA l1, aA l2, aI l3] [aI a138] s137)) f224_1414 rfl rfl).trans ?_
      refine g_c ?_
      refine bI_c fun a138 s137 => ?_
      refine (x_aload f224_1417 rfl rfl).trans ?_
      refine (x_aload f224_1418 rfl rfl).trans ?_
      refine (x_iload f224_1419 rfl rfl).trans ?_
      refine (x_iconst f224_1420 rfl).trans ?_
      refine (x_iadd f224_1421 rfl).trans ?_
      refine (x_faload f224_1422 rfl).trans ?_
      refine g_c ?_
      refine g_c ?_
      refine (x_invokevirtual (G := grd (kd l2 = 9) (bnI (sem 220 0 [aA l2, aI (s137 (-7) (w32 (l3 + 1))), aU] [] s137) fun a140 s139 => sem 224 1426 [aA l0, aA l1, aA l2, aI l3] [aI a140, aI a138] s139)) f224_1423 rfl rfl).trans ?_
      refine g_c ?_
      refine bI_c fun a140 s139 => ?_
      refine (x_icmp_eq (tg := 1454) f224_1426 rfl rfl).trans (i_c ?_ ?_)
      · refine (x_iinc (l2 := [aA l0, aA l1, aA l2, aI (w32 (l3 + 7))]) f224_1454 rfl rfl rfl).trans ?_
        refine (x_goto (tg := 18) f224_1457 rfl rfl).trans ?_
        rfl
      · refine (x_iconst f224_1429 rfl).trans ?_
        exact x_zreturn0 f224_1430 rfl
    refine x_ite.trans (i_c ?_ ?_)
    · refine (x_aload f224_1431 rfl rfl).trans ?_
      refine (x_aload f224_1432 rfl rfl).trans ?_
      refine (x_iload f224_1433 rfl rfl).trans ?_
      refine (x_iconst f224_1434 rfl).trans ?_
      refine (x_iadd f224_1435 rfl).trans ?_
      refine (x_faload f224_1436 rfl).trans ?_
      refine g_c ?_
      refine g_c ?_
      refine (x_invokevirtual (G := grd (kd l1 = 8) (bnI (sem 138 0 [aA l1, aI (s (-7) (w32 (l3 + 1)))] [] s) fun a142 s141 => sem 224 1440 [aA l0, aA l1, aA l2, aI l3] [aI a142] s141)) f224_1437 rfl rfl).trans ?_
      refine g_c ?_
      refine bI_c fun a142 s141 => ?_
      refine (x_aload f224_1440 rfl rfl).trans ?_
      refine (x_aload f224_1441 rfl rfl).trans ?_
      refine (x_iload f224_1442 rfl rfl).trans ?_
      refine (x_iconst f224_1443 rfl).trans ?_
      refine (x_iadd f224_1444 rfl).trans ?_
      refine (x_faload f224_1445 rfl).trans ?_
      refine g_c ?_
      refine g_c ?_
      refine (x_invokevirtual (G := grd (kd l2 = 9) (bnI (sem 221 0 [aA l2, aI (s141 (-7) (w32 (l3 + 1)))] [] s141) fun a144 s143 => sem 224 1449 [aA l0, aA l1, aA l2, aI l3] [aI a144, aI a142] s143)) f224_1446 rfl rfl).trans ?_
      refine g_c ?_
      refine bI_c fun a144 s143 => ?_
      refine (x_icmp_eq (tg := 1454) f224_1449 rfl rfl).trans (i_c ?_ ?_)
      · refine (x_iinc (l2 := [aA l0, aA l1, aA l2, aI (w32 (l3 + 7))]) f224_1454 rfl rfl rfl).trans ?_
        refine (x_goto (tg := 18) f224_1457 rfl rfl).trans ?_
        rfl
      · refine (x_iconst f224_1452 rfl).trans ?_
        exact x_zreturn0 f224_1453 rfl
    refine (x_iinc (l2 := [aA l0, aA l1, aA l2, aI (w32 (l3 + 7))]) f224_1454 rfl rfl rfl).trans ?_
    refine (x_goto (tg := 18) f224_1457 rfl rfl).trans ?_
    rfl
