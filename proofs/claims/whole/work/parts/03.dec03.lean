theorem dX9_comeTo_15 : decode cX9_comeTo 15 = .ok (.iaload, 1) := by decide +kernel
theorem dX9_comeTo_16 : decode cX9_comeTo 16 = .ok (.istore_n 3, 1) := by decide +kernel
theorem dX9_comeTo_17 : decode cX9_comeTo 17 = .ok (.iload_n 3, 1) := by decide +kernel
theorem dX9_comeTo_18 : decode cX9_comeTo 18 = .ok (.aload_n 0, 1) := by decide +kernel
theorem dX9_comeTo_19 : decode cX9_comeTo 19 = .ok (.getfield 45, 3) := by decide +kernel
theorem dX9_comeTo_22 : decode cX9_comeTo 22 = .ok (.iload_n 1, 1) := by decide +kernel
theorem dX9_comeTo_23 : decode cX9_comeTo 23 = .ok (.iaload, 1) := by decide +kernel
theorem dX9_comeTo_24 : decode cX9_comeTo 24 = .ok (.bipush 7, 2) := by decide +kernel
theorem dX9_comeTo_26 : decode cX9_comeTo 26 = .ok (.if_icmp .le 7, 3) := by decide +kernel
theorem dX9_comeTo_29 : decode cX9_comeTo 29 = .ok (.iconst 1, 1) := by decide +kernel
theorem dX9_comeTo_30 : decode cX9_comeTo 30 = .ok (.goto 22, 3) := by decide +kernel
theorem dX9_comeTo_33 : decode cX9_comeTo 33 = .ok (.aload_n 0, 1) := by decide +kernel
theorem dX9_comeTo_34 : decode cX9_comeTo 34 = .ok (.getfield 45, 3) := by decide +kernel
theorem dX9_comeTo_37 : decode cX9_comeTo 37 = .ok (.iload_n 1, 1) := by decide +kernel
theorem dX9_comeTo_38 : decode cX9_comeTo 38 = .ok (.iaload, 1) := by decide +kernel
theorem dX9_comeTo_39 : decode cX9_comeTo 39 = .ok (.iconst 3, 1) := by decide +kernel
theorem dX9_comeTo_40 : decode cX9_comeTo 40 = .ok (.if_icmp .ge 11, 3) := by decide +kernel
theorem dX9_comeTo_43 : decode cX9_comeTo 43 = .ok (.iload_n 3, 1) := by decide +kernel
theorem dX9_comeTo_44 : decode cX9_comeTo 44 = .ok (.ifCond .le 7, 3) := by decide +kernel
theorem dX9_comeTo_47 : decode cX9_comeTo 47 = .ok (.iconst (-1), 1) := by decide +kernel
theorem dX9_comeTo_48 : decode cX9_comeTo 48 = .ok (.goto 4, 3) := by decide +kernel
theorem dX9_comeTo_51 : decode cX9_comeTo 51 = .ok (.iconst 0, 1) := by decide +kernel
theorem dX9_comeTo_52 : decode cX9_comeTo 52 = .ok (.iadd, 1) := by decide +kernel
theorem dX9_comeTo_53 : decode cX9_comeTo 53 = .ok (.istore_n 3, 1) := by decide +kernel
theorem dX9_comeTo_54 : decode cX9_comeTo 54 = .ok (.iload_n 3, 1) := by decide +kernel
theorem dX9_comeTo_55 : decode cX9_comeTo 55 = .ok (.iload_n 1, 1) := by decide +kernel
theorem dX9_comeTo_56 : decode cX9_comeTo 56 = .ok (.aload_n 0, 1) := by decide +kernel
theorem dX9_comeTo_57 : decode cX9_comeTo 57 = .ok (.getfield 261, 3) := by decide +kernel
theorem dX9_comeTo_60 : decode cX9_comeTo 60 = .ok (.if_icmp .ne 7, 3) := by decide +kernel
theorem dX9_comeTo_63 : decode cX9_comeTo 63 = .ok (.iconst 1, 1) := by decide +kernel
theorem dX9_comeTo_64 : decode cX9_comeTo 64 = .ok (.goto 13, 3) := by decide +kernel
theorem dX9_comeTo_67 : decode cX9_comeTo 67 = .ok (.aload_n 0, 1) := by decide +kernel
theorem dX9_comeTo_68 : decode cX9_comeTo 68 = .ok (.getfield 42, 3) := by decide +kernel
theorem dX9_comeTo_71 : decode cX9_comeTo 71 = .ok (.iload_n 1, 1) := by decide +kernel
theorem dX9_comeTo_72 : decode cX9_comeTo 72 = .ok (.iaload, 1) := by decide +kernel
theorem dX9_comeTo_73 : decode cX9_comeTo 73 = .ok (.iload_n 2, 1) := by decide +kernel
theorem dX9_comeTo_74 : decode cX9_comeTo 74 = .ok (.ishr, 1) := by decide +kernel
theorem dX9_comeTo_75 : decode cX9_comeTo 75 = .ok (.iconst 1, 1) := by decide +kernel
theorem dX9_comeTo_76 : decode cX9_comeTo 76 = .ok (.iand, 1) := by decide +kernel
theorem dX9_comeTo_77 : decode cX9_comeTo 77 = .ok (.iadd, 1) := by decide +kernel
theorem dX9_comeTo_78 : decode cX9_comeTo 78 = .ok (.aload_n 0, 1) := by decide +kernel
theorem dX9_comeTo_79 : decode cX9_comeTo 79 = .ok (.getfield 72, 3) := by decide +kernel
theorem dX9_comeTo_82 : decode cX9_comeTo 82 = .ok (.iload_n 1, 1) := by decide +kernel
theorem dX9_comeTo_83 : decode cX9_comeTo 83 = .ok (.iaload, 1) := by decide +kernel
theorem dX9_comeTo_84 : decode cX9_comeTo 84 = .ok (.iadd, 1) := by decide +kernel
theorem dX9_comeTo_85 : decode cX9_comeTo 85 = .ok (.istore 4, 2) := by decide +kernel
theorem dX9_comeTo_87 : decode cX9_comeTo 87 = .ok (.iload 4, 2) := by decide +kernel
theorem dX9_comeTo_89 : decode cX9_comeTo 89 = .ok (.aload_n 0, 1) := by decide +kernel
theorem dX9_comeTo_90 : decode cX9_comeTo 90 = .ok (.getfield 69, 3) := by decide +kernel
theorem dX9_comeTo_93 : decode cX9_comeTo 93 = .ok (.iload_n 1, 1) := by decide +kernel
theorem dX9_comeTo_94 : decode cX9_comeTo 94 = .ok (.iaload, 1) := by decide +kernel
theorem dX9_comeTo_95 : decode cX9_comeTo 95 = .ok (.invokestatic 219, 3) := by decide +kernel
theorem dX9_comeTo_98 : decode cX9_comeTo 98 = .ok (.istore 5, 2) := by decide +kernel
theorem dX9_comeTo_100 : decode cX9_comeTo 100 = .ok (.iload 4, 2) := by decide +kernel
theorem dX9_comeTo_102 : decode cX9_comeTo 102 = .ok (.iload 5, 2) := by decide +kernel
theorem dX9_comeTo_104 : decode cX9_comeTo 104 = .ok (.isub, 1) := by decide +kernel
theorem dX9_comeTo_105 : decode cX9_comeTo 105 = .ok (.istore 6, 2) := by decide +kernel
theorem dX9_comeTo_107 : decode cX9_comeTo 107 = .ok (.aload_n 0, 1) := by decide +kernel
theorem dX9_comeTo_108 : decode cX9_comeTo 108 = .ok (.getfield 69, 3) := by decide +kernel
theorem dX9_comeTo_111 : decode cX9_comeTo 111 = .ok (.iload_n 1, 1) := by decide +kernel
theorem dX9_comeTo_112 : decode cX9_comeTo 112 = .ok (.dup2, 1) := by decide +kernel
theorem dX9_comeTo_113 : decode cX9_comeTo 113 = .ok (.iaload, 1) := by decide +kernel
theorem dX9_comeTo_114 : decode cX9_comeTo 114 = .ok (.iload 5, 2) := by decide +kernel
theorem dX9_comeTo_116 : decode cX9_comeTo 116 = .ok (.isub, 1) := by decide +kernel
theorem dX9_comeTo_117 : decode cX9_comeTo 117 = .ok (.iastore, 1) := by decide +kernel
theorem dX9_comeTo_118 : decode cX9_comeTo 118 = .ok (.aload_n 0, 1) := by decide +kernel
theorem dX9_comeTo_119 : decode cX9_comeTo 119 = .ok (.getfield 57, 3) := by decide +kernel
theorem dX9_comeTo_122 : decode cX9_comeTo 122 = .ok (.bipush 6, 2) := by decide +kernel
theorem dX9_comeTo_124 : decode cX9_comeTo 124 = .ok (.iload_n 1, 1) := by decide +kernel
theorem dX9_comeTo_125 : decode cX9_comeTo 125 = .ok (.imul, 1) := by decide +kernel
theorem dX9_comeTo_126 : decode cX9_comeTo 126 = .ok (.iload_n 2, 1) := by decide +kernel
theorem dX9_comeTo_127 : decode cX9_comeTo 127 = .ok (.iadd, 1) := by decide +kernel
theorem dX9_comeTo_128 : decode cX9_comeTo 128 = .ok (.aload_n 0, 1) := by decide +kernel
theorem dX9_comeTo_129 : decode cX9_comeTo 129 = .ok (.getfield 69, 3) := by decide +kernel
theorem dX9_comeTo_132 : decode cX9_comeTo 132 = .ok (.iload_n 1, 1) := by decide +kernel
theorem dX9_comeTo_133 : decode cX9_comeTo 133 = .ok (.iaload, 1) := by decide +kernel
theorem dX9_comeTo_134 : decode cX9_comeTo 134 = .ok (.iastore, 1) := by decide +kernel
theorem dX9_comeTo_135 : decode cX9_comeTo 135 = .ok (.aload_n 0, 1) := by decide +kernel
theorem dX9_comeTo_136 : decode cX9_comeTo 136 = .ok (.getfield 60, 3) := by decide +kernel
theorem dX9_comeTo_139 : decode cX9_comeTo 139 = .ok (.bipush 6, 2) := by decide +kernel
theorem dX9_comeTo_141 : decode cX9_comeTo 141 = .ok (.iload_n 1, 1) := by decide +kernel
theorem dX9_comeTo_142 : decode cX9_comeTo 142 = .ok (.imul, 1) := by decide +kernel
theorem dX9_comeTo_143 : decode cX9_comeTo 143 = .ok (.iload_n 2, 1) := by decide +kernel
theorem dX9_comeTo_144 : decode cX9_comeTo 144 = .ok (.iadd, 1) := by decide +kernel
theorem dX9_comeTo_145 : decode cX9_comeTo 145 = .ok (.iload 5, 2) := by decide +kernel
theorem dX9_comeTo_147 : decode cX9_comeTo 147 = .ok (.iload_n 2, 1) := by decide +kernel
theorem dX9_comeTo_148 : decode cX9_comeTo 148 = .ok (.ifCond .le 19, 3) := by decide +kernel
theorem dX9_comeTo_151 : decode cX9_comeTo 151 = .ok (.aload_n 0, 1) := by decide +kernel
theorem dX9_comeTo_152 : decode cX9_comeTo 152 = .ok (.getfield 60, 3) := by decide +kernel
theorem dX9_comeTo_155 : decode cX9_comeTo 155 = .ok (.bipush 6, 2) := by decide +kernel
theorem dX9_comeTo_157 : decode cX9_comeTo 157 = .ok (.iload_n 1, 1) := by decide +kernel
theorem dX9_comeTo_158 : decode cX9_comeTo 158 = .ok (.imul, 1) := by decide +kernel
theorem dX9_comeTo_159 : decode cX9_comeTo 159 = .ok (.iload_n 2, 1) := by decide +kernel
theorem dX9_comeTo_160 : decode cX9_comeTo 160 = .ok (.iadd, 1) := by decide +kernel
theorem dX9_comeTo_161 : decode cX9_comeTo 161 = .ok (.iconst 1, 1) := by decide +kernel
theorem dX9_comeTo_162 : decode cX9_comeTo 162 = .ok (.isub, 1) := by decide +kernel
theorem dX9_comeTo_163 : decode cX9_comeTo 163 = .ok (.iaload, 1) := by decide +kernel
theorem dX9_comeTo_164 : decode cX9_comeTo 164 = .ok (.goto 4, 3) := by decide +kernel
theorem dX9_comeTo_167 : decode cX9_comeTo 167 = .ok (.iconst 0, 1) := by decide +kernel
theorem dX9_comeTo_168 : decode cX9_comeTo 168 = .ok (.iadd, 1) := by decide +kernel
theorem dX9_comeTo_169 : decode cX9_comeTo 169 = .ok (.iastore, 1) := by decide +kernel
theorem dX9_comeTo_170 : decode cX9_comeTo 170 = .ok (.aload_n 0, 1) := by decide +kernel
theorem dX9_comeTo_171 : decode cX9_comeTo 171 = .ok (.getfield 63, 3) := by decide +kernel
theorem dX9_comeTo_174 : decode cX9_comeTo 174 = .ok (.bipush 6, 2) := by decide +kernel
theorem dX9_comeTo_176 : decode cX9_comeTo 176 = .ok (.iload_n 1, 1) := by decide +kernel
theorem dX9_comeTo_177 : decode cX9_comeTo 177 = .ok (.imul, 1) := by decide +kernel
theorem dX9_comeTo_178 : decode cX9_comeTo 178 = .ok (.iload_n 2, 1) := by decide +kernel
theorem dX9_comeTo_179 : decode cX9_comeTo 179 = .ok (.iadd, 1) := by decide +kernel
theorem dX9_comeTo_180 : decode cX9_comeTo 180 = .ok (.iload 4, 2) := by decide +kernel
theorem dX9_comeTo_182 : decode cX9_comeTo 182 = .ok (.iastore, 1) := by decide +kernel
theorem dX9_comeTo_183 : decode cX9_comeTo 183 = .ok (.aload_n 0, 1) := by decide +kernel
theorem dX9_comeTo_184 : decode cX9_comeTo 184 = .ok (.getfield 66, 3) := by decide +kernel
theorem dX9_comeTo_187 : decode cX9_comeTo 187 = .ok (.bipush 6, 2) := by decide +kernel
theorem dX9_comeTo_189 : decode cX9_comeTo 189 = .ok (.iload_n 1, 1) := by decide +kernel
theorem dX9_comeTo_190 : decode cX9_comeTo 190 = .ok (.imul, 1) := by decide +kernel
theorem dX9_comeTo_191 : decode cX9_comeTo 191 = .ok (.iload_n 2, 1) := by decide +kernel
theorem dX9_comeTo_192 : decode cX9_comeTo 192 = .ok (.iadd, 1) := by decide +kernel
theorem dX9_comeTo_193 : decode cX9_comeTo 193 = .ok (.iload 6, 2) := by decide +kernel
theorem dX9_comeTo_195 : decode cX9_comeTo 195 = .ok (.iastore, 1) := by decide +kernel
theorem dX9_comeTo_196 : decode cX9_comeTo 196 = .ok (.aload_n 0, 1) := by decide +kernel
theorem dX9_comeTo_197 : decode cX9_comeTo 197 = .ok (.getfield 13, 3) := by decide +kernel
theorem dX9_comeTo_200 : decode cX9_comeTo 200 = .ok (.bipush 7, 2) := by decide +kernel
theorem dX9_comeTo_202 : decode cX9_comeTo 202 = .ok (.iload_n 1, 1) := by decide +kernel
theorem dX9_comeTo_203 : decode cX9_comeTo 203 = .ok (.iadd, 1) := by decide +kernel
theorem dX9_comeTo_204 : decode cX9_comeTo 204 = .ok (.iaload, 1) := by decide +kernel
theorem dX9_comeTo_205 : decode cX9_comeTo 205 = .ok (.istore 7, 2) := by decide +kernel
theorem dX9_comeTo_207 : decode cX9_comeTo 207 = .ok (.iload 7, 2) := by decide +kernel
theorem dX9_comeTo_209 : decode cX9_comeTo 209 = .ok (.bipush (-9), 2) := by decide +kernel
theorem dX9_comeTo_211 : decode cX9_comeTo 211 = .ok (.if_icmp .eq 8, 3) := by decide +kernel
theorem dX9_comeTo_214 : decode cX9_comeTo 214 = .ok (.iload_n 2, 1) := by decide +kernel
theorem dX9_comeTo_215 : decode cX9_comeTo 215 = .ok (.iconst 5, 1) := by decide +kernel
theorem dX9_comeTo_216 : decode cX9_comeTo 216 = .ok (.if_icmp .ne 17, 3) := by decide +kernel
theorem dX9_comeTo_219 : decode cX9_comeTo 219 = .ok (.aload_n 0, 1) := by decide +kernel
theorem dX9_comeTo_220 : decode cX9_comeTo 220 = .ok (.dup, 1) := by decide +kernel
theorem dX9_comeTo_221 : decode cX9_comeTo 221 = .ok (.getfield 264, 3) := by decide +kernel
theorem dX9_comeTo_224 : decode cX9_comeTo 224 = .ok (.iload 6, 2) := by decide +kernel
theorem dX9_comeTo_226 : decode cX9_comeTo 226 = .ok (.iadd, 1) := by decide +kernel
theorem dX9_comeTo_227 : decode cX9_comeTo 227 = .ok (.putfield 264, 3) := by decide +kernel
theorem dX9_comeTo_230 : decode cX9_comeTo 230 = .ok (.goto 15, 3) := by decide +kernel
theorem dX9_comeTo_233 : decode cX9_comeTo 233 = .ok (.aload_n 0, 1) := by decide +kernel
theorem dX9_comeTo_234 : decode cX9_comeTo 234 = .ok (.getfield 75, 3) := by decide +kernel
theorem dX9_comeTo_237 : decode cX9_comeTo 237 = .ok (.iload 7, 2) := by decide +kernel
theorem dX9_comeTo_239 : decode cX9_comeTo 239 = .ok (.dup2, 1) := by decide +kernel
theorem dX9_comeTo_240 : decode cX9_comeTo 240 = .ok (.iaload, 1) := by decide +kernel
theorem dX9_comeTo_241 : decode cX9_comeTo 241 = .ok (.iload 6, 2) := by decide +kernel
theorem dX9_comeTo_243 : decode cX9_comeTo 243 = .ok (.iadd, 1) := by decide +kernel
theorem dX9_comeTo_244 : decode cX9_comeTo 244 = .ok (.iastore, 1) := by decide +kernel
theorem dX9_comeTo_245 : decode cX9_comeTo 245 = .ok (.return_, 1) := by decide +kernel
theorem dX9_layMorning_0 : decode cX9_layMorning 0 = .ok (.aload_n 0, 1) := by decide +kernel
theorem dX9_layMorning_1 : decode cX9_layMorning 1 = .ok (.aload_n 0, 1) := by decide +kernel
theorem dX9_layMorning_2 : decode cX9_layMorning 2 = .ok (.getfield 115, 3) := by decide +kernel
theorem dX9_layMorning_5 : decode cX9_layMorning 5 = .ok (.putfield 255, 3) := by decide +kernel
theorem dX9_layMorning_8 : decode cX9_layMorning 8 = .ok (.aload_n 0, 1) := by decide +kernel
theorem dX9_layMorning_9 : decode cX9_layMorning 9 = .ok (.iconst 0, 1) := by decide +kernel
theorem dX9_layMorning_10 : decode cX9_layMorning 10 = .ok (.putfield 264, 3) := by decide +kernel
theorem dX9_layMorning_13 : decode cX9_layMorning 13 = .ok (.iconst 0, 1) := by decide +kernel
theorem dX9_layMorning_14 : decode cX9_layMorning 14 = .ok (.istore_n 1, 1) := by decide +kernel
theorem dX9_layMorning_15 : decode cX9_layMorning 15 = .ok (.iload_n 1, 1) := by decide +kernel
theorem dX9_layMorning_16 : decode cX9_layMorning 16 = .ok (.iconst 3, 1) := by decide +kernel
theorem dX9_layMorning_17 : decode cX9_layMorning 17 = .ok (.if_icmp .ge 28, 3) := by decide +kernel
theorem dX9_layMorning_20 : decode cX9_layMorning 20 = .ok (.aload_n 0, 1) := by decide +kernel
theorem dX9_layMorning_21 : decode cX9_layMorning 21 = .ok (.getfield 69, 3) := by decide +kernel
theorem dX9_layMorning_24 : decode cX9_layMorning 24 = .ok (.iload_n 1, 1) := by decide +kernel
theorem dX9_layMorning_25 : decode cX9_layMorning 25 = .ok (.aload_n 0, 1) := by decide +kernel
theorem dX9_layMorning_26 : decode cX9_layMorning 26 = .ok (.getfield 39, 3) := by decide +kernel
theorem dX9_layMorning_29 : decode cX9_layMorning 29 = .ok (.iload_n 1, 1) := by decide +kernel
theorem dX9_layMorning_30 : decode cX9_layMorning 30 = .ok (.iaload, 1) := by decide +kernel
theorem dX9_layMorning_31 : decode cX9_layMorning 31 = .ok (.iastore, 1) := by decide +kernel
theorem dX9_layMorning_32 : decode cX9_layMorning 32 = .ok (.aload_n 0, 1) := by decide +kernel
theorem dX9_layMorning_33 : decode cX9_layMorning 33 = .ok (.getfield 72, 3) := by decide +kernel
theorem dX9_layMorning_36 : decode cX9_layMorning 36 = .ok (.iload_n 1, 1) := by decide +kernel
theorem dX9_layMorning_37 : decode cX9_layMorning 37 = .ok (.iconst 0, 1) := by decide +kernel
theorem dX9_layMorning_38 : decode cX9_layMorning 38 = .ok (.iastore, 1) := by decide +kernel
theorem dX9_layMorning_39 : decode cX9_layMorning 39 = .ok (.iinc 1 1, 3) := by decide +kernel
theorem dX9_layMorning_42 : decode cX9_layMorning 42 = .ok (.goto (-27), 3) := by decide +kernel
theorem dX9_layMorning_45 : decode cX9_layMorning 45 = .ok (.iconst 0, 1) := by decide +kernel
theorem dX9_layMorning_46 : decode cX9_layMorning 46 = .ok (.istore_n 1, 1) := by decide +kernel
theorem dX9_layMorning_47 : decode cX9_layMorning 47 = .ok (.iload_n 1, 1) := by decide +kernel
theorem dX9_layMorning_48 : decode cX9_layMorning 48 = .ok (.bipush 6, 2) := by decide +kernel
theorem dX9_layMorning_50 : decode cX9_layMorning 50 = .ok (.if_icmp .ge 111, 3) := by decide +kernel
theorem dX9_layMorning_53 : decode cX9_layMorning 53 = .ok (.aload_n 0, 1) := by decide +kernel
theorem dX9_layMorning_54 : decode cX9_layMorning 54 = .ok (.iload_n 1, 1) := by decide +kernel
theorem dX9_layMorning_55 : decode cX9_layMorning 55 = .ok (.invokevirtual 267, 3) := by decide +kernel
theorem dX9_layMorning_58 : decode cX9_layMorning 58 = .ok (.aload_n 0, 1) := by decide +kernel
theorem dX9_layMorning_59 : decode cX9_layMorning 59 = .ok (.getfield 69, 3) := by decide +kernel
theorem dX9_layMorning_62 : decode cX9_layMorning 62 = .ok (.aload_n 0, 1) := by decide +kernel
theorem dX9_layMorning_63 : decode cX9_layMorning 63 = .ok (.getfield 270, 3) := by decide +kernel
theorem dX9_layMorning_66 : decode cX9_layMorning 66 = .ok (.dup2, 1) := by decide +kernel
theorem dX9_layMorning_67 : decode cX9_layMorning 67 = .ok (.iaload, 1) := by decide +kernel
theorem dX9_layMorning_68 : decode cX9_layMorning 68 = .ok (.iload_n 1, 1) := by decide +kernel
theorem dX9_layMorning_69 : decode cX9_layMorning 69 = .ok (.aload_n 0, 1) := by decide +kernel
theorem dX9_layMorning_70 : decode cX9_layMorning 70 = .ok (.getfield 273, 3) := by decide +kernel
theorem dX9_layMorning_73 : decode cX9_layMorning 73 = .ok (.if_icmp .ne 10, 3) := by decide +kernel
theorem dX9_layMorning_76 : decode cX9_layMorning 76 = .ok (.aload_n 0, 1) := by decide +kernel
theorem dX9_layMorning_77 : decode cX9_layMorning 77 = .ok (.getfield 276, 3) := by decide +kernel
theorem dX9_layMorning_80 : decode cX9_layMorning 80 = .ok (.goto 4, 3) := by decide +kernel
theorem dX9_layMorning_83 : decode cX9_layMorning 83 = .ok (.iconst 0, 1) := by decide +kernel
theorem dX9_layMorning_84 : decode cX9_layMorning 84 = .ok (.iadd, 1) := by decide +kernel
theorem dX9_layMorning_85 : decode cX9_layMorning 85 = .ok (.iastore, 1) := by decide +kernel
theorem dX9_layMorning_86 : decode cX9_layMorning 86 = .ok (.iconst 0, 1) := by decide +kernel
theorem dX9_layMorning_87 : decode cX9_layMorning 87 = .ok (.istore_n 2, 1) := by decide +kernel
theorem dX9_layMorning_88 : decode cX9_layMorning 88 = .ok (.iload_n 2, 1) := by decide +kernel
theorem dX9_layMorning_89 : decode cX9_layMorning 89 = .ok (.iconst 3, 1) := by decide +kernel
theorem dX9_layMorning_90 : decode cX9_layMorning 90 = .ok (.if_icmp .ge 16, 3) := by decide +kernel
theorem dX9_layMorning_93 : decode cX9_layMorning 93 = .ok (.aload_n 0, 1) := by decide +kernel
theorem dX9_layMorning_94 : decode cX9_layMorning 94 = .ok (.getfield 75, 3) := by decide +kernel
theorem dX9_layMorning_97 : decode cX9_layMorning 97 = .ok (.iload_n 2, 1) := by decide +kernel
theorem dX9_layMorning_98 : decode cX9_layMorning 98 = .ok (.iconst 0, 1) := by decide +kernel
theorem dX9_layMorning_99 : decode cX9_layMorning 99 = .ok (.iastore, 1) := by decide +kernel
theorem dX9_layMorning_100 : decode cX9_layMorning 100 = .ok (.iinc 2 1, 3) := by decide +kernel
theorem dX9_layMorning_103 : decode cX9_layMorning 103 = .ok (.goto (-15), 3) := by decide +kernel
theorem dX9_layMorning_106 : decode cX9_layMorning 106 = .ok (.iconst 0, 1) := by decide +kernel
theorem dX9_layMorning_107 : decode cX9_layMorning 107 = .ok (.istore_n 2, 1) := by decide +kernel
theorem dX9_layMorning_108 : decode cX9_layMorning 108 = .ok (.iload_n 2, 1) := by decide +kernel
theorem dX9_layMorning_109 : decode cX9_layMorning 109 = .ok (.aload_n 0, 1) := by decide +kernel
theorem dX9_layMorning_110 : decode cX9_layMorning 110 = .ok (.getfield 13, 3) := by decide +kernel
theorem dX9_layMorning_113 : decode cX9_layMorning 113 = .ok (.iconst 0, 1) := by decide +kernel
theorem dX9_layMorning_114 : decode cX9_layMorning 114 = .ok (.iaload, 1) := by decide +kernel
theorem dX9_layMorning_115 : decode cX9_layMorning 115 = .ok (.if_icmp .ge 15, 3) := by decide +kernel
theorem dX9_layMorning_118 : decode cX9_layMorning 118 = .ok (.aload_n 0, 1) := by decide +kernel
theorem dX9_layMorning_119 : decode cX9_layMorning 119 = .ok (.iload_n 2, 1) := by decide +kernel
theorem dX9_layMorning_120 : decode cX9_layMorning 120 = .ok (.iload_n 1, 1) := by decide +kernel
theorem dX9_layMorning_121 : decode cX9_layMorning 121 = .ok (.invokevirtual 279, 3) := by decide +kernel
theorem dX9_layMorning_124 : decode cX9_layMorning 124 = .ok (.iinc 2 1, 3) := by decide +kernel
theorem dX9_layMorning_127 : decode cX9_layMorning 127 = .ok (.goto (-19), 3) := by decide +kernel
theorem dX9_layMorning_130 : decode cX9_layMorning 130 = .ok (.iconst 0, 1) := by decide +kernel
theorem dX9_layMorning_131 : decode cX9_layMorning 131 = .ok (.istore_n 2, 1) := by decide +kernel
theorem dX9_layMorning_132 : decode cX9_layMorning 132 = .ok (.iload_n 2, 1) := by decide +kernel
theorem dX9_layMorning_133 : decode cX9_layMorning 133 = .ok (.iconst 3, 1) := by decide +kernel
theorem dX9_layMorning_134 : decode cX9_layMorning 134 = .ok (.if_icmp .ge 21, 3) := by decide +kernel
theorem dX9_layMorning_137 : decode cX9_layMorning 137 = .ok (.aload_n 0, 1) := by decide +kernel
theorem dX9_layMorning_138 : decode cX9_layMorning 138 = .ok (.getfield 72, 3) := by decide +kernel
theorem dX9_layMorning_141 : decode cX9_layMorning 141 = .ok (.iload_n 2, 1) := by decide +kernel
theorem dX9_layMorning_142 : decode cX9_layMorning 142 = .ok (.aload_n 0, 1) := by decide +kernel
theorem dX9_layMorning_143 : decode cX9_layMorning 143 = .ok (.getfield 75, 3) := by decide +kernel
theorem dX9_layMorning_146 : decode cX9_layMorning 146 = .ok (.iload_n 2, 1) := by decide +kernel
theorem dX9_layMorning_147 : decode cX9_layMorning 147 = .ok (.iaload, 1) := by decide +kernel
theorem dX9_layMorning_148 : decode cX9_layMorning 148 = .ok (.iastore, 1) := by decide +kernel
theorem dX9_layMorning_149 : decode cX9_layMorning 149 = .ok (.iinc 2 1, 3) := by decide +kernel
theorem dX9_layMorning_152 : decode cX9_layMorning 152 = .ok (.goto (-20), 3) := by decide +kernel
theorem dX9_layMorning_155 : decode cX9_layMorning 155 = .ok (.iinc 1 1, 3) := by decide +kernel
theorem dX9_layMorning_158 : decode cX9_layMorning 158 = .ok (.goto (-111), 3) := by decide +kernel
theorem dX9_layMorning_161 : decode cX9_layMorning 161 = .ok (.return_, 1) := by decide +kernel
theorem dX9_layPlain_0 : decode cX9_layPlain 0 = .ok (.aload_n 0, 1) := by decide +kernel
theorem dX9_layPlain_1 : decode cX9_layPlain 1 = .ok (.iconst 0, 1) := by decide +kernel
theorem dX9_layPlain_2 : decode cX9_layPlain 2 = .ok (.putfield 276, 3) := by decide +kernel
theorem dX9_layPlain_5 : decode cX9_layPlain 5 = .ok (.aload_n 0, 1) := by decide +kernel
theorem dX9_layPlain_6 : decode cX9_layPlain 6 = .ok (.iconst 0, 1) := by decide +kernel
theorem dX9_layPlain_7 : decode cX9_layPlain 7 = .ok (.putfield 270, 3) := by decide +kernel
theorem dX9_layPlain_10 : decode cX9_layPlain 10 = .ok (.aload_n 0, 1) := by decide +kernel
theorem dX9_layPlain_11 : decode cX9_layPlain 11 = .ok (.iconst (-1), 1) := by decide +kernel
theorem dX9_layPlain_12 : decode cX9_layPlain 12 = .ok (.putfield 261, 3) := by decide +kernel
theorem dX9_layPlain_15 : decode cX9_layPlain 15 = .ok (.aload_n 0, 1) := by decide +kernel
theorem dX9_layPlain_16 : decode cX9_layPlain 16 = .ok (.invokevirtual 282, 3) := by decide +kernel
theorem dX9_layPlain_19 : decode cX9_layPlain 19 = .ok (.return_, 1) := by decide +kernel
theorem dX9_morning_0 : decode cX9_morning 0 = .ok (.aload_n 0, 1) := by decide +kernel
theorem dX9_morning_1 : decode cX9_morning 1 = .ok (.iload_n 1, 1) := by decide +kernel
theorem dX9_morning_2 : decode cX9_morning 2 = .ok (.invokevirtual 163, 3) := by decide +kernel
theorem dX9_morning_5 : decode cX9_morning 5 = .ok (.ifCond .eq 10, 3) := by decide +kernel
theorem dX9_morning_8 : decode cX9_morning 8 = .ok (.iload_n 2, 1) := by decide +kernel
theorem dX9_morning_9 : decode cX9_morning 9 = .ok (.invokestatic 252, 3) := by decide +kernel
theorem dX9_morning_12 : decode cX9_morning 12 = .ok (.ifCond .ne 5, 3) := by decide +kernel
theorem dX9_morning_15 : decode cX9_morning 15 = .ok (.iconst (-1), 1) := by decide +kernel
theorem dX9_morning_16 : decode cX9_morning 16 = .ok (.ireturn, 1) := by decide +kernel
theorem dX9_morning_17 : decode cX9_morning 17 = .ok (.aload_n 0, 1) := by decide +kernel
theorem dX9_morning_18 : decode cX9_morning 18 = .ok (.invokevirtual 285, 3) := by decide +kernel
theorem dX9_morning_21 : decode cX9_morning 21 = .ok (.bipush 6, 2) := by decide +kernel
theorem dX9_morning_23 : decode cX9_morning 23 = .ok (.iload_n 1, 1) := by decide +kernel
theorem dX9_morning_24 : decode cX9_morning 24 = .ok (.imul, 1) := by decide +kernel
theorem dX9_morning_25 : decode cX9_morning 25 = .ok (.iload_n 2, 1) := by decide +kernel
theorem dX9_morning_26 : decode cX9_morning 26 = .ok (.iadd, 1) := by decide +kernel
theorem dX9_morning_27 : decode cX9_morning 27 = .ok (.istore 4, 2) := by decide +kernel
theorem dX9_morning_29 : decode cX9_morning 29 = .ok (.iload_n 3, 1) := by decide +kernel
theorem dX9_morning_30 : decode cX9_morning 30 = .ok (.ifCond .ne 13, 3) := by decide +kernel
theorem dX9_morning_33 : decode cX9_morning 33 = .ok (.aload_n 0, 1) := by decide +kernel
theorem dX9_morning_34 : decode cX9_morning 34 = .ok (.getfield 57, 3) := by decide +kernel
theorem dX9_morning_37 : decode cX9_morning 37 = .ok (.iload 4, 2) := by decide +kernel
theorem dX9_morning_39 : decode cX9_morning 39 = .ok (.iaload, 1) := by decide +kernel
theorem dX9_morning_40 : decode cX9_morning 40 = .ok (.goto 50, 3) := by decide +kernel
theorem dX9_morning_43 : decode cX9_morning 43 = .ok (.iload_n 3, 1) := by decide +kernel
theorem dX9_morning_44 : decode cX9_morning 44 = .ok (.iconst 1, 1) := by decide +kernel
theorem dX9_morning_45 : decode cX9_morning 45 = .ok (.if_icmp .ne 13, 3) := by decide +kernel
theorem dX9_morning_48 : decode cX9_morning 48 = .ok (.aload_n 0, 1) := by decide +kernel
theorem dX9_morning_49 : decode cX9_morning 49 = .ok (.getfield 60, 3) := by decide +kernel
theorem dX9_morning_52 : decode cX9_morning 52 = .ok (.iload 4, 2) := by decide +kernel
theorem dX9_morning_54 : decode cX9_morning 54 = .ok (.iaload, 1) := by decide +kernel
theorem dX9_morning_55 : decode cX9_morning 55 = .ok (.goto 35, 3) := by decide +kernel
theorem dX9_morning_58 : decode cX9_morning 58 = .ok (.iload_n 3, 1) := by decide +kernel
theorem dX9_morning_59 : decode cX9_morning 59 = .ok (.iconst 2, 1) := by decide +kernel
theorem dX9_morning_60 : decode cX9_morning 60 = .ok (.if_icmp .ne 13, 3) := by decide +kernel
theorem dX9_morning_63 : decode cX9_morning 63 = .ok (.aload_n 0, 1) := by decide +kernel
theorem dX9_morning_64 : decode cX9_morning 64 = .ok (.getfield 63, 3) := by decide +kernel
theorem dX9_morning_67 : decode cX9_morning 67 = .ok (.iload 4, 2) := by decide +kernel
theorem dX9_morning_69 : decode cX9_morning 69 = .ok (.iaload, 1) := by decide +kernel
theorem dX9_morning_70 : decode cX9_morning 70 = .ok (.goto 20, 3) := by decide +kernel
theorem dX9_morning_73 : decode cX9_morning 73 = .ok (.iload_n 3, 1) := by decide +kernel
theorem dX9_morning_74 : decode cX9_morning 74 = .ok (.iconst 3, 1) := by decide +kernel
theorem dX9_morning_75 : decode cX9_morning 75 = .ok (.if_icmp .ne 13, 3) := by decide +kernel
theorem dX9_morning_78 : decode cX9_morning 78 = .ok (.aload_n 0, 1) := by decide +kernel
theorem dX9_morning_79 : decode cX9_morning 79 = .ok (.getfield 66, 3) := by decide +kernel
theorem dX9_morning_82 : decode cX9_morning 82 = .ok (.iload 4, 2) := by decide +kernel
theorem dX9_morning_84 : decode cX9_morning 84 = .ok (.iaload, 1) := by decide +kernel
theorem dX9_morning_85 : decode cX9_morning 85 = .ok (.goto 5, 3) := by decide +kernel
theorem dX9_morning_88 : decode cX9_morning 88 = .ok (.bipush (-2), 2) := by decide +kernel
theorem dX9_morning_90 : decode cX9_morning 90 = .ok (.ireturn, 1) := by decide +kernel
theorem dX9_allSold_0 : decode cX9_allSold 0 = .ok (.iconst 0, 1) := by decide +kernel
theorem dX9_allSold_1 : decode cX9_allSold 1 = .ok (.istore_n 1, 1) := by decide +kernel
theorem dX9_allSold_2 : decode cX9_allSold 2 = .ok (.iconst 0, 1) := by decide +kernel
theorem dX9_allSold_3 : decode cX9_allSold 3 = .ok (.istore_n 2, 1) := by decide +kernel
theorem dX9_allSold_4 : decode cX9_allSold 4 = .ok (.iload_n 2, 1) := by decide +kernel
theorem dX9_allSold_5 : decode cX9_allSold 5 = .ok (.aload_n 0, 1) := by decide +kernel
theorem dX9_allSold_6 : decode cX9_allSold 6 = .ok (.getfield 13, 3) := by decide +kernel
theorem dX9_allSold_9 : decode cX9_allSold 9 = .ok (.iconst 0, 1) := by decide +kernel
theorem dX9_allSold_10 : decode cX9_allSold 10 = .ok (.iaload, 1) := by decide +kernel
theorem dX9_allSold_11 : decode cX9_allSold 11 = .ok (.if_icmp .ge 23, 3) := by decide +kernel
theorem dX9_allSold_14 : decode cX9_allSold 14 = .ok (.iload_n 1, 1) := by decide +kernel
theorem dX9_allSold_15 : decode cX9_allSold 15 = .ok (.aload_n 0, 1) := by decide +kernel
theorem dX9_allSold_16 : decode cX9_allSold 16 = .ok (.getfield 60, 3) := by decide +kernel
theorem dX9_allSold_19 : decode cX9_allSold 19 = .ok (.bipush 6, 2) := by decide +kernel
theorem dX9_allSold_21 : decode cX9_allSold 21 = .ok (.iload_n 2, 1) := by decide +kernel
theorem dX9_allSold_22 : decode cX9_allSold 22 = .ok (.imul, 1) := by decide +kernel
theorem dX9_allSold_23 : decode cX9_allSold 23 = .ok (.iconst 5, 1) := by decide +kernel
theorem dX9_allSold_24 : decode cX9_allSold 24 = .ok (.iadd, 1) := by decide +kernel
theorem dX9_allSold_25 : decode cX9_allSold 25 = .ok (.iaload, 1) := by decide +kernel
theorem dX9_allSold_26 : decode cX9_allSold 26 = .ok (.iadd, 1) := by decide +kernel
theorem dX9_allSold_27 : decode cX9_allSold 27 = .ok (.istore_n 1, 1) := by decide +kernel
theorem dX9_allSold_28 : decode cX9_allSold 28 = .ok (.iinc 2 1, 3) := by decide +kernel
theorem dX9_allSold_31 : decode cX9_allSold 31 = .ok (.goto (-27), 3) := by decide +kernel
theorem dX9_allSold_34 : decode cX9_allSold 34 = .ok (.iload_n 1, 1) := by decide +kernel
theorem dX9_allSold_35 : decode cX9_allSold 35 = .ok (.ireturn, 1) := by decide +kernel
theorem dX9_allGiven_0 : decode cX9_allGiven 0 = .ok (.aload_n 0, 1) := by decide +kernel
theorem dX9_allGiven_1 : decode cX9_allGiven 1 = .ok (.getfield 39, 3) := by decide +kernel
theorem dX9_allGiven_4 : decode cX9_allGiven 4 = .ok (.iconst 0, 1) := by decide +kernel
theorem dX9_allGiven_5 : decode cX9_allGiven 5 = .ok (.iaload, 1) := by decide +kernel
theorem dX9_allGiven_6 : decode cX9_allGiven 6 = .ok (.aload_n 0, 1) := by decide +kernel
theorem dX9_allGiven_7 : decode cX9_allGiven 7 = .ok (.getfield 39, 3) := by decide +kernel
theorem dX9_allGiven_10 : decode cX9_allGiven 10 = .ok (.iconst 1, 1) := by decide +kernel
theorem dX9_allGiven_11 : decode cX9_allGiven 11 = .ok (.iaload, 1) := by decide +kernel
theorem dX9_allGiven_12 : decode cX9_allGiven 12 = .ok (.iadd, 1) := by decide +kernel
theorem dX9_allGiven_13 : decode cX9_allGiven 13 = .ok (.aload_n 0, 1) := by decide +kernel
theorem dX9_allGiven_14 : decode cX9_allGiven 14 = .ok (.getfield 39, 3) := by decide +kernel
theorem dX9_allGiven_17 : decode cX9_allGiven 17 = .ok (.iconst 2, 1) := by decide +kernel
theorem dX9_allGiven_18 : decode cX9_allGiven 18 = .ok (.iaload, 1) := by decide +kernel
theorem dX9_allGiven_19 : decode cX9_allGiven 19 = .ok (.iadd, 1) := by decide +kernel
theorem dX9_allGiven_20 : decode cX9_allGiven 20 = .ok (.ireturn, 1) := by decide +kernel
theorem dX9_ended_0 : decode cX9_ended 0 = .ok (.aload_n 0, 1) := by decide +kernel
theorem dX9_ended_1 : decode cX9_ended 1 = .ok (.invokevirtual 285, 3) := by decide +kernel
theorem dX9_ended_4 : decode cX9_ended 4 = .ok (.iconst 0, 1) := by decide +kernel
theorem dX9_ended_5 : decode cX9_ended 5 = .ok (.istore_n 2, 1) := by decide +kernel
theorem dX9_ended_6 : decode cX9_ended 6 = .ok (.iconst 0, 1) := by decide +kernel
theorem dX9_ended_7 : decode cX9_ended 7 = .ok (.istore_n 3, 1) := by decide +kernel
theorem dX9_ended_8 : decode cX9_ended 8 = .ok (.iload_n 3, 1) := by decide +kernel
theorem dX9_ended_9 : decode cX9_ended 9 = .ok (.aload_n 0, 1) := by decide +kernel
theorem dX9_ended_10 : decode cX9_ended 10 = .ok (.getfield 13, 3) := by decide +kernel
theorem dX9_ended_13 : decode cX9_ended 13 = .ok (.iconst 0, 1) := by decide +kernel
theorem dX9_ended_14 : decode cX9_ended 14 = .ok (.iaload, 1) := by decide +kernel
theorem dX9_ended_15 : decode cX9_ended 15 = .ok (.if_icmp .ge 23, 3) := by decide +kernel
theorem dX9_ended_18 : decode cX9_ended 18 = .ok (.iload_n 2, 1) := by decide +kernel
theorem dX9_ended_19 : decode cX9_ended 19 = .ok (.aload_n 0, 1) := by decide +kernel
theorem dX9_ended_20 : decode cX9_ended 20 = .ok (.getfield 57, 3) := by decide +kernel
theorem dX9_ended_23 : decode cX9_ended 23 = .ok (.bipush 6, 2) := by decide +kernel
theorem dX9_ended_25 : decode cX9_ended 25 = .ok (.iload_n 3, 1) := by decide +kernel
theorem dX9_ended_26 : decode cX9_ended 26 = .ok (.imul, 1) := by decide +kernel
theorem dX9_ended_27 : decode cX9_ended 27 = .ok (.iconst 5, 1) := by decide +kernel
theorem dX9_ended_28 : decode cX9_ended 28 = .ok (.iadd, 1) := by decide +kernel
theorem dX9_ended_29 : decode cX9_ended 29 = .ok (.iaload, 1) := by decide +kernel
theorem dX9_ended_30 : decode cX9_ended 30 = .ok (.iadd, 1) := by decide +kernel
theorem dX9_ended_31 : decode cX9_ended 31 = .ok (.istore_n 2, 1) := by decide +kernel
theorem dX9_ended_32 : decode cX9_ended 32 = .ok (.iinc 3 1, 3) := by decide +kernel
theorem dX9_ended_35 : decode cX9_ended 35 = .ok (.goto (-27), 3) := by decide +kernel
theorem dX9_ended_38 : decode cX9_ended 38 = .ok (.ldc_w 288, 3) := by decide +kernel
theorem dX9_ended_41 : decode cX9_ended 41 = .ok (.aload_n 0, 1) := by decide +kernel
theorem dX9_ended_42 : decode cX9_ended 42 = .ok (.invokevirtual 289, 3) := by decide +kernel
theorem dX9_ended_45 : decode cX9_ended 45 = .ok (.aload_n 0, 1) := by decide +kernel
theorem dX9_ended_46 : decode cX9_ended 46 = .ok (.getfield 13, 3) := by decide +kernel
theorem dX9_ended_49 : decode cX9_ended 49 = .ok (.iconst 5, 1) := by decide +kernel
theorem dX9_ended_50 : decode cX9_ended 50 = .ok (.iaload, 1) := by decide +kernel
theorem dX9_ended_51 : decode cX9_ended 51 = .ok (.imul, 1) := by decide +kernel
theorem dX9_ended_52 : decode cX9_ended 52 = .ok (.iadd, 1) := by decide +kernel
theorem dX9_ended_53 : decode cX9_ended 53 = .ok (.iload_n 2, 1) := by decide +kernel
theorem dX9_ended_54 : decode cX9_ended 54 = .ok (.aload_n 0, 1) := by decide +kernel
theorem dX9_ended_55 : decode cX9_ended 55 = .ok (.getfield 255, 3) := by decide +kernel
theorem dX9_ended_58 : decode cX9_ended 58 = .ok (.iadd, 1) := by decide +kernel
theorem dX9_ended_59 : decode cX9_ended 59 = .ok (.aload_n 0, 1) := by decide +kernel
theorem dX9_ended_60 : decode cX9_ended 60 = .ok (.getfield 13, 3) := by decide +kernel
theorem dX9_ended_63 : decode cX9_ended 63 = .ok (.bipush 6, 2) := by decide +kernel
theorem dX9_ended_65 : decode cX9_ended 65 = .ok (.iaload, 1) := by decide +kernel
theorem dX9_ended_66 : decode cX9_ended 66 = .ok (.imul, 1) := by decide +kernel
theorem dX9_ended_67 : decode cX9_ended 67 = .ok (.iadd, 1) := by decide +kernel
theorem dX9_ended_68 : decode cX9_ended 68 = .ok (.aload_n 0, 1) := by decide +kernel
theorem dX9_ended_69 : decode cX9_ended 69 = .ok (.invokevirtual 292, 3) := by decide +kernel
theorem dX9_ended_72 : decode cX9_ended 72 = .ok (.aload_n 0, 1) := by decide +kernel
theorem dX9_ended_73 : decode cX9_ended 73 = .ok (.getfield 115, 3) := by decide +kernel
theorem dX9_ended_76 : decode cX9_ended 76 = .ok (.iadd, 1) := by decide +kernel
theorem dX9_ended_77 : decode cX9_ended 77 = .ok (.aload_n 0, 1) := by decide +kernel
theorem dX9_ended_78 : decode cX9_ended 78 = .ok (.getfield 13, 3) := by decide +kernel
theorem dX9_ended_81 : decode cX9_ended 81 = .ok (.iconst 4, 1) := by decide +kernel
theorem dX9_ended_82 : decode cX9_ended 82 = .ok (.iaload, 1) := by decide +kernel
theorem dX9_ended_83 : decode cX9_ended 83 = .ok (.imul, 1) := by decide +kernel
theorem dX9_ended_84 : decode cX9_ended 84 = .ok (.isub, 1) := by decide +kernel
theorem dX9_ended_85 : decode cX9_ended 85 = .ok (.istore_n 3, 1) := by decide +kernel
theorem dX9_ended_86 : decode cX9_ended 86 = .ok (.iload_n 1, 1) := by decide +kernel
theorem dX9_ended_87 : decode cX9_ended 87 = .ok (.tableswitch 52 0 4 #[33, 38, 40, 45, 50], 33) := by decide +kernel
theorem dX9_ended_120 : decode cX9_ended 120 = .ok (.aload_n 0, 1) := by decide +kernel
theorem dX9_ended_121 : decode cX9_ended 121 = .ok (.invokevirtual 289, 3) := by decide +kernel
theorem dX9_ended_124 : decode cX9_ended 124 = .ok (.ireturn, 1) := by decide +kernel
theorem dX9_ended_125 : decode cX9_ended 125 = .ok (.iload_n 2, 1) := by decide +kernel
theorem dX9_ended_126 : decode cX9_ended 126 = .ok (.ireturn, 1) := by decide +kernel
theorem dX9_ended_127 : decode cX9_ended 127 = .ok (.aload_n 0, 1) := by decide +kernel
theorem dX9_ended_128 : decode cX9_ended 128 = .ok (.getfield 255, 3) := by decide +kernel
theorem dX9_ended_131 : decode cX9_ended 131 = .ok (.ireturn, 1) := by decide +kernel
theorem dX9_ended_132 : decode cX9_ended 132 = .ok (.aload_n 0, 1) := by decide +kernel
theorem dX9_ended_133 : decode cX9_ended 133 = .ok (.getfield 264, 3) := by decide +kernel
theorem dX9_ended_136 : decode cX9_ended 136 = .ok (.ireturn, 1) := by decide +kernel
theorem dX9_ended_137 : decode cX9_ended 137 = .ok (.iload_n 3, 1) := by decide +kernel
theorem dX9_ended_138 : decode cX9_ended 138 = .ok (.ireturn, 1) := by decide +kernel
theorem dX9_ended_139 : decode cX9_ended 139 = .ok (.bipush (-2), 2) := by decide +kernel
theorem dX9_ended_141 : decode cX9_ended 141 = .ok (.ireturn, 1) := by decide +kernel
theorem dX9_firstOut_0 : decode cX9_firstOut 0 = .ok (.iconst 0, 1) := by decide +kernel
theorem dX9_firstOut_1 : decode cX9_firstOut 1 = .ok (.istore_n 2, 1) := by decide +kernel
theorem dX9_firstOut_2 : decode cX9_firstOut 2 = .ok (.iload_n 2, 1) := by decide +kernel
theorem dX9_firstOut_3 : decode cX9_firstOut 3 = .ok (.bipush 6, 2) := by decide +kernel
theorem dX9_firstOut_5 : decode cX9_firstOut 5 = .ok (.if_icmp .ge 25, 3) := by decide +kernel
theorem dX9_firstOut_8 : decode cX9_firstOut 8 = .ok (.aload_n 0, 1) := by decide +kernel
theorem dX9_firstOut_9 : decode cX9_firstOut 9 = .ok (.getfield 66, 3) := by decide +kernel
theorem dX9_firstOut_12 : decode cX9_firstOut 12 = .ok (.bipush 6, 2) := by decide +kernel
theorem dX9_firstOut_14 : decode cX9_firstOut 14 = .ok (.iload_n 1, 1) := by decide +kernel
theorem dX9_firstOut_15 : decode cX9_firstOut 15 = .ok (.imul, 1) := by decide +kernel
theorem dX9_firstOut_16 : decode cX9_firstOut 16 = .ok (.iload_n 2, 1) := by decide +kernel
theorem dX9_firstOut_17 : decode cX9_firstOut 17 = .ok (.iadd, 1) := by decide +kernel
theorem dX9_firstOut_18 : decode cX9_firstOut 18 = .ok (.iaload, 1) := by decide +kernel
theorem dX9_firstOut_19 : decode cX9_firstOut 19 = .ok (.ifCond .le 5, 3) := by decide +kernel
theorem dX9_firstOut_22 : decode cX9_firstOut 22 = .ok (.iload_n 2, 1) := by decide +kernel
theorem dX9_firstOut_23 : decode cX9_firstOut 23 = .ok (.ireturn, 1) := by decide +kernel
theorem dX9_firstOut_24 : decode cX9_firstOut 24 = .ok (.iinc 2 1, 3) := by decide +kernel
theorem dX9_firstOut_27 : decode cX9_firstOut 27 = .ok (.goto (-25), 3) := by decide +kernel
theorem dX9_firstOut_30 : decode cX9_firstOut 30 = .ok (.bipush (-9), 2) := by decide +kernel
theorem dX9_firstOut_32 : decode cX9_firstOut 32 = .ok (.ireturn, 1) := by decide +kernel
theorem dX9_ranOut_0 : decode cX9_ranOut 0 = .ok (.aload_n 0, 1) := by decide +kernel
theorem dX9_ranOut_1 : decode cX9_ranOut 1 = .ok (.iload_n 1, 1) := by decide +kernel
theorem dX9_ranOut_2 : decode cX9_ranOut 2 = .ok (.invokevirtual 163, 3) := by decide +kernel
theorem dX9_ranOut_5 : decode cX9_ranOut 5 = .ok (.ifCond .ne 5, 3) := by decide +kernel
theorem dX9_ranOut_8 : decode cX9_ranOut 8 = .ok (.iconst (-1), 1) := by decide +kernel
theorem dX9_ranOut_9 : decode cX9_ranOut 9 = .ok (.ireturn, 1) := by decide +kernel
theorem dX9_ranOut_10 : decode cX9_ranOut 10 = .ok (.aload_n 0, 1) := by decide +kernel
theorem dX9_ranOut_11 : decode cX9_ranOut 11 = .ok (.invokevirtual 285, 3) := by decide +kernel
theorem dX9_ranOut_14 : decode cX9_ranOut 14 = .ok (.aload_n 0, 1) := by decide +kernel
theorem dX9_ranOut_15 : decode cX9_ranOut 15 = .ok (.iload_n 1, 1) := by decide +kernel
theorem dX9_ranOut_16 : decode cX9_ranOut 16 = .ok (.invokevirtual 295, 3) := by decide +kernel
theorem dX9_ranOut_19 : decode cX9_ranOut 19 = .ok (.ireturn, 1) := by decide +kernel
theorem dX9_habit_0 : decode cX9_habit 0 = .ok (.aload_n 0, 1) := by decide +kernel
theorem dX9_habit_1 : decode cX9_habit 1 = .ok (.iload_n 1, 1) := by decide +kernel
theorem dX9_habit_2 : decode cX9_habit 2 = .ok (.invokevirtual 163, 3) := by decide +kernel
theorem dX9_habit_5 : decode cX9_habit 5 = .ok (.ifCond .eq 12, 3) := by decide +kernel
theorem dX9_habit_8 : decode cX9_habit 8 = .ok (.aload_n 0, 1) := by decide +kernel
theorem dX9_habit_9 : decode cX9_habit 9 = .ok (.getfield 45, 3) := by decide +kernel
theorem dX9_habit_12 : decode cX9_habit 12 = .ok (.iload_n 1, 1) := by decide +kernel
theorem dX9_habit_13 : decode cX9_habit 13 = .ok (.iaload, 1) := by decide +kernel
theorem dX9_habit_14 : decode cX9_habit 14 = .ok (.goto 4, 3) := by decide +kernel
theorem dX9_habit_17 : decode cX9_habit 17 = .ok (.iconst (-1), 1) := by decide +kernel
theorem dX9_habit_18 : decode cX9_habit 18 = .ok (.ireturn, 1) := by decide +kernel
theorem dX9_days_0 : decode cX9_days 0 = .ok (.iload_n 1, 1) := by decide +kernel
theorem dX9_days_1 : decode cX9_days 1 = .ok (.i2l, 1) := by decide +kernel
theorem dX9_days_2 : decode cX9_days 2 = .ok (.lconst 1, 1) := by decide +kernel
theorem dX9_days_3 : decode cX9_days 3 = .ok (.ldc2_w 298, 3) := by decide +kernel
theorem dX9_days_6 : decode cX9_days 6 = .ok (.invokestatic 104, 3) := by decide +kernel
theorem dX9_days_9 : decode cX9_days 9 = .ok (.ifCond .ne 6, 3) := by decide +kernel
theorem dX9_days_12 : decode cX9_days 12 = .ok (.bipush (-2), 2) := by decide +kernel
theorem dX9_days_14 : decode cX9_days 14 = .ok (.ireturn, 1) := by decide +kernel
theorem dX9_days_15 : decode cX9_days 15 = .ok (.iconst 0, 1) := by decide +kernel
theorem dX9_days_16 : decode cX9_days 16 = .ok (.istore_n 2, 1) := by decide +kernel
theorem dX9_days_17 : decode cX9_days 17 = .ok (.iconst 0, 1) := by decide +kernel
theorem dX9_days_18 : decode cX9_days 18 = .ok (.istore_n 3, 1) := by decide +kernel
theorem dX9_days_19 : decode cX9_days 19 = .ok (.iload_n 3, 1) := by decide +kernel
theorem dX9_days_20 : decode cX9_days 20 = .ok (.iload_n 1, 1) := by decide +kernel
theorem dX9_days_21 : decode cX9_days 21 = .ok (.if_icmp .ge 126, 3) := by decide +kernel
theorem dX9_days_24 : decode cX9_days 24 = .ok (.aload_n 0, 1) := by decide +kernel
theorem dX9_days_25 : decode cX9_days 25 = .ok (.invokevirtual 285, 3) := by decide +kernel
theorem dX9_days_28 : decode cX9_days 28 = .ok (.iconst 0, 1) := by decide +kernel
theorem dX9_days_29 : decode cX9_days 29 = .ok (.istore_n 2, 1) := by decide +kernel
theorem dX9_days_30 : decode cX9_days 30 = .ok (.iconst 0, 1) := by decide +kernel
theorem dX9_days_31 : decode cX9_days 31 = .ok (.istore 4, 2) := by decide +kernel
theorem dX9_days_33 : decode cX9_days 33 = .ok (.iload 4, 2) := by decide +kernel
theorem dX9_days_35 : decode cX9_days 35 = .ok (.aload_n 0, 1) := by decide +kernel
theorem dX9_days_36 : decode cX9_days 36 = .ok (.getfield 13, 3) := by decide +kernel
theorem dX9_days_39 : decode cX9_days 39 = .ok (.iconst 0, 1) := by decide +kernel
theorem dX9_days_40 : decode cX9_days 40 = .ok (.iaload, 1) := by decide +kernel
theorem dX9_days_41 : decode cX9_days 41 = .ok (.if_icmp .ge 100, 3) := by decide +kernel
theorem dX9_days_44 : decode cX9_days 44 = .ok (.aload_n 0, 1) := by decide +kernel
theorem dX9_days_45 : decode cX9_days 45 = .ok (.getfield 45, 3) := by decide +kernel
theorem dX9_days_48 : decode cX9_days 48 = .ok (.iload 4, 2) := by decide +kernel
theorem dX9_days_50 : decode cX9_days 50 = .ok (.iaload, 1) := by decide +kernel
theorem dX9_days_51 : decode cX9_days 51 = .ok (.istore 5, 2) := by decide +kernel
theorem dX9_days_53 : decode cX9_days 53 = .ok (.aload_n 0, 1) := by decide +kernel
theorem dX9_days_54 : decode cX9_days 54 = .ok (.iload 4, 2) := by decide +kernel
theorem dX9_days_56 : decode cX9_days 56 = .ok (.invokevirtual 295, 3) := by decide +kernel
theorem dX9_days_59 : decode cX9_days 59 = .ok (.bipush (-9), 2) := by decide +kernel
theorem dX9_days_61 : decode cX9_days 61 = .ok (.if_icmp .eq 7, 3) := by decide +kernel
theorem dX9_days_64 : decode cX9_days 64 = .ok (.iconst 1, 1) := by decide +kernel
theorem dX9_days_65 : decode cX9_days 65 = .ok (.goto 4, 3) := by decide +kernel
theorem dX9_days_68 : decode cX9_days 68 = .ok (.iconst 0, 1) := by decide +kernel
theorem dX9_days_69 : decode cX9_days 69 = .ok (.istore 6, 2) := by decide +kernel
theorem dX9_days_71 : decode cX9_days 71 = .ok (.aload_n 0, 1) := by decide +kernel
theorem dX9_days_72 : decode cX9_days 72 = .ok (.getfield 45, 3) := by decide +kernel
theorem dX9_days_75 : decode cX9_days 75 = .ok (.iload 4, 2) := by decide +kernel
theorem dX9_days_77 : decode cX9_days 77 = .ok (.iload 6, 2) := by decide +kernel
theorem dX9_days_79 : decode cX9_days 79 = .ok (.ifCond .eq 19, 3) := by decide +kernel
theorem dX9_days_82 : decode cX9_days 82 = .ok (.iload 5, 2) := by decide +kernel
theorem dX9_days_84 : decode cX9_days 84 = .ok (.ifCond .le 10, 3) := by decide +kernel
theorem dX9_days_87 : decode cX9_days 87 = .ok (.iload 5, 2) := by decide +kernel
theorem dX9_days_89 : decode cX9_days 89 = .ok (.iconst 1, 1) := by decide +kernel
theorem dX9_days_90 : decode cX9_days 90 = .ok (.isub, 1) := by decide +kernel
theorem dX9_days_91 : decode cX9_days 91 = .ok (.goto 23, 3) := by decide +kernel
theorem dX9_days_94 : decode cX9_days 94 = .ok (.iconst 0, 1) := by decide +kernel
theorem dX9_days_95 : decode cX9_days 95 = .ok (.goto 19, 3) := by decide +kernel
theorem dX9_days_98 : decode cX9_days 98 = .ok (.iload 5, 2) := by decide +kernel
theorem dX9_days_100 : decode cX9_days 100 = .ok (.bipush 9, 2) := by decide +kernel
theorem dX9_days_102 : decode cX9_days 102 = .ok (.if_icmp .ge 10, 3) := by decide +kernel
theorem dX9_days_105 : decode cX9_days 105 = .ok (.iload 5, 2) := by decide +kernel
theorem dX9_days_107 : decode cX9_days 107 = .ok (.iconst 1, 1) := by decide +kernel
theorem dX9_days_108 : decode cX9_days 108 = .ok (.iadd, 1) := by decide +kernel
theorem dX9_days_109 : decode cX9_days 109 = .ok (.goto 5, 3) := by decide +kernel
theorem dX9_days_112 : decode cX9_days 112 = .ok (.bipush 9, 2) := by decide +kernel
theorem dX9_days_114 : decode cX9_days 114 = .ok (.iastore, 1) := by decide +kernel
theorem dX9_days_115 : decode cX9_days 115 = .ok (.iload_n 2, 1) := by decide +kernel
theorem dX9_days_116 : decode cX9_days 116 = .ok (.aload_n 0, 1) := by decide +kernel
theorem dX9_days_117 : decode cX9_days 117 = .ok (.getfield 45, 3) := by decide +kernel
theorem dX9_days_120 : decode cX9_days 120 = .ok (.iload 4, 2) := by decide +kernel
theorem dX9_days_122 : decode cX9_days 122 = .ok (.iaload, 1) := by decide +kernel
theorem dX9_days_123 : decode cX9_days 123 = .ok (.iload 5, 2) := by decide +kernel
theorem dX9_days_125 : decode cX9_days 125 = .ok (.if_icmp .ge 7, 3) := by decide +kernel
theorem dX9_days_128 : decode cX9_days 128 = .ok (.iconst 1, 1) := by decide +kernel
theorem dX9_days_129 : decode cX9_days 129 = .ok (.goto 4, 3) := by decide +kernel
theorem dX9_days_132 : decode cX9_days 132 = .ok (.iconst 0, 1) := by decide +kernel
theorem dX9_days_133 : decode cX9_days 133 = .ok (.iadd, 1) := by decide +kernel
theorem dX9_days_134 : decode cX9_days 134 = .ok (.istore_n 2, 1) := by decide +kernel
theorem dX9_days_135 : decode cX9_days 135 = .ok (.iinc 4 1, 3) := by decide +kernel
theorem dX9_days_138 : decode cX9_days 138 = .ok (.goto (-105), 3) := by decide +kernel
theorem dX9_days_141 : decode cX9_days 141 = .ok (.iinc 3 1, 3) := by decide +kernel
theorem dX9_days_144 : decode cX9_days 144 = .ok (.goto (-125), 3) := by decide +kernel
theorem dX9_days_147 : decode cX9_days 147 = .ok (.iload_n 2, 1) := by decide +kernel
theorem dX9_days_148 : decode cX9_days 148 = .ok (.ireturn, 1) := by decide +kernel
theorem dX9_second_0 : decode cX9_second 0 = .ok (.aload_n 0, 1) := by decide +kernel
theorem dX9_second_1 : decode cX9_second 1 = .ok (.iload_n 1, 1) := by decide +kernel
theorem dX9_second_2 : decode cX9_second 2 = .ok (.invokevirtual 163, 3) := by decide +kernel
theorem dX9_second_5 : decode cX9_second 5 = .ok (.ifCond .eq 10, 3) := by decide +kernel
theorem dX9_second_8 : decode cX9_second 8 = .ok (.iload_n 2, 1) := by decide +kernel
theorem dX9_second_9 : decode cX9_second 9 = .ok (.invokestatic 252, 3) := by decide +kernel
theorem dX9_second_12 : decode cX9_second 12 = .ok (.ifCond .ne 5, 3) := by decide +kernel
theorem dX9_second_15 : decode cX9_second 15 = .ok (.iconst (-1), 1) := by decide +kernel
theorem dX9_second_16 : decode cX9_second 16 = .ok (.ireturn, 1) := by decide +kernel
theorem dX9_second_17 : decode cX9_second 17 = .ok (.iload_n 3, 1) := by decide +kernel
theorem dX9_second_18 : decode cX9_second 18 = .ok (.i2l, 1) := by decide +kernel
theorem dX9_second_19 : decode cX9_second 19 = .ok (.lconst 1, 1) := by decide +kernel
theorem dX9_second_20 : decode cX9_second 20 = .ok (.ldc2_w 184, 3) := by decide +kernel
theorem dX9_second_23 : decode cX9_second 23 = .ok (.invokestatic 104, 3) := by decide +kernel
theorem dX9_second_26 : decode cX9_second 26 = .ok (.ifCond .eq 16, 3) := by decide +kernel
theorem dX9_second_29 : decode cX9_second 29 = .ok (.iload 4, 2) := by decide +kernel
theorem dX9_second_31 : decode cX9_second 31 = .ok (.i2l, 1) := by decide +kernel
theorem dX9_second_32 : decode cX9_second 32 = .ok (.lconst 0, 1) := by decide +kernel
theorem dX9_second_33 : decode cX9_second 33 = .ok (.ldc2_w 174, 3) := by decide +kernel
theorem dX9_second_36 : decode cX9_second 36 = .ok (.invokestatic 104, 3) := by decide +kernel
theorem dX9_second_39 : decode cX9_second 39 = .ok (.ifCond .ne 6, 3) := by decide +kernel
theorem dX9_second_42 : decode cX9_second 42 = .ok (.bipush (-2), 2) := by decide +kernel
theorem dX9_second_44 : decode cX9_second 44 = .ok (.ireturn, 1) := by decide +kernel
theorem dX9_second_45 : decode cX9_second 45 = .ok (.aload_n 0, 1) := by decide +kernel
theorem dX9_second_46 : decode cX9_second 46 = .ok (.invokevirtual 285, 3) := by decide +kernel
theorem dX9_second_49 : decode cX9_second 49 = .ok (.aload_n 0, 1) := by decide +kernel
theorem dX9_second_50 : decode cX9_second 50 = .ok (.invokevirtual 289, 3) := by decide +kernel
theorem dX9_second_53 : decode cX9_second 53 = .ok (.istore 5, 2) := by decide +kernel
theorem dX9_second_55 : decode cX9_second 55 = .ok (.aload_n 0, 1) := by decide +kernel
theorem dX9_second_56 : decode cX9_second 56 = .ok (.iload_n 3, 1) := by decide +kernel
theorem dX9_second_57 : decode cX9_second 57 = .ok (.putfield 276, 3) := by decide +kernel
theorem dX9_second_60 : decode cX9_second 60 = .ok (.aload_n 0, 1) := by decide +kernel
theorem dX9_second_61 : decode cX9_second 61 = .ok (.iload_n 1, 1) := by decide +kernel
theorem dX9_second_62 : decode cX9_second 62 = .ok (.putfield 270, 3) := by decide +kernel
theorem dX9_second_65 : decode cX9_second 65 = .ok (.aload_n 0, 1) := by decide +kernel
theorem dX9_second_66 : decode cX9_second 66 = .ok (.iload_n 2, 1) := by decide +kernel
theorem dX9_second_67 : decode cX9_second 67 = .ok (.putfield 273, 3) := by decide +kernel
theorem dX9_second_70 : decode cX9_second 70 = .ok (.aload_n 0, 1) := by decide +kernel
theorem dX9_second_71 : decode cX9_second 71 = .ok (.invokevirtual 282, 3) := by decide +kernel
theorem dX9_second_74 : decode cX9_second 74 = .ok (.aload_n 0, 1) := by decide +kernel
theorem dX9_second_75 : decode cX9_second 75 = .ok (.invokevirtual 289, 3) := by decide +kernel
theorem dX9_second_78 : decode cX9_second 78 = .ok (.iload 5, 2) := by decide +kernel
theorem dX9_second_80 : decode cX9_second 80 = .ok (.isub, 1) := by decide +kernel
theorem dX9_second_81 : decode cX9_second 81 = .ok (.istore 6, 2) := by decide +kernel
theorem dX9_second_83 : decode cX9_second 83 = .ok (.ldc_w 288, 3) := by decide +kernel
theorem dX9_second_86 : decode cX9_second 86 = .ok (.iload 6, 2) := by decide +kernel
theorem dX9_second_88 : decode cX9_second 88 = .ok (.aload_n 0, 1) := by decide +kernel
theorem dX9_second_89 : decode cX9_second 89 = .ok (.getfield 13, 3) := by decide +kernel
theorem dX9_second_92 : decode cX9_second 92 = .ok (.iconst 5, 1) := by decide +kernel
theorem dX9_second_93 : decode cX9_second 93 = .ok (.iaload, 1) := by decide +kernel
theorem dX9_second_94 : decode cX9_second 94 = .ok (.imul, 1) := by decide +kernel
theorem dX9_second_95 : decode cX9_second 95 = .ok (.iadd, 1) := by decide +kernel
theorem dX9_second_96 : decode cX9_second 96 = .ok (.iload_n 3, 1) := by decide +kernel
theorem dX9_second_97 : decode cX9_second 97 = .ok (.iload 6, 2) := by decide +kernel
theorem dX9_second_99 : decode cX9_second 99 = .ok (.isub, 1) := by decide +kernel
theorem dX9_second_100 : decode cX9_second 100 = .ok (.aload_n 0, 1) := by decide +kernel
theorem dX9_second_101 : decode cX9_second 101 = .ok (.getfield 13, 3) := by decide +kernel
theorem dX9_second_104 : decode cX9_second 104 = .ok (.bipush 6, 2) := by decide +kernel
theorem dX9_second_106 : decode cX9_second 106 = .ok (.iaload, 1) := by decide +kernel
theorem dX9_second_107 : decode cX9_second 107 = .ok (.imul, 1) := by decide +kernel
theorem dX9_second_108 : decode cX9_second 108 = .ok (.iadd, 1) := by decide +kernel
theorem dX9_second_109 : decode cX9_second 109 = .ok (.iload_n 3, 1) := by decide +kernel
theorem dX9_second_110 : decode cX9_second 110 = .ok (.aload_n 0, 1) := by decide +kernel
theorem dX9_second_111 : decode cX9_second 111 = .ok (.getfield 13, 3) := by decide +kernel
theorem dX9_second_114 : decode cX9_second 114 = .ok (.iconst 4, 1) := by decide +kernel
theorem dX9_second_115 : decode cX9_second 115 = .ok (.iaload, 1) := by decide +kernel
theorem dX9_second_116 : decode cX9_second 116 = .ok (.iload 4, 2) := by decide +kernel
theorem dX9_second_118 : decode cX9_second 118 = .ok (.iadd, 1) := by decide +kernel
theorem dX9_second_119 : decode cX9_second 119 = .ok (.imul, 1) := by decide +kernel
theorem dX9_second_120 : decode cX9_second 120 = .ok (.isub, 1) := by decide +kernel
theorem dX9_second_121 : decode cX9_second 121 = .ok (.ireturn, 1) := by decide +kernel
theorem dX9_paidOf_0 : decode cX9_paidOf 0 = .ok (.aload_n 0, 1) := by decide +kernel
theorem dX9_paidOf_1 : decode cX9_paidOf 1 = .ok (.iconst 0, 1) := by decide +kernel
theorem dX9_paidOf_2 : decode cX9_paidOf 2 = .ok (.putfield 276, 3) := by decide +kernel
theorem dX9_paidOf_5 : decode cX9_paidOf 5 = .ok (.aload_n 0, 1) := by decide +kernel
theorem dX9_paidOf_6 : decode cX9_paidOf 6 = .ok (.iconst 0, 1) := by decide +kernel
theorem dX9_paidOf_7 : decode cX9_paidOf 7 = .ok (.putfield 270, 3) := by decide +kernel
theorem dX9_paidOf_10 : decode cX9_paidOf 10 = .ok (.aload_n 0, 1) := by decide +kernel
theorem dX9_paidOf_11 : decode cX9_paidOf 11 = .ok (.iload_n 2, 1) := by decide +kernel
theorem dX9_paidOf_12 : decode cX9_paidOf 12 = .ok (.iload_n 3, 1) := by decide +kernel
theorem dX9_paidOf_13 : decode cX9_paidOf 13 = .ok (.if_icmp .lt 7, 3) := by decide +kernel
theorem dX9_paidOf_16 : decode cX9_paidOf 16 = .ok (.iload_n 1, 1) := by decide +kernel
theorem dX9_paidOf_17 : decode cX9_paidOf 17 = .ok (.goto 4, 3) := by decide +kernel
theorem dX9_paidOf_20 : decode cX9_paidOf 20 = .ok (.iconst (-1), 1) := by decide +kernel
theorem dX9_paidOf_21 : decode cX9_paidOf 21 = .ok (.putfield 261, 3) := by decide +kernel
theorem dX9_paidOf_24 : decode cX9_paidOf 24 = .ok (.aload_n 0, 1) := by decide +kernel
theorem dX9_paidOf_25 : decode cX9_paidOf 25 = .ok (.invokevirtual 282, 3) := by decide +kernel
theorem dX9_paidOf_28 : decode cX9_paidOf 28 = .ok (.iload_n 2, 1) := by decide +kernel
theorem dX9_paidOf_29 : decode cX9_paidOf 29 = .ok (.aload_n 0, 1) := by decide +kernel
theorem dX9_paidOf_30 : decode cX9_paidOf 30 = .ok (.getfield 60, 3) := by decide +kernel
theorem dX9_paidOf_33 : decode cX9_paidOf 33 = .ok (.bipush 6, 2) := by decide +kernel
theorem dX9_paidOf_35 : decode cX9_paidOf 35 = .ok (.iload_n 1, 1) := by decide +kernel
theorem dX9_paidOf_36 : decode cX9_paidOf 36 = .ok (.imul, 1) := by decide +kernel
theorem dX9_paidOf_37 : decode cX9_paidOf 37 = .ok (.iconst 5, 1) := by decide +kernel
theorem dX9_paidOf_38 : decode cX9_paidOf 38 = .ok (.iadd, 1) := by decide +kernel
theorem dX9_paidOf_39 : decode cX9_paidOf 39 = .ok (.iaload, 1) := by decide +kernel
theorem dX9_paidOf_40 : decode cX9_paidOf 40 = .ok (.imul, 1) := by decide +kernel
theorem dX9_paidOf_41 : decode cX9_paidOf 41 = .ok (.ireturn, 1) := by decide +kernel
theorem dX9_paid_0 : decode cX9_paid 0 = .ok (.aload_n 0, 1) := by decide +kernel
theorem dX9_paid_1 : decode cX9_paid 1 = .ok (.iload_n 1, 1) := by decide +kernel
theorem dX9_paid_2 : decode cX9_paid 2 = .ok (.invokevirtual 163, 3) := by decide +kernel
theorem dX9_paid_5 : decode cX9_paid 5 = .ok (.ifCond .ne 5, 3) := by decide +kernel
theorem dX9_paid_8 : decode cX9_paid 8 = .ok (.iconst (-1), 1) := by decide +kernel
theorem dX9_paid_9 : decode cX9_paid 9 = .ok (.ireturn, 1) := by decide +kernel
theorem dX9_paid_10 : decode cX9_paid 10 = .ok (.iload_n 2, 1) := by decide +kernel
theorem dX9_paid_11 : decode cX9_paid 11 = .ok (.i2l, 1) := by decide +kernel
theorem dX9_paid_12 : decode cX9_paid 12 = .ok (.lconst 0, 1) := by decide +kernel
theorem dX9_paid_13 : decode cX9_paid 13 = .ok (.ldc2_w 174, 3) := by decide +kernel
theorem dX9_paid_16 : decode cX9_paid 16 = .ok (.invokestatic 104, 3) := by decide +kernel
theorem dX9_paid_19 : decode cX9_paid 19 = .ok (.ifCond .eq 25, 3) := by decide +kernel
theorem dX9_paid_22 : decode cX9_paid 22 = .ok (.iload_n 3, 1) := by decide +kernel
theorem dX9_paid_23 : decode cX9_paid 23 = .ok (.i2l, 1) := by decide +kernel
theorem dX9_paid_24 : decode cX9_paid 24 = .ok (.lconst 0, 1) := by decide +kernel
theorem dX9_paid_25 : decode cX9_paid 25 = .ok (.ldc2_w 300, 3) := by decide +kernel
theorem dX9_paid_28 : decode cX9_paid 28 = .ok (.invokestatic 104, 3) := by decide +kernel
theorem dX9_paid_31 : decode cX9_paid 31 = .ok (.ifCond .eq 13, 3) := by decide +kernel
theorem dX9_paid_34 : decode cX9_paid 34 = .ok (.aload_n 0, 1) := by decide +kernel
theorem dX9_paid_35 : decode cX9_paid 35 = .ok (.iload_n 1, 1) := by decide +kernel
theorem dX9_paid_36 : decode cX9_paid 36 = .ok (.iload_n 2, 1) := by decide +kernel
theorem dX9_paid_37 : decode cX9_paid 37 = .ok (.iload_n 3, 1) := by decide +kernel
theorem dX9_paid_38 : decode cX9_paid 38 = .ok (.invokevirtual 302, 3) := by decide +kernel
theorem dX9_paid_41 : decode cX9_paid 41 = .ok (.goto 5, 3) := by decide +kernel
theorem dX9_paid_44 : decode cX9_paid 44 = .ok (.bipush (-2), 2) := by decide +kernel
theorem dX9_paid_46 : decode cX9_paid 46 = .ok (.ireturn, 1) := by decide +kernel
theorem dX9_leastPay_0 : decode cX9_leastPay 0 = .ok (.aload_n 0, 1) := by decide +kernel
theorem dX9_leastPay_1 : decode cX9_leastPay 1 = .ok (.iload_n 1, 1) := by decide +kernel
theorem dX9_leastPay_2 : decode cX9_leastPay 2 = .ok (.invokevirtual 163, 3) := by decide +kernel
theorem dX9_leastPay_5 : decode cX9_leastPay 5 = .ok (.ifCond .ne 5, 3) := by decide +kernel
theorem dX9_leastPay_8 : decode cX9_leastPay 8 = .ok (.iconst (-1), 1) := by decide +kernel
theorem dX9_leastPay_9 : decode cX9_leastPay 9 = .ok (.ireturn, 1) := by decide +kernel
theorem dX9_leastPay_10 : decode cX9_leastPay 10 = .ok (.iload_n 2, 1) := by decide +kernel
theorem dX9_leastPay_11 : decode cX9_leastPay 11 = .ok (.i2l, 1) := by decide +kernel
theorem dX9_leastPay_12 : decode cX9_leastPay 12 = .ok (.lconst 0, 1) := by decide +kernel
theorem dX9_leastPay_13 : decode cX9_leastPay 13 = .ok (.ldc2_w 300, 3) := by decide +kernel
theorem dX9_leastPay_16 : decode cX9_leastPay 16 = .ok (.invokestatic 104, 3) := by decide +kernel
theorem dX9_leastPay_19 : decode cX9_leastPay 19 = .ok (.ifCond .eq 15, 3) := by decide +kernel
theorem dX9_leastPay_22 : decode cX9_leastPay 22 = .ok (.iload_n 3, 1) := by decide +kernel
theorem dX9_leastPay_23 : decode cX9_leastPay 23 = .ok (.i2l, 1) := by decide +kernel
theorem dX9_leastPay_24 : decode cX9_leastPay 24 = .ok (.lconst 0, 1) := by decide +kernel
theorem dX9_leastPay_25 : decode cX9_leastPay 25 = .ok (.ldc2_w 305, 3) := by decide +kernel
theorem dX9_leastPay_28 : decode cX9_leastPay 28 = .ok (.invokestatic 104, 3) := by decide +kernel
theorem dX9_leastPay_31 : decode cX9_leastPay 31 = .ok (.ifCond .ne 6, 3) := by decide +kernel
theorem dX9_leastPay_34 : decode cX9_leastPay 34 = .ok (.bipush (-2), 2) := by decide +kernel
theorem dX9_leastPay_36 : decode cX9_leastPay 36 = .ok (.ireturn, 1) := by decide +kernel
theorem dX9_leastPay_37 : decode cX9_leastPay 37 = .ok (.iconst 0, 1) := by decide +kernel
theorem dX9_leastPay_38 : decode cX9_leastPay 38 = .ok (.istore 4, 2) := by decide +kernel
theorem dX9_leastPay_40 : decode cX9_leastPay 40 = .ok (.iload 4, 2) := by decide +kernel
theorem dX9_leastPay_42 : decode cX9_leastPay 42 = .ok (.bipush 21, 2) := by decide +kernel
theorem dX9_leastPay_44 : decode cX9_leastPay 44 = .ok (.if_icmp .ge 24, 3) := by decide +kernel
theorem dX9_leastPay_47 : decode cX9_leastPay 47 = .ok (.aload_n 0, 1) := by decide +kernel
theorem dX9_leastPay_48 : decode cX9_leastPay 48 = .ok (.iload_n 1, 1) := by decide +kernel
theorem dX9_leastPay_49 : decode cX9_leastPay 49 = .ok (.iload 4, 2) := by decide +kernel
theorem dX9_leastPay_51 : decode cX9_leastPay 51 = .ok (.iload_n 2, 1) := by decide +kernel
theorem dX9_leastPay_52 : decode cX9_leastPay 52 = .ok (.invokevirtual 302, 3) := by decide +kernel
theorem dX9_leastPay_55 : decode cX9_leastPay 55 = .ok (.iload_n 3, 1) := by decide +kernel
theorem dX9_leastPay_56 : decode cX9_leastPay 56 = .ok (.if_icmp .lt 6, 3) := by decide +kernel
theorem dX9_leastPay_59 : decode cX9_leastPay 59 = .ok (.iload 4, 2) := by decide +kernel
theorem dX9_leastPay_61 : decode cX9_leastPay 61 = .ok (.ireturn, 1) := by decide +kernel
theorem dX9_leastPay_62 : decode cX9_leastPay 62 = .ok (.iinc 4 1, 3) := by decide +kernel
theorem dX9_leastPay_65 : decode cX9_leastPay 65 = .ok (.goto (-25), 3) := by decide +kernel
theorem dX9_leastPay_68 : decode cX9_leastPay 68 = .ok (.bipush (-9), 2) := by decide +kernel
theorem dX9_leastPay_70 : decode cX9_leastPay 70 = .ok (.ireturn, 1) := by decide +kernel
theorem dX9_keep_0 : decode cX9_keep 0 = .ok (.iload_n 1, 1) := by decide +kernel
theorem dX9_keep_1 : decode cX9_keep 1 = .ok (.i2l, 1) := by decide +kernel
theorem dX9_keep_2 : decode cX9_keep 2 = .ok (.lconst 0, 1) := by decide +kernel
theorem dX9_keep_3 : decode cX9_keep 3 = .ok (.lconst 1, 1) := by decide +kernel
theorem dX9_keep_4 : decode cX9_keep 4 = .ok (.invokestatic 104, 3) := by decide +kernel
theorem dX9_keep_7 : decode cX9_keep 7 = .ok (.ifCond .ne 5, 3) := by decide +kernel
theorem dX9_keep_10 : decode cX9_keep 10 = .ok (.iconst (-1), 1) := by decide +kernel
theorem dX9_keep_11 : decode cX9_keep 11 = .ok (.ireturn, 1) := by decide +kernel
theorem dX9_keep_12 : decode cX9_keep 12 = .ok (.aload_n 0, 1) := by decide +kernel
theorem dX9_keep_13 : decode cX9_keep 13 = .ok (.getfield 78, 3) := by decide +kernel
theorem dX9_keep_16 : decode cX9_keep 16 = .ok (.iload_n 1, 1) := by decide +kernel
theorem dX9_keep_17 : decode cX9_keep 17 = .ok (.iconst 1, 1) := by decide +kernel
theorem dX9_keep_18 : decode cX9_keep 18 = .ok (.bastore, 1) := by decide +kernel
theorem dX9_keep_19 : decode cX9_keep 19 = .ok (.iconst 0, 1) := by decide +kernel
theorem dX9_keep_20 : decode cX9_keep 20 = .ok (.istore_n 2, 1) := by decide +kernel
theorem dX9_keep_21 : decode cX9_keep 21 = .ok (.iload_n 2, 1) := by decide +kernel
theorem dX9_keep_22 : decode cX9_keep 22 = .ok (.iconst 3, 1) := by decide +kernel
theorem dX9_keep_23 : decode cX9_keep 23 = .ok (.if_icmp .ge 57, 3) := by decide +kernel
theorem dX9_keep_26 : decode cX9_keep 26 = .ok (.aload_n 0, 1) := by decide +kernel
theorem dX9_keep_27 : decode cX9_keep 27 = .ok (.getfield 81, 3) := by decide +kernel
theorem dX9_keep_30 : decode cX9_keep 30 = .ok (.iconst 3, 1) := by decide +kernel
theorem dX9_keep_31 : decode cX9_keep 31 = .ok (.iload_n 1, 1) := by decide +kernel
theorem dX9_keep_32 : decode cX9_keep 32 = .ok (.imul, 1) := by decide +kernel
theorem dX9_keep_33 : decode cX9_keep 33 = .ok (.iload_n 2, 1) := by decide +kernel
theorem dX9_keep_34 : decode cX9_keep 34 = .ok (.iadd, 1) := by decide +kernel
theorem dX9_keep_35 : decode cX9_keep 35 = .ok (.aload_n 0, 1) := by decide +kernel
theorem dX9_keep_36 : decode cX9_keep 36 = .ok (.getfield 39, 3) := by decide +kernel
theorem dX9_keep_39 : decode cX9_keep 39 = .ok (.iload_n 2, 1) := by decide +kernel
theorem dX9_keep_40 : decode cX9_keep 40 = .ok (.iaload, 1) := by decide +kernel
theorem dX9_keep_41 : decode cX9_keep 41 = .ok (.iastore, 1) := by decide +kernel
theorem dX9_keep_42 : decode cX9_keep 42 = .ok (.aload_n 0, 1) := by decide +kernel
theorem dX9_keep_43 : decode cX9_keep 43 = .ok (.getfield 84, 3) := by decide +kernel
theorem dX9_keep_46 : decode cX9_keep 46 = .ok (.iconst 3, 1) := by decide +kernel
theorem dX9_keep_47 : decode cX9_keep 47 = .ok (.iload_n 1, 1) := by decide +kernel
theorem dX9_keep_48 : decode cX9_keep 48 = .ok (.imul, 1) := by decide +kernel
theorem dX9_keep_49 : decode cX9_keep 49 = .ok (.iload_n 2, 1) := by decide +kernel
theorem dX9_keep_50 : decode cX9_keep 50 = .ok (.iadd, 1) := by decide +kernel
theorem dX9_keep_51 : decode cX9_keep 51 = .ok (.aload_n 0, 1) := by decide +kernel
theorem dX9_keep_52 : decode cX9_keep 52 = .ok (.getfield 42, 3) := by decide +kernel
theorem dX9_keep_55 : decode cX9_keep 55 = .ok (.iload_n 2, 1) := by decide +kernel
theorem dX9_keep_56 : decode cX9_keep 56 = .ok (.iaload, 1) := by decide +kernel
theorem dX9_keep_57 : decode cX9_keep 57 = .ok (.iastore, 1) := by decide +kernel
theorem dX9_keep_58 : decode cX9_keep 58 = .ok (.aload_n 0, 1) := by decide +kernel
theorem dX9_keep_59 : decode cX9_keep 59 = .ok (.getfield 87, 3) := by decide +kernel
theorem dX9_keep_62 : decode cX9_keep 62 = .ok (.iconst 3, 1) := by decide +kernel
theorem dX9_keep_63 : decode cX9_keep 63 = .ok (.iload_n 1, 1) := by decide +kernel
theorem dX9_keep_64 : decode cX9_keep 64 = .ok (.imul, 1) := by decide +kernel
theorem dX9_keep_65 : decode cX9_keep 65 = .ok (.iload_n 2, 1) := by decide +kernel
theorem dX9_keep_66 : decode cX9_keep 66 = .ok (.iadd, 1) := by decide +kernel
theorem dX9_keep_67 : decode cX9_keep 67 = .ok (.aload_n 0, 1) := by decide +kernel
theorem dX9_keep_68 : decode cX9_keep 68 = .ok (.getfield 45, 3) := by decide +kernel
theorem dX9_keep_71 : decode cX9_keep 71 = .ok (.iload_n 2, 1) := by decide +kernel
theorem dX9_keep_72 : decode cX9_keep 72 = .ok (.iaload, 1) := by decide +kernel
theorem dX9_keep_73 : decode cX9_keep 73 = .ok (.iastore, 1) := by decide +kernel
theorem dX9_keep_74 : decode cX9_keep 74 = .ok (.iinc 2 1, 3) := by decide +kernel
theorem dX9_keep_77 : decode cX9_keep 77 = .ok (.goto (-56), 3) := by decide +kernel
theorem dX9_keep_80 : decode cX9_keep 80 = .ok (.aload_n 0, 1) := by decide +kernel
theorem dX9_keep_81 : decode cX9_keep 81 = .ok (.getfield 90, 3) := by decide +kernel
theorem dX9_keep_84 : decode cX9_keep 84 = .ok (.iconst 5, 1) := by decide +kernel
theorem dX9_keep_85 : decode cX9_keep 85 = .ok (.iload_n 1, 1) := by decide +kernel
theorem dX9_keep_86 : decode cX9_keep 86 = .ok (.imul, 1) := by decide +kernel
theorem dX9_keep_87 : decode cX9_keep 87 = .ok (.aload_n 0, 1) := by decide +kernel
theorem dX9_keep_88 : decode cX9_keep 88 = .ok (.getfield 112, 3) := by decide +kernel
theorem dX9_keep_91 : decode cX9_keep 91 = .ok (.iastore, 1) := by decide +kernel
theorem dX9_keep_92 : decode cX9_keep 92 = .ok (.aload_n 0, 1) := by decide +kernel
theorem dX9_keep_93 : decode cX9_keep 93 = .ok (.getfield 90, 3) := by decide +kernel
theorem dX9_keep_96 : decode cX9_keep 96 = .ok (.iconst 5, 1) := by decide +kernel
theorem dX9_keep_97 : decode cX9_keep 97 = .ok (.iload_n 1, 1) := by decide +kernel
theorem dX9_keep_98 : decode cX9_keep 98 = .ok (.imul, 1) := by decide +kernel
theorem dX9_keep_99 : decode cX9_keep 99 = .ok (.iconst 1, 1) := by decide +kernel
theorem dX9_keep_100 : decode cX9_keep 100 = .ok (.iadd, 1) := by decide +kernel
theorem dX9_keep_101 : decode cX9_keep 101 = .ok (.aload_n 0, 1) := by decide +kernel
theorem dX9_keep_102 : decode cX9_keep 102 = .ok (.getfield 115, 3) := by decide +kernel
theorem dX9_keep_105 : decode cX9_keep 105 = .ok (.iastore, 1) := by decide +kernel
theorem dX9_keep_106 : decode cX9_keep 106 = .ok (.aload_n 0, 1) := by decide +kernel
theorem dX9_keep_107 : decode cX9_keep 107 = .ok (.getfield 90, 3) := by decide +kernel
theorem dX9_keep_110 : decode cX9_keep 110 = .ok (.iconst 5, 1) := by decide +kernel
theorem dX9_keep_111 : decode cX9_keep 111 = .ok (.iload_n 1, 1) := by decide +kernel
theorem dX9_keep_112 : decode cX9_keep 112 = .ok (.imul, 1) := by decide +kernel
theorem dX9_keep_113 : decode cX9_keep 113 = .ok (.iconst 2, 1) := by decide +kernel
theorem dX9_keep_114 : decode cX9_keep 114 = .ok (.iadd, 1) := by decide +kernel
theorem dX9_keep_115 : decode cX9_keep 115 = .ok (.aload_n 0, 1) := by decide +kernel
theorem dX9_keep_116 : decode cX9_keep 116 = .ok (.getfield 118, 3) := by decide +kernel
theorem dX9_keep_119 : decode cX9_keep 119 = .ok (.iastore, 1) := by decide +kernel
theorem dX9_keep_120 : decode cX9_keep 120 = .ok (.aload_n 0, 1) := by decide +kernel
theorem dX9_keep_121 : decode cX9_keep 121 = .ok (.getfield 90, 3) := by decide +kernel
theorem dX9_keep_124 : decode cX9_keep 124 = .ok (.iconst 5, 1) := by decide +kernel
theorem dX9_keep_125 : decode cX9_keep 125 = .ok (.iload_n 1, 1) := by decide +kernel
theorem dX9_keep_126 : decode cX9_keep 126 = .ok (.imul, 1) := by decide +kernel
theorem dX9_keep_127 : decode cX9_keep 127 = .ok (.iconst 3, 1) := by decide +kernel
theorem dX9_keep_128 : decode cX9_keep 128 = .ok (.iadd, 1) := by decide +kernel
theorem dX9_keep_129 : decode cX9_keep 129 = .ok (.aload_n 0, 1) := by decide +kernel
theorem dX9_keep_130 : decode cX9_keep 130 = .ok (.getfield 121, 3) := by decide +kernel
theorem dX9_keep_133 : decode cX9_keep 133 = .ok (.iastore, 1) := by decide +kernel
theorem dX9_keep_134 : decode cX9_keep 134 = .ok (.aload_n 0, 1) := by decide +kernel
theorem dX9_keep_135 : decode cX9_keep 135 = .ok (.getfield 90, 3) := by decide +kernel
theorem dX9_keep_138 : decode cX9_keep 138 = .ok (.iconst 5, 1) := by decide +kernel
theorem dX9_keep_139 : decode cX9_keep 139 = .ok (.iload_n 1, 1) := by decide +kernel
theorem dX9_keep_140 : decode cX9_keep 140 = .ok (.imul, 1) := by decide +kernel
theorem dX9_keep_141 : decode cX9_keep 141 = .ok (.iconst 4, 1) := by decide +kernel
theorem dX9_keep_142 : decode cX9_keep 142 = .ok (.iadd, 1) := by decide +kernel
theorem dX9_keep_143 : decode cX9_keep 143 = .ok (.aload_n 0, 1) := by decide +kernel
theorem dX9_keep_144 : decode cX9_keep 144 = .ok (.getfield 124, 3) := by decide +kernel
theorem dX9_keep_147 : decode cX9_keep 147 = .ok (.iastore, 1) := by decide +kernel
theorem dX9_keep_148 : decode cX9_keep 148 = .ok (.iconst 0, 1) := by decide +kernel
theorem dX9_keep_149 : decode cX9_keep 149 = .ok (.istore_n 2, 1) := by decide +kernel
theorem dX9_keep_150 : decode cX9_keep 150 = .ok (.iload_n 2, 1) := by decide +kernel
theorem dX9_keep_151 : decode cX9_keep 151 = .ok (.bipush 6, 2) := by decide +kernel
theorem dX9_keep_153 : decode cX9_keep 153 = .ok (.if_icmp .ge 70, 3) := by decide +kernel
theorem dX9_keep_156 : decode cX9_keep 156 = .ok (.aload_n 0, 1) := by decide +kernel
theorem dX9_keep_157 : decode cX9_keep 157 = .ok (.getfield 93, 3) := by decide +kernel
theorem dX9_keep_160 : decode cX9_keep 160 = .ok (.bipush 18, 2) := by decide +kernel
theorem dX9_keep_162 : decode cX9_keep 162 = .ok (.iload_n 1, 1) := by decide +kernel
theorem dX9_keep_163 : decode cX9_keep 163 = .ok (.imul, 1) := by decide +kernel
theorem dX9_keep_164 : decode cX9_keep 164 = .ok (.iconst 3, 1) := by decide +kernel
theorem dX9_keep_165 : decode cX9_keep 165 = .ok (.iload_n 2, 1) := by decide +kernel
theorem dX9_keep_166 : decode cX9_keep 166 = .ok (.imul, 1) := by decide +kernel
theorem dX9_keep_167 : decode cX9_keep 167 = .ok (.iadd, 1) := by decide +kernel
theorem dX9_keep_168 : decode cX9_keep 168 = .ok (.aload_n 0, 1) := by decide +kernel
theorem dX9_keep_169 : decode cX9_keep 169 = .ok (.getfield 48, 3) := by decide +kernel
theorem dX9_keep_172 : decode cX9_keep 172 = .ok (.iload_n 2, 1) := by decide +kernel
theorem dX9_keep_173 : decode cX9_keep 173 = .ok (.iaload, 1) := by decide +kernel
theorem dX9_keep_174 : decode cX9_keep 174 = .ok (.iastore, 1) := by decide +kernel
theorem dX9_keep_175 : decode cX9_keep 175 = .ok (.aload_n 0, 1) := by decide +kernel
theorem dX9_keep_176 : decode cX9_keep 176 = .ok (.getfield 93, 3) := by decide +kernel
theorem dX9_keep_179 : decode cX9_keep 179 = .ok (.bipush 18, 2) := by decide +kernel
theorem dX9_keep_181 : decode cX9_keep 181 = .ok (.iload_n 1, 1) := by decide +kernel
theorem dX9_keep_182 : decode cX9_keep 182 = .ok (.imul, 1) := by decide +kernel
theorem dX9_keep_183 : decode cX9_keep 183 = .ok (.iconst 3, 1) := by decide +kernel
theorem dX9_keep_184 : decode cX9_keep 184 = .ok (.iload_n 2, 1) := by decide +kernel
theorem dX9_keep_185 : decode cX9_keep 185 = .ok (.imul, 1) := by decide +kernel
theorem dX9_keep_186 : decode cX9_keep 186 = .ok (.iadd, 1) := by decide +kernel
theorem dX9_keep_187 : decode cX9_keep 187 = .ok (.iconst 1, 1) := by decide +kernel
theorem dX9_keep_188 : decode cX9_keep 188 = .ok (.iadd, 1) := by decide +kernel
theorem dX9_keep_189 : decode cX9_keep 189 = .ok (.aload_n 0, 1) := by decide +kernel
theorem dX9_keep_190 : decode cX9_keep 190 = .ok (.getfield 51, 3) := by decide +kernel
theorem dX9_keep_193 : decode cX9_keep 193 = .ok (.iload_n 2, 1) := by decide +kernel
theorem dX9_keep_194 : decode cX9_keep 194 = .ok (.iaload, 1) := by decide +kernel
theorem dX9_keep_195 : decode cX9_keep 195 = .ok (.iastore, 1) := by decide +kernel
theorem dX9_keep_196 : decode cX9_keep 196 = .ok (.aload_n 0, 1) := by decide +kernel
theorem dX9_keep_197 : decode cX9_keep 197 = .ok (.getfield 93, 3) := by decide +kernel
theorem dX9_keep_200 : decode cX9_keep 200 = .ok (.bipush 18, 2) := by decide +kernel
theorem dX9_keep_202 : decode cX9_keep 202 = .ok (.iload_n 1, 1) := by decide +kernel
theorem dX9_keep_203 : decode cX9_keep 203 = .ok (.imul, 1) := by decide +kernel
theorem dX9_keep_204 : decode cX9_keep 204 = .ok (.iconst 3, 1) := by decide +kernel
theorem dX9_keep_205 : decode cX9_keep 205 = .ok (.iload_n 2, 1) := by decide +kernel
theorem dX9_keep_206 : decode cX9_keep 206 = .ok (.imul, 1) := by decide +kernel
theorem dX9_keep_207 : decode cX9_keep 207 = .ok (.iadd, 1) := by decide +kernel
theorem dX9_keep_208 : decode cX9_keep 208 = .ok (.iconst 2, 1) := by decide +kernel
theorem dX9_keep_209 : decode cX9_keep 209 = .ok (.iadd, 1) := by decide +kernel
theorem dX9_keep_210 : decode cX9_keep 210 = .ok (.aload_n 0, 1) := by decide +kernel
theorem dX9_keep_211 : decode cX9_keep 211 = .ok (.getfield 54, 3) := by decide +kernel
theorem dX9_keep_214 : decode cX9_keep 214 = .ok (.iload_n 2, 1) := by decide +kernel
theorem dX9_keep_215 : decode cX9_keep 215 = .ok (.iaload, 1) := by decide +kernel
theorem dX9_keep_216 : decode cX9_keep 216 = .ok (.iastore, 1) := by decide +kernel
theorem dX9_keep_217 : decode cX9_keep 217 = .ok (.iinc 2 1, 3) := by decide +kernel
theorem dX9_keep_220 : decode cX9_keep 220 = .ok (.goto (-70), 3) := by decide +kernel
theorem dX9_keep_223 : decode cX9_keep 223 = .ok (.aload_n 0, 1) := by decide +kernel
theorem dX9_keep_224 : decode cX9_keep 224 = .ok (.invokevirtual 292, 3) := by decide +kernel
theorem dX9_keep_227 : decode cX9_keep 227 = .ok (.ireturn, 1) := by decide +kernel
theorem dX9_again_0 : decode cX9_again 0 = .ok (.iload_n 1, 1) := by decide +kernel
theorem dX9_again_1 : decode cX9_again 1 = .ok (.i2l, 1) := by decide +kernel
theorem dX9_again_2 : decode cX9_again 2 = .ok (.lconst 0, 1) := by decide +kernel
theorem dX9_again_3 : decode cX9_again 3 = .ok (.lconst 1, 1) := by decide +kernel
theorem dX9_again_4 : decode cX9_again 4 = .ok (.invokestatic 104, 3) := by decide +kernel
theorem dX9_again_7 : decode cX9_again 7 = .ok (.ifCond .ne 5, 3) := by decide +kernel
theorem dX9_again_10 : decode cX9_again 10 = .ok (.iconst (-1), 1) := by decide +kernel
theorem dX9_again_11 : decode cX9_again 11 = .ok (.ireturn, 1) := by decide +kernel
theorem dX9_again_12 : decode cX9_again 12 = .ok (.aload_n 0, 1) := by decide +kernel
theorem dX9_again_13 : decode cX9_again 13 = .ok (.getfield 78, 3) := by decide +kernel
theorem dX9_again_16 : decode cX9_again 16 = .ok (.iload_n 1, 1) := by decide +kernel
theorem dX9_again_17 : decode cX9_again 17 = .ok (.baload, 1) := by decide +kernel
theorem dX9_again_18 : decode cX9_again 18 = .ok (.ifCond .ne 6, 3) := by decide +kernel
theorem dX9_again_21 : decode cX9_again 21 = .ok (.bipush (-3), 2) := by decide +kernel
theorem dX9_again_23 : decode cX9_again 23 = .ok (.ireturn, 1) := by decide +kernel
theorem dX9_again_24 : decode cX9_again 24 = .ok (.iconst 0, 1) := by decide +kernel
theorem dX9_again_25 : decode cX9_again 25 = .ok (.istore_n 2, 1) := by decide +kernel
theorem dX9_again_26 : decode cX9_again 26 = .ok (.iload_n 2, 1) := by decide +kernel
theorem dX9_again_27 : decode cX9_again 27 = .ok (.iconst 3, 1) := by decide +kernel
theorem dX9_again_28 : decode cX9_again 28 = .ok (.if_icmp .ge 57, 3) := by decide +kernel
theorem dX9_again_31 : decode cX9_again 31 = .ok (.aload_n 0, 1) := by decide +kernel
theorem dX9_again_32 : decode cX9_again 32 = .ok (.getfield 39, 3) := by decide +kernel
theorem dX9_again_35 : decode cX9_again 35 = .ok (.iload_n 2, 1) := by decide +kernel
theorem dX9_again_36 : decode cX9_again 36 = .ok (.aload_n 0, 1) := by decide +kernel
theorem dX9_again_37 : decode cX9_again 37 = .ok (.getfield 81, 3) := by decide +kernel
theorem dX9_again_40 : decode cX9_again 40 = .ok (.iconst 3, 1) := by decide +kernel
theorem dX9_again_41 : decode cX9_again 41 = .ok (.iload_n 1, 1) := by decide +kernel
theorem dX9_again_42 : decode cX9_again 42 = .ok (.imul, 1) := by decide +kernel
theorem dX9_again_43 : decode cX9_again 43 = .ok (.iload_n 2, 1) := by decide +kernel
theorem dX9_again_44 : decode cX9_again 44 = .ok (.iadd, 1) := by decide +kernel
theorem dX9_again_45 : decode cX9_again 45 = .ok (.iaload, 1) := by decide +kernel
theorem dX9_again_46 : decode cX9_again 46 = .ok (.iastore, 1) := by decide +kernel
theorem dX9_again_47 : decode cX9_again 47 = .ok (.aload_n 0, 1) := by decide +kernel
theorem dX9_again_48 : decode cX9_again 48 = .ok (.getfield 42, 3) := by decide +kernel
theorem dX9_again_51 : decode cX9_again 51 = .ok (.iload_n 2, 1) := by decide +kernel
theorem dX9_again_52 : decode cX9_again 52 = .ok (.aload_n 0, 1) := by decide +kernel
theorem dX9_again_53 : decode cX9_again 53 = .ok (.getfield 84, 3) := by decide +kernel
theorem dX9_again_56 : decode cX9_again 56 = .ok (.iconst 3, 1) := by decide +kernel
theorem dX9_again_57 : decode cX9_again 57 = .ok (.iload_n 1, 1) := by decide +kernel
theorem dX9_again_58 : decode cX9_again 58 = .ok (.imul, 1) := by decide +kernel
theorem dX9_again_59 : decode cX9_again 59 = .ok (.iload_n 2, 1) := by decide +kernel
theorem dX9_again_60 : decode cX9_again 60 = .ok (.iadd, 1) := by decide +kernel
theorem dX9_again_61 : decode cX9_again 61 = .ok (.iaload, 1) := by decide +kernel
theorem dX9_again_62 : decode cX9_again 62 = .ok (.iastore, 1) := by decide +kernel
theorem dX9_again_63 : decode cX9_again 63 = .ok (.aload_n 0, 1) := by decide +kernel
theorem dX9_again_64 : decode cX9_again 64 = .ok (.getfield 45, 3) := by decide +kernel
theorem dX9_again_67 : decode cX9_again 67 = .ok (.iload_n 2, 1) := by decide +kernel
theorem dX9_again_68 : decode cX9_again 68 = .ok (.aload_n 0, 1) := by decide +kernel
theorem dX9_again_69 : decode cX9_again 69 = .ok (.getfield 87, 3) := by decide +kernel
theorem dX9_again_72 : decode cX9_again 72 = .ok (.iconst 3, 1) := by decide +kernel
theorem dX9_again_73 : decode cX9_again 73 = .ok (.iload_n 1, 1) := by decide +kernel
theorem dX9_again_74 : decode cX9_again 74 = .ok (.imul, 1) := by decide +kernel
theorem dX9_again_75 : decode cX9_again 75 = .ok (.iload_n 2, 1) := by decide +kernel
theorem dX9_again_76 : decode cX9_again 76 = .ok (.iadd, 1) := by decide +kernel
theorem dX9_again_77 : decode cX9_again 77 = .ok (.iaload, 1) := by decide +kernel
theorem dX9_again_78 : decode cX9_again 78 = .ok (.iastore, 1) := by decide +kernel
theorem dX9_again_79 : decode cX9_again 79 = .ok (.iinc 2 1, 3) := by decide +kernel
theorem dX9_again_82 : decode cX9_again 82 = .ok (.goto (-56), 3) := by decide +kernel
theorem dX9_again_85 : decode cX9_again 85 = .ok (.aload_n 0, 1) := by decide +kernel
theorem dX9_again_86 : decode cX9_again 86 = .ok (.aload_n 0, 1) := by decide +kernel
theorem dX9_again_87 : decode cX9_again 87 = .ok (.getfield 90, 3) := by decide +kernel
theorem dX9_again_90 : decode cX9_again 90 = .ok (.iconst 5, 1) := by decide +kernel
theorem dX9_again_91 : decode cX9_again 91 = .ok (.iload_n 1, 1) := by decide +kernel
theorem dX9_again_92 : decode cX9_again 92 = .ok (.imul, 1) := by decide +kernel
theorem dX9_again_93 : decode cX9_again 93 = .ok (.iaload, 1) := by decide +kernel
theorem dX9_again_94 : decode cX9_again 94 = .ok (.putfield 112, 3) := by decide +kernel
theorem dX9_again_97 : decode cX9_again 97 = .ok (.aload_n 0, 1) := by decide +kernel
theorem dX9_again_98 : decode cX9_again 98 = .ok (.aload_n 0, 1) := by decide +kernel
theorem dX9_again_99 : decode cX9_again 99 = .ok (.getfield 90, 3) := by decide +kernel
theorem dX9_again_102 : decode cX9_again 102 = .ok (.iconst 5, 1) := by decide +kernel
theorem dX9_again_103 : decode cX9_again 103 = .ok (.iload_n 1, 1) := by decide +kernel
theorem dX9_again_104 : decode cX9_again 104 = .ok (.imul, 1) := by decide +kernel
theorem dX9_again_105 : decode cX9_again 105 = .ok (.iconst 1, 1) := by decide +kernel
theorem dX9_again_106 : decode cX9_again 106 = .ok (.iadd, 1) := by decide +kernel
theorem dX9_again_107 : decode cX9_again 107 = .ok (.iaload, 1) := by decide +kernel
theorem dX9_again_108 : decode cX9_again 108 = .ok (.putfield 115, 3) := by decide +kernel
theorem dX9_again_111 : decode cX9_again 111 = .ok (.aload_n 0, 1) := by decide +kernel
theorem dX9_again_112 : decode cX9_again 112 = .ok (.aload_n 0, 1) := by decide +kernel
theorem dX9_again_113 : decode cX9_again 113 = .ok (.getfield 90, 3) := by decide +kernel
theorem dX9_again_116 : decode cX9_again 116 = .ok (.iconst 5, 1) := by decide +kernel
theorem dX9_again_117 : decode cX9_again 117 = .ok (.iload_n 1, 1) := by decide +kernel
theorem dX9_again_118 : decode cX9_again 118 = .ok (.imul, 1) := by decide +kernel
theorem dX9_again_119 : decode cX9_again 119 = .ok (.iconst 2, 1) := by decide +kernel
theorem dX9_again_120 : decode cX9_again 120 = .ok (.iadd, 1) := by decide +kernel
theorem dX9_again_121 : decode cX9_again 121 = .ok (.iaload, 1) := by decide +kernel
theorem dX9_again_122 : decode cX9_again 122 = .ok (.putfield 118, 3) := by decide +kernel
theorem dX9_again_125 : decode cX9_again 125 = .ok (.aload_n 0, 1) := by decide +kernel
theorem dX9_again_126 : decode cX9_again 126 = .ok (.aload_n 0, 1) := by decide +kernel
theorem dX9_again_127 : decode cX9_again 127 = .ok (.getfield 90, 3) := by decide +kernel
theorem dX9_again_130 : decode cX9_again 130 = .ok (.iconst 5, 1) := by decide +kernel
theorem dX9_again_131 : decode cX9_again 131 = .ok (.iload_n 1, 1) := by decide +kernel
theorem dX9_again_132 : decode cX9_again 132 = .ok (.imul, 1) := by decide +kernel
theorem dX9_again_133 : decode cX9_again 133 = .ok (.iconst 3, 1) := by decide +kernel
theorem dX9_again_134 : decode cX9_again 134 = .ok (.iadd, 1) := by decide +kernel
theorem dX9_again_135 : decode cX9_again 135 = .ok (.iaload, 1) := by decide +kernel
theorem dX9_again_136 : decode cX9_again 136 = .ok (.putfield 121, 3) := by decide +kernel
theorem dX9_again_139 : decode cX9_again 139 = .ok (.aload_n 0, 1) := by decide +kernel
theorem dX9_again_140 : decode cX9_again 140 = .ok (.aload_n 0, 1) := by decide +kernel
theorem dX9_again_141 : decode cX9_again 141 = .ok (.getfield 90, 3) := by decide +kernel
theorem dX9_again_144 : decode cX9_again 144 = .ok (.iconst 5, 1) := by decide +kernel
theorem dX9_again_145 : decode cX9_again 145 = .ok (.iload_n 1, 1) := by decide +kernel
theorem dX9_again_146 : decode cX9_again 146 = .ok (.imul, 1) := by decide +kernel
theorem dX9_again_147 : decode cX9_again 147 = .ok (.iconst 4, 1) := by decide +kernel
theorem dX9_again_148 : decode cX9_again 148 = .ok (.iadd, 1) := by decide +kernel
theorem dX9_again_149 : decode cX9_again 149 = .ok (.iaload, 1) := by decide +kernel
theorem dX9_again_150 : decode cX9_again 150 = .ok (.putfield 124, 3) := by decide +kernel
theorem dX9_again_153 : decode cX9_again 153 = .ok (.iconst 0, 1) := by decide +kernel
theorem dX9_again_154 : decode cX9_again 154 = .ok (.istore_n 2, 1) := by decide +kernel
theorem dX9_again_155 : decode cX9_again 155 = .ok (.iload_n 2, 1) := by decide +kernel
theorem dX9_again_156 : decode cX9_again 156 = .ok (.bipush 6, 2) := by decide +kernel
theorem dX9_again_158 : decode cX9_again 158 = .ok (.if_icmp .ge 70, 3) := by decide +kernel
theorem dX9_again_161 : decode cX9_again 161 = .ok (.aload_n 0, 1) := by decide +kernel
theorem dX9_again_162 : decode cX9_again 162 = .ok (.getfield 48, 3) := by decide +kernel
theorem dX9_again_165 : decode cX9_again 165 = .ok (.iload_n 2, 1) := by decide +kernel
theorem dX9_again_166 : decode cX9_again 166 = .ok (.aload_n 0, 1) := by decide +kernel
theorem dX9_again_167 : decode cX9_again 167 = .ok (.getfield 93, 3) := by decide +kernel
theorem dX9_again_170 : decode cX9_again 170 = .ok (.bipush 18, 2) := by decide +kernel
theorem dX9_again_172 : decode cX9_again 172 = .ok (.iload_n 1, 1) := by decide +kernel
theorem dX9_again_173 : decode cX9_again 173 = .ok (.imul, 1) := by decide +kernel
theorem dX9_again_174 : decode cX9_again 174 = .ok (.iconst 3, 1) := by decide +kernel
theorem dX9_again_175 : decode cX9_again 175 = .ok (.iload_n 2, 1) := by decide +kernel
theorem dX9_again_176 : decode cX9_again 176 = .ok (.imul, 1) := by decide +kernel
theorem dX9_again_177 : decode cX9_again 177 = .ok (.iadd, 1) := by decide +kernel
theorem dX9_again_178 : decode cX9_again 178 = .ok (.iaload, 1) := by decide +kernel
theorem dX9_again_179 : decode cX9_again 179 = .ok (.iastore, 1) := by decide +kernel
theorem dX9_again_180 : decode cX9_again 180 = .ok (.aload_n 0, 1) := by decide +kernel
theorem dX9_again_181 : decode cX9_again 181 = .ok (.getfield 51, 3) := by decide +kernel
theorem dX9_again_184 : decode cX9_again 184 = .ok (.iload_n 2, 1) := by decide +kernel
theorem dX9_again_185 : decode cX9_again 185 = .ok (.aload_n 0, 1) := by decide +kernel
theorem dX9_again_186 : decode cX9_again 186 = .ok (.getfield 93, 3) := by decide +kernel
theorem dX9_again_189 : decode cX9_again 189 = .ok (.bipush 18, 2) := by decide +kernel
theorem dX9_again_191 : decode cX9_again 191 = .ok (.iload_n 1, 1) := by decide +kernel
theorem dX9_again_192 : decode cX9_again 192 = .ok (.imul, 1) := by decide +kernel
theorem dX9_again_193 : decode cX9_again 193 = .ok (.iconst 3, 1) := by decide +kernel
theorem dX9_again_194 : decode cX9_again 194 = .ok (.iload_n 2, 1) := by decide +kernel
theorem dX9_again_195 : decode cX9_again 195 = .ok (.imul, 1) := by decide +kernel
theorem dX9_again_196 : decode cX9_again 196 = .ok (.iadd, 1) := by decide +kernel
theorem dX9_again_197 : decode cX9_again 197 = .ok (.iconst 1, 1) := by decide +kernel
theorem dX9_again_198 : decode cX9_again 198 = .ok (.iadd, 1) := by decide +kernel
theorem dX9_again_199 : decode cX9_again 199 = .ok (.iaload, 1) := by decide +kernel
theorem dX9_again_200 : decode cX9_again 200 = .ok (.iastore, 1) := by decide +kernel
theorem dX9_again_201 : decode cX9_again 201 = .ok (.aload_n 0, 1) := by decide +kernel
theorem dX9_again_202 : decode cX9_again 202 = .ok (.getfield 54, 3) := by decide +kernel
theorem dX9_again_205 : decode cX9_again 205 = .ok (.iload_n 2, 1) := by decide +kernel
theorem dX9_again_206 : decode cX9_again 206 = .ok (.aload_n 0, 1) := by decide +kernel
theorem dX9_again_207 : decode cX9_again 207 = .ok (.getfield 93, 3) := by decide +kernel
theorem dX9_again_210 : decode cX9_again 210 = .ok (.bipush 18, 2) := by decide +kernel
theorem dX9_again_212 : decode cX9_again 212 = .ok (.iload_n 1, 1) := by decide +kernel
theorem dX9_again_213 : decode cX9_again 213 = .ok (.imul, 1) := by decide +kernel
theorem dX9_again_214 : decode cX9_again 214 = .ok (.iconst 3, 1) := by decide +kernel
theorem dX9_again_215 : decode cX9_again 215 = .ok (.iload_n 2, 1) := by decide +kernel
theorem dX9_again_216 : decode cX9_again 216 = .ok (.imul, 1) := by decide +kernel
theorem dX9_again_217 : decode cX9_again 217 = .ok (.iadd, 1) := by decide +kernel
theorem dX9_again_218 : decode cX9_again 218 = .ok (.iconst 2, 1) := by decide +kernel
theorem dX9_again_219 : decode cX9_again 219 = .ok (.iadd, 1) := by decide +kernel
theorem dX9_again_220 : decode cX9_again 220 = .ok (.iaload, 1) := by decide +kernel
theorem dX9_again_221 : decode cX9_again 221 = .ok (.iastore, 1) := by decide +kernel
theorem dX9_again_222 : decode cX9_again 222 = .ok (.iinc 2 1, 3) := by decide +kernel
theorem dX9_again_225 : decode cX9_again 225 = .ok (.goto (-70), 3) := by decide +kernel
theorem dX9_again_228 : decode cX9_again 228 = .ok (.aload_n 0, 1) := by decide +kernel
theorem dX9_again_229 : decode cX9_again 229 = .ok (.invokevirtual 292, 3) := by decide +kernel
theorem dX9_again_232 : decode cX9_again 232 = .ok (.ireturn, 1) := by decide +kernel
theorem dX9_count_0 : decode cX9_count 0 = .ok (.iload_n 1, 1) := by decide +kernel
theorem dX9_count_1 : decode cX9_count 1 = .ok (.tableswitch 51 0 3 #[31, 36, 41, 46], 31) := by decide +kernel
theorem dX9_count_32 : decode cX9_count 32 = .ok (.aload_n 0, 1) := by decide +kernel
theorem dX9_count_33 : decode cX9_count 33 = .ok (.getfield 129, 3) := by decide +kernel
theorem dX9_count_36 : decode cX9_count 36 = .ok (.ireturn, 1) := by decide +kernel
theorem dX9_count_37 : decode cX9_count 37 = .ok (.aload_n 0, 1) := by decide +kernel
theorem dX9_count_38 : decode cX9_count 38 = .ok (.getfield 108, 3) := by decide +kernel
theorem dX9_count_41 : decode cX9_count 41 = .ok (.ireturn, 1) := by decide +kernel
theorem dX9_count_42 : decode cX9_count 42 = .ok (.aload_n 0, 1) := by decide +kernel
theorem dX9_count_43 : decode cX9_count 43 = .ok (.getfield 124, 3) := by decide +kernel
theorem dX9_count_46 : decode cX9_count 46 = .ok (.ireturn, 1) := by decide +kernel
theorem dX9_count_47 : decode cX9_count 47 = .ok (.aload_n 0, 1) := by decide +kernel
theorem dX9_count_48 : decode cX9_count 48 = .ok (.invokevirtual 292, 3) := by decide +kernel
theorem dX9_count_51 : decode cX9_count 51 = .ok (.ireturn, 1) := by decide +kernel
theorem dX9_count_52 : decode cX9_count 52 = .ok (.bipush (-2), 2) := by decide +kernel
theorem dX9_count_54 : decode cX9_count 54 = .ok (.ireturn, 1) := by decide +kernel
theorem dJ9_abs_067f4_0 : decode cJ9_abs_067f4 0 = .ok (.lload_n 0, 1) := by decide +kernel
theorem dJ9_abs_067f4_1 : decode cJ9_abs_067f4 1 = .ok (.lconst 0, 1) := by decide +kernel
theorem dJ9_abs_067f4_2 : decode cJ9_abs_067f4 2 = .ok (.lcmp, 1) := by decide +kernel
theorem dJ9_abs_067f4_3 : decode cJ9_abs_067f4 3 = .ok (.ifCond .ge 8, 3) := by decide +kernel
theorem dJ9_abs_067f4_6 : decode cJ9_abs_067f4 6 = .ok (.lload_n 0, 1) := by decide +kernel
theorem dJ9_abs_067f4_7 : decode cJ9_abs_067f4 7 = .ok (.lneg, 1) := by decide +kernel
theorem dJ9_abs_067f4_8 : decode cJ9_abs_067f4 8 = .ok (.goto 4, 3) := by decide +kernel
theorem dJ9_abs_067f4_11 : decode cJ9_abs_067f4 11 = .ok (.lload_n 0, 1) := by decide +kernel
theorem dJ9_abs_067f4_12 : decode cJ9_abs_067f4 12 = .ok (.lreturn, 1) := by decide +kernel
theorem dJ9_max_7cf53_0 : decode cJ9_max_7cf53 0 = .ok (.iload_n 0, 1) := by decide +kernel
theorem dJ9_max_7cf53_1 : decode cJ9_max_7cf53 1 = .ok (.iload_n 1, 1) := by decide +kernel
theorem dJ9_max_7cf53_2 : decode cJ9_max_7cf53 2 = .ok (.if_icmp .lt 7, 3) := by decide +kernel
theorem dJ9_max_7cf53_5 : decode cJ9_max_7cf53 5 = .ok (.iload_n 0, 1) := by decide +kernel
theorem dJ9_max_7cf53_6 : decode cJ9_max_7cf53 6 = .ok (.goto 4, 3) := by decide +kernel
theorem dJ9_max_7cf53_9 : decode cJ9_max_7cf53 9 = .ok (.iload_n 1, 1) := by decide +kernel
theorem dJ9_max_7cf53_10 : decode cJ9_max_7cf53 10 = .ok (.ireturn, 1) := by decide +kernel
theorem dJ9_max_f86c9_0 : decode cJ9_max_f86c9 0 = .ok (.lload_n 0, 1) := by decide +kernel
theorem dJ9_max_f86c9_1 : decode cJ9_max_f86c9 1 = .ok (.lload_n 2, 1) := by decide +kernel
theorem dJ9_max_f86c9_2 : decode cJ9_max_f86c9 2 = .ok (.lcmp, 1) := by decide +kernel
theorem dJ9_max_f86c9_3 : decode cJ9_max_f86c9 3 = .ok (.ifCond .lt 7, 3) := by decide +kernel
theorem dJ9_max_f86c9_6 : decode cJ9_max_f86c9 6 = .ok (.lload_n 0, 1) := by decide +kernel
theorem dJ9_max_f86c9_7 : decode cJ9_max_f86c9 7 = .ok (.goto 4, 3) := by decide +kernel
theorem dJ9_max_f86c9_10 : decode cJ9_max_f86c9 10 = .ok (.lload_n 2, 1) := by decide +kernel
theorem dJ9_max_f86c9_11 : decode cJ9_max_f86c9 11 = .ok (.lreturn, 1) := by decide +kernel
theorem dJ9_min_7cf53_0 : decode cJ9_min_7cf53 0 = .ok (.iload_n 0, 1) := by decide +kernel
theorem dJ9_min_7cf53_1 : decode cJ9_min_7cf53 1 = .ok (.iload_n 1, 1) := by decide +kernel
theorem dJ9_min_7cf53_2 : decode cJ9_min_7cf53 2 = .ok (.if_icmp .gt 7, 3) := by decide +kernel
theorem dJ9_min_7cf53_5 : decode cJ9_min_7cf53 5 = .ok (.iload_n 0, 1) := by decide +kernel
theorem dJ9_min_7cf53_6 : decode cJ9_min_7cf53 6 = .ok (.goto 4, 3) := by decide +kernel
theorem dJ9_min_7cf53_9 : decode cJ9_min_7cf53 9 = .ok (.iload_n 1, 1) := by decide +kernel
theorem dJ9_min_7cf53_10 : decode cJ9_min_7cf53 10 = .ok (.ireturn, 1) := by decide +kernel
theorem dJ7_fill_d0a16_0 : decode cJ7_fill_d0a16 0 = .ok (.iconst 0, 1) := by decide +kernel
theorem dJ7_fill_d0a16_1 : decode cJ7_fill_d0a16 1 = .ok (.istore_n 3, 1) := by decide +kernel
theorem dJ7_fill_d0a16_2 : decode cJ7_fill_d0a16 2 = .ok (.aload_n 0, 1) := by decide +kernel
theorem dJ7_fill_d0a16_3 : decode cJ7_fill_d0a16 3 = .ok (.arraylength, 1) := by decide +kernel
theorem dJ7_fill_d0a16_4 : decode cJ7_fill_d0a16 4 = .ok (.istore 4, 2) := by decide +kernel
theorem dJ7_fill_d0a16_6 : decode cJ7_fill_d0a16 6 = .ok (.iload_n 3, 1) := by decide +kernel
theorem dJ7_fill_d0a16_7 : decode cJ7_fill_d0a16 7 = .ok (.iload 4, 2) := by decide +kernel
theorem dJ7_fill_d0a16_9 : decode cJ7_fill_d0a16 9 = .ok (.if_icmp .ge 13, 3) := by decide +kernel
theorem dJ7_fill_d0a16_12 : decode cJ7_fill_d0a16 12 = .ok (.aload_n 0, 1) := by decide +kernel
theorem dJ7_fill_d0a16_13 : decode cJ7_fill_d0a16 13 = .ok (.iload_n 3, 1) := by decide +kernel
theorem dJ7_fill_d0a16_14 : decode cJ7_fill_d0a16 14 = .ok (.lload_n 1, 1) := by decide +kernel
theorem dJ7_fill_d0a16_15 : decode cJ7_fill_d0a16 15 = .ok (.lastore, 1) := by decide +kernel
theorem dJ7_fill_d0a16_16 : decode cJ7_fill_d0a16 16 = .ok (.iinc 3 1, 3) := by decide +kernel
theorem dJ7_fill_d0a16_19 : decode cJ7_fill_d0a16 19 = .ok (.goto (-13), 3) := by decide +kernel
theorem dJ7_fill_d0a16_22 : decode cJ7_fill_d0a16 22 = .ok (.return_, 1) := by decide +kernel
theorem dJ7_fill_53178_0 : decode cJ7_fill_53178 0 = .ok (.iconst 0, 1) := by decide +kernel
theorem dJ7_fill_53178_1 : decode cJ7_fill_53178 1 = .ok (.istore_n 2, 1) := by decide +kernel
theorem dJ7_fill_53178_2 : decode cJ7_fill_53178 2 = .ok (.aload_n 0, 1) := by decide +kernel
theorem dJ7_fill_53178_3 : decode cJ7_fill_53178 3 = .ok (.arraylength, 1) := by decide +kernel
theorem dJ7_fill_53178_4 : decode cJ7_fill_53178 4 = .ok (.istore_n 3, 1) := by decide +kernel
theorem dJ7_fill_53178_5 : decode cJ7_fill_53178 5 = .ok (.iload_n 2, 1) := by decide +kernel
theorem dJ7_fill_53178_6 : decode cJ7_fill_53178 6 = .ok (.iload_n 3, 1) := by decide +kernel
theorem dJ7_fill_53178_7 : decode cJ7_fill_53178 7 = .ok (.if_icmp .ge 13, 3) := by decide +kernel
theorem dJ7_fill_53178_10 : decode cJ7_fill_53178 10 = .ok (.aload_n 0, 1) := by decide +kernel
theorem dJ7_fill_53178_11 : decode cJ7_fill_53178 11 = .ok (.iload_n 2, 1) := by decide +kernel
theorem dJ7_fill_53178_12 : decode cJ7_fill_53178 12 = .ok (.iload_n 1, 1) := by decide +kernel
theorem dJ7_fill_53178_13 : decode cJ7_fill_53178 13 = .ok (.iastore, 1) := by decide +kernel
theorem dJ7_fill_53178_14 : decode cJ7_fill_53178 14 = .ok (.iinc 2 1, 3) := by decide +kernel
theorem dJ7_fill_53178_17 : decode cJ7_fill_53178 17 = .ok (.goto (-12), 3) := by decide +kernel
theorem dJ7_fill_53178_20 : decode cJ7_fill_53178 20 = .ok (.return_, 1) := by decide +kernel
theorem dL_law_0 : decode cL_law 0 = .ok (.new 7, 3) := by decide +kernel
theorem dL_law_3 : decode cL_law 3 = .ok (.dup, 1) := by decide +kernel
theorem dL_law_4 : decode cL_law 4 = .ok (.invokespecial 9, 3) := by decide +kernel
theorem dL_law_7 : decode cL_law 7 = .ok (.astore_n 1, 1) := by decide +kernel
theorem dL_law_8 : decode cL_law 8 = .ok (.new 10, 3) := by decide +kernel
theorem dL_law_11 : decode cL_law 11 = .ok (.dup, 1) := by decide +kernel
theorem dL_law_12 : decode cL_law 12 = .ok (.invokespecial 12, 3) := by decide +kernel
theorem dL_law_15 : decode cL_law 15 = .ok (.astore_n 2, 1) := by decide +kernel
theorem dL_law_16 : decode cL_law 16 = .ok (.iconst 0, 1) := by decide +kernel
theorem dL_law_17 : decode cL_law 17 = .ok (.istore_n 3, 1) := by decide +kernel
theorem dL_law_18 : decode cL_law 18 = .ok (.iload_n 3, 1) := by decide +kernel
theorem dL_law_19 : decode cL_law 19 = .ok (.aload_n 0, 1) := by decide +kernel
theorem dL_law_20 : decode cL_law 20 = .ok (.arraylength, 1) := by decide +kernel
theorem dL_law_21 : decode cL_law 21 = .ok (.bipush 7, 2) := by decide +kernel
theorem dL_law_23 : decode cL_law 23 = .ok (.isub, 1) := by decide +kernel
theorem dL_law_24 : decode cL_law 24 = .ok (.if_icmp .gt 1436, 3) := by decide +kernel
theorem dL_law_27 : decode cL_law 27 = .ok (.aload_n 0, 1) := by decide +kernel
theorem dL_law_28 : decode cL_law 28 = .ok (.iload_n 3, 1) := by decide +kernel
theorem dL_law_29 : decode cL_law 29 = .ok (.iaload, 1) := by decide +kernel
theorem dL_law_30 : decode cL_law 30 = .ok (.bipush 63, 2) := by decide +kernel
theorem dL_law_32 : decode cL_law 32 = .ok (.iand, 1) := by decide +kernel
theorem dL_law_33 : decode cL_law 33 = .ok (.tableswitch 1421 0 35 #[159, 222, 235, 248, 261, 304, 327, 387, 447, 480, 530, 543, 613, 646, 659, 709, 722, 735, 827, 890, 913, 946, 979, 1022, 1065, 1078, 1121, 1144, 1167, 1190, 1213, 1266, 1309, 1352, 1375, 1398], 159) := by decide +kernel
theorem dL_law_192 : decode cL_law 192 = .ok (.aload_n 1, 1) := by decide +kernel
theorem dL_law_193 : decode cL_law 193 = .ok (.aload_n 0, 1) := by decide +kernel
theorem dL_law_194 : decode cL_law 194 = .ok (.iload_n 3, 1) := by decide +kernel
theorem dL_law_195 : decode cL_law 195 = .ok (.iconst 1, 1) := by decide +kernel
theorem dL_law_196 : decode cL_law 196 = .ok (.iadd, 1) := by decide +kernel
theorem dL_law_197 : decode cL_law 197 = .ok (.iaload, 1) := by decide +kernel
theorem dL_law_198 : decode cL_law 198 = .ok (.aload_n 0, 1) := by decide +kernel
theorem dL_law_199 : decode cL_law 199 = .ok (.iload_n 3, 1) := by decide +kernel
theorem dL_law_200 : decode cL_law 200 = .ok (.iconst 2, 1) := by decide +kernel
theorem dL_law_201 : decode cL_law 201 = .ok (.iadd, 1) := by decide +kernel
theorem dL_law_202 : decode cL_law 202 = .ok (.iaload, 1) := by decide +kernel
theorem dL_law_203 : decode cL_law 203 = .ok (.i2l, 1) := by decide +kernel
theorem dL_law_204 : decode cL_law 204 = .ok (.bipush 32, 2) := by decide +kernel
theorem dL_law_206 : decode cL_law 206 = .ok (.lshl, 1) := by decide +kernel
theorem dL_law_207 : decode cL_law 207 = .ok (.aload_n 0, 1) := by decide +kernel
theorem dL_law_208 : decode cL_law 208 = .ok (.iload_n 3, 1) := by decide +kernel
theorem dL_law_209 : decode cL_law 209 = .ok (.iconst 3, 1) := by decide +kernel
theorem dL_law_210 : decode cL_law 210 = .ok (.iadd, 1) := by decide +kernel
theorem dL_law_211 : decode cL_law 211 = .ok (.iaload, 1) := by decide +kernel
theorem dL_law_212 : decode cL_law 212 = .ok (.i2l, 1) := by decide +kernel
theorem dL_law_213 : decode cL_law 213 = .ok (.ldc2_w 13, 3) := by decide +kernel
theorem dL_law_216 : decode cL_law 216 = .ok (.land, 1) := by decide +kernel
theorem dL_law_217 : decode cL_law 217 = .ok (.lor, 1) := by decide +kernel
theorem dL_law_218 : decode cL_law 218 = .ok (.invokevirtual 15, 3) := by decide +kernel
theorem dL_law_221 : decode cL_law 221 = .ok (.aload_n 2, 1) := by decide +kernel
theorem dL_law_222 : decode cL_law 222 = .ok (.aload_n 0, 1) := by decide +kernel
theorem dL_law_223 : decode cL_law 223 = .ok (.iload_n 3, 1) := by decide +kernel
theorem dL_law_224 : decode cL_law 224 = .ok (.iconst 1, 1) := by decide +kernel
theorem dL_law_225 : decode cL_law 225 = .ok (.iadd, 1) := by decide +kernel
theorem dL_law_226 : decode cL_law 226 = .ok (.iaload, 1) := by decide +kernel
theorem dL_law_227 : decode cL_law 227 = .ok (.aload_n 0, 1) := by decide +kernel
theorem dL_law_228 : decode cL_law 228 = .ok (.iload_n 3, 1) := by decide +kernel
theorem dL_law_229 : decode cL_law 229 = .ok (.iconst 2, 1) := by decide +kernel
theorem dL_law_230 : decode cL_law 230 = .ok (.iadd, 1) := by decide +kernel
theorem dL_law_231 : decode cL_law 231 = .ok (.iaload, 1) := by decide +kernel
theorem dL_law_232 : decode cL_law 232 = .ok (.i2l, 1) := by decide +kernel
theorem dL_law_233 : decode cL_law 233 = .ok (.bipush 32, 2) := by decide +kernel
theorem dL_law_235 : decode cL_law 235 = .ok (.lshl, 1) := by decide +kernel
theorem dL_law_236 : decode cL_law 236 = .ok (.aload_n 0, 1) := by decide +kernel
theorem dL_law_237 : decode cL_law 237 = .ok (.iload_n 3, 1) := by decide +kernel
theorem dL_law_238 : decode cL_law 238 = .ok (.iconst 3, 1) := by decide +kernel
theorem dL_law_239 : decode cL_law 239 = .ok (.iadd, 1) := by decide +kernel
theorem dL_law_240 : decode cL_law 240 = .ok (.iaload, 1) := by decide +kernel
theorem dL_law_241 : decode cL_law 241 = .ok (.i2l, 1) := by decide +kernel
theorem dL_law_242 : decode cL_law 242 = .ok (.ldc2_w 13, 3) := by decide +kernel
theorem dL_law_245 : decode cL_law 245 = .ok (.land, 1) := by decide +kernel
theorem dL_law_246 : decode cL_law 246 = .ok (.lor, 1) := by decide +kernel
theorem dL_law_247 : decode cL_law 247 = .ok (.invokevirtual 19, 3) := by decide +kernel
theorem dL_law_250 : decode cL_law 250 = .ok (.if_icmp .eq 1204, 3) := by decide +kernel
theorem dL_law_253 : decode cL_law 253 = .ok (.iconst 0, 1) := by decide +kernel
theorem dL_law_254 : decode cL_law 254 = .ok (.ireturn, 1) := by decide +kernel
theorem dL_law_255 : decode cL_law 255 = .ok (.aload_n 1, 1) := by decide +kernel
theorem dL_law_256 : decode cL_law 256 = .ok (.invokevirtual 20, 3) := by decide +kernel
theorem dL_law_259 : decode cL_law 259 = .ok (.aload_n 2, 1) := by decide +kernel
theorem dL_law_260 : decode cL_law 260 = .ok (.invokevirtual 24, 3) := by decide +kernel
theorem dL_law_263 : decode cL_law 263 = .ok (.if_icmp .eq 1191, 3) := by decide +kernel
theorem dL_law_266 : decode cL_law 266 = .ok (.iconst 0, 1) := by decide +kernel
theorem dL_law_267 : decode cL_law 267 = .ok (.ireturn, 1) := by decide +kernel
theorem dL_law_268 : decode cL_law 268 = .ok (.aload_n 1, 1) := by decide +kernel
theorem dL_law_269 : decode cL_law 269 = .ok (.invokevirtual 25, 3) := by decide +kernel
theorem dL_law_272 : decode cL_law 272 = .ok (.aload_n 2, 1) := by decide +kernel
theorem dL_law_273 : decode cL_law 273 = .ok (.invokevirtual 28, 3) := by decide +kernel
theorem dL_law_276 : decode cL_law 276 = .ok (.if_icmp .eq 1178, 3) := by decide +kernel
theorem dL_law_279 : decode cL_law 279 = .ok (.iconst 0, 1) := by decide +kernel
theorem dL_law_280 : decode cL_law 280 = .ok (.ireturn, 1) := by decide +kernel
theorem dL_law_281 : decode cL_law 281 = .ok (.aload_n 1, 1) := by decide +kernel
theorem dL_law_282 : decode cL_law 282 = .ok (.invokevirtual 29, 3) := by decide +kernel
theorem dL_law_285 : decode cL_law 285 = .ok (.aload_n 2, 1) := by decide +kernel
theorem dL_law_286 : decode cL_law 286 = .ok (.invokevirtual 32, 3) := by decide +kernel
theorem dL_law_289 : decode cL_law 289 = .ok (.if_icmp .eq 1165, 3) := by decide +kernel
theorem dL_law_292 : decode cL_law 292 = .ok (.iconst 0, 1) := by decide +kernel
theorem dL_law_293 : decode cL_law 293 = .ok (.ireturn, 1) := by decide +kernel
theorem dL_law_294 : decode cL_law 294 = .ok (.aload_n 1, 1) := by decide +kernel
theorem dL_law_295 : decode cL_law 295 = .ok (.aload_n 0, 1) := by decide +kernel
theorem dL_law_296 : decode cL_law 296 = .ok (.iload_n 3, 1) := by decide +kernel
theorem dL_law_297 : decode cL_law 297 = .ok (.iconst 1, 1) := by decide +kernel
theorem dL_law_298 : decode cL_law 298 = .ok (.iadd, 1) := by decide +kernel
theorem dL_law_299 : decode cL_law 299 = .ok (.iaload, 1) := by decide +kernel
theorem dL_law_300 : decode cL_law 300 = .ok (.aload_n 0, 1) := by decide +kernel
theorem dL_law_301 : decode cL_law 301 = .ok (.iload_n 3, 1) := by decide +kernel
theorem dL_law_302 : decode cL_law 302 = .ok (.iconst 2, 1) := by decide +kernel
theorem dL_law_303 : decode cL_law 303 = .ok (.iadd, 1) := by decide +kernel
theorem dL_law_304 : decode cL_law 304 = .ok (.iaload, 1) := by decide +kernel
theorem dL_law_305 : decode cL_law 305 = .ok (.aload_n 0, 1) := by decide +kernel
theorem dL_law_306 : decode cL_law 306 = .ok (.iload_n 3, 1) := by decide +kernel
theorem dL_law_307 : decode cL_law 307 = .ok (.iconst 3, 1) := by decide +kernel
theorem dL_law_308 : decode cL_law 308 = .ok (.iadd, 1) := by decide +kernel
theorem dL_law_309 : decode cL_law 309 = .ok (.iaload, 1) := by decide +kernel
theorem dL_law_310 : decode cL_law 310 = .ok (.invokevirtual 33, 3) := by decide +kernel
theorem dL_law_313 : decode cL_law 313 = .ok (.aload_n 2, 1) := by decide +kernel
theorem dL_law_314 : decode cL_law 314 = .ok (.aload_n 0, 1) := by decide +kernel
theorem dL_law_315 : decode cL_law 315 = .ok (.iload_n 3, 1) := by decide +kernel
theorem dL_law_316 : decode cL_law 316 = .ok (.iconst 1, 1) := by decide +kernel
theorem dL_law_317 : decode cL_law 317 = .ok (.iadd, 1) := by decide +kernel
theorem dL_law_318 : decode cL_law 318 = .ok (.iaload, 1) := by decide +kernel
theorem dL_law_319 : decode cL_law 319 = .ok (.aload_n 0, 1) := by decide +kernel
theorem dL_law_320 : decode cL_law 320 = .ok (.iload_n 3, 1) := by decide +kernel
theorem dL_law_321 : decode cL_law 321 = .ok (.iconst 2, 1) := by decide +kernel
theorem dL_law_322 : decode cL_law 322 = .ok (.iadd, 1) := by decide +kernel
theorem dL_law_323 : decode cL_law 323 = .ok (.iaload, 1) := by decide +kernel
theorem dL_law_324 : decode cL_law 324 = .ok (.aload_n 0, 1) := by decide +kernel
theorem dL_law_325 : decode cL_law 325 = .ok (.iload_n 3, 1) := by decide +kernel
theorem dL_law_326 : decode cL_law 326 = .ok (.iconst 3, 1) := by decide +kernel
theorem dL_law_327 : decode cL_law 327 = .ok (.iadd, 1) := by decide +kernel
theorem dL_law_328 : decode cL_law 328 = .ok (.iaload, 1) := by decide +kernel
theorem dL_law_329 : decode cL_law 329 = .ok (.invokevirtual 37, 3) := by decide +kernel
theorem dL_law_332 : decode cL_law 332 = .ok (.if_icmp .eq 1122, 3) := by decide +kernel
theorem dL_law_335 : decode cL_law 335 = .ok (.iconst 0, 1) := by decide +kernel
theorem dL_law_336 : decode cL_law 336 = .ok (.ireturn, 1) := by decide +kernel
theorem dL_law_337 : decode cL_law 337 = .ok (.aload_n 1, 1) := by decide +kernel
theorem dL_law_338 : decode cL_law 338 = .ok (.aload_n 0, 1) := by decide +kernel
theorem dL_law_339 : decode cL_law 339 = .ok (.iload_n 3, 1) := by decide +kernel
theorem dL_law_340 : decode cL_law 340 = .ok (.iconst 1, 1) := by decide +kernel
theorem dL_law_341 : decode cL_law 341 = .ok (.iadd, 1) := by decide +kernel
theorem dL_law_342 : decode cL_law 342 = .ok (.iaload, 1) := by decide +kernel
theorem dL_law_343 : decode cL_law 343 = .ok (.invokevirtual 38, 3) := by decide +kernel
theorem dL_law_346 : decode cL_law 346 = .ok (.aload_n 2, 1) := by decide +kernel
theorem dL_law_347 : decode cL_law 347 = .ok (.aload_n 0, 1) := by decide +kernel
theorem dL_law_348 : decode cL_law 348 = .ok (.iload_n 3, 1) := by decide +kernel
theorem dL_law_349 : decode cL_law 349 = .ok (.iconst 1, 1) := by decide +kernel
theorem dL_law_350 : decode cL_law 350 = .ok (.iadd, 1) := by decide +kernel
theorem dL_law_351 : decode cL_law 351 = .ok (.iaload, 1) := by decide +kernel
theorem dL_law_352 : decode cL_law 352 = .ok (.invokevirtual 42, 3) := by decide +kernel
theorem dL_law_355 : decode cL_law 355 = .ok (.if_icmp .eq 1099, 3) := by decide +kernel
theorem dL_law_358 : decode cL_law 358 = .ok (.iconst 0, 1) := by decide +kernel
theorem dL_law_359 : decode cL_law 359 = .ok (.ireturn, 1) := by decide +kernel
theorem dL_law_360 : decode cL_law 360 = .ok (.aload_n 1, 1) := by decide +kernel
theorem dL_law_361 : decode cL_law 361 = .ok (.aload_n 0, 1) := by decide +kernel
theorem dL_law_362 : decode cL_law 362 = .ok (.iload_n 3, 1) := by decide +kernel
theorem dL_law_363 : decode cL_law 363 = .ok (.iconst 1, 1) := by decide +kernel
theorem dL_law_364 : decode cL_law 364 = .ok (.iadd, 1) := by decide +kernel
theorem dL_law_365 : decode cL_law 365 = .ok (.iaload, 1) := by decide +kernel
theorem dL_law_366 : decode cL_law 366 = .ok (.aload_n 0, 1) := by decide +kernel
theorem dL_law_367 : decode cL_law 367 = .ok (.iload_n 3, 1) := by decide +kernel
theorem dL_law_368 : decode cL_law 368 = .ok (.iconst 2, 1) := by decide +kernel
theorem dL_law_369 : decode cL_law 369 = .ok (.iadd, 1) := by decide +kernel
theorem dL_law_370 : decode cL_law 370 = .ok (.iaload, 1) := by decide +kernel
theorem dL_law_371 : decode cL_law 371 = .ok (.aload_n 0, 1) := by decide +kernel
theorem dL_law_372 : decode cL_law 372 = .ok (.iload_n 3, 1) := by decide +kernel
theorem dL_law_373 : decode cL_law 373 = .ok (.iconst 3, 1) := by decide +kernel
theorem dL_law_374 : decode cL_law 374 = .ok (.iadd, 1) := by decide +kernel
theorem dL_law_375 : decode cL_law 375 = .ok (.iaload, 1) := by decide +kernel
theorem dL_law_376 : decode cL_law 376 = .ok (.ifCond .eq 7, 3) := by decide +kernel
theorem dL_law_379 : decode cL_law 379 = .ok (.iconst 1, 1) := by decide +kernel
theorem dL_law_380 : decode cL_law 380 = .ok (.goto 4, 3) := by decide +kernel
theorem dL_law_383 : decode cL_law 383 = .ok (.iconst 0, 1) := by decide +kernel
theorem dL_law_384 : decode cL_law 384 = .ok (.invokevirtual 43, 3) := by decide +kernel
theorem dL_law_387 : decode cL_law 387 = .ok (.aload_n 2, 1) := by decide +kernel
theorem dL_law_388 : decode cL_law 388 = .ok (.aload_n 0, 1) := by decide +kernel
theorem dL_law_389 : decode cL_law 389 = .ok (.iload_n 3, 1) := by decide +kernel
theorem dL_law_390 : decode cL_law 390 = .ok (.iconst 1, 1) := by decide +kernel
theorem dL_law_391 : decode cL_law 391 = .ok (.iadd, 1) := by decide +kernel
theorem dL_law_392 : decode cL_law 392 = .ok (.iaload, 1) := by decide +kernel
theorem dL_law_393 : decode cL_law 393 = .ok (.aload_n 0, 1) := by decide +kernel
theorem dL_law_394 : decode cL_law 394 = .ok (.iload_n 3, 1) := by decide +kernel
theorem dL_law_395 : decode cL_law 395 = .ok (.iconst 2, 1) := by decide +kernel
theorem dL_law_396 : decode cL_law 396 = .ok (.iadd, 1) := by decide +kernel
theorem dL_law_397 : decode cL_law 397 = .ok (.iaload, 1) := by decide +kernel
theorem dL_law_398 : decode cL_law 398 = .ok (.aload_n 0, 1) := by decide +kernel
theorem dL_law_399 : decode cL_law 399 = .ok (.iload_n 3, 1) := by decide +kernel
theorem dL_law_400 : decode cL_law 400 = .ok (.iconst 3, 1) := by decide +kernel
theorem dL_law_401 : decode cL_law 401 = .ok (.iadd, 1) := by decide +kernel
theorem dL_law_402 : decode cL_law 402 = .ok (.iaload, 1) := by decide +kernel
theorem dL_law_403 : decode cL_law 403 = .ok (.ifCond .eq 7, 3) := by decide +kernel
theorem dL_law_406 : decode cL_law 406 = .ok (.iconst 1, 1) := by decide +kernel
theorem dL_law_407 : decode cL_law 407 = .ok (.goto 4, 3) := by decide +kernel
theorem dL_law_410 : decode cL_law 410 = .ok (.iconst 0, 1) := by decide +kernel
theorem dL_law_411 : decode cL_law 411 = .ok (.invokevirtual 47, 3) := by decide +kernel
theorem dL_law_414 : decode cL_law 414 = .ok (.lcmp, 1) := by decide +kernel
theorem dL_law_415 : decode cL_law 415 = .ok (.ifCond .eq 1039, 3) := by decide +kernel
theorem dL_law_418 : decode cL_law 418 = .ok (.iconst 0, 1) := by decide +kernel
theorem dL_law_419 : decode cL_law 419 = .ok (.ireturn, 1) := by decide +kernel
theorem dL_law_420 : decode cL_law 420 = .ok (.aload_n 1, 1) := by decide +kernel
theorem dL_law_421 : decode cL_law 421 = .ok (.aload_n 0, 1) := by decide +kernel
theorem dL_law_422 : decode cL_law 422 = .ok (.iload_n 3, 1) := by decide +kernel
theorem dL_law_423 : decode cL_law 423 = .ok (.iconst 1, 1) := by decide +kernel
theorem dL_law_424 : decode cL_law 424 = .ok (.iadd, 1) := by decide +kernel
theorem dL_law_425 : decode cL_law 425 = .ok (.iaload, 1) := by decide +kernel
theorem dL_law_426 : decode cL_law 426 = .ok (.aload_n 0, 1) := by decide +kernel
theorem dL_law_427 : decode cL_law 427 = .ok (.iload_n 3, 1) := by decide +kernel
theorem dL_law_428 : decode cL_law 428 = .ok (.iconst 2, 1) := by decide +kernel
theorem dL_law_429 : decode cL_law 429 = .ok (.iadd, 1) := by decide +kernel
theorem dL_law_430 : decode cL_law 430 = .ok (.iaload, 1) := by decide +kernel
theorem dL_law_431 : decode cL_law 431 = .ok (.aload_n 0, 1) := by decide +kernel
theorem dL_law_432 : decode cL_law 432 = .ok (.iload_n 3, 1) := by decide +kernel
theorem dL_law_433 : decode cL_law 433 = .ok (.iconst 3, 1) := by decide +kernel
theorem dL_law_434 : decode cL_law 434 = .ok (.iadd, 1) := by decide +kernel
theorem dL_law_435 : decode cL_law 435 = .ok (.iaload, 1) := by decide +kernel
theorem dL_law_436 : decode cL_law 436 = .ok (.ifCond .eq 7, 3) := by decide +kernel
theorem dL_law_439 : decode cL_law 439 = .ok (.iconst 1, 1) := by decide +kernel
theorem dL_law_440 : decode cL_law 440 = .ok (.goto 4, 3) := by decide +kernel
theorem dL_law_443 : decode cL_law 443 = .ok (.iconst 0, 1) := by decide +kernel
theorem dL_law_444 : decode cL_law 444 = .ok (.invokevirtual 48, 3) := by decide +kernel
theorem dL_law_447 : decode cL_law 447 = .ok (.aload_n 2, 1) := by decide +kernel
theorem dL_law_448 : decode cL_law 448 = .ok (.aload_n 0, 1) := by decide +kernel
theorem dL_law_449 : decode cL_law 449 = .ok (.iload_n 3, 1) := by decide +kernel
theorem dL_law_450 : decode cL_law 450 = .ok (.iconst 1, 1) := by decide +kernel
theorem dL_law_451 : decode cL_law 451 = .ok (.iadd, 1) := by decide +kernel
theorem dL_law_452 : decode cL_law 452 = .ok (.iaload, 1) := by decide +kernel
theorem dL_law_453 : decode cL_law 453 = .ok (.aload_n 0, 1) := by decide +kernel
theorem dL_law_454 : decode cL_law 454 = .ok (.iload_n 3, 1) := by decide +kernel
theorem dL_law_455 : decode cL_law 455 = .ok (.iconst 2, 1) := by decide +kernel
theorem dL_law_456 : decode cL_law 456 = .ok (.iadd, 1) := by decide +kernel
theorem dL_law_457 : decode cL_law 457 = .ok (.iaload, 1) := by decide +kernel
theorem dL_law_458 : decode cL_law 458 = .ok (.aload_n 0, 1) := by decide +kernel
theorem dL_law_459 : decode cL_law 459 = .ok (.iload_n 3, 1) := by decide +kernel
theorem dL_law_460 : decode cL_law 460 = .ok (.iconst 3, 1) := by decide +kernel
theorem dL_law_461 : decode cL_law 461 = .ok (.iadd, 1) := by decide +kernel
theorem dL_law_462 : decode cL_law 462 = .ok (.iaload, 1) := by decide +kernel
theorem dL_law_463 : decode cL_law 463 = .ok (.ifCond .eq 7, 3) := by decide +kernel
theorem dL_law_466 : decode cL_law 466 = .ok (.iconst 1, 1) := by decide +kernel
theorem dL_law_467 : decode cL_law 467 = .ok (.goto 4, 3) := by decide +kernel
theorem dL_law_470 : decode cL_law 470 = .ok (.iconst 0, 1) := by decide +kernel
theorem dL_law_471 : decode cL_law 471 = .ok (.invokevirtual 51, 3) := by decide +kernel
theorem dL_law_474 : decode cL_law 474 = .ok (.lcmp, 1) := by decide +kernel
theorem dL_law_475 : decode cL_law 475 = .ok (.ifCond .eq 979, 3) := by decide +kernel
theorem dL_law_478 : decode cL_law 478 = .ok (.iconst 0, 1) := by decide +kernel
theorem dL_law_479 : decode cL_law 479 = .ok (.ireturn, 1) := by decide +kernel
theorem dL_law_480 : decode cL_law 480 = .ok (.aload_n 1, 1) := by decide +kernel
theorem dL_law_481 : decode cL_law 481 = .ok (.aload_n 0, 1) := by decide +kernel
theorem dL_law_482 : decode cL_law 482 = .ok (.iload_n 3, 1) := by decide +kernel
theorem dL_law_483 : decode cL_law 483 = .ok (.iconst 1, 1) := by decide +kernel
theorem dL_law_484 : decode cL_law 484 = .ok (.iadd, 1) := by decide +kernel
theorem dL_law_485 : decode cL_law 485 = .ok (.iaload, 1) := by decide +kernel
theorem dL_law_486 : decode cL_law 486 = .ok (.aload_n 0, 1) := by decide +kernel
theorem dL_law_487 : decode cL_law 487 = .ok (.iload_n 3, 1) := by decide +kernel
theorem dL_law_488 : decode cL_law 488 = .ok (.iconst 2, 1) := by decide +kernel
theorem dL_law_489 : decode cL_law 489 = .ok (.iadd, 1) := by decide +kernel
theorem dL_law_490 : decode cL_law 490 = .ok (.iaload, 1) := by decide +kernel
theorem dL_law_491 : decode cL_law 491 = .ok (.invokevirtual 52, 3) := by decide +kernel
theorem dL_law_494 : decode cL_law 494 = .ok (.aload_n 2, 1) := by decide +kernel
theorem dL_law_495 : decode cL_law 495 = .ok (.aload_n 0, 1) := by decide +kernel
theorem dL_law_496 : decode cL_law 496 = .ok (.iload_n 3, 1) := by decide +kernel
theorem dL_law_497 : decode cL_law 497 = .ok (.iconst 1, 1) := by decide +kernel
theorem dL_law_498 : decode cL_law 498 = .ok (.iadd, 1) := by decide +kernel
theorem dL_law_499 : decode cL_law 499 = .ok (.iaload, 1) := by decide +kernel
theorem dL_law_500 : decode cL_law 500 = .ok (.aload_n 0, 1) := by decide +kernel
theorem dL_law_501 : decode cL_law 501 = .ok (.iload_n 3, 1) := by decide +kernel
theorem dL_law_502 : decode cL_law 502 = .ok (.iconst 2, 1) := by decide +kernel
theorem dL_law_503 : decode cL_law 503 = .ok (.iadd, 1) := by decide +kernel
theorem dL_law_504 : decode cL_law 504 = .ok (.iaload, 1) := by decide +kernel
theorem dL_law_505 : decode cL_law 505 = .ok (.invokevirtual 56, 3) := by decide +kernel
theorem dL_law_508 : decode cL_law 508 = .ok (.if_icmp .eq 946, 3) := by decide +kernel
theorem dL_law_511 : decode cL_law 511 = .ok (.iconst 0, 1) := by decide +kernel
theorem dL_law_512 : decode cL_law 512 = .ok (.ireturn, 1) := by decide +kernel
theorem dL_law_513 : decode cL_law 513 = .ok (.aload_n 1, 1) := by decide +kernel
theorem dL_law_514 : decode cL_law 514 = .ok (.aload_n 0, 1) := by decide +kernel
theorem dL_law_515 : decode cL_law 515 = .ok (.iload_n 3, 1) := by decide +kernel
theorem dL_law_516 : decode cL_law 516 = .ok (.iconst 1, 1) := by decide +kernel
theorem dL_law_517 : decode cL_law 517 = .ok (.iadd, 1) := by decide +kernel
theorem dL_law_518 : decode cL_law 518 = .ok (.iaload, 1) := by decide +kernel
theorem dL_law_519 : decode cL_law 519 = .ok (.aload_n 0, 1) := by decide +kernel
theorem dL_law_520 : decode cL_law 520 = .ok (.iload_n 3, 1) := by decide +kernel
theorem dL_law_521 : decode cL_law 521 = .ok (.iconst 2, 1) := by decide +kernel
theorem dL_law_522 : decode cL_law 522 = .ok (.iadd, 1) := by decide +kernel
theorem dL_law_523 : decode cL_law 523 = .ok (.iaload, 1) := by decide +kernel
theorem dL_law_524 : decode cL_law 524 = .ok (.ifCond .eq 7, 3) := by decide +kernel
theorem dL_law_527 : decode cL_law 527 = .ok (.iconst 1, 1) := by decide +kernel
theorem dL_law_528 : decode cL_law 528 = .ok (.goto 4, 3) := by decide +kernel
theorem dL_law_531 : decode cL_law 531 = .ok (.iconst 0, 1) := by decide +kernel
theorem dL_law_532 : decode cL_law 532 = .ok (.invokevirtual 57, 3) := by decide +kernel
theorem dL_law_535 : decode cL_law 535 = .ok (.aload_n 2, 1) := by decide +kernel
theorem dL_law_536 : decode cL_law 536 = .ok (.aload_n 0, 1) := by decide +kernel
theorem dL_law_537 : decode cL_law 537 = .ok (.iload_n 3, 1) := by decide +kernel
theorem dL_law_538 : decode cL_law 538 = .ok (.iconst 1, 1) := by decide +kernel
theorem dL_law_539 : decode cL_law 539 = .ok (.iadd, 1) := by decide +kernel
theorem dL_law_540 : decode cL_law 540 = .ok (.iaload, 1) := by decide +kernel
theorem dL_law_541 : decode cL_law 541 = .ok (.aload_n 0, 1) := by decide +kernel
theorem dL_law_542 : decode cL_law 542 = .ok (.iload_n 3, 1) := by decide +kernel
theorem dL_law_543 : decode cL_law 543 = .ok (.iconst 2, 1) := by decide +kernel
theorem dL_law_544 : decode cL_law 544 = .ok (.iadd, 1) := by decide +kernel
theorem dL_law_545 : decode cL_law 545 = .ok (.iaload, 1) := by decide +kernel
theorem dL_law_546 : decode cL_law 546 = .ok (.ifCond .eq 7, 3) := by decide +kernel
theorem dL_law_549 : decode cL_law 549 = .ok (.iconst 1, 1) := by decide +kernel
theorem dL_law_550 : decode cL_law 550 = .ok (.goto 4, 3) := by decide +kernel
theorem dL_law_553 : decode cL_law 553 = .ok (.iconst 0, 1) := by decide +kernel
theorem dL_law_554 : decode cL_law 554 = .ok (.invokevirtual 61, 3) := by decide +kernel
theorem dL_law_557 : decode cL_law 557 = .ok (.lcmp, 1) := by decide +kernel
theorem dL_law_558 : decode cL_law 558 = .ok (.ifCond .eq 896, 3) := by decide +kernel
theorem dL_law_561 : decode cL_law 561 = .ok (.iconst 0, 1) := by decide +kernel
theorem dL_law_562 : decode cL_law 562 = .ok (.ireturn, 1) := by decide +kernel
theorem dL_law_563 : decode cL_law 563 = .ok (.aload_n 1, 1) := by decide +kernel
theorem dL_law_564 : decode cL_law 564 = .ok (.invokevirtual 62, 3) := by decide +kernel
theorem dL_law_567 : decode cL_law 567 = .ok (.aload_n 2, 1) := by decide +kernel
theorem dL_law_568 : decode cL_law 568 = .ok (.invokevirtual 65, 3) := by decide +kernel
theorem dL_law_571 : decode cL_law 571 = .ok (.if_icmp .eq 883, 3) := by decide +kernel
theorem dL_law_574 : decode cL_law 574 = .ok (.iconst 0, 1) := by decide +kernel
theorem dL_law_575 : decode cL_law 575 = .ok (.ireturn, 1) := by decide +kernel
theorem dL_law_576 : decode cL_law 576 = .ok (.aload_n 1, 1) := by decide +kernel
theorem dL_law_577 : decode cL_law 577 = .ok (.aload_n 0, 1) := by decide +kernel
theorem dL_law_578 : decode cL_law 578 = .ok (.iload_n 3, 1) := by decide +kernel
theorem dL_law_579 : decode cL_law 579 = .ok (.iconst 1, 1) := by decide +kernel
theorem dL_law_580 : decode cL_law 580 = .ok (.iadd, 1) := by decide +kernel
theorem dL_law_581 : decode cL_law 581 = .ok (.iaload, 1) := by decide +kernel
theorem dL_law_582 : decode cL_law 582 = .ok (.aload_n 0, 1) := by decide +kernel
theorem dL_law_583 : decode cL_law 583 = .ok (.iload_n 3, 1) := by decide +kernel
theorem dL_law_584 : decode cL_law 584 = .ok (.iconst 2, 1) := by decide +kernel
theorem dL_law_585 : decode cL_law 585 = .ok (.iadd, 1) := by decide +kernel
theorem dL_law_586 : decode cL_law 586 = .ok (.iaload, 1) := by decide +kernel
theorem dL_law_587 : decode cL_law 587 = .ok (.aload_n 0, 1) := by decide +kernel
theorem dL_law_588 : decode cL_law 588 = .ok (.iload_n 3, 1) := by decide +kernel
theorem dL_law_589 : decode cL_law 589 = .ok (.iconst 3, 1) := by decide +kernel
theorem dL_law_590 : decode cL_law 590 = .ok (.iadd, 1) := by decide +kernel
theorem dL_law_591 : decode cL_law 591 = .ok (.iaload, 1) := by decide +kernel
theorem dL_law_592 : decode cL_law 592 = .ok (.aload_n 0, 1) := by decide +kernel
theorem dL_law_593 : decode cL_law 593 = .ok (.iload_n 3, 1) := by decide +kernel
theorem dL_law_594 : decode cL_law 594 = .ok (.iconst 4, 1) := by decide +kernel
theorem dL_law_595 : decode cL_law 595 = .ok (.iadd, 1) := by decide +kernel
theorem dL_law_596 : decode cL_law 596 = .ok (.iaload, 1) := by decide +kernel
theorem dL_law_597 : decode cL_law 597 = .ok (.ifCond .eq 7, 3) := by decide +kernel
theorem dL_law_600 : decode cL_law 600 = .ok (.iconst 1, 1) := by decide +kernel
theorem dL_law_601 : decode cL_law 601 = .ok (.goto 4, 3) := by decide +kernel
theorem dL_law_604 : decode cL_law 604 = .ok (.iconst 0, 1) := by decide +kernel
theorem dL_law_605 : decode cL_law 605 = .ok (.invokevirtual 66, 3) := by decide +kernel
theorem dL_law_608 : decode cL_law 608 = .ok (.aload_n 2, 1) := by decide +kernel
theorem dL_law_609 : decode cL_law 609 = .ok (.aload_n 0, 1) := by decide +kernel
theorem dL_law_610 : decode cL_law 610 = .ok (.iload_n 3, 1) := by decide +kernel
theorem dL_law_611 : decode cL_law 611 = .ok (.iconst 1, 1) := by decide +kernel
theorem dL_law_612 : decode cL_law 612 = .ok (.iadd, 1) := by decide +kernel
theorem dL_law_613 : decode cL_law 613 = .ok (.iaload, 1) := by decide +kernel
theorem dL_law_614 : decode cL_law 614 = .ok (.aload_n 0, 1) := by decide +kernel
theorem dL_law_615 : decode cL_law 615 = .ok (.iload_n 3, 1) := by decide +kernel
theorem dL_law_616 : decode cL_law 616 = .ok (.iconst 2, 1) := by decide +kernel
theorem dL_law_617 : decode cL_law 617 = .ok (.iadd, 1) := by decide +kernel
theorem dL_law_618 : decode cL_law 618 = .ok (.iaload, 1) := by decide +kernel
theorem dL_law_619 : decode cL_law 619 = .ok (.aload_n 0, 1) := by decide +kernel
theorem dL_law_620 : decode cL_law 620 = .ok (.iload_n 3, 1) := by decide +kernel
theorem dL_law_621 : decode cL_law 621 = .ok (.iconst 3, 1) := by decide +kernel
theorem dL_law_622 : decode cL_law 622 = .ok (.iadd, 1) := by decide +kernel
theorem dL_law_623 : decode cL_law 623 = .ok (.iaload, 1) := by decide +kernel
theorem dL_law_624 : decode cL_law 624 = .ok (.aload_n 0, 1) := by decide +kernel
theorem dL_law_625 : decode cL_law 625 = .ok (.iload_n 3, 1) := by decide +kernel
theorem dL_law_626 : decode cL_law 626 = .ok (.iconst 4, 1) := by decide +kernel
theorem dL_law_627 : decode cL_law 627 = .ok (.iadd, 1) := by decide +kernel
theorem dL_law_628 : decode cL_law 628 = .ok (.iaload, 1) := by decide +kernel
theorem dL_law_629 : decode cL_law 629 = .ok (.ifCond .eq 7, 3) := by decide +kernel
theorem dL_law_632 : decode cL_law 632 = .ok (.iconst 1, 1) := by decide +kernel
theorem dL_law_633 : decode cL_law 633 = .ok (.goto 4, 3) := by decide +kernel
theorem dL_law_636 : decode cL_law 636 = .ok (.iconst 0, 1) := by decide +kernel
theorem dL_law_637 : decode cL_law 637 = .ok (.invokevirtual 70, 3) := by decide +kernel
theorem dL_law_640 : decode cL_law 640 = .ok (.lcmp, 1) := by decide +kernel
theorem dL_law_641 : decode cL_law 641 = .ok (.ifCond .eq 813, 3) := by decide +kernel
theorem dL_law_644 : decode cL_law 644 = .ok (.iconst 0, 1) := by decide +kernel
theorem dL_law_645 : decode cL_law 645 = .ok (.ireturn, 1) := by decide +kernel
theorem dL_law_646 : decode cL_law 646 = .ok (.aload_n 1, 1) := by decide +kernel
theorem dL_law_647 : decode cL_law 647 = .ok (.aload_n 0, 1) := by decide +kernel
theorem dL_law_648 : decode cL_law 648 = .ok (.iload_n 3, 1) := by decide +kernel
theorem dL_law_649 : decode cL_law 649 = .ok (.iconst 1, 1) := by decide +kernel
theorem dL_law_650 : decode cL_law 650 = .ok (.iadd, 1) := by decide +kernel
theorem dL_law_651 : decode cL_law 651 = .ok (.iaload, 1) := by decide +kernel
theorem dL_law_652 : decode cL_law 652 = .ok (.aload_n 0, 1) := by decide +kernel
theorem dL_law_653 : decode cL_law 653 = .ok (.iload_n 3, 1) := by decide +kernel
theorem dL_law_654 : decode cL_law 654 = .ok (.iconst 2, 1) := by decide +kernel
theorem dL_law_655 : decode cL_law 655 = .ok (.iadd, 1) := by decide +kernel
theorem dL_law_656 : decode cL_law 656 = .ok (.iaload, 1) := by decide +kernel
theorem dL_law_657 : decode cL_law 657 = .ok (.invokevirtual 71, 3) := by decide +kernel
theorem dL_law_660 : decode cL_law 660 = .ok (.aload_n 2, 1) := by decide +kernel
theorem dL_law_661 : decode cL_law 661 = .ok (.aload_n 0, 1) := by decide +kernel
theorem dL_law_662 : decode cL_law 662 = .ok (.iload_n 3, 1) := by decide +kernel
theorem dL_law_663 : decode cL_law 663 = .ok (.iconst 1, 1) := by decide +kernel
theorem dL_law_664 : decode cL_law 664 = .ok (.iadd, 1) := by decide +kernel
theorem dL_law_665 : decode cL_law 665 = .ok (.iaload, 1) := by decide +kernel
theorem dL_law_666 : decode cL_law 666 = .ok (.aload_n 0, 1) := by decide +kernel
theorem dL_law_667 : decode cL_law 667 = .ok (.iload_n 3, 1) := by decide +kernel
theorem dL_law_668 : decode cL_law 668 = .ok (.iconst 2, 1) := by decide +kernel
theorem dL_law_669 : decode cL_law 669 = .ok (.iadd, 1) := by decide +kernel
theorem dL_law_670 : decode cL_law 670 = .ok (.iaload, 1) := by decide +kernel
theorem dL_law_671 : decode cL_law 671 = .ok (.invokevirtual 74, 3) := by decide +kernel
theorem dL_law_674 : decode cL_law 674 = .ok (.if_icmp .eq 780, 3) := by decide +kernel
theorem dL_law_677 : decode cL_law 677 = .ok (.iconst 0, 1) := by decide +kernel
theorem dL_law_678 : decode cL_law 678 = .ok (.ireturn, 1) := by decide +kernel
theorem dL_law_679 : decode cL_law 679 = .ok (.aload_n 1, 1) := by decide +kernel
theorem dL_law_680 : decode cL_law 680 = .ok (.invokevirtual 75, 3) := by decide +kernel
theorem dL_law_683 : decode cL_law 683 = .ok (.aload_n 2, 1) := by decide +kernel
theorem dL_law_684 : decode cL_law 684 = .ok (.invokevirtual 78, 3) := by decide +kernel
theorem dL_law_687 : decode cL_law 687 = .ok (.if_icmp .eq 767, 3) := by decide +kernel
theorem dL_law_690 : decode cL_law 690 = .ok (.iconst 0, 1) := by decide +kernel
theorem dL_law_691 : decode cL_law 691 = .ok (.ireturn, 1) := by decide +kernel
theorem dL_law_692 : decode cL_law 692 = .ok (.aload_n 1, 1) := by decide +kernel
theorem dL_law_693 : decode cL_law 693 = .ok (.aload_n 0, 1) := by decide +kernel
theorem dL_law_694 : decode cL_law 694 = .ok (.iload_n 3, 1) := by decide +kernel
theorem dL_law_695 : decode cL_law 695 = .ok (.iconst 1, 1) := by decide +kernel
theorem dL_law_696 : decode cL_law 696 = .ok (.iadd, 1) := by decide +kernel
theorem dL_law_697 : decode cL_law 697 = .ok (.iaload, 1) := by decide +kernel
theorem dL_law_698 : decode cL_law 698 = .ok (.aload_n 0, 1) := by decide +kernel
theorem dL_law_699 : decode cL_law 699 = .ok (.iload_n 3, 1) := by decide +kernel
theorem dL_law_700 : decode cL_law 700 = .ok (.iconst 2, 1) := by decide +kernel
theorem dL_law_701 : decode cL_law 701 = .ok (.iadd, 1) := by decide +kernel
theorem dL_law_702 : decode cL_law 702 = .ok (.iaload, 1) := by decide +kernel
theorem dL_law_703 : decode cL_law 703 = .ok (.ifCond .eq 7, 3) := by decide +kernel
theorem dL_law_706 : decode cL_law 706 = .ok (.iconst 1, 1) := by decide +kernel
theorem dL_law_707 : decode cL_law 707 = .ok (.goto 4, 3) := by decide +kernel
theorem dL_law_710 : decode cL_law 710 = .ok (.iconst 0, 1) := by decide +kernel
theorem dL_law_711 : decode cL_law 711 = .ok (.invokevirtual 79, 3) := by decide +kernel
theorem dL_law_714 : decode cL_law 714 = .ok (.aload_n 2, 1) := by decide +kernel
theorem dL_law_715 : decode cL_law 715 = .ok (.aload_n 0, 1) := by decide +kernel
theorem dL_law_716 : decode cL_law 716 = .ok (.iload_n 3, 1) := by decide +kernel
theorem dL_law_717 : decode cL_law 717 = .ok (.iconst 1, 1) := by decide +kernel
theorem dL_law_718 : decode cL_law 718 = .ok (.iadd, 1) := by decide +kernel
theorem dL_law_719 : decode cL_law 719 = .ok (.iaload, 1) := by decide +kernel
theorem dL_law_720 : decode cL_law 720 = .ok (.aload_n 0, 1) := by decide +kernel
theorem dL_law_721 : decode cL_law 721 = .ok (.iload_n 3, 1) := by decide +kernel
theorem dL_law_722 : decode cL_law 722 = .ok (.iconst 2, 1) := by decide +kernel
theorem dL_law_723 : decode cL_law 723 = .ok (.iadd, 1) := by decide +kernel
theorem dL_law_724 : decode cL_law 724 = .ok (.iaload, 1) := by decide +kernel
theorem dL_law_725 : decode cL_law 725 = .ok (.ifCond .eq 7, 3) := by decide +kernel
theorem dL_law_728 : decode cL_law 728 = .ok (.iconst 1, 1) := by decide +kernel
theorem dL_law_729 : decode cL_law 729 = .ok (.goto 4, 3) := by decide +kernel
theorem dL_law_732 : decode cL_law 732 = .ok (.iconst 0, 1) := by decide +kernel
theorem dL_law_733 : decode cL_law 733 = .ok (.invokevirtual 82, 3) := by decide +kernel
theorem dL_law_736 : decode cL_law 736 = .ok (.lcmp, 1) := by decide +kernel
theorem dL_law_737 : decode cL_law 737 = .ok (.ifCond .eq 717, 3) := by decide +kernel
theorem dL_law_740 : decode cL_law 740 = .ok (.iconst 0, 1) := by decide +kernel
theorem dL_law_741 : decode cL_law 741 = .ok (.ireturn, 1) := by decide +kernel
theorem dL_law_742 : decode cL_law 742 = .ok (.aload_n 1, 1) := by decide +kernel
theorem dL_law_743 : decode cL_law 743 = .ok (.invokevirtual 83, 3) := by decide +kernel
theorem dL_law_746 : decode cL_law 746 = .ok (.aload_n 2, 1) := by decide +kernel
theorem dL_law_747 : decode cL_law 747 = .ok (.invokevirtual 86, 3) := by decide +kernel
theorem dL_law_750 : decode cL_law 750 = .ok (.if_icmp .eq 704, 3) := by decide +kernel
theorem dL_law_753 : decode cL_law 753 = .ok (.iconst 0, 1) := by decide +kernel
theorem dL_law_754 : decode cL_law 754 = .ok (.ireturn, 1) := by decide +kernel
theorem dL_law_755 : decode cL_law 755 = .ok (.aload_n 1, 1) := by decide +kernel
theorem dL_law_756 : decode cL_law 756 = .ok (.invokevirtual 87, 3) := by decide +kernel
theorem dL_law_759 : decode cL_law 759 = .ok (.aload_n 2, 1) := by decide +kernel
theorem dL_law_760 : decode cL_law 760 = .ok (.invokevirtual 90, 3) := by decide +kernel
theorem dL_law_763 : decode cL_law 763 = .ok (.if_icmp .eq 691, 3) := by decide +kernel
theorem dL_law_766 : decode cL_law 766 = .ok (.iconst 0, 1) := by decide +kernel
theorem dL_law_767 : decode cL_law 767 = .ok (.ireturn, 1) := by decide +kernel
theorem dL_law_768 : decode cL_law 768 = .ok (.aload_n 1, 1) := by decide +kernel
theorem dL_law_769 : decode cL_law 769 = .ok (.aload_n 0, 1) := by decide +kernel
theorem dL_law_770 : decode cL_law 770 = .ok (.iload_n 3, 1) := by decide +kernel
theorem dL_law_771 : decode cL_law 771 = .ok (.iconst 1, 1) := by decide +kernel
theorem dL_law_772 : decode cL_law 772 = .ok (.iadd, 1) := by decide +kernel
theorem dL_law_773 : decode cL_law 773 = .ok (.iaload, 1) := by decide +kernel
theorem dL_law_774 : decode cL_law 774 = .ok (.aload_n 0, 1) := by decide +kernel
theorem dL_law_775 : decode cL_law 775 = .ok (.iload_n 3, 1) := by decide +kernel
theorem dL_law_776 : decode cL_law 776 = .ok (.iconst 2, 1) := by decide +kernel
theorem dL_law_777 : decode cL_law 777 = .ok (.iadd, 1) := by decide +kernel
theorem dL_law_778 : decode cL_law 778 = .ok (.iaload, 1) := by decide +kernel
theorem dL_law_779 : decode cL_law 779 = .ok (.aload_n 0, 1) := by decide +kernel
theorem dL_law_780 : decode cL_law 780 = .ok (.iload_n 3, 1) := by decide +kernel
theorem dL_law_781 : decode cL_law 781 = .ok (.iconst 3, 1) := by decide +kernel
theorem dL_law_782 : decode cL_law 782 = .ok (.iadd, 1) := by decide +kernel
theorem dL_law_783 : decode cL_law 783 = .ok (.iaload, 1) := by decide +kernel
theorem dL_law_784 : decode cL_law 784 = .ok (.aload_n 0, 1) := by decide +kernel
theorem dL_law_785 : decode cL_law 785 = .ok (.iload_n 3, 1) := by decide +kernel
theorem dL_law_786 : decode cL_law 786 = .ok (.iconst 4, 1) := by decide +kernel
theorem dL_law_787 : decode cL_law 787 = .ok (.iadd, 1) := by decide +kernel
theorem dL_law_788 : decode cL_law 788 = .ok (.iaload, 1) := by decide +kernel
theorem dL_law_789 : decode cL_law 789 = .ok (.aload_n 0, 1) := by decide +kernel
theorem dL_law_790 : decode cL_law 790 = .ok (.iload_n 3, 1) := by decide +kernel
theorem dL_law_791 : decode cL_law 791 = .ok (.iconst 5, 1) := by decide +kernel
theorem dL_law_792 : decode cL_law 792 = .ok (.iadd, 1) := by decide +kernel
theorem dL_law_793 : decode cL_law 793 = .ok (.iaload, 1) := by decide +kernel
theorem dL_law_794 : decode cL_law 794 = .ok (.aload_n 0, 1) := by decide +kernel
theorem dL_law_795 : decode cL_law 795 = .ok (.iload_n 3, 1) := by decide +kernel
theorem dL_law_796 : decode cL_law 796 = .ok (.bipush 6, 2) := by decide +kernel
theorem dL_law_798 : decode cL_law 798 = .ok (.iadd, 1) := by decide +kernel
theorem dL_law_799 : decode cL_law 799 = .ok (.iaload, 1) := by decide +kernel
theorem dL_law_800 : decode cL_law 800 = .ok (.ifCond .eq 7, 3) := by decide +kernel
theorem dL_law_803 : decode cL_law 803 = .ok (.iconst 1, 1) := by decide +kernel
theorem dL_law_804 : decode cL_law 804 = .ok (.goto 4, 3) := by decide +kernel
theorem dL_law_807 : decode cL_law 807 = .ok (.iconst 0, 1) := by decide +kernel
theorem dL_law_808 : decode cL_law 808 = .ok (.invokevirtual 91, 3) := by decide +kernel
theorem dL_law_811 : decode cL_law 811 = .ok (.aload_n 2, 1) := by decide +kernel
theorem dL_law_812 : decode cL_law 812 = .ok (.aload_n 0, 1) := by decide +kernel
theorem dL_law_813 : decode cL_law 813 = .ok (.iload_n 3, 1) := by decide +kernel
theorem dL_law_814 : decode cL_law 814 = .ok (.iconst 1, 1) := by decide +kernel
theorem dL_law_815 : decode cL_law 815 = .ok (.iadd, 1) := by decide +kernel
theorem dL_law_816 : decode cL_law 816 = .ok (.iaload, 1) := by decide +kernel
theorem dL_law_817 : decode cL_law 817 = .ok (.aload_n 0, 1) := by decide +kernel
theorem dL_law_818 : decode cL_law 818 = .ok (.iload_n 3, 1) := by decide +kernel
theorem dL_law_819 : decode cL_law 819 = .ok (.iconst 2, 1) := by decide +kernel
theorem dL_law_820 : decode cL_law 820 = .ok (.iadd, 1) := by decide +kernel
theorem dL_law_821 : decode cL_law 821 = .ok (.iaload, 1) := by decide +kernel
theorem dL_law_822 : decode cL_law 822 = .ok (.aload_n 0, 1) := by decide +kernel
theorem dL_law_823 : decode cL_law 823 = .ok (.iload_n 3, 1) := by decide +kernel
theorem dL_law_824 : decode cL_law 824 = .ok (.iconst 3, 1) := by decide +kernel
theorem dL_law_825 : decode cL_law 825 = .ok (.iadd, 1) := by decide +kernel
theorem dL_law_826 : decode cL_law 826 = .ok (.iaload, 1) := by decide +kernel
theorem dL_law_827 : decode cL_law 827 = .ok (.aload_n 0, 1) := by decide +kernel
theorem dL_law_828 : decode cL_law 828 = .ok (.iload_n 3, 1) := by decide +kernel
theorem dL_law_829 : decode cL_law 829 = .ok (.iconst 4, 1) := by decide +kernel
theorem dL_law_830 : decode cL_law 830 = .ok (.iadd, 1) := by decide +kernel
theorem dL_law_831 : decode cL_law 831 = .ok (.iaload, 1) := by decide +kernel
theorem dL_law_832 : decode cL_law 832 = .ok (.aload_n 0, 1) := by decide +kernel
theorem dL_law_833 : decode cL_law 833 = .ok (.iload_n 3, 1) := by decide +kernel
theorem dL_law_834 : decode cL_law 834 = .ok (.iconst 5, 1) := by decide +kernel
theorem dL_law_835 : decode cL_law 835 = .ok (.iadd, 1) := by decide +kernel
theorem dL_law_836 : decode cL_law 836 = .ok (.iaload, 1) := by decide +kernel
theorem dL_law_837 : decode cL_law 837 = .ok (.aload_n 0, 1) := by decide +kernel
theorem dL_law_838 : decode cL_law 838 = .ok (.iload_n 3, 1) := by decide +kernel
theorem dL_law_839 : decode cL_law 839 = .ok (.bipush 6, 2) := by decide +kernel
theorem dL_law_841 : decode cL_law 841 = .ok (.iadd, 1) := by decide +kernel
theorem dL_law_842 : decode cL_law 842 = .ok (.iaload, 1) := by decide +kernel
theorem dL_law_843 : decode cL_law 843 = .ok (.ifCond .eq 7, 3) := by decide +kernel
theorem dL_law_846 : decode cL_law 846 = .ok (.iconst 1, 1) := by decide +kernel
theorem dL_law_847 : decode cL_law 847 = .ok (.goto 4, 3) := by decide +kernel
theorem dL_law_850 : decode cL_law 850 = .ok (.iconst 0, 1) := by decide +kernel
theorem dL_law_851 : decode cL_law 851 = .ok (.invokevirtual 95, 3) := by decide +kernel
theorem dL_law_854 : decode cL_law 854 = .ok (.lcmp, 1) := by decide +kernel
theorem dL_law_855 : decode cL_law 855 = .ok (.ifCond .eq 599, 3) := by decide +kernel
theorem dL_law_858 : decode cL_law 858 = .ok (.iconst 0, 1) := by decide +kernel
theorem dL_law_859 : decode cL_law 859 = .ok (.ireturn, 1) := by decide +kernel
theorem dL_law_860 : decode cL_law 860 = .ok (.aload_n 1, 1) := by decide +kernel
theorem dL_law_861 : decode cL_law 861 = .ok (.aload_n 0, 1) := by decide +kernel
theorem dL_law_862 : decode cL_law 862 = .ok (.iload_n 3, 1) := by decide +kernel
theorem dL_law_863 : decode cL_law 863 = .ok (.iconst 1, 1) := by decide +kernel
theorem dL_law_864 : decode cL_law 864 = .ok (.iadd, 1) := by decide +kernel
theorem dL_law_865 : decode cL_law 865 = .ok (.iaload, 1) := by decide +kernel
theorem dL_law_866 : decode cL_law 866 = .ok (.aload_n 0, 1) := by decide +kernel
theorem dL_law_867 : decode cL_law 867 = .ok (.iload_n 3, 1) := by decide +kernel
theorem dL_law_868 : decode cL_law 868 = .ok (.iconst 2, 1) := by decide +kernel
theorem dL_law_869 : decode cL_law 869 = .ok (.iadd, 1) := by decide +kernel
theorem dL_law_870 : decode cL_law 870 = .ok (.iaload, 1) := by decide +kernel
theorem dL_law_871 : decode cL_law 871 = .ok (.aload_n 0, 1) := by decide +kernel
theorem dL_law_872 : decode cL_law 872 = .ok (.iload_n 3, 1) := by decide +kernel
theorem dL_law_873 : decode cL_law 873 = .ok (.iconst 3, 1) := by decide +kernel
theorem dL_law_874 : decode cL_law 874 = .ok (.iadd, 1) := by decide +kernel
theorem dL_law_875 : decode cL_law 875 = .ok (.iaload, 1) := by decide +kernel
theorem dL_law_876 : decode cL_law 876 = .ok (.aload_n 0, 1) := by decide +kernel
theorem dL_law_877 : decode cL_law 877 = .ok (.iload_n 3, 1) := by decide +kernel
theorem dL_law_878 : decode cL_law 878 = .ok (.iconst 4, 1) := by decide +kernel
theorem dL_law_879 : decode cL_law 879 = .ok (.iadd, 1) := by decide +kernel
theorem dL_law_880 : decode cL_law 880 = .ok (.iaload, 1) := by decide +kernel
theorem dL_law_881 : decode cL_law 881 = .ok (.aload_n 0, 1) := by decide +kernel
theorem dL_law_882 : decode cL_law 882 = .ok (.iload_n 3, 1) := by decide +kernel
theorem dL_law_883 : decode cL_law 883 = .ok (.iconst 5, 1) := by decide +kernel
theorem dL_law_884 : decode cL_law 884 = .ok (.iadd, 1) := by decide +kernel
theorem dL_law_885 : decode cL_law 885 = .ok (.iaload, 1) := by decide +kernel
theorem dL_law_886 : decode cL_law 886 = .ok (.invokevirtual 96, 3) := by decide +kernel
theorem dL_law_889 : decode cL_law 889 = .ok (.aload_n 2, 1) := by decide +kernel
theorem dL_law_890 : decode cL_law 890 = .ok (.aload_n 0, 1) := by decide +kernel
theorem dL_law_891 : decode cL_law 891 = .ok (.iload_n 3, 1) := by decide +kernel
theorem dL_law_892 : decode cL_law 892 = .ok (.iconst 1, 1) := by decide +kernel
theorem dL_law_893 : decode cL_law 893 = .ok (.iadd, 1) := by decide +kernel
theorem dL_law_894 : decode cL_law 894 = .ok (.iaload, 1) := by decide +kernel
theorem dL_law_895 : decode cL_law 895 = .ok (.aload_n 0, 1) := by decide +kernel
theorem dL_law_896 : decode cL_law 896 = .ok (.iload_n 3, 1) := by decide +kernel
theorem dL_law_897 : decode cL_law 897 = .ok (.iconst 2, 1) := by decide +kernel
theorem dL_law_898 : decode cL_law 898 = .ok (.iadd, 1) := by decide +kernel
theorem dL_law_899 : decode cL_law 899 = .ok (.iaload, 1) := by decide +kernel
theorem dL_law_900 : decode cL_law 900 = .ok (.aload_n 0, 1) := by decide +kernel
theorem dL_law_901 : decode cL_law 901 = .ok (.iload_n 3, 1) := by decide +kernel
theorem dL_law_902 : decode cL_law 902 = .ok (.iconst 3, 1) := by decide +kernel
theorem dL_law_903 : decode cL_law 903 = .ok (.iadd, 1) := by decide +kernel
theorem dL_law_904 : decode cL_law 904 = .ok (.iaload, 1) := by decide +kernel
theorem dL_law_905 : decode cL_law 905 = .ok (.aload_n 0, 1) := by decide +kernel
theorem dL_law_906 : decode cL_law 906 = .ok (.iload_n 3, 1) := by decide +kernel
theorem dL_law_907 : decode cL_law 907 = .ok (.iconst 4, 1) := by decide +kernel
theorem dL_law_908 : decode cL_law 908 = .ok (.iadd, 1) := by decide +kernel
theorem dL_law_909 : decode cL_law 909 = .ok (.iaload, 1) := by decide +kernel
theorem dL_law_910 : decode cL_law 910 = .ok (.aload_n 0, 1) := by decide +kernel
theorem dL_law_911 : decode cL_law 911 = .ok (.iload_n 3, 1) := by decide +kernel
theorem dL_law_912 : decode cL_law 912 = .ok (.iconst 5, 1) := by decide +kernel
theorem dL_law_913 : decode cL_law 913 = .ok (.iadd, 1) := by decide +kernel
theorem dL_law_914 : decode cL_law 914 = .ok (.iaload, 1) := by decide +kernel
theorem dL_law_915 : decode cL_law 915 = .ok (.invokevirtual 100, 3) := by decide +kernel
theorem dL_law_918 : decode cL_law 918 = .ok (.if_icmp .eq 536, 3) := by decide +kernel
theorem dL_law_921 : decode cL_law 921 = .ok (.iconst 0, 1) := by decide +kernel
theorem dL_law_922 : decode cL_law 922 = .ok (.ireturn, 1) := by decide +kernel
theorem dL_law_923 : decode cL_law 923 = .ok (.aload_n 1, 1) := by decide +kernel
theorem dL_law_924 : decode cL_law 924 = .ok (.aload_n 0, 1) := by decide +kernel
theorem dL_law_925 : decode cL_law 925 = .ok (.iload_n 3, 1) := by decide +kernel
theorem dL_law_926 : decode cL_law 926 = .ok (.iconst 1, 1) := by decide +kernel
theorem dL_law_927 : decode cL_law 927 = .ok (.iadd, 1) := by decide +kernel
theorem dL_law_928 : decode cL_law 928 = .ok (.iaload, 1) := by decide +kernel
theorem dL_law_929 : decode cL_law 929 = .ok (.invokevirtual 101, 3) := by decide +kernel
theorem dL_law_932 : decode cL_law 932 = .ok (.aload_n 2, 1) := by decide +kernel
theorem dL_law_933 : decode cL_law 933 = .ok (.aload_n 0, 1) := by decide +kernel
theorem dL_law_934 : decode cL_law 934 = .ok (.iload_n 3, 1) := by decide +kernel
theorem dL_law_935 : decode cL_law 935 = .ok (.iconst 1, 1) := by decide +kernel
theorem dL_law_936 : decode cL_law 936 = .ok (.iadd, 1) := by decide +kernel
theorem dL_law_937 : decode cL_law 937 = .ok (.iaload, 1) := by decide +kernel
theorem dL_law_938 : decode cL_law 938 = .ok (.invokevirtual 104, 3) := by decide +kernel
theorem dL_law_941 : decode cL_law 941 = .ok (.if_icmp .eq 513, 3) := by decide +kernel
theorem dL_law_944 : decode cL_law 944 = .ok (.iconst 0, 1) := by decide +kernel
theorem dL_law_945 : decode cL_law 945 = .ok (.ireturn, 1) := by decide +kernel
theorem dL_law_946 : decode cL_law 946 = .ok (.aload_n 1, 1) := by decide +kernel
theorem dL_law_947 : decode cL_law 947 = .ok (.aload_n 0, 1) := by decide +kernel
theorem dL_law_948 : decode cL_law 948 = .ok (.iload_n 3, 1) := by decide +kernel
theorem dL_law_949 : decode cL_law 949 = .ok (.iconst 1, 1) := by decide +kernel
theorem dL_law_950 : decode cL_law 950 = .ok (.iadd, 1) := by decide +kernel
theorem dL_law_951 : decode cL_law 951 = .ok (.iaload, 1) := by decide +kernel
theorem dL_law_952 : decode cL_law 952 = .ok (.aload_n 0, 1) := by decide +kernel
theorem dL_law_953 : decode cL_law 953 = .ok (.iload_n 3, 1) := by decide +kernel
theorem dL_law_954 : decode cL_law 954 = .ok (.iconst 2, 1) := by decide +kernel
theorem dL_law_955 : decode cL_law 955 = .ok (.iadd, 1) := by decide +kernel
theorem dL_law_956 : decode cL_law 956 = .ok (.iaload, 1) := by decide +kernel
theorem dL_law_957 : decode cL_law 957 = .ok (.invokevirtual 105, 3) := by decide +kernel
theorem dL_law_960 : decode cL_law 960 = .ok (.aload_n 2, 1) := by decide +kernel
theorem dL_law_961 : decode cL_law 961 = .ok (.aload_n 0, 1) := by decide +kernel
theorem dL_law_962 : decode cL_law 962 = .ok (.iload_n 3, 1) := by decide +kernel
theorem dL_law_963 : decode cL_law 963 = .ok (.iconst 1, 1) := by decide +kernel
theorem dL_law_964 : decode cL_law 964 = .ok (.iadd, 1) := by decide +kernel
theorem dL_law_965 : decode cL_law 965 = .ok (.iaload, 1) := by decide +kernel
theorem dL_law_966 : decode cL_law 966 = .ok (.aload_n 0, 1) := by decide +kernel
theorem dL_law_967 : decode cL_law 967 = .ok (.iload_n 3, 1) := by decide +kernel
theorem dL_law_968 : decode cL_law 968 = .ok (.iconst 2, 1) := by decide +kernel
theorem dL_law_969 : decode cL_law 969 = .ok (.iadd, 1) := by decide +kernel
theorem dL_law_970 : decode cL_law 970 = .ok (.iaload, 1) := by decide +kernel
theorem dL_law_971 : decode cL_law 971 = .ok (.invokevirtual 108, 3) := by decide +kernel
theorem dL_law_974 : decode cL_law 974 = .ok (.if_icmp .eq 480, 3) := by decide +kernel
theorem dL_law_977 : decode cL_law 977 = .ok (.iconst 0, 1) := by decide +kernel
theorem dL_law_978 : decode cL_law 978 = .ok (.ireturn, 1) := by decide +kernel
theorem dL_law_979 : decode cL_law 979 = .ok (.aload_n 1, 1) := by decide +kernel
theorem dL_law_980 : decode cL_law 980 = .ok (.aload_n 0, 1) := by decide +kernel
theorem dL_law_981 : decode cL_law 981 = .ok (.iload_n 3, 1) := by decide +kernel
theorem dL_law_982 : decode cL_law 982 = .ok (.iconst 1, 1) := by decide +kernel
theorem dL_law_983 : decode cL_law 983 = .ok (.iadd, 1) := by decide +kernel
theorem dL_law_984 : decode cL_law 984 = .ok (.iaload, 1) := by decide +kernel
theorem dL_law_985 : decode cL_law 985 = .ok (.aload_n 0, 1) := by decide +kernel
theorem dL_law_986 : decode cL_law 986 = .ok (.iload_n 3, 1) := by decide +kernel
theorem dL_law_987 : decode cL_law 987 = .ok (.iconst 2, 1) := by decide +kernel
theorem dL_law_988 : decode cL_law 988 = .ok (.iadd, 1) := by decide +kernel
theorem dL_law_989 : decode cL_law 989 = .ok (.iaload, 1) := by decide +kernel
theorem dL_law_990 : decode cL_law 990 = .ok (.invokevirtual 109, 3) := by decide +kernel
theorem dL_law_993 : decode cL_law 993 = .ok (.aload_n 2, 1) := by decide +kernel
theorem dL_law_994 : decode cL_law 994 = .ok (.aload_n 0, 1) := by decide +kernel
theorem dL_law_995 : decode cL_law 995 = .ok (.iload_n 3, 1) := by decide +kernel
theorem dL_law_996 : decode cL_law 996 = .ok (.iconst 1, 1) := by decide +kernel
theorem dL_law_997 : decode cL_law 997 = .ok (.iadd, 1) := by decide +kernel
theorem dL_law_998 : decode cL_law 998 = .ok (.iaload, 1) := by decide +kernel
theorem dL_law_999 : decode cL_law 999 = .ok (.aload_n 0, 1) := by decide +kernel
theorem dL_law_1000 : decode cL_law 1000 = .ok (.iload_n 3, 1) := by decide +kernel
theorem dL_law_1001 : decode cL_law 1001 = .ok (.iconst 2, 1) := by decide +kernel
theorem dL_law_1002 : decode cL_law 1002 = .ok (.iadd, 1) := by decide +kernel
theorem dL_law_1003 : decode cL_law 1003 = .ok (.iaload, 1) := by decide +kernel
theorem dL_law_1004 : decode cL_law 1004 = .ok (.invokevirtual 112, 3) := by decide +kernel
theorem dL_law_1007 : decode cL_law 1007 = .ok (.if_icmp .eq 447, 3) := by decide +kernel
theorem dL_law_1010 : decode cL_law 1010 = .ok (.iconst 0, 1) := by decide +kernel
theorem dL_law_1011 : decode cL_law 1011 = .ok (.ireturn, 1) := by decide +kernel
theorem dL_law_1012 : decode cL_law 1012 = .ok (.aload_n 1, 1) := by decide +kernel
theorem dL_law_1013 : decode cL_law 1013 = .ok (.aload_n 0, 1) := by decide +kernel
theorem dL_law_1014 : decode cL_law 1014 = .ok (.iload_n 3, 1) := by decide +kernel
theorem dL_law_1015 : decode cL_law 1015 = .ok (.iconst 1, 1) := by decide +kernel
theorem dL_law_1016 : decode cL_law 1016 = .ok (.iadd, 1) := by decide +kernel
theorem dL_law_1017 : decode cL_law 1017 = .ok (.iaload, 1) := by decide +kernel
theorem dL_law_1018 : decode cL_law 1018 = .ok (.aload_n 0, 1) := by decide +kernel
theorem dL_law_1019 : decode cL_law 1019 = .ok (.iload_n 3, 1) := by decide +kernel
theorem dL_law_1020 : decode cL_law 1020 = .ok (.iconst 2, 1) := by decide +kernel
theorem dL_law_1021 : decode cL_law 1021 = .ok (.iadd, 1) := by decide +kernel
theorem dL_law_1022 : decode cL_law 1022 = .ok (.iaload, 1) := by decide +kernel
theorem dL_law_1023 : decode cL_law 1023 = .ok (.aload_n 0, 1) := by decide +kernel
theorem dL_law_1024 : decode cL_law 1024 = .ok (.iload_n 3, 1) := by decide +kernel
theorem dL_law_1025 : decode cL_law 1025 = .ok (.iconst 3, 1) := by decide +kernel
theorem dL_law_1026 : decode cL_law 1026 = .ok (.iadd, 1) := by decide +kernel
theorem dL_law_1027 : decode cL_law 1027 = .ok (.iaload, 1) := by decide +kernel
theorem dL_law_1028 : decode cL_law 1028 = .ok (.invokevirtual 113, 3) := by decide +kernel
theorem dL_law_1031 : decode cL_law 1031 = .ok (.aload_n 2, 1) := by decide +kernel
theorem dL_law_1032 : decode cL_law 1032 = .ok (.aload_n 0, 1) := by decide +kernel
theorem dL_law_1033 : decode cL_law 1033 = .ok (.iload_n 3, 1) := by decide +kernel
theorem dL_law_1034 : decode cL_law 1034 = .ok (.iconst 1, 1) := by decide +kernel
theorem dL_law_1035 : decode cL_law 1035 = .ok (.iadd, 1) := by decide +kernel
theorem dL_law_1036 : decode cL_law 1036 = .ok (.iaload, 1) := by decide +kernel
theorem dL_law_1037 : decode cL_law 1037 = .ok (.aload_n 0, 1) := by decide +kernel
theorem dL_law_1038 : decode cL_law 1038 = .ok (.iload_n 3, 1) := by decide +kernel
theorem dL_law_1039 : decode cL_law 1039 = .ok (.iconst 2, 1) := by decide +kernel
theorem dL_law_1040 : decode cL_law 1040 = .ok (.iadd, 1) := by decide +kernel
theorem dL_law_1041 : decode cL_law 1041 = .ok (.iaload, 1) := by decide +kernel
theorem dL_law_1042 : decode cL_law 1042 = .ok (.aload_n 0, 1) := by decide +kernel
theorem dL_law_1043 : decode cL_law 1043 = .ok (.iload_n 3, 1) := by decide +kernel
theorem dL_law_1044 : decode cL_law 1044 = .ok (.iconst 3, 1) := by decide +kernel
theorem dL_law_1045 : decode cL_law 1045 = .ok (.iadd, 1) := by decide +kernel
theorem dL_law_1046 : decode cL_law 1046 = .ok (.iaload, 1) := by decide +kernel
theorem dL_law_1047 : decode cL_law 1047 = .ok (.invokevirtual 116, 3) := by decide +kernel
theorem dL_law_1050 : decode cL_law 1050 = .ok (.if_icmp .eq 404, 3) := by decide +kernel
theorem dL_law_1053 : decode cL_law 1053 = .ok (.iconst 0, 1) := by decide +kernel
theorem dL_law_1054 : decode cL_law 1054 = .ok (.ireturn, 1) := by decide +kernel
theorem dL_law_1055 : decode cL_law 1055 = .ok (.aload_n 1, 1) := by decide +kernel
theorem dL_law_1056 : decode cL_law 1056 = .ok (.aload_n 0, 1) := by decide +kernel
theorem dL_law_1057 : decode cL_law 1057 = .ok (.iload_n 3, 1) := by decide +kernel
theorem dL_law_1058 : decode cL_law 1058 = .ok (.iconst 1, 1) := by decide +kernel
theorem dL_law_1059 : decode cL_law 1059 = .ok (.iadd, 1) := by decide +kernel
theorem dL_law_1060 : decode cL_law 1060 = .ok (.iaload, 1) := by decide +kernel
theorem dL_law_1061 : decode cL_law 1061 = .ok (.aload_n 0, 1) := by decide +kernel
theorem dL_law_1062 : decode cL_law 1062 = .ok (.iload_n 3, 1) := by decide +kernel
theorem dL_law_1063 : decode cL_law 1063 = .ok (.iconst 2, 1) := by decide +kernel
theorem dL_law_1064 : decode cL_law 1064 = .ok (.iadd, 1) := by decide +kernel
theorem dL_law_1065 : decode cL_law 1065 = .ok (.iaload, 1) := by decide +kernel
theorem dL_law_1066 : decode cL_law 1066 = .ok (.aload_n 0, 1) := by decide +kernel
theorem dL_law_1067 : decode cL_law 1067 = .ok (.iload_n 3, 1) := by decide +kernel
theorem dL_law_1068 : decode cL_law 1068 = .ok (.iconst 3, 1) := by decide +kernel
theorem dL_law_1069 : decode cL_law 1069 = .ok (.iadd, 1) := by decide +kernel
theorem dL_law_1070 : decode cL_law 1070 = .ok (.iaload, 1) := by decide +kernel
theorem dL_law_1071 : decode cL_law 1071 = .ok (.invokevirtual 117, 3) := by decide +kernel
theorem dL_law_1074 : decode cL_law 1074 = .ok (.aload_n 2, 1) := by decide +kernel
theorem dL_law_1075 : decode cL_law 1075 = .ok (.aload_n 0, 1) := by decide +kernel
theorem dL_law_1076 : decode cL_law 1076 = .ok (.iload_n 3, 1) := by decide +kernel
theorem dL_law_1077 : decode cL_law 1077 = .ok (.iconst 1, 1) := by decide +kernel
theorem dL_law_1078 : decode cL_law 1078 = .ok (.iadd, 1) := by decide +kernel
theorem dL_law_1079 : decode cL_law 1079 = .ok (.iaload, 1) := by decide +kernel
theorem dL_law_1080 : decode cL_law 1080 = .ok (.aload_n 0, 1) := by decide +kernel
theorem dL_law_1081 : decode cL_law 1081 = .ok (.iload_n 3, 1) := by decide +kernel
theorem dL_law_1082 : decode cL_law 1082 = .ok (.iconst 2, 1) := by decide +kernel
theorem dL_law_1083 : decode cL_law 1083 = .ok (.iadd, 1) := by decide +kernel
theorem dL_law_1084 : decode cL_law 1084 = .ok (.iaload, 1) := by decide +kernel
theorem dL_law_1085 : decode cL_law 1085 = .ok (.aload_n 0, 1) := by decide +kernel
theorem dL_law_1086 : decode cL_law 1086 = .ok (.iload_n 3, 1) := by decide +kernel
theorem dL_law_1087 : decode cL_law 1087 = .ok (.iconst 3, 1) := by decide +kernel
theorem dL_law_1088 : decode cL_law 1088 = .ok (.iadd, 1) := by decide +kernel
theorem dL_law_1089 : decode cL_law 1089 = .ok (.iaload, 1) := by decide +kernel
theorem dL_law_1090 : decode cL_law 1090 = .ok (.invokevirtual 120, 3) := by decide +kernel
theorem dL_law_1093 : decode cL_law 1093 = .ok (.if_icmp .eq 361, 3) := by decide +kernel
theorem dL_law_1096 : decode cL_law 1096 = .ok (.iconst 0, 1) := by decide +kernel
theorem dL_law_1097 : decode cL_law 1097 = .ok (.ireturn, 1) := by decide +kernel
theorem dL_law_1098 : decode cL_law 1098 = .ok (.aload_n 1, 1) := by decide +kernel
theorem dL_law_1099 : decode cL_law 1099 = .ok (.invokevirtual 121, 3) := by decide +kernel
theorem dL_law_1102 : decode cL_law 1102 = .ok (.aload_n 2, 1) := by decide +kernel
theorem dL_law_1103 : decode cL_law 1103 = .ok (.invokevirtual 124, 3) := by decide +kernel
theorem dL_law_1106 : decode cL_law 1106 = .ok (.if_icmp .eq 348, 3) := by decide +kernel
theorem dL_law_1109 : decode cL_law 1109 = .ok (.iconst 0, 1) := by decide +kernel
theorem dL_law_1110 : decode cL_law 1110 = .ok (.ireturn, 1) := by decide +kernel
theorem dL_law_1111 : decode cL_law 1111 = .ok (.aload_n 1, 1) := by decide +kernel
theorem dL_law_1112 : decode cL_law 1112 = .ok (.aload_n 0, 1) := by decide +kernel
theorem dL_law_1113 : decode cL_law 1113 = .ok (.iload_n 3, 1) := by decide +kernel
theorem dL_law_1114 : decode cL_law 1114 = .ok (.iconst 1, 1) := by decide +kernel
theorem dL_law_1115 : decode cL_law 1115 = .ok (.iadd, 1) := by decide +kernel
theorem dL_law_1116 : decode cL_law 1116 = .ok (.iaload, 1) := by decide +kernel
theorem dL_law_1117 : decode cL_law 1117 = .ok (.aload_n 0, 1) := by decide +kernel
theorem dL_law_1118 : decode cL_law 1118 = .ok (.iload_n 3, 1) := by decide +kernel
theorem dL_law_1119 : decode cL_law 1119 = .ok (.iconst 2, 1) := by decide +kernel
theorem dL_law_1120 : decode cL_law 1120 = .ok (.iadd, 1) := by decide +kernel
theorem dL_law_1121 : decode cL_law 1121 = .ok (.iaload, 1) := by decide +kernel
theorem dL_law_1122 : decode cL_law 1122 = .ok (.aload_n 0, 1) := by decide +kernel
theorem dL_law_1123 : decode cL_law 1123 = .ok (.iload_n 3, 1) := by decide +kernel
theorem dL_law_1124 : decode cL_law 1124 = .ok (.iconst 3, 1) := by decide +kernel
theorem dL_law_1125 : decode cL_law 1125 = .ok (.iadd, 1) := by decide +kernel
theorem dL_law_1126 : decode cL_law 1126 = .ok (.iaload, 1) := by decide +kernel
theorem dL_law_1127 : decode cL_law 1127 = .ok (.invokevirtual 125, 3) := by decide +kernel
theorem dL_law_1130 : decode cL_law 1130 = .ok (.aload_n 2, 1) := by decide +kernel
theorem dL_law_1131 : decode cL_law 1131 = .ok (.aload_n 0, 1) := by decide +kernel
theorem dL_law_1132 : decode cL_law 1132 = .ok (.iload_n 3, 1) := by decide +kernel
theorem dL_law_1133 : decode cL_law 1133 = .ok (.iconst 1, 1) := by decide +kernel
theorem dL_law_1134 : decode cL_law 1134 = .ok (.iadd, 1) := by decide +kernel
theorem dL_law_1135 : decode cL_law 1135 = .ok (.iaload, 1) := by decide +kernel
theorem dL_law_1136 : decode cL_law 1136 = .ok (.aload_n 0, 1) := by decide +kernel
theorem dL_law_1137 : decode cL_law 1137 = .ok (.iload_n 3, 1) := by decide +kernel
theorem dL_law_1138 : decode cL_law 1138 = .ok (.iconst 2, 1) := by decide +kernel
theorem dL_law_1139 : decode cL_law 1139 = .ok (.iadd, 1) := by decide +kernel
theorem dL_law_1140 : decode cL_law 1140 = .ok (.iaload, 1) := by decide +kernel
theorem dL_law_1141 : decode cL_law 1141 = .ok (.aload_n 0, 1) := by decide +kernel
theorem dL_law_1142 : decode cL_law 1142 = .ok (.iload_n 3, 1) := by decide +kernel
theorem dL_law_1143 : decode cL_law 1143 = .ok (.iconst 3, 1) := by decide +kernel
theorem dL_law_1144 : decode cL_law 1144 = .ok (.iadd, 1) := by decide +kernel
theorem dL_law_1145 : decode cL_law 1145 = .ok (.iaload, 1) := by decide +kernel
theorem dL_law_1146 : decode cL_law 1146 = .ok (.invokevirtual 128, 3) := by decide +kernel
theorem dL_law_1149 : decode cL_law 1149 = .ok (.if_icmp .eq 305, 3) := by decide +kernel
theorem dL_law_1152 : decode cL_law 1152 = .ok (.iconst 0, 1) := by decide +kernel
theorem dL_law_1153 : decode cL_law 1153 = .ok (.ireturn, 1) := by decide +kernel
theorem dL_law_1154 : decode cL_law 1154 = .ok (.aload_n 1, 1) := by decide +kernel
theorem dL_law_1155 : decode cL_law 1155 = .ok (.aload_n 0, 1) := by decide +kernel
theorem dL_law_1156 : decode cL_law 1156 = .ok (.iload_n 3, 1) := by decide +kernel
theorem dL_law_1157 : decode cL_law 1157 = .ok (.iconst 1, 1) := by decide +kernel
theorem dL_law_1158 : decode cL_law 1158 = .ok (.iadd, 1) := by decide +kernel
theorem dL_law_1159 : decode cL_law 1159 = .ok (.iaload, 1) := by decide +kernel
theorem dL_law_1160 : decode cL_law 1160 = .ok (.invokevirtual 129, 3) := by decide +kernel
theorem dL_law_1163 : decode cL_law 1163 = .ok (.aload_n 2, 1) := by decide +kernel
theorem dL_law_1164 : decode cL_law 1164 = .ok (.aload_n 0, 1) := by decide +kernel
theorem dL_law_1165 : decode cL_law 1165 = .ok (.iload_n 3, 1) := by decide +kernel
theorem dL_law_1166 : decode cL_law 1166 = .ok (.iconst 1, 1) := by decide +kernel
theorem dL_law_1167 : decode cL_law 1167 = .ok (.iadd, 1) := by decide +kernel
theorem dL_law_1168 : decode cL_law 1168 = .ok (.iaload, 1) := by decide +kernel
theorem dL_law_1169 : decode cL_law 1169 = .ok (.invokevirtual 132, 3) := by decide +kernel
theorem dL_law_1172 : decode cL_law 1172 = .ok (.if_icmp .eq 282, 3) := by decide +kernel
theorem dL_law_1175 : decode cL_law 1175 = .ok (.iconst 0, 1) := by decide +kernel
theorem dL_law_1176 : decode cL_law 1176 = .ok (.ireturn, 1) := by decide +kernel
theorem dL_law_1177 : decode cL_law 1177 = .ok (.aload_n 1, 1) := by decide +kernel
theorem dL_law_1178 : decode cL_law 1178 = .ok (.aload_n 0, 1) := by decide +kernel
theorem dL_law_1179 : decode cL_law 1179 = .ok (.iload_n 3, 1) := by decide +kernel
theorem dL_law_1180 : decode cL_law 1180 = .ok (.iconst 1, 1) := by decide +kernel
theorem dL_law_1181 : decode cL_law 1181 = .ok (.iadd, 1) := by decide +kernel
theorem dL_law_1182 : decode cL_law 1182 = .ok (.iaload, 1) := by decide +kernel
theorem dL_law_1183 : decode cL_law 1183 = .ok (.invokevirtual 133, 3) := by decide +kernel
theorem dL_law_1186 : decode cL_law 1186 = .ok (.aload_n 2, 1) := by decide +kernel
theorem dL_law_1187 : decode cL_law 1187 = .ok (.aload_n 0, 1) := by decide +kernel
theorem dL_law_1188 : decode cL_law 1188 = .ok (.iload_n 3, 1) := by decide +kernel
theorem dL_law_1189 : decode cL_law 1189 = .ok (.iconst 1, 1) := by decide +kernel
theorem dL_law_1190 : decode cL_law 1190 = .ok (.iadd, 1) := by decide +kernel
theorem dL_law_1191 : decode cL_law 1191 = .ok (.iaload, 1) := by decide +kernel
theorem dL_law_1192 : decode cL_law 1192 = .ok (.invokevirtual 136, 3) := by decide +kernel
theorem dL_law_1195 : decode cL_law 1195 = .ok (.if_icmp .eq 259, 3) := by decide +kernel
theorem dL_law_1198 : decode cL_law 1198 = .ok (.iconst 0, 1) := by decide +kernel
theorem dL_law_1199 : decode cL_law 1199 = .ok (.ireturn, 1) := by decide +kernel
theorem dL_law_1200 : decode cL_law 1200 = .ok (.aload_n 1, 1) := by decide +kernel
theorem dL_law_1201 : decode cL_law 1201 = .ok (.aload_n 0, 1) := by decide +kernel
theorem dL_law_1202 : decode cL_law 1202 = .ok (.iload_n 3, 1) := by decide +kernel
theorem dL_law_1203 : decode cL_law 1203 = .ok (.iconst 1, 1) := by decide +kernel
theorem dL_law_1204 : decode cL_law 1204 = .ok (.iadd, 1) := by decide +kernel
theorem dL_law_1205 : decode cL_law 1205 = .ok (.iaload, 1) := by decide +kernel
theorem dL_law_1206 : decode cL_law 1206 = .ok (.invokevirtual 137, 3) := by decide +kernel
theorem dL_law_1209 : decode cL_law 1209 = .ok (.aload_n 2, 1) := by decide +kernel
theorem dL_law_1210 : decode cL_law 1210 = .ok (.aload_n 0, 1) := by decide +kernel
theorem dL_law_1211 : decode cL_law 1211 = .ok (.iload_n 3, 1) := by decide +kernel
theorem dL_law_1212 : decode cL_law 1212 = .ok (.iconst 1, 1) := by decide +kernel
theorem dL_law_1213 : decode cL_law 1213 = .ok (.iadd, 1) := by decide +kernel
theorem dL_law_1214 : decode cL_law 1214 = .ok (.iaload, 1) := by decide +kernel
theorem dL_law_1215 : decode cL_law 1215 = .ok (.invokevirtual 140, 3) := by decide +kernel
theorem dL_law_1218 : decode cL_law 1218 = .ok (.if_icmp .eq 236, 3) := by decide +kernel
theorem dL_law_1221 : decode cL_law 1221 = .ok (.iconst 0, 1) := by decide +kernel
theorem dL_law_1222 : decode cL_law 1222 = .ok (.ireturn, 1) := by decide +kernel
theorem dL_law_1223 : decode cL_law 1223 = .ok (.aload_n 1, 1) := by decide +kernel
theorem dL_law_1224 : decode cL_law 1224 = .ok (.aload_n 0, 1) := by decide +kernel
theorem dL_law_1225 : decode cL_law 1225 = .ok (.iload_n 3, 1) := by decide +kernel
theorem dL_law_1226 : decode cL_law 1226 = .ok (.iconst 1, 1) := by decide +kernel
theorem dL_law_1227 : decode cL_law 1227 = .ok (.iadd, 1) := by decide +kernel
theorem dL_law_1228 : decode cL_law 1228 = .ok (.iaload, 1) := by decide +kernel
theorem dL_law_1229 : decode cL_law 1229 = .ok (.invokevirtual 141, 3) := by decide +kernel
theorem dL_law_1232 : decode cL_law 1232 = .ok (.aload_n 2, 1) := by decide +kernel
theorem dL_law_1233 : decode cL_law 1233 = .ok (.aload_n 0, 1) := by decide +kernel
theorem dL_law_1234 : decode cL_law 1234 = .ok (.iload_n 3, 1) := by decide +kernel
theorem dL_law_1235 : decode cL_law 1235 = .ok (.iconst 1, 1) := by decide +kernel
theorem dL_law_1236 : decode cL_law 1236 = .ok (.iadd, 1) := by decide +kernel
theorem dL_law_1237 : decode cL_law 1237 = .ok (.iaload, 1) := by decide +kernel
theorem dL_law_1238 : decode cL_law 1238 = .ok (.invokevirtual 144, 3) := by decide +kernel
theorem dL_law_1241 : decode cL_law 1241 = .ok (.if_icmp .eq 213, 3) := by decide +kernel
theorem dL_law_1244 : decode cL_law 1244 = .ok (.iconst 0, 1) := by decide +kernel
theorem dL_law_1245 : decode cL_law 1245 = .ok (.ireturn, 1) := by decide +kernel
theorem dL_law_1246 : decode cL_law 1246 = .ok (.aload_n 1, 1) := by decide +kernel
theorem dL_law_1247 : decode cL_law 1247 = .ok (.aload_n 0, 1) := by decide +kernel
theorem dL_law_1248 : decode cL_law 1248 = .ok (.iload_n 3, 1) := by decide +kernel
theorem dL_law_1249 : decode cL_law 1249 = .ok (.iconst 1, 1) := by decide +kernel
theorem dL_law_1250 : decode cL_law 1250 = .ok (.iadd, 1) := by decide +kernel
theorem dL_law_1251 : decode cL_law 1251 = .ok (.iaload, 1) := by decide +kernel
theorem dL_law_1252 : decode cL_law 1252 = .ok (.aload_n 0, 1) := by decide +kernel
theorem dL_law_1253 : decode cL_law 1253 = .ok (.iload_n 3, 1) := by decide +kernel
theorem dL_law_1254 : decode cL_law 1254 = .ok (.iconst 2, 1) := by decide +kernel
theorem dL_law_1255 : decode cL_law 1255 = .ok (.iadd, 1) := by decide +kernel
theorem dL_law_1256 : decode cL_law 1256 = .ok (.iaload, 1) := by decide +kernel
theorem dL_law_1257 : decode cL_law 1257 = .ok (.aload_n 0, 1) := by decide +kernel
theorem dL_law_1258 : decode cL_law 1258 = .ok (.iload_n 3, 1) := by decide +kernel
theorem dL_law_1259 : decode cL_law 1259 = .ok (.iconst 3, 1) := by decide +kernel
theorem dL_law_1260 : decode cL_law 1260 = .ok (.iadd, 1) := by decide +kernel
theorem dL_law_1261 : decode cL_law 1261 = .ok (.iaload, 1) := by decide +kernel
theorem dL_law_1262 : decode cL_law 1262 = .ok (.aload_n 0, 1) := by decide +kernel
theorem dL_law_1263 : decode cL_law 1263 = .ok (.iload_n 3, 1) := by decide +kernel
theorem dL_law_1264 : decode cL_law 1264 = .ok (.iconst 4, 1) := by decide +kernel
theorem dL_law_1265 : decode cL_law 1265 = .ok (.iadd, 1) := by decide +kernel
theorem dL_law_1266 : decode cL_law 1266 = .ok (.iaload, 1) := by decide +kernel
theorem dL_law_1267 : decode cL_law 1267 = .ok (.invokevirtual 145, 3) := by decide +kernel
theorem dL_law_1270 : decode cL_law 1270 = .ok (.aload_n 2, 1) := by decide +kernel
theorem dL_law_1271 : decode cL_law 1271 = .ok (.aload_n 0, 1) := by decide +kernel
theorem dL_law_1272 : decode cL_law 1272 = .ok (.iload_n 3, 1) := by decide +kernel
theorem dL_law_1273 : decode cL_law 1273 = .ok (.iconst 1, 1) := by decide +kernel
theorem dL_law_1274 : decode cL_law 1274 = .ok (.iadd, 1) := by decide +kernel
theorem dL_law_1275 : decode cL_law 1275 = .ok (.iaload, 1) := by decide +kernel
theorem dL_law_1276 : decode cL_law 1276 = .ok (.aload_n 0, 1) := by decide +kernel
theorem dL_law_1277 : decode cL_law 1277 = .ok (.iload_n 3, 1) := by decide +kernel
theorem dL_law_1278 : decode cL_law 1278 = .ok (.iconst 2, 1) := by decide +kernel
theorem dL_law_1279 : decode cL_law 1279 = .ok (.iadd, 1) := by decide +kernel
theorem dL_law_1280 : decode cL_law 1280 = .ok (.iaload, 1) := by decide +kernel
theorem dL_law_1281 : decode cL_law 1281 = .ok (.aload_n 0, 1) := by decide +kernel
theorem dL_law_1282 : decode cL_law 1282 = .ok (.iload_n 3, 1) := by decide +kernel
theorem dL_law_1283 : decode cL_law 1283 = .ok (.iconst 3, 1) := by decide +kernel
theorem dL_law_1284 : decode cL_law 1284 = .ok (.iadd, 1) := by decide +kernel
theorem dL_law_1285 : decode cL_law 1285 = .ok (.iaload, 1) := by decide +kernel
theorem dL_law_1286 : decode cL_law 1286 = .ok (.aload_n 0, 1) := by decide +kernel
theorem dL_law_1287 : decode cL_law 1287 = .ok (.iload_n 3, 1) := by decide +kernel
theorem dL_law_1288 : decode cL_law 1288 = .ok (.iconst 4, 1) := by decide +kernel
theorem dL_law_1289 : decode cL_law 1289 = .ok (.iadd, 1) := by decide +kernel
theorem dL_law_1290 : decode cL_law 1290 = .ok (.iaload, 1) := by decide +kernel
theorem dL_law_1291 : decode cL_law 1291 = .ok (.invokevirtual 149, 3) := by decide +kernel
theorem dL_law_1294 : decode cL_law 1294 = .ok (.if_icmp .eq 160, 3) := by decide +kernel
theorem dL_law_1297 : decode cL_law 1297 = .ok (.iconst 0, 1) := by decide +kernel
theorem dL_law_1298 : decode cL_law 1298 = .ok (.ireturn, 1) := by decide +kernel
theorem dL_law_1299 : decode cL_law 1299 = .ok (.aload_n 1, 1) := by decide +kernel
theorem dL_law_1300 : decode cL_law 1300 = .ok (.aload_n 0, 1) := by decide +kernel
theorem dL_law_1301 : decode cL_law 1301 = .ok (.iload_n 3, 1) := by decide +kernel
theorem dL_law_1302 : decode cL_law 1302 = .ok (.iconst 1, 1) := by decide +kernel
theorem dL_law_1303 : decode cL_law 1303 = .ok (.iadd, 1) := by decide +kernel
theorem dL_law_1304 : decode cL_law 1304 = .ok (.iaload, 1) := by decide +kernel
theorem dL_law_1305 : decode cL_law 1305 = .ok (.aload_n 0, 1) := by decide +kernel
theorem dL_law_1306 : decode cL_law 1306 = .ok (.iload_n 3, 1) := by decide +kernel
theorem dL_law_1307 : decode cL_law 1307 = .ok (.iconst 2, 1) := by decide +kernel
theorem dL_law_1308 : decode cL_law 1308 = .ok (.iadd, 1) := by decide +kernel
theorem dL_law_1309 : decode cL_law 1309 = .ok (.iaload, 1) := by decide +kernel
theorem dL_law_1310 : decode cL_law 1310 = .ok (.aload_n 0, 1) := by decide +kernel
theorem dL_law_1311 : decode cL_law 1311 = .ok (.iload_n 3, 1) := by decide +kernel
theorem dL_law_1312 : decode cL_law 1312 = .ok (.iconst 3, 1) := by decide +kernel
theorem dL_law_1313 : decode cL_law 1313 = .ok (.iadd, 1) := by decide +kernel
theorem dL_law_1314 : decode cL_law 1314 = .ok (.iaload, 1) := by decide +kernel
theorem dL_law_1315 : decode cL_law 1315 = .ok (.invokevirtual 150, 3) := by decide +kernel
theorem dL_law_1318 : decode cL_law 1318 = .ok (.aload_n 2, 1) := by decide +kernel
theorem dL_law_1319 : decode cL_law 1319 = .ok (.aload_n 0, 1) := by decide +kernel
theorem dL_law_1320 : decode cL_law 1320 = .ok (.iload_n 3, 1) := by decide +kernel
theorem dL_law_1321 : decode cL_law 1321 = .ok (.iconst 1, 1) := by decide +kernel
theorem dL_law_1322 : decode cL_law 1322 = .ok (.iadd, 1) := by decide +kernel
theorem dL_law_1323 : decode cL_law 1323 = .ok (.iaload, 1) := by decide +kernel
theorem dL_law_1324 : decode cL_law 1324 = .ok (.aload_n 0, 1) := by decide +kernel
theorem dL_law_1325 : decode cL_law 1325 = .ok (.iload_n 3, 1) := by decide +kernel
theorem dL_law_1326 : decode cL_law 1326 = .ok (.iconst 2, 1) := by decide +kernel
theorem dL_law_1327 : decode cL_law 1327 = .ok (.iadd, 1) := by decide +kernel
theorem dL_law_1328 : decode cL_law 1328 = .ok (.iaload, 1) := by decide +kernel
theorem dL_law_1329 : decode cL_law 1329 = .ok (.aload_n 0, 1) := by decide +kernel
theorem dL_law_1330 : decode cL_law 1330 = .ok (.iload_n 3, 1) := by decide +kernel
theorem dL_law_1331 : decode cL_law 1331 = .ok (.iconst 3, 1) := by decide +kernel
theorem dL_law_1332 : decode cL_law 1332 = .ok (.iadd, 1) := by decide +kernel
theorem dL_law_1333 : decode cL_law 1333 = .ok (.iaload, 1) := by decide +kernel
theorem dL_law_1334 : decode cL_law 1334 = .ok (.invokevirtual 153, 3) := by decide +kernel
theorem dL_law_1337 : decode cL_law 1337 = .ok (.if_icmp .eq 117, 3) := by decide +kernel
theorem dL_law_1340 : decode cL_law 1340 = .ok (.iconst 0, 1) := by decide +kernel
theorem dL_law_1341 : decode cL_law 1341 = .ok (.ireturn, 1) := by decide +kernel
theorem dL_law_1342 : decode cL_law 1342 = .ok (.aload_n 1, 1) := by decide +kernel
theorem dL_law_1343 : decode cL_law 1343 = .ok (.aload_n 0, 1) := by decide +kernel
theorem dL_law_1344 : decode cL_law 1344 = .ok (.iload_n 3, 1) := by decide +kernel
theorem dL_law_1345 : decode cL_law 1345 = .ok (.iconst 1, 1) := by decide +kernel
theorem dL_law_1346 : decode cL_law 1346 = .ok (.iadd, 1) := by decide +kernel
theorem dL_law_1347 : decode cL_law 1347 = .ok (.iaload, 1) := by decide +kernel
theorem dL_law_1348 : decode cL_law 1348 = .ok (.aload_n 0, 1) := by decide +kernel
theorem dL_law_1349 : decode cL_law 1349 = .ok (.iload_n 3, 1) := by decide +kernel
theorem dL_law_1350 : decode cL_law 1350 = .ok (.iconst 2, 1) := by decide +kernel
theorem dL_law_1351 : decode cL_law 1351 = .ok (.iadd, 1) := by decide +kernel
theorem dL_law_1352 : decode cL_law 1352 = .ok (.iaload, 1) := by decide +kernel
theorem dL_law_1353 : decode cL_law 1353 = .ok (.aload_n 0, 1) := by decide +kernel
theorem dL_law_1354 : decode cL_law 1354 = .ok (.iload_n 3, 1) := by decide +kernel
theorem dL_law_1355 : decode cL_law 1355 = .ok (.iconst 3, 1) := by decide +kernel
theorem dL_law_1356 : decode cL_law 1356 = .ok (.iadd, 1) := by decide +kernel
theorem dL_law_1357 : decode cL_law 1357 = .ok (.iaload, 1) := by decide +kernel
theorem dL_law_1358 : decode cL_law 1358 = .ok (.invokevirtual 154, 3) := by decide +kernel
theorem dL_law_1361 : decode cL_law 1361 = .ok (.aload_n 2, 1) := by decide +kernel
theorem dL_law_1362 : decode cL_law 1362 = .ok (.aload_n 0, 1) := by decide +kernel
theorem dL_law_1363 : decode cL_law 1363 = .ok (.iload_n 3, 1) := by decide +kernel
theorem dL_law_1364 : decode cL_law 1364 = .ok (.iconst 1, 1) := by decide +kernel
theorem dL_law_1365 : decode cL_law 1365 = .ok (.iadd, 1) := by decide +kernel
theorem dL_law_1366 : decode cL_law 1366 = .ok (.iaload, 1) := by decide +kernel
theorem dL_law_1367 : decode cL_law 1367 = .ok (.aload_n 0, 1) := by decide +kernel
theorem dL_law_1368 : decode cL_law 1368 = .ok (.iload_n 3, 1) := by decide +kernel
theorem dL_law_1369 : decode cL_law 1369 = .ok (.iconst 2, 1) := by decide +kernel
theorem dL_law_1370 : decode cL_law 1370 = .ok (.iadd, 1) := by decide +kernel
theorem dL_law_1371 : decode cL_law 1371 = .ok (.iaload, 1) := by decide +kernel
theorem dL_law_1372 : decode cL_law 1372 = .ok (.aload_n 0, 1) := by decide +kernel
theorem dL_law_1373 : decode cL_law 1373 = .ok (.iload_n 3, 1) := by decide +kernel
theorem dL_law_1374 : decode cL_law 1374 = .ok (.iconst 3, 1) := by decide +kernel
theorem dL_law_1375 : decode cL_law 1375 = .ok (.iadd, 1) := by decide +kernel
theorem dL_law_1376 : decode cL_law 1376 = .ok (.iaload, 1) := by decide +kernel
theorem dL_law_1377 : decode cL_law 1377 = .ok (.invokevirtual 157, 3) := by decide +kernel
theorem dL_law_1380 : decode cL_law 1380 = .ok (.if_icmp .eq 74, 3) := by decide +kernel
theorem dL_law_1383 : decode cL_law 1383 = .ok (.iconst 0, 1) := by decide +kernel
theorem dL_law_1384 : decode cL_law 1384 = .ok (.ireturn, 1) := by decide +kernel
theorem dL_law_1385 : decode cL_law 1385 = .ok (.aload_n 1, 1) := by decide +kernel
theorem dL_law_1386 : decode cL_law 1386 = .ok (.aload_n 0, 1) := by decide +kernel
theorem dL_law_1387 : decode cL_law 1387 = .ok (.iload_n 3, 1) := by decide +kernel
theorem dL_law_1388 : decode cL_law 1388 = .ok (.iconst 1, 1) := by decide +kernel
theorem dL_law_1389 : decode cL_law 1389 = .ok (.iadd, 1) := by decide +kernel
theorem dL_law_1390 : decode cL_law 1390 = .ok (.iaload, 1) := by decide +kernel
theorem dL_law_1391 : decode cL_law 1391 = .ok (.invokevirtual 158, 3) := by decide +kernel
theorem dL_law_1394 : decode cL_law 1394 = .ok (.aload_n 2, 1) := by decide +kernel
theorem dL_law_1395 : decode cL_law 1395 = .ok (.aload_n 0, 1) := by decide +kernel
theorem dL_law_1396 : decode cL_law 1396 = .ok (.iload_n 3, 1) := by decide +kernel
theorem dL_law_1397 : decode cL_law 1397 = .ok (.iconst 1, 1) := by decide +kernel
theorem dL_law_1398 : decode cL_law 1398 = .ok (.iadd, 1) := by decide +kernel
theorem dL_law_1399 : decode cL_law 1399 = .ok (.iaload, 1) := by decide +kernel
theorem dL_law_1400 : decode cL_law 1400 = .ok (.invokevirtual 161, 3) := by decide +kernel
theorem dL_law_1403 : decode cL_law 1403 = .ok (.if_icmp .eq 51, 3) := by decide +kernel
theorem dL_law_1406 : decode cL_law 1406 = .ok (.iconst 0, 1) := by decide +kernel
theorem dL_law_1407 : decode cL_law 1407 = .ok (.ireturn, 1) := by decide +kernel
theorem dL_law_1408 : decode cL_law 1408 = .ok (.aload_n 1, 1) := by decide +kernel
theorem dL_law_1409 : decode cL_law 1409 = .ok (.aload_n 0, 1) := by decide +kernel
theorem dL_law_1410 : decode cL_law 1410 = .ok (.iload_n 3, 1) := by decide +kernel
theorem dL_law_1411 : decode cL_law 1411 = .ok (.iconst 1, 1) := by decide +kernel
theorem dL_law_1412 : decode cL_law 1412 = .ok (.iadd, 1) := by decide +kernel
theorem dL_law_1413 : decode cL_law 1413 = .ok (.iaload, 1) := by decide +kernel
theorem dL_law_1414 : decode cL_law 1414 = .ok (.invokevirtual 162, 3) := by decide +kernel
theorem dL_law_1417 : decode cL_law 1417 = .ok (.aload_n 2, 1) := by decide +kernel
theorem dL_law_1418 : decode cL_law 1418 = .ok (.aload_n 0, 1) := by decide +kernel
theorem dL_law_1419 : decode cL_law 1419 = .ok (.iload_n 3, 1) := by decide +kernel
theorem dL_law_1420 : decode cL_law 1420 = .ok (.iconst 1, 1) := by decide +kernel
theorem dL_law_1421 : decode cL_law 1421 = .ok (.iadd, 1) := by decide +kernel
theorem dL_law_1422 : decode cL_law 1422 = .ok (.iaload, 1) := by decide +kernel
theorem dL_law_1423 : decode cL_law 1423 = .ok (.invokevirtual 165, 3) := by decide +kernel
theorem dL_law_1426 : decode cL_law 1426 = .ok (.if_icmp .eq 28, 3) := by decide +kernel
theorem dL_law_1429 : decode cL_law 1429 = .ok (.iconst 0, 1) := by decide +kernel
theorem dL_law_1430 : decode cL_law 1430 = .ok (.ireturn, 1) := by decide +kernel
theorem dL_law_1431 : decode cL_law 1431 = .ok (.aload_n 1, 1) := by decide +kernel
theorem dL_law_1432 : decode cL_law 1432 = .ok (.aload_n 0, 1) := by decide +kernel
theorem dL_law_1433 : decode cL_law 1433 = .ok (.iload_n 3, 1) := by decide +kernel
theorem dL_law_1434 : decode cL_law 1434 = .ok (.iconst 1, 1) := by decide +kernel
theorem dL_law_1435 : decode cL_law 1435 = .ok (.iadd, 1) := by decide +kernel
theorem dL_law_1436 : decode cL_law 1436 = .ok (.iaload, 1) := by decide +kernel
theorem dL_law_1437 : decode cL_law 1437 = .ok (.invokevirtual 166, 3) := by decide +kernel
theorem dL_law_1440 : decode cL_law 1440 = .ok (.aload_n 2, 1) := by decide +kernel
theorem dL_law_1441 : decode cL_law 1441 = .ok (.aload_n 0, 1) := by decide +kernel
theorem dL_law_1442 : decode cL_law 1442 = .ok (.iload_n 3, 1) := by decide +kernel
theorem dL_law_1443 : decode cL_law 1443 = .ok (.iconst 1, 1) := by decide +kernel
theorem dL_law_1444 : decode cL_law 1444 = .ok (.iadd, 1) := by decide +kernel
theorem dL_law_1445 : decode cL_law 1445 = .ok (.iaload, 1) := by decide +kernel
theorem dL_law_1446 : decode cL_law 1446 = .ok (.invokevirtual 169, 3) := by decide +kernel
theorem dL_law_1449 : decode cL_law 1449 = .ok (.if_icmp .eq 5, 3) := by decide +kernel
theorem dL_law_1452 : decode cL_law 1452 = .ok (.iconst 0, 1) := by decide +kernel
theorem dL_law_1453 : decode cL_law 1453 = .ok (.ireturn, 1) := by decide +kernel
theorem dL_law_1454 : decode cL_law 1454 = .ok (.iinc 3 7, 3) := by decide +kernel
theorem dL_law_1457 : decode cL_law 1457 = .ok (.goto (-1439), 3) := by decide +kernel
theorem dL_law_1460 : decode cL_law 1460 = .ok (.iconst 1, 1) := by decide +kernel
theorem dL_law_1461 : decode cL_law 1461 = .ok (.ireturn, 1) := by decide +kernel
