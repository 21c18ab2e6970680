/-! decode rows, as the task prints them -/
theorem dX6_in_0 : decode cX6_in 0 = .ok (.lload_n 0, 1) := by decide +kernel
theorem dX6_in_1 : decode cX6_in 1 = .ok (.lload_n 2, 1) := by decide +kernel
theorem dX6_in_2 : decode cX6_in 2 = .ok (.lcmp, 1) := by decide +kernel
theorem dX6_in_3 : decode cX6_in 3 = .ok (.ifCond .lt 14, 3) := by decide +kernel
theorem dX6_in_6 : decode cX6_in 6 = .ok (.lload_n 0, 1) := by decide +kernel
theorem dX6_in_7 : decode cX6_in 7 = .ok (.lload 4, 2) := by decide +kernel
theorem dX6_in_9 : decode cX6_in 9 = .ok (.lcmp, 1) := by decide +kernel
theorem dX6_in_10 : decode cX6_in 10 = .ok (.ifCond .gt 7, 3) := by decide +kernel
theorem dX6_in_13 : decode cX6_in 13 = .ok (.iconst 1, 1) := by decide +kernel
theorem dX6_in_14 : decode cX6_in 14 = .ok (.goto 4, 3) := by decide +kernel
theorem dX6_in_17 : decode cX6_in 17 = .ok (.iconst 0, 1) := by decide +kernel
theorem dX6_in_18 : decode cX6_in 18 = .ok (.ireturn, 1) := by decide +kernel
theorem dX6_within_0 : decode cX6_within 0 = .ok (.iload_n 0, 1) := by decide +kernel
theorem dX6_within_1 : decode cX6_within 1 = .ok (.iload_n 1, 1) := by decide +kernel
theorem dX6_within_2 : decode cX6_within 2 = .ok (.if_icmp .ge 7, 3) := by decide +kernel
theorem dX6_within_5 : decode cX6_within 5 = .ok (.iload_n 1, 1) := by decide +kernel
theorem dX6_within_6 : decode cX6_within 6 = .ok (.goto 13, 3) := by decide +kernel
theorem dX6_within_9 : decode cX6_within 9 = .ok (.iload_n 0, 1) := by decide +kernel
theorem dX6_within_10 : decode cX6_within 10 = .ok (.iload_n 2, 1) := by decide +kernel
theorem dX6_within_11 : decode cX6_within 11 = .ok (.if_icmp .le 7, 3) := by decide +kernel
theorem dX6_within_14 : decode cX6_within 14 = .ok (.iload_n 2, 1) := by decide +kernel
theorem dX6_within_15 : decode cX6_within 15 = .ok (.goto 4, 3) := by decide +kernel
theorem dX6_within_18 : decode cX6_within 18 = .ok (.iload_n 0, 1) := by decide +kernel
theorem dX6_within_19 : decode cX6_within 19 = .ok (.ireturn, 1) := by decide +kernel
theorem dX6_init_0 : decode cX6_init 0 = .ok (.aload_n 0, 1) := by decide +kernel
theorem dX6_init_1 : decode cX6_init 1 = .ok (.invokespecial 7, 3) := by decide +kernel
theorem dX6_init_4 : decode cX6_init 4 = .ok (.aload_n 0, 1) := by decide +kernel
theorem dX6_init_5 : decode cX6_init 5 = .ok (.sipush 960, 3) := by decide +kernel
theorem dX6_init_8 : decode cX6_init 8 = .ok (.newarray .int, 2) := by decide +kernel
theorem dX6_init_10 : decode cX6_init 10 = .ok (.putfield 13, 3) := by decide +kernel
theorem dX6_init_13 : decode cX6_init 13 = .ok (.aload_n 0, 1) := by decide +kernel
theorem dX6_init_14 : decode cX6_init 14 = .ok (.bipush 6, 2) := by decide +kernel
theorem dX6_init_16 : decode cX6_init 16 = .ok (.newarray .int, 2) := by decide +kernel
theorem dX6_init_18 : decode cX6_init 18 = .ok (.putfield 17, 3) := by decide +kernel
theorem dX6_init_21 : decode cX6_init 21 = .ok (.aload_n 0, 1) := by decide +kernel
theorem dX6_init_22 : decode cX6_init 22 = .ok (.sipush 160, 3) := by decide +kernel
theorem dX6_init_25 : decode cX6_init 25 = .ok (.newarray .int, 2) := by decide +kernel
theorem dX6_init_27 : decode cX6_init 27 = .ok (.putfield 20, 3) := by decide +kernel
theorem dX6_init_30 : decode cX6_init 30 = .ok (.aload_n 0, 1) := by decide +kernel
theorem dX6_init_31 : decode cX6_init 31 = .ok (.iconst 1, 1) := by decide +kernel
theorem dX6_init_32 : decode cX6_init 32 = .ok (.putfield 23, 3) := by decide +kernel
theorem dX6_init_35 : decode cX6_init 35 = .ok (.aload_n 0, 1) := by decide +kernel
theorem dX6_init_36 : decode cX6_init 36 = .ok (.bipush 6, 2) := by decide +kernel
theorem dX6_init_38 : decode cX6_init 38 = .ok (.newarray .int, 2) := by decide +kernel
theorem dX6_init_40 : decode cX6_init 40 = .ok (.putfield 26, 3) := by decide +kernel
theorem dX6_init_43 : decode cX6_init 43 = .ok (.aload_n 0, 1) := by decide +kernel
theorem dX6_init_44 : decode cX6_init 44 = .ok (.bipush 18, 2) := by decide +kernel
theorem dX6_init_46 : decode cX6_init 46 = .ok (.newarray .int, 2) := by decide +kernel
theorem dX6_init_48 : decode cX6_init 48 = .ok (.putfield 29, 3) := by decide +kernel
theorem dX6_init_51 : decode cX6_init 51 = .ok (.aload_n 0, 1) := by decide +kernel
theorem dX6_init_52 : decode cX6_init 52 = .ok (.bipush 10, 2) := by decide +kernel
theorem dX6_init_54 : decode cX6_init 54 = .ok (.newarray .int, 2) := by decide +kernel
theorem dX6_init_56 : decode cX6_init 56 = .ok (.putfield 32, 3) := by decide +kernel
theorem dX6_init_59 : decode cX6_init 59 = .ok (.aload_n 0, 1) := by decide +kernel
theorem dX6_init_60 : decode cX6_init 60 = .ok (.bipush 30, 2) := by decide +kernel
theorem dX6_init_62 : decode cX6_init 62 = .ok (.newarray .int, 2) := by decide +kernel
theorem dX6_init_64 : decode cX6_init 64 = .ok (.putfield 35, 3) := by decide +kernel
theorem dX6_init_67 : decode cX6_init 67 = .ok (.aload_n 0, 1) := by decide +kernel
theorem dX6_init_68 : decode cX6_init 68 = .ok (.bipush 30, 2) := by decide +kernel
theorem dX6_init_70 : decode cX6_init 70 = .ok (.newarray .int, 2) := by decide +kernel
theorem dX6_init_72 : decode cX6_init 72 = .ok (.putfield 38, 3) := by decide +kernel
theorem dX6_init_75 : decode cX6_init 75 = .ok (.aload_n 0, 1) := by decide +kernel
theorem dX6_init_76 : decode cX6_init 76 = .ok (.bipush 30, 2) := by decide +kernel
theorem dX6_init_78 : decode cX6_init 78 = .ok (.newarray .int, 2) := by decide +kernel
theorem dX6_init_80 : decode cX6_init 80 = .ok (.putfield 41, 3) := by decide +kernel
theorem dX6_init_83 : decode cX6_init 83 = .ok (.aload_n 0, 1) := by decide +kernel
theorem dX6_init_84 : decode cX6_init 84 = .ok (.bipush 30, 2) := by decide +kernel
theorem dX6_init_86 : decode cX6_init 86 = .ok (.newarray .boolean, 2) := by decide +kernel
theorem dX6_init_88 : decode cX6_init 88 = .ok (.putfield 44, 3) := by decide +kernel
theorem dX6_init_91 : decode cX6_init 91 = .ok (.aload_n 0, 1) := by decide +kernel
theorem dX6_init_92 : decode cX6_init 92 = .ok (.bipush 6, 2) := by decide +kernel
theorem dX6_init_94 : decode cX6_init 94 = .ok (.newarray .int, 2) := by decide +kernel
theorem dX6_init_96 : decode cX6_init 96 = .ok (.putfield 48, 3) := by decide +kernel
theorem dX6_init_99 : decode cX6_init 99 = .ok (.aload_n 0, 1) := by decide +kernel
theorem dX6_init_100 : decode cX6_init 100 = .ok (.bipush 6, 2) := by decide +kernel
theorem dX6_init_102 : decode cX6_init 102 = .ok (.newarray .int, 2) := by decide +kernel
theorem dX6_init_104 : decode cX6_init 104 = .ok (.putfield 51, 3) := by decide +kernel
theorem dX6_init_107 : decode cX6_init 107 = .ok (.aload_n 0, 1) := by decide +kernel
theorem dX6_init_108 : decode cX6_init 108 = .ok (.bipush 6, 2) := by decide +kernel
theorem dX6_init_110 : decode cX6_init 110 = .ok (.newarray .int, 2) := by decide +kernel
theorem dX6_init_112 : decode cX6_init 112 = .ok (.putfield 54, 3) := by decide +kernel
theorem dX6_init_115 : decode cX6_init 115 = .ok (.aload_n 0, 1) := by decide +kernel
theorem dX6_init_116 : decode cX6_init 116 = .ok (.bipush 18, 2) := by decide +kernel
theorem dX6_init_118 : decode cX6_init 118 = .ok (.newarray .int, 2) := by decide +kernel
theorem dX6_init_120 : decode cX6_init 120 = .ok (.putfield 57, 3) := by decide +kernel
theorem dX6_init_123 : decode cX6_init 123 = .ok (.aload_n 0, 1) := by decide +kernel
theorem dX6_init_124 : decode cX6_init 124 = .ok (.bipush 10, 2) := by decide +kernel
theorem dX6_init_126 : decode cX6_init 126 = .ok (.newarray .int, 2) := by decide +kernel
theorem dX6_init_128 : decode cX6_init 128 = .ok (.putfield 60, 3) := by decide +kernel
theorem dX6_init_131 : decode cX6_init 131 = .ok (.aload_n 0, 1) := by decide +kernel
theorem dX6_init_132 : decode cX6_init 132 = .ok (.iconst (-1), 1) := by decide +kernel
theorem dX6_init_133 : decode cX6_init 133 = .ok (.putfield 63, 3) := by decide +kernel
theorem dX6_init_136 : decode cX6_init 136 = .ok (.aload_n 0, 1) := by decide +kernel
theorem dX6_init_137 : decode cX6_init 137 = .ok (.iconst 4, 1) := by decide +kernel
theorem dX6_init_138 : decode cX6_init 138 = .ok (.newarray .boolean, 2) := by decide +kernel
theorem dX6_init_140 : decode cX6_init 140 = .ok (.putfield 66, 3) := by decide +kernel
theorem dX6_init_143 : decode cX6_init 143 = .ok (.aload_n 0, 1) := by decide +kernel
theorem dX6_init_144 : decode cX6_init 144 = .ok (.iconst 4, 1) := by decide +kernel
theorem dX6_init_145 : decode cX6_init 145 = .ok (.newarray .int, 2) := by decide +kernel
theorem dX6_init_147 : decode cX6_init 147 = .ok (.putfield 69, 3) := by decide +kernel
theorem dX6_init_150 : decode cX6_init 150 = .ok (.aload_n 0, 1) := by decide +kernel
theorem dX6_init_151 : decode cX6_init 151 = .ok (.iconst 4, 1) := by decide +kernel
theorem dX6_init_152 : decode cX6_init 152 = .ok (.newarray .int, 2) := by decide +kernel
theorem dX6_init_154 : decode cX6_init 154 = .ok (.putfield 72, 3) := by decide +kernel
theorem dX6_init_157 : decode cX6_init 157 = .ok (.aload_n 0, 1) := by decide +kernel
theorem dX6_init_158 : decode cX6_init 158 = .ok (.sipush 160, 3) := by decide +kernel
theorem dX6_init_161 : decode cX6_init 161 = .ok (.newarray .int, 2) := by decide +kernel
theorem dX6_init_163 : decode cX6_init 163 = .ok (.putfield 75, 3) := by decide +kernel
theorem dX6_init_166 : decode cX6_init 166 = .ok (.aload_n 0, 1) := by decide +kernel
theorem dX6_init_167 : decode cX6_init 167 = .ok (.iconst 0, 1) := by decide +kernel
theorem dX6_init_168 : decode cX6_init 168 = .ok (.bipush 112, 2) := by decide +kernel
theorem dX6_init_170 : decode cX6_init 170 = .ok (.bipush 114, 2) := by decide +kernel
theorem dX6_init_172 : decode cX6_init 172 = .ok (.bipush 105, 2) := by decide +kernel
theorem dX6_init_174 : decode cX6_init 174 = .ok (.bipush 99, 2) := by decide +kernel
theorem dX6_init_176 : decode cX6_init 176 = .ok (.bipush 101, 2) := by decide +kernel
theorem dX6_init_178 : decode cX6_init 178 = .ok (.bipush 115, 2) := by decide +kernel
theorem dX6_init_180 : decode cX6_init 180 = .ok (.bipush 32, 2) := by decide +kernel
theorem dX6_init_182 : decode cX6_init 182 = .ok (.bipush 53, 2) := by decide +kernel
theorem dX6_init_184 : decode cX6_init 184 = .ok (.invokevirtual 78, 3) := by decide +kernel
theorem dX6_init_187 : decode cX6_init 187 = .ok (.aload_n 0, 1) := by decide +kernel
theorem dX6_init_188 : decode cX6_init 188 = .ok (.bipush 8, 2) := by decide +kernel
theorem dX6_init_190 : decode cX6_init 190 = .ok (.bipush 32, 2) := by decide +kernel
theorem dX6_init_192 : decode cX6_init 192 = .ok (.bipush 59, 2) := by decide +kernel
theorem dX6_init_194 : decode cX6_init 194 = .ok (.bipush 32, 2) := by decide +kernel
theorem dX6_init_196 : decode cX6_init 196 = .ok (.bipush 106, 2) := by decide +kernel
theorem dX6_init_198 : decode cX6_init 198 = .ok (.bipush 111, 2) := by decide +kernel
theorem dX6_init_200 : decode cX6_init 200 = .ok (.bipush 121, 2) := by decide +kernel
theorem dX6_init_202 : decode cX6_init 202 = .ok (.bipush 115, 2) := by decide +kernel
theorem dX6_init_204 : decode cX6_init 204 = .ok (.bipush 32, 2) := by decide +kernel
theorem dX6_init_206 : decode cX6_init 206 = .ok (.invokevirtual 78, 3) := by decide +kernel
theorem dX6_init_209 : decode cX6_init 209 = .ok (.aload_n 0, 1) := by decide +kernel
theorem dX6_init_210 : decode cX6_init 210 = .ok (.bipush 16, 2) := by decide +kernel
theorem dX6_init_212 : decode cX6_init 212 = .ok (.bipush 49, 2) := by decide +kernel
theorem dX6_init_214 : decode cX6_init 214 = .ok (.bipush 48, 2) := by decide +kernel
theorem dX6_init_216 : decode cX6_init 216 = .ok (.bipush 32, 2) := by decide +kernel
theorem dX6_init_218 : decode cX6_init 218 = .ok (.bipush 59, 2) := by decide +kernel
theorem dX6_init_220 : decode cX6_init 220 = .ok (.bipush 32, 2) := by decide +kernel
theorem dX6_init_222 : decode cX6_init 222 = .ok (.bipush 112, 2) := by decide +kernel
theorem dX6_init_224 : decode cX6_init 224 = .ok (.bipush 97, 2) := by decide +kernel
theorem dX6_init_226 : decode cX6_init 226 = .ok (.bipush 121, 2) := by decide +kernel
theorem dX6_init_228 : decode cX6_init 228 = .ok (.invokevirtual 78, 3) := by decide +kernel
theorem dX6_init_231 : decode cX6_init 231 = .ok (.aload_n 0, 1) := by decide +kernel
theorem dX6_init_232 : decode cX6_init 232 = .ok (.bipush 24, 2) := by decide +kernel
theorem dX6_init_234 : decode cX6_init 234 = .ok (.bipush 115, 2) := by decide +kernel
theorem dX6_init_236 : decode cX6_init 236 = .ok (.bipush 32, 2) := by decide +kernel
theorem dX6_init_238 : decode cX6_init 238 = .ok (.bipush 119, 2) := by decide +kernel
theorem dX6_init_240 : decode cX6_init 240 = .ok (.bipush 105, 2) := by decide +kernel
theorem dX6_init_242 : decode cX6_init 242 = .ok (.bipush 115, 2) := by decide +kernel
theorem dX6_init_244 : decode cX6_init 244 = .ok (.bipush 104, 2) := by decide +kernel
theorem dX6_init_246 : decode cX6_init 246 = .ok (.bipush 101, 2) := by decide +kernel
theorem dX6_init_248 : decode cX6_init 248 = .ok (.bipush 100, 2) := by decide +kernel
theorem dX6_init_250 : decode cX6_init 250 = .ok (.invokevirtual 78, 3) := by decide +kernel
theorem dX6_init_253 : decode cX6_init 253 = .ok (.aload_n 0, 1) := by decide +kernel
theorem dX6_init_254 : decode cX6_init 254 = .ok (.bipush 32, 2) := by decide +kernel
theorem dX6_init_256 : decode cX6_init 256 = .ok (.bipush 32, 2) := by decide +kernel
theorem dX6_init_258 : decode cX6_init 258 = .ok (.bipush 42, 2) := by decide +kernel
theorem dX6_init_260 : decode cX6_init 260 = .ok (.bipush 32, 2) := by decide +kernel
theorem dX6_init_262 : decode cX6_init 262 = .ok (.bipush 56, 2) := by decide +kernel
theorem dX6_init_264 : decode cX6_init 264 = .ok (.bipush 32, 2) := by decide +kernel
theorem dX6_init_266 : decode cX6_init 266 = .ok (.bipush 59, 2) := by decide +kernel
theorem dX6_init_268 : decode cX6_init 268 = .ok (.bipush 32, 2) := by decide +kernel
theorem dX6_init_270 : decode cX6_init 270 = .ok (.bipush 32, 2) := by decide +kernel
theorem dX6_init_272 : decode cX6_init 272 = .ok (.invokevirtual 78, 3) := by decide +kernel
theorem dX6_init_275 : decode cX6_init 275 = .ok (.aload_n 0, 1) := by decide +kernel
theorem dX6_init_276 : decode cX6_init 276 = .ok (.getfield 17, 3) := by decide +kernel
theorem dX6_init_279 : decode cX6_init 279 = .ok (.iconst 0, 1) := by decide +kernel
theorem dX6_init_280 : decode cX6_init 280 = .ok (.bipush 40, 2) := by decide +kernel
theorem dX6_init_282 : decode cX6_init 282 = .ok (.iastore, 1) := by decide +kernel
theorem dX6_init_283 : decode cX6_init 283 = .ok (.aload_n 0, 1) := by decide +kernel
theorem dX6_init_284 : decode cX6_init 284 = .ok (.iconst 1, 1) := by decide +kernel
theorem dX6_init_285 : decode cX6_init 285 = .ok (.putfield 82, 3) := by decide +kernel
theorem dX6_init_288 : decode cX6_init 288 = .ok (.return_, 1) := by decide +kernel
theorem dX6_spell_0 : decode cX6_spell 0 = .ok (.aload_n 0, 1) := by decide +kernel
theorem dX6_spell_1 : decode cX6_spell 1 = .ok (.getfield 13, 3) := by decide +kernel
theorem dX6_spell_4 : decode cX6_spell 4 = .ok (.iload_n 1, 1) := by decide +kernel
theorem dX6_spell_5 : decode cX6_spell 5 = .ok (.iload_n 2, 1) := by decide +kernel
theorem dX6_spell_6 : decode cX6_spell 6 = .ok (.iastore, 1) := by decide +kernel
theorem dX6_spell_7 : decode cX6_spell 7 = .ok (.aload_n 0, 1) := by decide +kernel
theorem dX6_spell_8 : decode cX6_spell 8 = .ok (.getfield 13, 3) := by decide +kernel
theorem dX6_spell_11 : decode cX6_spell 11 = .ok (.iload_n 1, 1) := by decide +kernel
theorem dX6_spell_12 : decode cX6_spell 12 = .ok (.iconst 1, 1) := by decide +kernel
theorem dX6_spell_13 : decode cX6_spell 13 = .ok (.iadd, 1) := by decide +kernel
theorem dX6_spell_14 : decode cX6_spell 14 = .ok (.iload_n 3, 1) := by decide +kernel
theorem dX6_spell_15 : decode cX6_spell 15 = .ok (.iastore, 1) := by decide +kernel
theorem dX6_spell_16 : decode cX6_spell 16 = .ok (.aload_n 0, 1) := by decide +kernel
theorem dX6_spell_17 : decode cX6_spell 17 = .ok (.getfield 13, 3) := by decide +kernel
theorem dX6_spell_20 : decode cX6_spell 20 = .ok (.iload_n 1, 1) := by decide +kernel
theorem dX6_spell_21 : decode cX6_spell 21 = .ok (.iconst 2, 1) := by decide +kernel
theorem dX6_spell_22 : decode cX6_spell 22 = .ok (.iadd, 1) := by decide +kernel
theorem dX6_spell_23 : decode cX6_spell 23 = .ok (.iload 4, 2) := by decide +kernel
theorem dX6_spell_25 : decode cX6_spell 25 = .ok (.iastore, 1) := by decide +kernel
theorem dX6_spell_26 : decode cX6_spell 26 = .ok (.aload_n 0, 1) := by decide +kernel
theorem dX6_spell_27 : decode cX6_spell 27 = .ok (.getfield 13, 3) := by decide +kernel
theorem dX6_spell_30 : decode cX6_spell 30 = .ok (.iload_n 1, 1) := by decide +kernel
theorem dX6_spell_31 : decode cX6_spell 31 = .ok (.iconst 3, 1) := by decide +kernel
theorem dX6_spell_32 : decode cX6_spell 32 = .ok (.iadd, 1) := by decide +kernel
theorem dX6_spell_33 : decode cX6_spell 33 = .ok (.iload 5, 2) := by decide +kernel
theorem dX6_spell_35 : decode cX6_spell 35 = .ok (.iastore, 1) := by decide +kernel
theorem dX6_spell_36 : decode cX6_spell 36 = .ok (.aload_n 0, 1) := by decide +kernel
theorem dX6_spell_37 : decode cX6_spell 37 = .ok (.getfield 13, 3) := by decide +kernel
theorem dX6_spell_40 : decode cX6_spell 40 = .ok (.iload_n 1, 1) := by decide +kernel
theorem dX6_spell_41 : decode cX6_spell 41 = .ok (.iconst 4, 1) := by decide +kernel
theorem dX6_spell_42 : decode cX6_spell 42 = .ok (.iadd, 1) := by decide +kernel
theorem dX6_spell_43 : decode cX6_spell 43 = .ok (.iload 6, 2) := by decide +kernel
theorem dX6_spell_45 : decode cX6_spell 45 = .ok (.iastore, 1) := by decide +kernel
theorem dX6_spell_46 : decode cX6_spell 46 = .ok (.aload_n 0, 1) := by decide +kernel
theorem dX6_spell_47 : decode cX6_spell 47 = .ok (.getfield 13, 3) := by decide +kernel
theorem dX6_spell_50 : decode cX6_spell 50 = .ok (.iload_n 1, 1) := by decide +kernel
theorem dX6_spell_51 : decode cX6_spell 51 = .ok (.iconst 5, 1) := by decide +kernel
theorem dX6_spell_52 : decode cX6_spell 52 = .ok (.iadd, 1) := by decide +kernel
theorem dX6_spell_53 : decode cX6_spell 53 = .ok (.iload 7, 2) := by decide +kernel
theorem dX6_spell_55 : decode cX6_spell 55 = .ok (.iastore, 1) := by decide +kernel
theorem dX6_spell_56 : decode cX6_spell 56 = .ok (.aload_n 0, 1) := by decide +kernel
theorem dX6_spell_57 : decode cX6_spell 57 = .ok (.getfield 13, 3) := by decide +kernel
theorem dX6_spell_60 : decode cX6_spell 60 = .ok (.iload_n 1, 1) := by decide +kernel
theorem dX6_spell_61 : decode cX6_spell 61 = .ok (.bipush 6, 2) := by decide +kernel
theorem dX6_spell_63 : decode cX6_spell 63 = .ok (.iadd, 1) := by decide +kernel
theorem dX6_spell_64 : decode cX6_spell 64 = .ok (.iload 8, 2) := by decide +kernel
theorem dX6_spell_66 : decode cX6_spell 66 = .ok (.iastore, 1) := by decide +kernel
theorem dX6_spell_67 : decode cX6_spell 67 = .ok (.aload_n 0, 1) := by decide +kernel
theorem dX6_spell_68 : decode cX6_spell 68 = .ok (.getfield 13, 3) := by decide +kernel
theorem dX6_spell_71 : decode cX6_spell 71 = .ok (.iload_n 1, 1) := by decide +kernel
theorem dX6_spell_72 : decode cX6_spell 72 = .ok (.bipush 7, 2) := by decide +kernel
theorem dX6_spell_74 : decode cX6_spell 74 = .ok (.iadd, 1) := by decide +kernel
theorem dX6_spell_75 : decode cX6_spell 75 = .ok (.iload 9, 2) := by decide +kernel
theorem dX6_spell_77 : decode cX6_spell 77 = .ok (.iastore, 1) := by decide +kernel
theorem dX6_spell_78 : decode cX6_spell 78 = .ok (.return_, 1) := by decide +kernel
theorem dX6_isFigure_0 : decode cX6_isFigure 0 = .ok (.iload_n 1, 1) := by decide +kernel
theorem dX6_isFigure_1 : decode cX6_isFigure 1 = .ok (.i2l, 1) := by decide +kernel
theorem dX6_isFigure_2 : decode cX6_isFigure 2 = .ok (.lconst 0, 1) := by decide +kernel
theorem dX6_isFigure_3 : decode cX6_isFigure 3 = .ok (.aload_n 0, 1) := by decide +kernel
theorem dX6_isFigure_4 : decode cX6_isFigure 4 = .ok (.getfield 85, 3) := by decide +kernel
theorem dX6_isFigure_7 : decode cX6_isFigure 7 = .ok (.iconst 1, 1) := by decide +kernel
theorem dX6_isFigure_8 : decode cX6_isFigure 8 = .ok (.isub, 1) := by decide +kernel
theorem dX6_isFigure_9 : decode cX6_isFigure 9 = .ok (.i2l, 1) := by decide +kernel
theorem dX6_isFigure_10 : decode cX6_isFigure 10 = .ok (.invokestatic 88, 3) := by decide +kernel
theorem dX6_isFigure_13 : decode cX6_isFigure 13 = .ok (.ireturn, 1) := by decide +kernel
theorem dX6_isClient_0 : decode cX6_isClient 0 = .ok (.iload_n 1, 1) := by decide +kernel
theorem dX6_isClient_1 : decode cX6_isClient 1 = .ok (.i2l, 1) := by decide +kernel
theorem dX6_isClient_2 : decode cX6_isClient 2 = .ok (.lconst 0, 1) := by decide +kernel
theorem dX6_isClient_3 : decode cX6_isClient 3 = .ok (.aload_n 0, 1) := by decide +kernel
theorem dX6_isClient_4 : decode cX6_isClient 4 = .ok (.getfield 92, 3) := by decide +kernel
theorem dX6_isClient_7 : decode cX6_isClient 7 = .ok (.iconst 1, 1) := by decide +kernel
theorem dX6_isClient_8 : decode cX6_isClient 8 = .ok (.isub, 1) := by decide +kernel
theorem dX6_isClient_9 : decode cX6_isClient 9 = .ok (.i2l, 1) := by decide +kernel
theorem dX6_isClient_10 : decode cX6_isClient 10 = .ok (.invokestatic 88, 3) := by decide +kernel
theorem dX6_isClient_13 : decode cX6_isClient 13 = .ok (.ireturn, 1) := by decide +kernel
theorem dX6_isHour_0 : decode cX6_isHour 0 = .ok (.iload_n 0, 1) := by decide +kernel
theorem dX6_isHour_1 : decode cX6_isHour 1 = .ok (.i2l, 1) := by decide +kernel
theorem dX6_isHour_2 : decode cX6_isHour 2 = .ok (.lconst 0, 1) := by decide +kernel
theorem dX6_isHour_3 : decode cX6_isHour 3 = .ok (.ldc2_w 95, 3) := by decide +kernel
theorem dX6_isHour_6 : decode cX6_isHour 6 = .ok (.invokestatic 88, 3) := by decide +kernel
theorem dX6_isHour_9 : decode cX6_isHour 9 = .ok (.ireturn, 1) := by decide +kernel
theorem dX6_isOf_0 : decode cX6_isOf 0 = .ok (.iload_n 1, 1) := by decide +kernel
theorem dX6_isOf_1 : decode cX6_isOf 1 = .ok (.ifCond .eq 32, 3) := by decide +kernel
theorem dX6_isOf_4 : decode cX6_isOf 4 = .ok (.iload_n 1, 1) := by decide +kernel
theorem dX6_isOf_5 : decode cX6_isOf 5 = .ok (.iconst 4, 1) := by decide +kernel
theorem dX6_isOf_6 : decode cX6_isOf 6 = .ok (.if_icmp .eq 8, 3) := by decide +kernel
theorem dX6_isOf_9 : decode cX6_isOf 9 = .ok (.iload_n 1, 1) := by decide +kernel
theorem dX6_isOf_10 : decode cX6_isOf 10 = .ok (.iconst 5, 1) := by decide +kernel
theorem dX6_isOf_11 : decode cX6_isOf 11 = .ok (.if_icmp .ne 14, 3) := by decide +kernel
theorem dX6_isOf_14 : decode cX6_isOf 14 = .ok (.aload_n 0, 1) := by decide +kernel
theorem dX6_isOf_15 : decode cX6_isOf 15 = .ok (.iload_n 2, 1) := by decide +kernel
theorem dX6_isOf_16 : decode cX6_isOf 16 = .ok (.invokevirtual 97, 3) := by decide +kernel
theorem dX6_isOf_19 : decode cX6_isOf 19 = .ok (.ifCond .eq 18, 3) := by decide +kernel
theorem dX6_isOf_22 : decode cX6_isOf 22 = .ok (.goto 11, 3) := by decide +kernel
theorem dX6_isOf_25 : decode cX6_isOf 25 = .ok (.aload_n 0, 1) := by decide +kernel
theorem dX6_isOf_26 : decode cX6_isOf 26 = .ok (.iload_n 2, 1) := by decide +kernel
theorem dX6_isOf_27 : decode cX6_isOf 27 = .ok (.invokevirtual 101, 3) := by decide +kernel
theorem dX6_isOf_30 : decode cX6_isOf 30 = .ok (.ifCond .eq 7, 3) := by decide +kernel
theorem dX6_isOf_33 : decode cX6_isOf 33 = .ok (.iconst 1, 1) := by decide +kernel
theorem dX6_isOf_34 : decode cX6_isOf 34 = .ok (.goto 4, 3) := by decide +kernel
theorem dX6_isOf_37 : decode cX6_isOf 37 = .ok (.iconst 0, 1) := by decide +kernel
theorem dX6_isOf_38 : decode cX6_isOf 38 = .ok (.ireturn, 1) := by decide +kernel
theorem dX6_mostOf_0 : decode cX6_mostOf 0 = .ok (.iload_n 0, 1) := by decide +kernel
theorem dX6_mostOf_1 : decode cX6_mostOf 1 = .ok (.iconst 2, 1) := by decide +kernel
theorem dX6_mostOf_2 : decode cX6_mostOf 2 = .ok (.if_icmp .ge 8, 3) := by decide +kernel
theorem dX6_mostOf_5 : decode cX6_mostOf 5 = .ok (.bipush 9, 2) := by decide +kernel
theorem dX6_mostOf_7 : decode cX6_mostOf 7 = .ok (.goto 37, 3) := by decide +kernel
theorem dX6_mostOf_10 : decode cX6_mostOf 10 = .ok (.iload_n 0, 1) := by decide +kernel
theorem dX6_mostOf_11 : decode cX6_mostOf 11 = .ok (.iconst 2, 1) := by decide +kernel
theorem dX6_mostOf_12 : decode cX6_mostOf 12 = .ok (.if_icmp .ne 9, 3) := by decide +kernel
theorem dX6_mostOf_15 : decode cX6_mostOf 15 = .ok (.sipush 999, 3) := by decide +kernel
theorem dX6_mostOf_18 : decode cX6_mostOf 18 = .ok (.goto 26, 3) := by decide +kernel
theorem dX6_mostOf_21 : decode cX6_mostOf 21 = .ok (.iload_n 0, 1) := by decide +kernel
theorem dX6_mostOf_22 : decode cX6_mostOf 22 = .ok (.iconst 3, 1) := by decide +kernel
theorem dX6_mostOf_23 : decode cX6_mostOf 23 = .ok (.if_icmp .ne 9, 3) := by decide +kernel
theorem dX6_mostOf_26 : decode cX6_mostOf 26 = .ok (.sipush 4095, 3) := by decide +kernel
theorem dX6_mostOf_29 : decode cX6_mostOf 29 = .ok (.goto 15, 3) := by decide +kernel
theorem dX6_mostOf_32 : decode cX6_mostOf 32 = .ok (.iload_n 0, 1) := by decide +kernel
theorem dX6_mostOf_33 : decode cX6_mostOf 33 = .ok (.iconst 4, 1) := by decide +kernel
theorem dX6_mostOf_34 : decode cX6_mostOf 34 = .ok (.if_icmp .ne 8, 3) := by decide +kernel
theorem dX6_mostOf_37 : decode cX6_mostOf 37 = .ok (.bipush 11, 2) := by decide +kernel
theorem dX6_mostOf_39 : decode cX6_mostOf 39 = .ok (.goto 5, 3) := by decide +kernel
theorem dX6_mostOf_42 : decode cX6_mostOf 42 = .ok (.bipush 63, 2) := by decide +kernel
theorem dX6_mostOf_44 : decode cX6_mostOf 44 = .ok (.ireturn, 1) := by decide +kernel
theorem dX6_set_0 : decode cX6_set 0 = .ok (.iload_n 1, 1) := by decide +kernel
theorem dX6_set_1 : decode cX6_set 1 = .ok (.i2l, 1) := by decide +kernel
theorem dX6_set_2 : decode cX6_set 2 = .ok (.lconst 0, 1) := by decide +kernel
theorem dX6_set_3 : decode cX6_set 3 = .ok (.ldc2_w 104, 3) := by decide +kernel
theorem dX6_set_6 : decode cX6_set 6 = .ok (.invokestatic 88, 3) := by decide +kernel
theorem dX6_set_9 : decode cX6_set 9 = .ok (.ifCond .eq 34, 3) := by decide +kernel
theorem dX6_set_12 : decode cX6_set 12 = .ok (.aload_n 0, 1) := by decide +kernel
theorem dX6_set_13 : decode cX6_set 13 = .ok (.iload_n 1, 1) := by decide +kernel
theorem dX6_set_14 : decode cX6_set 14 = .ok (.iload_n 2, 1) := by decide +kernel
theorem dX6_set_15 : decode cX6_set 15 = .ok (.invokevirtual 106, 3) := by decide +kernel
theorem dX6_set_18 : decode cX6_set 18 = .ok (.ifCond .eq 25, 3) := by decide +kernel
theorem dX6_set_21 : decode cX6_set 21 = .ok (.iload_n 3, 1) := by decide +kernel
theorem dX6_set_22 : decode cX6_set 22 = .ok (.i2l, 1) := by decide +kernel
theorem dX6_set_23 : decode cX6_set 23 = .ok (.iload_n 1, 1) := by decide +kernel
theorem dX6_set_24 : decode cX6_set 24 = .ok (.ifCond .ne 7, 3) := by decide +kernel
theorem dX6_set_27 : decode cX6_set 27 = .ok (.lconst 1, 1) := by decide +kernel
theorem dX6_set_28 : decode cX6_set 28 = .ok (.goto 4, 3) := by decide +kernel
theorem dX6_set_31 : decode cX6_set 31 = .ok (.lconst 0, 1) := by decide +kernel
theorem dX6_set_32 : decode cX6_set 32 = .ok (.iload_n 1, 1) := by decide +kernel
theorem dX6_set_33 : decode cX6_set 33 = .ok (.invokestatic 110, 3) := by decide +kernel
theorem dX6_set_36 : decode cX6_set 36 = .ok (.i2l, 1) := by decide +kernel
theorem dX6_set_37 : decode cX6_set 37 = .ok (.invokestatic 88, 3) := by decide +kernel
theorem dX6_set_40 : decode cX6_set 40 = .ok (.ifCond .ne 6, 3) := by decide +kernel
theorem dX6_set_43 : decode cX6_set 43 = .ok (.bipush (-2), 2) := by decide +kernel
theorem dX6_set_45 : decode cX6_set 45 = .ok (.ireturn, 1) := by decide +kernel
theorem dX6_set_46 : decode cX6_set 46 = .ok (.aload_n 0, 1) := by decide +kernel
theorem dX6_set_47 : decode cX6_set 47 = .ok (.iload_n 2, 1) := by decide +kernel
theorem dX6_set_48 : decode cX6_set 48 = .ok (.iload_n 1, 1) := by decide +kernel
theorem dX6_set_49 : decode cX6_set 49 = .ok (.invokevirtual 114, 3) := by decide +kernel
theorem dX6_set_52 : decode cX6_set 52 = .ok (.istore 4, 2) := by decide +kernel
theorem dX6_set_54 : decode cX6_set 54 = .ok (.aload_n 0, 1) := by decide +kernel
theorem dX6_set_55 : decode cX6_set 55 = .ok (.iload_n 1, 1) := by decide +kernel
theorem dX6_set_56 : decode cX6_set 56 = .ok (.iload_n 2, 1) := by decide +kernel
theorem dX6_set_57 : decode cX6_set 57 = .ok (.iload_n 3, 1) := by decide +kernel
theorem dX6_set_58 : decode cX6_set 58 = .ok (.invokevirtual 118, 3) := by decide +kernel
theorem dX6_set_61 : decode cX6_set 61 = .ok (.iload 4, 2) := by decide +kernel
theorem dX6_set_63 : decode cX6_set 63 = .ok (.ireturn, 1) := by decide +kernel
theorem dX6_lays_0 : decode cX6_lays 0 = .ok (.iload_n 1, 1) := by decide +kernel
theorem dX6_lays_1 : decode cX6_lays 1 = .ok (.ifCond .ne 11, 3) := by decide +kernel
theorem dX6_lays_4 : decode cX6_lays 4 = .ok (.aload_n 0, 1) := by decide +kernel
theorem dX6_lays_5 : decode cX6_lays 5 = .ok (.iload_n 3, 1) := by decide +kernel
theorem dX6_lays_6 : decode cX6_lays 6 = .ok (.putfield 23, 3) := by decide +kernel
theorem dX6_lays_9 : decode cX6_lays 9 = .ok (.goto 67, 3) := by decide +kernel
theorem dX6_lays_12 : decode cX6_lays 12 = .ok (.iload_n 1, 1) := by decide +kernel
theorem dX6_lays_13 : decode cX6_lays 13 = .ok (.iconst 4, 1) := by decide +kernel
theorem dX6_lays_14 : decode cX6_lays 14 = .ok (.if_icmp .ge 19, 3) := by decide +kernel
theorem dX6_lays_17 : decode cX6_lays 17 = .ok (.aload_n 0, 1) := by decide +kernel
theorem dX6_lays_18 : decode cX6_lays 18 = .ok (.getfield 29, 3) := by decide +kernel
theorem dX6_lays_21 : decode cX6_lays 21 = .ok (.iconst 3, 1) := by decide +kernel
theorem dX6_lays_22 : decode cX6_lays 22 = .ok (.iload_n 2, 1) := by decide +kernel
theorem dX6_lays_23 : decode cX6_lays 23 = .ok (.imul, 1) := by decide +kernel
theorem dX6_lays_24 : decode cX6_lays 24 = .ok (.iload_n 1, 1) := by decide +kernel
theorem dX6_lays_25 : decode cX6_lays 25 = .ok (.iadd, 1) := by decide +kernel
theorem dX6_lays_26 : decode cX6_lays 26 = .ok (.iconst 1, 1) := by decide +kernel
theorem dX6_lays_27 : decode cX6_lays 27 = .ok (.isub, 1) := by decide +kernel
theorem dX6_lays_28 : decode cX6_lays 28 = .ok (.iload_n 3, 1) := by decide +kernel
theorem dX6_lays_29 : decode cX6_lays 29 = .ok (.iastore, 1) := by decide +kernel
theorem dX6_lays_30 : decode cX6_lays 30 = .ok (.goto 46, 3) := by decide +kernel
theorem dX6_lays_33 : decode cX6_lays 33 = .ok (.iload_n 1, 1) := by decide +kernel
theorem dX6_lays_34 : decode cX6_lays 34 = .ok (.bipush 6, 2) := by decide +kernel
theorem dX6_lays_36 : decode cX6_lays 36 = .ok (.if_icmp .ge 19, 3) := by decide +kernel
theorem dX6_lays_39 : decode cX6_lays 39 = .ok (.aload_n 0, 1) := by decide +kernel
theorem dX6_lays_40 : decode cX6_lays 40 = .ok (.getfield 32, 3) := by decide +kernel
theorem dX6_lays_43 : decode cX6_lays 43 = .ok (.iconst 2, 1) := by decide +kernel
theorem dX6_lays_44 : decode cX6_lays 44 = .ok (.iload_n 2, 1) := by decide +kernel
theorem dX6_lays_45 : decode cX6_lays 45 = .ok (.imul, 1) := by decide +kernel
theorem dX6_lays_46 : decode cX6_lays 46 = .ok (.iload_n 1, 1) := by decide +kernel
theorem dX6_lays_47 : decode cX6_lays 47 = .ok (.iadd, 1) := by decide +kernel
theorem dX6_lays_48 : decode cX6_lays 48 = .ok (.iconst 4, 1) := by decide +kernel
theorem dX6_lays_49 : decode cX6_lays 49 = .ok (.isub, 1) := by decide +kernel
theorem dX6_lays_50 : decode cX6_lays 50 = .ok (.iload_n 3, 1) := by decide +kernel
theorem dX6_lays_51 : decode cX6_lays 51 = .ok (.iastore, 1) := by decide +kernel
theorem dX6_lays_52 : decode cX6_lays 52 = .ok (.goto 24, 3) := by decide +kernel
theorem dX6_lays_55 : decode cX6_lays 55 = .ok (.iload_n 1, 1) := by decide +kernel
theorem dX6_lays_56 : decode cX6_lays 56 = .ok (.bipush 6, 2) := by decide +kernel
theorem dX6_lays_58 : decode cX6_lays 58 = .ok (.if_icmp .ne 13, 3) := by decide +kernel
theorem dX6_lays_61 : decode cX6_lays 61 = .ok (.aload_n 0, 1) := by decide +kernel
theorem dX6_lays_62 : decode cX6_lays 62 = .ok (.getfield 26, 3) := by decide +kernel
theorem dX6_lays_65 : decode cX6_lays 65 = .ok (.iload_n 2, 1) := by decide +kernel
theorem dX6_lays_66 : decode cX6_lays 66 = .ok (.iload_n 3, 1) := by decide +kernel
theorem dX6_lays_67 : decode cX6_lays 67 = .ok (.iastore, 1) := by decide +kernel
theorem dX6_lays_68 : decode cX6_lays 68 = .ok (.goto 8, 3) := by decide +kernel
theorem dX6_lays_71 : decode cX6_lays 71 = .ok (.aload_n 0, 1) := by decide +kernel
theorem dX6_lays_72 : decode cX6_lays 72 = .ok (.iload_n 3, 1) := by decide +kernel
theorem dX6_lays_73 : decode cX6_lays 73 = .ok (.putfield 122, 3) := by decide +kernel
theorem dX6_lays_76 : decode cX6_lays 76 = .ok (.return_, 1) := by decide +kernel
theorem dX6_figure_0 : decode cX6_figure 0 = .ok (.iload_n 1, 1) := by decide +kernel
theorem dX6_figure_1 : decode cX6_figure 1 = .ok (.i2l, 1) := by decide +kernel
theorem dX6_figure_2 : decode cX6_figure 2 = .ok (.lconst 0, 1) := by decide +kernel
theorem dX6_figure_3 : decode cX6_figure 3 = .ok (.ldc2_w 104, 3) := by decide +kernel
theorem dX6_figure_6 : decode cX6_figure 6 = .ok (.invokestatic 88, 3) := by decide +kernel
theorem dX6_figure_9 : decode cX6_figure 9 = .ok (.ifCond .eq 27, 3) := by decide +kernel
theorem dX6_figure_12 : decode cX6_figure 12 = .ok (.iload_n 2, 1) := by decide +kernel
theorem dX6_figure_13 : decode cX6_figure 13 = .ok (.i2l, 1) := by decide +kernel
theorem dX6_figure_14 : decode cX6_figure 14 = .ok (.lconst 0, 1) := by decide +kernel
theorem dX6_figure_15 : decode cX6_figure 15 = .ok (.ldc2_w 125, 3) := by decide +kernel
theorem dX6_figure_18 : decode cX6_figure 18 = .ok (.invokestatic 88, 3) := by decide +kernel
theorem dX6_figure_21 : decode cX6_figure 21 = .ok (.ifCond .eq 15, 3) := by decide +kernel
theorem dX6_figure_24 : decode cX6_figure 24 = .ok (.iload_n 3, 1) := by decide +kernel
theorem dX6_figure_25 : decode cX6_figure 25 = .ok (.i2l, 1) := by decide +kernel
theorem dX6_figure_26 : decode cX6_figure 26 = .ok (.lconst 0, 1) := by decide +kernel
theorem dX6_figure_27 : decode cX6_figure 27 = .ok (.ldc2_w 127, 3) := by decide +kernel
theorem dX6_figure_30 : decode cX6_figure 30 = .ok (.invokestatic 88, 3) := by decide +kernel
theorem dX6_figure_33 : decode cX6_figure 33 = .ok (.ifCond .ne 6, 3) := by decide +kernel
theorem dX6_figure_36 : decode cX6_figure 36 = .ok (.bipush (-2), 2) := by decide +kernel
theorem dX6_figure_38 : decode cX6_figure 38 = .ok (.ireturn, 1) := by decide +kernel
theorem dX6_figure_39 : decode cX6_figure 39 = .ok (.aload_n 0, 1) := by decide +kernel
theorem dX6_figure_40 : decode cX6_figure 40 = .ok (.getfield 85, 3) := by decide +kernel
theorem dX6_figure_43 : decode cX6_figure 43 = .ok (.bipush 6, 2) := by decide +kernel
theorem dX6_figure_45 : decode cX6_figure 45 = .ok (.if_icmp .ne 6, 3) := by decide +kernel
theorem dX6_figure_48 : decode cX6_figure 48 = .ok (.bipush (-4), 2) := by decide +kernel
theorem dX6_figure_50 : decode cX6_figure 50 = .ok (.ireturn, 1) := by decide +kernel
theorem dX6_figure_51 : decode cX6_figure 51 = .ok (.aload_n 0, 1) := by decide +kernel
theorem dX6_figure_52 : decode cX6_figure 52 = .ok (.getfield 26, 3) := by decide +kernel
theorem dX6_figure_55 : decode cX6_figure 55 = .ok (.aload_n 0, 1) := by decide +kernel
theorem dX6_figure_56 : decode cX6_figure 56 = .ok (.getfield 85, 3) := by decide +kernel
theorem dX6_figure_59 : decode cX6_figure 59 = .ok (.iload_n 1, 1) := by decide +kernel
theorem dX6_figure_60 : decode cX6_figure 60 = .ok (.iastore, 1) := by decide +kernel
theorem dX6_figure_61 : decode cX6_figure 61 = .ok (.aload_n 0, 1) := by decide +kernel
theorem dX6_figure_62 : decode cX6_figure 62 = .ok (.getfield 29, 3) := by decide +kernel
theorem dX6_figure_65 : decode cX6_figure 65 = .ok (.iconst 3, 1) := by decide +kernel
theorem dX6_figure_66 : decode cX6_figure 66 = .ok (.aload_n 0, 1) := by decide +kernel
theorem dX6_figure_67 : decode cX6_figure 67 = .ok (.getfield 85, 3) := by decide +kernel
theorem dX6_figure_70 : decode cX6_figure 70 = .ok (.imul, 1) := by decide +kernel
theorem dX6_figure_71 : decode cX6_figure 71 = .ok (.iload_n 2, 1) := by decide +kernel
theorem dX6_figure_72 : decode cX6_figure 72 = .ok (.iastore, 1) := by decide +kernel
theorem dX6_figure_73 : decode cX6_figure 73 = .ok (.aload_n 0, 1) := by decide +kernel
theorem dX6_figure_74 : decode cX6_figure 74 = .ok (.getfield 29, 3) := by decide +kernel
theorem dX6_figure_77 : decode cX6_figure 77 = .ok (.iconst 3, 1) := by decide +kernel
theorem dX6_figure_78 : decode cX6_figure 78 = .ok (.aload_n 0, 1) := by decide +kernel
theorem dX6_figure_79 : decode cX6_figure 79 = .ok (.getfield 85, 3) := by decide +kernel
theorem dX6_figure_82 : decode cX6_figure 82 = .ok (.imul, 1) := by decide +kernel
theorem dX6_figure_83 : decode cX6_figure 83 = .ok (.iconst 1, 1) := by decide +kernel
theorem dX6_figure_84 : decode cX6_figure 84 = .ok (.iadd, 1) := by decide +kernel
theorem dX6_figure_85 : decode cX6_figure 85 = .ok (.iload_n 3, 1) := by decide +kernel
theorem dX6_figure_86 : decode cX6_figure 86 = .ok (.iastore, 1) := by decide +kernel
theorem dX6_figure_87 : decode cX6_figure 87 = .ok (.aload_n 0, 1) := by decide +kernel
theorem dX6_figure_88 : decode cX6_figure 88 = .ok (.getfield 29, 3) := by decide +kernel
theorem dX6_figure_91 : decode cX6_figure 91 = .ok (.iconst 3, 1) := by decide +kernel
theorem dX6_figure_92 : decode cX6_figure 92 = .ok (.aload_n 0, 1) := by decide +kernel
theorem dX6_figure_93 : decode cX6_figure 93 = .ok (.getfield 85, 3) := by decide +kernel
theorem dX6_figure_96 : decode cX6_figure 96 = .ok (.imul, 1) := by decide +kernel
theorem dX6_figure_97 : decode cX6_figure 97 = .ok (.iconst 2, 1) := by decide +kernel
theorem dX6_figure_98 : decode cX6_figure 98 = .ok (.iadd, 1) := by decide +kernel
theorem dX6_figure_99 : decode cX6_figure 99 = .ok (.sipush 4095, 3) := by decide +kernel
theorem dX6_figure_102 : decode cX6_figure 102 = .ok (.iastore, 1) := by decide +kernel
theorem dX6_figure_103 : decode cX6_figure 103 = .ok (.aload_n 0, 1) := by decide +kernel
theorem dX6_figure_104 : decode cX6_figure 104 = .ok (.dup, 1) := by decide +kernel
theorem dX6_figure_105 : decode cX6_figure 105 = .ok (.getfield 85, 3) := by decide +kernel
theorem dX6_figure_108 : decode cX6_figure 108 = .ok (.iconst 1, 1) := by decide +kernel
theorem dX6_figure_109 : decode cX6_figure 109 = .ok (.iadd, 1) := by decide +kernel
theorem dX6_figure_110 : decode cX6_figure 110 = .ok (.putfield 85, 3) := by decide +kernel
theorem dX6_figure_113 : decode cX6_figure 113 = .ok (.aload_n 0, 1) := by decide +kernel
theorem dX6_figure_114 : decode cX6_figure 114 = .ok (.getfield 85, 3) := by decide +kernel
theorem dX6_figure_117 : decode cX6_figure 117 = .ok (.iconst 1, 1) := by decide +kernel
theorem dX6_figure_118 : decode cX6_figure 118 = .ok (.isub, 1) := by decide +kernel
theorem dX6_figure_119 : decode cX6_figure 119 = .ok (.ireturn, 1) := by decide +kernel
theorem dX6_client_0 : decode cX6_client 0 = .ok (.iload_n 1, 1) := by decide +kernel
theorem dX6_client_1 : decode cX6_client 1 = .ok (.invokestatic 129, 3) := by decide +kernel
theorem dX6_client_4 : decode cX6_client 4 = .ok (.ifCond .eq 15, 3) := by decide +kernel
theorem dX6_client_7 : decode cX6_client 7 = .ok (.iload_n 2, 1) := by decide +kernel
theorem dX6_client_8 : decode cX6_client 8 = .ok (.i2l, 1) := by decide +kernel
theorem dX6_client_9 : decode cX6_client 9 = .ok (.lconst 0, 1) := by decide +kernel
theorem dX6_client_10 : decode cX6_client 10 = .ok (.ldc2_w 132, 3) := by decide +kernel
theorem dX6_client_13 : decode cX6_client 13 = .ok (.invokestatic 88, 3) := by decide +kernel
theorem dX6_client_16 : decode cX6_client 16 = .ok (.ifCond .ne 6, 3) := by decide +kernel
theorem dX6_client_19 : decode cX6_client 19 = .ok (.bipush (-2), 2) := by decide +kernel
theorem dX6_client_21 : decode cX6_client 21 = .ok (.ireturn, 1) := by decide +kernel
theorem dX6_client_22 : decode cX6_client 22 = .ok (.aload_n 0, 1) := by decide +kernel
theorem dX6_client_23 : decode cX6_client 23 = .ok (.getfield 92, 3) := by decide +kernel
theorem dX6_client_26 : decode cX6_client 26 = .ok (.iconst 5, 1) := by decide +kernel
theorem dX6_client_27 : decode cX6_client 27 = .ok (.if_icmp .ne 6, 3) := by decide +kernel
theorem dX6_client_30 : decode cX6_client 30 = .ok (.bipush (-4), 2) := by decide +kernel
theorem dX6_client_32 : decode cX6_client 32 = .ok (.ireturn, 1) := by decide +kernel
theorem dX6_client_33 : decode cX6_client 33 = .ok (.aload_n 0, 1) := by decide +kernel
theorem dX6_client_34 : decode cX6_client 34 = .ok (.getfield 32, 3) := by decide +kernel
theorem dX6_client_37 : decode cX6_client 37 = .ok (.iconst 2, 1) := by decide +kernel
theorem dX6_client_38 : decode cX6_client 38 = .ok (.aload_n 0, 1) := by decide +kernel
theorem dX6_client_39 : decode cX6_client 39 = .ok (.getfield 92, 3) := by decide +kernel
theorem dX6_client_42 : decode cX6_client 42 = .ok (.imul, 1) := by decide +kernel
theorem dX6_client_43 : decode cX6_client 43 = .ok (.iload_n 1, 1) := by decide +kernel
theorem dX6_client_44 : decode cX6_client 44 = .ok (.iastore, 1) := by decide +kernel
theorem dX6_client_45 : decode cX6_client 45 = .ok (.aload_n 0, 1) := by decide +kernel
theorem dX6_client_46 : decode cX6_client 46 = .ok (.getfield 32, 3) := by decide +kernel
theorem dX6_client_49 : decode cX6_client 49 = .ok (.iconst 2, 1) := by decide +kernel
theorem dX6_client_50 : decode cX6_client 50 = .ok (.aload_n 0, 1) := by decide +kernel
theorem dX6_client_51 : decode cX6_client 51 = .ok (.getfield 92, 3) := by decide +kernel
theorem dX6_client_54 : decode cX6_client 54 = .ok (.imul, 1) := by decide +kernel
theorem dX6_client_55 : decode cX6_client 55 = .ok (.iconst 1, 1) := by decide +kernel
theorem dX6_client_56 : decode cX6_client 56 = .ok (.iadd, 1) := by decide +kernel
theorem dX6_client_57 : decode cX6_client 57 = .ok (.iload_n 2, 1) := by decide +kernel
theorem dX6_client_58 : decode cX6_client 58 = .ok (.iastore, 1) := by decide +kernel
theorem dX6_client_59 : decode cX6_client 59 = .ok (.aload_n 0, 1) := by decide +kernel
theorem dX6_client_60 : decode cX6_client 60 = .ok (.dup, 1) := by decide +kernel
theorem dX6_client_61 : decode cX6_client 61 = .ok (.getfield 92, 3) := by decide +kernel
theorem dX6_client_64 : decode cX6_client 64 = .ok (.iconst 1, 1) := by decide +kernel
theorem dX6_client_65 : decode cX6_client 65 = .ok (.iadd, 1) := by decide +kernel
theorem dX6_client_66 : decode cX6_client 66 = .ok (.putfield 92, 3) := by decide +kernel
theorem dX6_client_69 : decode cX6_client 69 = .ok (.aload_n 0, 1) := by decide +kernel
theorem dX6_client_70 : decode cX6_client 70 = .ok (.getfield 92, 3) := by decide +kernel
theorem dX6_client_73 : decode cX6_client 73 = .ok (.iconst 1, 1) := by decide +kernel
theorem dX6_client_74 : decode cX6_client 74 = .ok (.isub, 1) := by decide +kernel
theorem dX6_client_75 : decode cX6_client 75 = .ok (.ireturn, 1) := by decide +kernel
theorem dX6_told_0 : decode cX6_told 0 = .ok (.iload_n 2, 1) := by decide +kernel
theorem dX6_told_1 : decode cX6_told 1 = .ok (.i2l, 1) := by decide +kernel
theorem dX6_told_2 : decode cX6_told 2 = .ok (.lconst 0, 1) := by decide +kernel
theorem dX6_told_3 : decode cX6_told 3 = .ok (.ldc2_w 134, 3) := by decide +kernel
theorem dX6_told_6 : decode cX6_told 6 = .ok (.invokestatic 88, 3) := by decide +kernel
theorem dX6_told_9 : decode cX6_told 9 = .ok (.ifCond .ne 31, 3) := by decide +kernel
theorem dX6_told_12 : decode cX6_told 12 = .ok (.iload_n 2, 1) := by decide +kernel
theorem dX6_told_13 : decode cX6_told 13 = .ok (.i2l, 1) := by decide +kernel
theorem dX6_told_14 : decode cX6_told 14 = .ok (.ldc2_w 136, 3) := by decide +kernel
theorem dX6_told_17 : decode cX6_told 17 = .ok (.ldc2_w 138, 3) := by decide +kernel
theorem dX6_told_20 : decode cX6_told 20 = .ok (.invokestatic 88, 3) := by decide +kernel
theorem dX6_told_23 : decode cX6_told 23 = .ok (.ifCond .ne 17, 3) := by decide +kernel
theorem dX6_told_26 : decode cX6_told 26 = .ok (.iload_n 2, 1) := by decide +kernel
theorem dX6_told_27 : decode cX6_told 27 = .ok (.i2l, 1) := by decide +kernel
theorem dX6_told_28 : decode cX6_told 28 = .ok (.ldc2_w 140, 3) := by decide +kernel
theorem dX6_told_31 : decode cX6_told 31 = .ok (.ldc2_w 142, 3) := by decide +kernel
theorem dX6_told_34 : decode cX6_told 34 = .ok (.invokestatic 88, 3) := by decide +kernel
theorem dX6_told_37 : decode cX6_told 37 = .ok (.ifCond .eq 12, 3) := by decide +kernel
theorem dX6_told_40 : decode cX6_told 40 = .ok (.aload_n 0, 1) := by decide +kernel
theorem dX6_told_41 : decode cX6_told 41 = .ok (.iload_n 2, 1) := by decide +kernel
theorem dX6_told_42 : decode cX6_told 42 = .ok (.iload_n 1, 1) := by decide +kernel
theorem dX6_told_43 : decode cX6_told 43 = .ok (.invokevirtual 106, 3) := by decide +kernel
theorem dX6_told_46 : decode cX6_told 46 = .ok (.ifCond .ne 6, 3) := by decide +kernel
theorem dX6_told_49 : decode cX6_told 49 = .ok (.bipush (-2), 2) := by decide +kernel
theorem dX6_told_51 : decode cX6_told 51 = .ok (.ireturn, 1) := by decide +kernel
theorem dX6_told_52 : decode cX6_told 52 = .ok (.iload_n 2, 1) := by decide +kernel
theorem dX6_told_53 : decode cX6_told 53 = .ok (.bipush 7, 2) := by decide +kernel
theorem dX6_told_55 : decode cX6_told 55 = .ok (.if_icmp .le 39, 3) := by decide +kernel
theorem dX6_told_58 : decode cX6_told 58 = .ok (.iload_n 2, 1) := by decide +kernel
theorem dX6_told_59 : decode cX6_told 59 = .ok (.bipush 30, 2) := by decide +kernel
theorem dX6_told_61 : decode cX6_told 61 = .ok (.if_icmp .ge 15, 3) := by decide +kernel
theorem dX6_told_64 : decode cX6_told 64 = .ok (.aload_n 0, 1) := by decide +kernel
theorem dX6_told_65 : decode cX6_told 65 = .ok (.iload_n 1, 1) := by decide +kernel
theorem dX6_told_66 : decode cX6_told 66 = .ok (.iload_n 2, 1) := by decide +kernel
theorem dX6_told_67 : decode cX6_told 67 = .ok (.bipush 10, 2) := by decide +kernel
theorem dX6_told_69 : decode cX6_told 69 = .ok (.isub, 1) := by decide +kernel
theorem dX6_told_70 : decode cX6_told 70 = .ok (.invokevirtual 144, 3) := by decide +kernel
theorem dX6_told_73 : decode cX6_told 73 = .ok (.goto 20, 3) := by decide +kernel
theorem dX6_told_76 : decode cX6_told 76 = .ok (.aload_n 0, 1) := by decide +kernel
theorem dX6_told_77 : decode cX6_told 77 = .ok (.iload_n 1, 1) := by decide +kernel
theorem dX6_told_78 : decode cX6_told 78 = .ok (.iload_n 2, 1) := by decide +kernel
theorem dX6_told_79 : decode cX6_told 79 = .ok (.bipush 30, 2) := by decide +kernel
theorem dX6_told_81 : decode cX6_told 81 = .ok (.isub, 1) := by decide +kernel
theorem dX6_told_82 : decode cX6_told 82 = .ok (.invokevirtual 147, 3) := by decide +kernel
theorem dX6_told_85 : decode cX6_told 85 = .ok (.ifCond .eq 7, 3) := by decide +kernel
theorem dX6_told_88 : decode cX6_told 88 = .ok (.iconst 1, 1) := by decide +kernel
theorem dX6_told_89 : decode cX6_told 89 = .ok (.goto 4, 3) := by decide +kernel
theorem dX6_told_92 : decode cX6_told 92 = .ok (.iconst 0, 1) := by decide +kernel
theorem dX6_told_93 : decode cX6_told 93 = .ok (.ireturn, 1) := by decide +kernel
theorem dX6_told_94 : decode cX6_told 94 = .ok (.iload_n 2, 1) := by decide +kernel
theorem dX6_told_95 : decode cX6_told 95 = .ok (.iconst 5, 1) := by decide +kernel
theorem dX6_told_96 : decode cX6_told 96 = .ok (.if_icmp .le 24, 3) := by decide +kernel
theorem dX6_told_99 : decode cX6_told 99 = .ok (.iload_n 2, 1) := by decide +kernel
theorem dX6_told_100 : decode cX6_told 100 = .ok (.bipush 6, 2) := by decide +kernel
theorem dX6_told_102 : decode cX6_told 102 = .ok (.if_icmp .ne 12, 3) := by decide +kernel
theorem dX6_told_105 : decode cX6_told 105 = .ok (.aload_n 0, 1) := by decide +kernel
theorem dX6_told_106 : decode cX6_told 106 = .ok (.getfield 26, 3) := by decide +kernel
theorem dX6_told_109 : decode cX6_told 109 = .ok (.iload_n 1, 1) := by decide +kernel
theorem dX6_told_110 : decode cX6_told 110 = .ok (.iaload, 1) := by decide +kernel
theorem dX6_told_111 : decode cX6_told 111 = .ok (.goto 8, 3) := by decide +kernel
theorem dX6_told_114 : decode cX6_told 114 = .ok (.aload_n 0, 1) := by decide +kernel
theorem dX6_told_115 : decode cX6_told 115 = .ok (.iload_n 1, 1) := by decide +kernel
theorem dX6_told_116 : decode cX6_told 116 = .ok (.invokevirtual 150, 3) := by decide +kernel
theorem dX6_told_119 : decode cX6_told 119 = .ok (.ireturn, 1) := by decide +kernel
theorem dX6_told_120 : decode cX6_told 120 = .ok (.iload_n 2, 1) := by decide +kernel
theorem dX6_told_121 : decode cX6_told 121 = .ok (.ifCond .ne 10, 3) := by decide +kernel
theorem dX6_told_124 : decode cX6_told 124 = .ok (.aload_n 0, 1) := by decide +kernel
theorem dX6_told_125 : decode cX6_told 125 = .ok (.getfield 23, 3) := by decide +kernel
theorem dX6_told_128 : decode cX6_told 128 = .ok (.goto 35, 3) := by decide +kernel
theorem dX6_told_131 : decode cX6_told 131 = .ok (.iload_n 2, 1) := by decide +kernel
theorem dX6_told_132 : decode cX6_told 132 = .ok (.iconst 4, 1) := by decide +kernel
theorem dX6_told_133 : decode cX6_told 133 = .ok (.if_icmp .ge 18, 3) := by decide +kernel
theorem dX6_told_136 : decode cX6_told 136 = .ok (.aload_n 0, 1) := by decide +kernel
theorem dX6_told_137 : decode cX6_told 137 = .ok (.getfield 29, 3) := by decide +kernel
theorem dX6_told_140 : decode cX6_told 140 = .ok (.iconst 3, 1) := by decide +kernel
theorem dX6_told_141 : decode cX6_told 141 = .ok (.iload_n 1, 1) := by decide +kernel
theorem dX6_told_142 : decode cX6_told 142 = .ok (.imul, 1) := by decide +kernel
theorem dX6_told_143 : decode cX6_told 143 = .ok (.iload_n 2, 1) := by decide +kernel
theorem dX6_told_144 : decode cX6_told 144 = .ok (.iadd, 1) := by decide +kernel
theorem dX6_told_145 : decode cX6_told 145 = .ok (.iconst 1, 1) := by decide +kernel
theorem dX6_told_146 : decode cX6_told 146 = .ok (.isub, 1) := by decide +kernel
theorem dX6_told_147 : decode cX6_told 147 = .ok (.iaload, 1) := by decide +kernel
theorem dX6_told_148 : decode cX6_told 148 = .ok (.goto 15, 3) := by decide +kernel
theorem dX6_told_151 : decode cX6_told 151 = .ok (.aload_n 0, 1) := by decide +kernel
theorem dX6_told_152 : decode cX6_told 152 = .ok (.getfield 32, 3) := by decide +kernel
theorem dX6_told_155 : decode cX6_told 155 = .ok (.iconst 2, 1) := by decide +kernel
theorem dX6_told_156 : decode cX6_told 156 = .ok (.iload_n 1, 1) := by decide +kernel
theorem dX6_told_157 : decode cX6_told 157 = .ok (.imul, 1) := by decide +kernel
theorem dX6_told_158 : decode cX6_told 158 = .ok (.iload_n 2, 1) := by decide +kernel
theorem dX6_told_159 : decode cX6_told 159 = .ok (.iadd, 1) := by decide +kernel
theorem dX6_told_160 : decode cX6_told 160 = .ok (.iconst 4, 1) := by decide +kernel
theorem dX6_told_161 : decode cX6_told 161 = .ok (.isub, 1) := by decide +kernel
theorem dX6_told_162 : decode cX6_told 162 = .ok (.iaload, 1) := by decide +kernel
theorem dX6_told_163 : decode cX6_told 163 = .ok (.ireturn, 1) := by decide +kernel
theorem dX6_isWished_0 : decode cX6_isWished 0 = .ok (.aload_n 0, 1) := by decide +kernel
theorem dX6_isWished_1 : decode cX6_isWished 1 = .ok (.getfield 32, 3) := by decide +kernel
theorem dX6_isWished_4 : decode cX6_isWished 4 = .ok (.iconst 2, 1) := by decide +kernel
theorem dX6_isWished_5 : decode cX6_isWished 5 = .ok (.iload_n 1, 1) := by decide +kernel
theorem dX6_isWished_6 : decode cX6_isWished 6 = .ok (.imul, 1) := by decide +kernel
theorem dX6_isWished_7 : decode cX6_isWished 7 = .ok (.iconst 1, 1) := by decide +kernel
theorem dX6_isWished_8 : decode cX6_isWished 8 = .ok (.iadd, 1) := by decide +kernel
theorem dX6_isWished_9 : decode cX6_isWished 9 = .ok (.iaload, 1) := by decide +kernel
theorem dX6_isWished_10 : decode cX6_isWished 10 = .ok (.iload_n 2, 1) := by decide +kernel
theorem dX6_isWished_11 : decode cX6_isWished 11 = .ok (.ishr, 1) := by decide +kernel
theorem dX6_isWished_12 : decode cX6_isWished 12 = .ok (.iconst 1, 1) := by decide +kernel
theorem dX6_isWished_13 : decode cX6_isWished 13 = .ok (.iand, 1) := by decide +kernel
theorem dX6_isWished_14 : decode cX6_isWished 14 = .ok (.iconst 1, 1) := by decide +kernel
theorem dX6_isWished_15 : decode cX6_isWished 15 = .ok (.if_icmp .ne 7, 3) := by decide +kernel
theorem dX6_isWished_18 : decode cX6_isWished 18 = .ok (.iconst 1, 1) := by decide +kernel
theorem dX6_isWished_19 : decode cX6_isWished 19 = .ok (.goto 4, 3) := by decide +kernel
theorem dX6_isWished_22 : decode cX6_isWished 22 = .ok (.iconst 0, 1) := by decide +kernel
theorem dX6_isWished_23 : decode cX6_isWished 23 = .ok (.ireturn, 1) := by decide +kernel
theorem dX6_askedOf_0 : decode cX6_askedOf 0 = .ok (.iconst 0, 1) := by decide +kernel
theorem dX6_askedOf_1 : decode cX6_askedOf 1 = .ok (.istore_n 2, 1) := by decide +kernel
theorem dX6_askedOf_2 : decode cX6_askedOf 2 = .ok (.iconst 0, 1) := by decide +kernel
theorem dX6_askedOf_3 : decode cX6_askedOf 3 = .ok (.istore_n 3, 1) := by decide +kernel
theorem dX6_askedOf_4 : decode cX6_askedOf 4 = .ok (.iload_n 3, 1) := by decide +kernel
theorem dX6_askedOf_5 : decode cX6_askedOf 5 = .ok (.aload_n 0, 1) := by decide +kernel
theorem dX6_askedOf_6 : decode cX6_askedOf 6 = .ok (.getfield 92, 3) := by decide +kernel
theorem dX6_askedOf_9 : decode cX6_askedOf 9 = .ok (.if_icmp .ge 26, 3) := by decide +kernel
theorem dX6_askedOf_12 : decode cX6_askedOf 12 = .ok (.iload_n 2, 1) := by decide +kernel
theorem dX6_askedOf_13 : decode cX6_askedOf 13 = .ok (.aload_n 0, 1) := by decide +kernel
theorem dX6_askedOf_14 : decode cX6_askedOf 14 = .ok (.iload_n 3, 1) := by decide +kernel
theorem dX6_askedOf_15 : decode cX6_askedOf 15 = .ok (.iload_n 1, 1) := by decide +kernel
theorem dX6_askedOf_16 : decode cX6_askedOf 16 = .ok (.invokevirtual 153, 3) := by decide +kernel
theorem dX6_askedOf_19 : decode cX6_askedOf 19 = .ok (.ifCond .eq 7, 3) := by decide +kernel
theorem dX6_askedOf_22 : decode cX6_askedOf 22 = .ok (.iconst 1, 1) := by decide +kernel
theorem dX6_askedOf_23 : decode cX6_askedOf 23 = .ok (.goto 4, 3) := by decide +kernel
theorem dX6_askedOf_26 : decode cX6_askedOf 26 = .ok (.iconst 0, 1) := by decide +kernel
theorem dX6_askedOf_27 : decode cX6_askedOf 27 = .ok (.iadd, 1) := by decide +kernel
theorem dX6_askedOf_28 : decode cX6_askedOf 28 = .ok (.istore_n 2, 1) := by decide +kernel
theorem dX6_askedOf_29 : decode cX6_askedOf 29 = .ok (.iinc 3 1, 3) := by decide +kernel
theorem dX6_askedOf_32 : decode cX6_askedOf 32 = .ok (.goto (-28), 3) := by decide +kernel
theorem dX6_askedOf_35 : decode cX6_askedOf 35 = .ok (.iload_n 2, 1) := by decide +kernel
theorem dX6_askedOf_36 : decode cX6_askedOf 36 = .ok (.ireturn, 1) := by decide +kernel
theorem dX6_feed_0 : decode cX6_feed 0 = .ok (.iload_n 1, 1) := by decide +kernel
theorem dX6_feed_1 : decode cX6_feed 1 = .ok (.i2l, 1) := by decide +kernel
theorem dX6_feed_2 : decode cX6_feed 2 = .ok (.lconst 0, 1) := by decide +kernel
theorem dX6_feed_3 : decode cX6_feed 3 = .ok (.ldc2_w 156, 3) := by decide +kernel
theorem dX6_feed_6 : decode cX6_feed 6 = .ok (.invokestatic 88, 3) := by decide +kernel
theorem dX6_feed_9 : decode cX6_feed 9 = .ok (.ifCond .ne 6, 3) := by decide +kernel
theorem dX6_feed_12 : decode cX6_feed 12 = .ok (.bipush (-2), 2) := by decide +kernel
theorem dX6_feed_14 : decode cX6_feed 14 = .ok (.ireturn, 1) := by decide +kernel
theorem dX6_feed_15 : decode cX6_feed 15 = .ok (.aload_n 0, 1) := by decide +kernel
theorem dX6_feed_16 : decode cX6_feed 16 = .ok (.getfield 158, 3) := by decide +kernel
theorem dX6_feed_19 : decode cX6_feed 19 = .ok (.sipush 160, 3) := by decide +kernel
theorem dX6_feed_22 : decode cX6_feed 22 = .ok (.if_icmp .ne 6, 3) := by decide +kernel
theorem dX6_feed_25 : decode cX6_feed 25 = .ok (.bipush (-4), 2) := by decide +kernel
theorem dX6_feed_27 : decode cX6_feed 27 = .ok (.ireturn, 1) := by decide +kernel
theorem dX6_feed_28 : decode cX6_feed 28 = .ok (.aload_n 0, 1) := by decide +kernel
theorem dX6_feed_29 : decode cX6_feed 29 = .ok (.getfield 20, 3) := by decide +kernel
theorem dX6_feed_32 : decode cX6_feed 32 = .ok (.aload_n 0, 1) := by decide +kernel
theorem dX6_feed_33 : decode cX6_feed 33 = .ok (.getfield 158, 3) := by decide +kernel
theorem dX6_feed_36 : decode cX6_feed 36 = .ok (.iload_n 1, 1) := by decide +kernel
theorem dX6_feed_37 : decode cX6_feed 37 = .ok (.iastore, 1) := by decide +kernel
theorem dX6_feed_38 : decode cX6_feed 38 = .ok (.aload_n 0, 1) := by decide +kernel
theorem dX6_feed_39 : decode cX6_feed 39 = .ok (.dup, 1) := by decide +kernel
theorem dX6_feed_40 : decode cX6_feed 40 = .ok (.getfield 158, 3) := by decide +kernel
theorem dX6_feed_43 : decode cX6_feed 43 = .ok (.iconst 1, 1) := by decide +kernel
theorem dX6_feed_44 : decode cX6_feed 44 = .ok (.iadd, 1) := by decide +kernel
theorem dX6_feed_45 : decode cX6_feed 45 = .ok (.putfield 158, 3) := by decide +kernel
theorem dX6_feed_48 : decode cX6_feed 48 = .ok (.aload_n 0, 1) := by decide +kernel
theorem dX6_feed_49 : decode cX6_feed 49 = .ok (.getfield 158, 3) := by decide +kernel
theorem dX6_feed_52 : decode cX6_feed 52 = .ok (.ireturn, 1) := by decide +kernel
theorem dX6_byteAt_0 : decode cX6_byteAt 0 = .ok (.iload_n 1, 1) := by decide +kernel
theorem dX6_byteAt_1 : decode cX6_byteAt 1 = .ok (.aload_n 0, 1) := by decide +kernel
theorem dX6_byteAt_2 : decode cX6_byteAt 2 = .ok (.getfield 161, 3) := by decide +kernel
theorem dX6_byteAt_5 : decode cX6_byteAt 5 = .ok (.if_icmp .ge 17, 3) := by decide +kernel
theorem dX6_byteAt_8 : decode cX6_byteAt 8 = .ok (.aload_n 0, 1) := by decide +kernel
theorem dX6_byteAt_9 : decode cX6_byteAt 9 = .ok (.getfield 13, 3) := by decide +kernel
theorem dX6_byteAt_12 : decode cX6_byteAt 12 = .ok (.aload_n 0, 1) := by decide +kernel
theorem dX6_byteAt_13 : decode cX6_byteAt 13 = .ok (.getfield 164, 3) := by decide +kernel
theorem dX6_byteAt_16 : decode cX6_byteAt 16 = .ok (.iload_n 1, 1) := by decide +kernel
theorem dX6_byteAt_17 : decode cX6_byteAt 17 = .ok (.iadd, 1) := by decide +kernel
theorem dX6_byteAt_18 : decode cX6_byteAt 18 = .ok (.iaload, 1) := by decide +kernel
theorem dX6_byteAt_19 : decode cX6_byteAt 19 = .ok (.goto 4, 3) := by decide +kernel
theorem dX6_byteAt_22 : decode cX6_byteAt 22 = .ok (.iconst (-1), 1) := by decide +kernel
theorem dX6_byteAt_23 : decode cX6_byteAt 23 = .ok (.ireturn, 1) := by decide +kernel
theorem dX6_next_0 : decode cX6_next 0 = .ok (.aload_n 0, 1) := by decide +kernel
theorem dX6_next_1 : decode cX6_next 1 = .ok (.aload_n 0, 1) := by decide +kernel
theorem dX6_next_2 : decode cX6_next 2 = .ok (.getfield 167, 3) := by decide +kernel
theorem dX6_next_5 : decode cX6_next 5 = .ok (.invokevirtual 170, 3) := by decide +kernel
theorem dX6_next_8 : decode cX6_next 8 = .ok (.bipush 32, 2) := by decide +kernel
theorem dX6_next_10 : decode cX6_next 10 = .ok (.if_icmp .eq 16, 3) := by decide +kernel
theorem dX6_next_13 : decode cX6_next 13 = .ok (.aload_n 0, 1) := by decide +kernel
theorem dX6_next_14 : decode cX6_next 14 = .ok (.aload_n 0, 1) := by decide +kernel
theorem dX6_next_15 : decode cX6_next 15 = .ok (.getfield 167, 3) := by decide +kernel
theorem dX6_next_18 : decode cX6_next 18 = .ok (.invokevirtual 170, 3) := by decide +kernel
theorem dX6_next_21 : decode cX6_next 21 = .ok (.bipush 10, 2) := by decide +kernel
theorem dX6_next_23 : decode cX6_next 23 = .ok (.if_icmp .ne 16, 3) := by decide +kernel
theorem dX6_next_26 : decode cX6_next 26 = .ok (.aload_n 0, 1) := by decide +kernel
theorem dX6_next_27 : decode cX6_next 27 = .ok (.dup, 1) := by decide +kernel
theorem dX6_next_28 : decode cX6_next 28 = .ok (.getfield 167, 3) := by decide +kernel
theorem dX6_next_31 : decode cX6_next 31 = .ok (.iconst 1, 1) := by decide +kernel
theorem dX6_next_32 : decode cX6_next 32 = .ok (.iadd, 1) := by decide +kernel
theorem dX6_next_33 : decode cX6_next 33 = .ok (.putfield 167, 3) := by decide +kernel
theorem dX6_next_36 : decode cX6_next 36 = .ok (.goto (-36), 3) := by decide +kernel
theorem dX6_next_39 : decode cX6_next 39 = .ok (.aload_n 0, 1) := by decide +kernel
theorem dX6_next_40 : decode cX6_next 40 = .ok (.aload_n 0, 1) := by decide +kernel
theorem dX6_next_41 : decode cX6_next 41 = .ok (.getfield 167, 3) := by decide +kernel
theorem dX6_next_44 : decode cX6_next 44 = .ok (.putfield 173, 3) := by decide +kernel
theorem dX6_next_47 : decode cX6_next 47 = .ok (.aload_n 0, 1) := by decide +kernel
theorem dX6_next_48 : decode cX6_next 48 = .ok (.aload_n 0, 1) := by decide +kernel
theorem dX6_next_49 : decode cX6_next 49 = .ok (.getfield 167, 3) := by decide +kernel
theorem dX6_next_52 : decode cX6_next 52 = .ok (.invokevirtual 170, 3) := by decide +kernel
theorem dX6_next_55 : decode cX6_next 55 = .ok (.istore_n 1, 1) := by decide +kernel
theorem dX6_next_56 : decode cX6_next 56 = .ok (.aload_n 0, 1) := by decide +kernel
theorem dX6_next_57 : decode cX6_next 57 = .ok (.iconst 4, 1) := by decide +kernel
theorem dX6_next_58 : decode cX6_next 58 = .ok (.putfield 176, 3) := by decide +kernel
theorem dX6_next_61 : decode cX6_next 61 = .ok (.iload_n 1, 1) := by decide +kernel
theorem dX6_next_62 : decode cX6_next 62 = .ok (.ifCond .ge 19, 3) := by decide +kernel
theorem dX6_next_65 : decode cX6_next 65 = .ok (.aload_n 0, 1) := by decide +kernel
theorem dX6_next_66 : decode cX6_next 66 = .ok (.iconst 0, 1) := by decide +kernel
theorem dX6_next_67 : decode cX6_next 67 = .ok (.putfield 176, 3) := by decide +kernel
theorem dX6_next_70 : decode cX6_next 70 = .ok (.aload_n 0, 1) := by decide +kernel
theorem dX6_next_71 : decode cX6_next 71 = .ok (.aload_n 0, 1) := by decide +kernel
theorem dX6_next_72 : decode cX6_next 72 = .ok (.getfield 161, 3) := by decide +kernel
theorem dX6_next_75 : decode cX6_next 75 = .ok (.putfield 173, 3) := by decide +kernel
theorem dX6_next_78 : decode cX6_next 78 = .ok (.goto 243, 3) := by decide +kernel
theorem dX6_next_81 : decode cX6_next 81 = .ok (.iload_n 1, 1) := by decide +kernel
theorem dX6_next_82 : decode cX6_next 82 = .ok (.i2l, 1) := by decide +kernel
theorem dX6_next_83 : decode cX6_next 83 = .ok (.ldc2_w 179, 3) := by decide +kernel
theorem dX6_next_86 : decode cX6_next 86 = .ok (.ldc2_w 181, 3) := by decide +kernel
theorem dX6_next_89 : decode cX6_next 89 = .ok (.invokestatic 88, 3) := by decide +kernel
theorem dX6_next_92 : decode cX6_next 92 = .ok (.ifCond .eq 42, 3) := by decide +kernel
theorem dX6_next_95 : decode cX6_next 95 = .ok (.aload_n 0, 1) := by decide +kernel
theorem dX6_next_96 : decode cX6_next 96 = .ok (.iconst 1, 1) := by decide +kernel
theorem dX6_next_97 : decode cX6_next 97 = .ok (.putfield 176, 3) := by decide +kernel
theorem dX6_next_100 : decode cX6_next 100 = .ok (.aload_n 0, 1) := by decide +kernel
theorem dX6_next_101 : decode cX6_next 101 = .ok (.aload_n 0, 1) := by decide +kernel
theorem dX6_next_102 : decode cX6_next 102 = .ok (.getfield 167, 3) := by decide +kernel
theorem dX6_next_105 : decode cX6_next 105 = .ok (.invokevirtual 170, 3) := by decide +kernel
theorem dX6_next_108 : decode cX6_next 108 = .ok (.i2l, 1) := by decide +kernel
theorem dX6_next_109 : decode cX6_next 109 = .ok (.ldc2_w 179, 3) := by decide +kernel
theorem dX6_next_112 : decode cX6_next 112 = .ok (.ldc2_w 181, 3) := by decide +kernel
theorem dX6_next_115 : decode cX6_next 115 = .ok (.invokestatic 88, 3) := by decide +kernel
theorem dX6_next_118 : decode cX6_next 118 = .ok (.ifCond .eq 203, 3) := by decide +kernel
theorem dX6_next_121 : decode cX6_next 121 = .ok (.aload_n 0, 1) := by decide +kernel
theorem dX6_next_122 : decode cX6_next 122 = .ok (.dup, 1) := by decide +kernel
theorem dX6_next_123 : decode cX6_next 123 = .ok (.getfield 167, 3) := by decide +kernel
theorem dX6_next_126 : decode cX6_next 126 = .ok (.iconst 1, 1) := by decide +kernel
theorem dX6_next_127 : decode cX6_next 127 = .ok (.iadd, 1) := by decide +kernel
theorem dX6_next_128 : decode cX6_next 128 = .ok (.putfield 167, 3) := by decide +kernel
theorem dX6_next_131 : decode cX6_next 131 = .ok (.goto (-31), 3) := by decide +kernel
theorem dX6_next_134 : decode cX6_next 134 = .ok (.iload_n 1, 1) := by decide +kernel
theorem dX6_next_135 : decode cX6_next 135 = .ok (.i2l, 1) := by decide +kernel
theorem dX6_next_136 : decode cX6_next 136 = .ok (.ldc2_w 183, 3) := by decide +kernel
theorem dX6_next_139 : decode cX6_next 139 = .ok (.ldc2_w 185, 3) := by decide +kernel
theorem dX6_next_142 : decode cX6_next 142 = .ok (.invokestatic 88, 3) := by decide +kernel
theorem dX6_next_145 : decode cX6_next 145 = .ok (.ifCond .eq 107, 3) := by decide +kernel
theorem dX6_next_148 : decode cX6_next 148 = .ok (.aload_n 0, 1) := by decide +kernel
theorem dX6_next_149 : decode cX6_next 149 = .ok (.iconst 2, 1) := by decide +kernel
theorem dX6_next_150 : decode cX6_next 150 = .ok (.putfield 176, 3) := by decide +kernel
theorem dX6_next_153 : decode cX6_next 153 = .ok (.aload_n 0, 1) := by decide +kernel
theorem dX6_next_154 : decode cX6_next 154 = .ok (.lconst 0, 1) := by decide +kernel
theorem dX6_next_155 : decode cX6_next 155 = .ok (.putfield 187, 3) := by decide +kernel
theorem dX6_next_158 : decode cX6_next 158 = .ok (.iconst 0, 1) := by decide +kernel
theorem dX6_next_159 : decode cX6_next 159 = .ok (.istore_n 2, 1) := by decide +kernel
theorem dX6_next_160 : decode cX6_next 160 = .ok (.aload_n 0, 1) := by decide +kernel
theorem dX6_next_161 : decode cX6_next 161 = .ok (.aload_n 0, 1) := by decide +kernel
theorem dX6_next_162 : decode cX6_next 162 = .ok (.getfield 167, 3) := by decide +kernel
theorem dX6_next_165 : decode cX6_next 165 = .ok (.invokevirtual 170, 3) := by decide +kernel
theorem dX6_next_168 : decode cX6_next 168 = .ok (.i2l, 1) := by decide +kernel
theorem dX6_next_169 : decode cX6_next 169 = .ok (.ldc2_w 183, 3) := by decide +kernel
theorem dX6_next_172 : decode cX6_next 172 = .ok (.ldc2_w 185, 3) := by decide +kernel
theorem dX6_next_175 : decode cX6_next 175 = .ok (.invokestatic 88, 3) := by decide +kernel
theorem dX6_next_178 : decode cX6_next 178 = .ok (.ifCond .eq 57, 3) := by decide +kernel
theorem dX6_next_181 : decode cX6_next 181 = .ok (.aload_n 0, 1) := by decide +kernel
theorem dX6_next_182 : decode cX6_next 182 = .ok (.iload_n 2, 1) := by decide +kernel
theorem dX6_next_183 : decode cX6_next 183 = .ok (.iconst 4, 1) := by decide +kernel
theorem dX6_next_184 : decode cX6_next 184 = .ok (.if_icmp .ge 28, 3) := by decide +kernel
theorem dX6_next_187 : decode cX6_next 187 = .ok (.ldc2_w 136, 3) := by decide +kernel
theorem dX6_next_190 : decode cX6_next 190 = .ok (.aload_n 0, 1) := by decide +kernel
theorem dX6_next_191 : decode cX6_next 191 = .ok (.getfield 187, 3) := by decide +kernel
theorem dX6_next_194 : decode cX6_next 194 = .ok (.lmul, 1) := by decide +kernel
theorem dX6_next_195 : decode cX6_next 195 = .ok (.aload_n 0, 1) := by decide +kernel
theorem dX6_next_196 : decode cX6_next 196 = .ok (.aload_n 0, 1) := by decide +kernel
theorem dX6_next_197 : decode cX6_next 197 = .ok (.getfield 167, 3) := by decide +kernel
theorem dX6_next_200 : decode cX6_next 200 = .ok (.invokevirtual 170, 3) := by decide +kernel
theorem dX6_next_203 : decode cX6_next 203 = .ok (.i2l, 1) := by decide +kernel
theorem dX6_next_204 : decode cX6_next 204 = .ok (.ladd, 1) := by decide +kernel
theorem dX6_next_205 : decode cX6_next 205 = .ok (.ldc2_w 183, 3) := by decide +kernel
theorem dX6_next_208 : decode cX6_next 208 = .ok (.lsub, 1) := by decide +kernel
theorem dX6_next_209 : decode cX6_next 209 = .ok (.goto 7, 3) := by decide +kernel
theorem dX6_next_212 : decode cX6_next 212 = .ok (.aload_n 0, 1) := by decide +kernel
theorem dX6_next_213 : decode cX6_next 213 = .ok (.getfield 187, 3) := by decide +kernel
theorem dX6_next_216 : decode cX6_next 216 = .ok (.putfield 187, 3) := by decide +kernel
theorem dX6_next_219 : decode cX6_next 219 = .ok (.iinc 2 1, 3) := by decide +kernel
theorem dX6_next_222 : decode cX6_next 222 = .ok (.aload_n 0, 1) := by decide +kernel
theorem dX6_next_223 : decode cX6_next 223 = .ok (.dup, 1) := by decide +kernel
theorem dX6_next_224 : decode cX6_next 224 = .ok (.getfield 167, 3) := by decide +kernel
theorem dX6_next_227 : decode cX6_next 227 = .ok (.iconst 1, 1) := by decide +kernel
theorem dX6_next_228 : decode cX6_next 228 = .ok (.iadd, 1) := by decide +kernel
theorem dX6_next_229 : decode cX6_next 229 = .ok (.putfield 167, 3) := by decide +kernel
theorem dX6_next_232 : decode cX6_next 232 = .ok (.goto (-72), 3) := by decide +kernel
theorem dX6_next_235 : decode cX6_next 235 = .ok (.aload_n 0, 1) := by decide +kernel
theorem dX6_next_236 : decode cX6_next 236 = .ok (.iload_n 2, 1) := by decide +kernel
theorem dX6_next_237 : decode cX6_next 237 = .ok (.iconst 4, 1) := by decide +kernel
theorem dX6_next_238 : decode cX6_next 238 = .ok (.if_icmp .le 7, 3) := by decide +kernel
theorem dX6_next_241 : decode cX6_next 241 = .ok (.iconst 4, 1) := by decide +kernel
theorem dX6_next_242 : decode cX6_next 242 = .ok (.goto 4, 3) := by decide +kernel
theorem dX6_next_245 : decode cX6_next 245 = .ok (.iconst 2, 1) := by decide +kernel
theorem dX6_next_246 : decode cX6_next 246 = .ok (.putfield 176, 3) := by decide +kernel
theorem dX6_next_249 : decode cX6_next 249 = .ok (.goto 72, 3) := by decide +kernel
theorem dX6_next_252 : decode cX6_next 252 = .ok (.iload_n 1, 1) := by decide +kernel
theorem dX6_next_253 : decode cX6_next 253 = .ok (.bipush 40, 2) := by decide +kernel
theorem dX6_next_255 : decode cX6_next 255 = .ok (.if_icmp .eq 45, 3) := by decide +kernel
theorem dX6_next_258 : decode cX6_next 258 = .ok (.iload_n 1, 1) := by decide +kernel
theorem dX6_next_259 : decode cX6_next 259 = .ok (.bipush 41, 2) := by decide +kernel
theorem dX6_next_261 : decode cX6_next 261 = .ok (.if_icmp .eq 39, 3) := by decide +kernel
theorem dX6_next_264 : decode cX6_next 264 = .ok (.iload_n 1, 1) := by decide +kernel
theorem dX6_next_265 : decode cX6_next 265 = .ok (.bipush 59, 2) := by decide +kernel
theorem dX6_next_267 : decode cX6_next 267 = .ok (.if_icmp .eq 33, 3) := by decide +kernel
theorem dX6_next_270 : decode cX6_next 270 = .ok (.iload_n 1, 1) := by decide +kernel
theorem dX6_next_271 : decode cX6_next 271 = .ok (.bipush 43, 2) := by decide +kernel
theorem dX6_next_273 : decode cX6_next 273 = .ok (.if_icmp .eq 27, 3) := by decide +kernel
theorem dX6_next_276 : decode cX6_next 276 = .ok (.iload_n 1, 1) := by decide +kernel
theorem dX6_next_277 : decode cX6_next 277 = .ok (.bipush 45, 2) := by decide +kernel
theorem dX6_next_279 : decode cX6_next 279 = .ok (.if_icmp .eq 21, 3) := by decide +kernel
theorem dX6_next_282 : decode cX6_next 282 = .ok (.iload_n 1, 1) := by decide +kernel
theorem dX6_next_283 : decode cX6_next 283 = .ok (.bipush 42, 2) := by decide +kernel
theorem dX6_next_285 : decode cX6_next 285 = .ok (.if_icmp .eq 15, 3) := by decide +kernel
theorem dX6_next_288 : decode cX6_next 288 = .ok (.iload_n 1, 1) := by decide +kernel
theorem dX6_next_289 : decode cX6_next 289 = .ok (.bipush 60, 2) := by decide +kernel
theorem dX6_next_291 : decode cX6_next 291 = .ok (.if_icmp .eq 9, 3) := by decide +kernel
theorem dX6_next_294 : decode cX6_next 294 = .ok (.iload_n 1, 1) := by decide +kernel
theorem dX6_next_295 : decode cX6_next 295 = .ok (.bipush 61, 2) := by decide +kernel
theorem dX6_next_297 : decode cX6_next 297 = .ok (.if_icmp .ne 24, 3) := by decide +kernel
theorem dX6_next_300 : decode cX6_next 300 = .ok (.aload_n 0, 1) := by decide +kernel
theorem dX6_next_301 : decode cX6_next 301 = .ok (.iconst 3, 1) := by decide +kernel
theorem dX6_next_302 : decode cX6_next 302 = .ok (.putfield 176, 3) := by decide +kernel
theorem dX6_next_305 : decode cX6_next 305 = .ok (.aload_n 0, 1) := by decide +kernel
theorem dX6_next_306 : decode cX6_next 306 = .ok (.iload_n 1, 1) := by decide +kernel
theorem dX6_next_307 : decode cX6_next 307 = .ok (.i2l, 1) := by decide +kernel
theorem dX6_next_308 : decode cX6_next 308 = .ok (.putfield 187, 3) := by decide +kernel
theorem dX6_next_311 : decode cX6_next 311 = .ok (.aload_n 0, 1) := by decide +kernel
theorem dX6_next_312 : decode cX6_next 312 = .ok (.dup, 1) := by decide +kernel
theorem dX6_next_313 : decode cX6_next 313 = .ok (.getfield 167, 3) := by decide +kernel
theorem dX6_next_316 : decode cX6_next 316 = .ok (.iconst 1, 1) := by decide +kernel
theorem dX6_next_317 : decode cX6_next 317 = .ok (.iadd, 1) := by decide +kernel
theorem dX6_next_318 : decode cX6_next 318 = .ok (.putfield 167, 3) := by decide +kernel
theorem dX6_next_321 : decode cX6_next 321 = .ok (.return_, 1) := by decide +kernel
theorem dX6_fail_0 : decode cX6_fail 0 = .ok (.aload_n 0, 1) := by decide +kernel
theorem dX6_fail_1 : decode cX6_fail 1 = .ok (.getfield 191, 3) := by decide +kernel
theorem dX6_fail_4 : decode cX6_fail 4 = .ok (.ifCond .ne 16, 3) := by decide +kernel
theorem dX6_fail_7 : decode cX6_fail 7 = .ok (.aload_n 0, 1) := by decide +kernel
theorem dX6_fail_8 : decode cX6_fail 8 = .ok (.iconst 1, 1) := by decide +kernel
theorem dX6_fail_9 : decode cX6_fail 9 = .ok (.putfield 191, 3) := by decide +kernel
theorem dX6_fail_12 : decode cX6_fail 12 = .ok (.aload_n 0, 1) := by decide +kernel
theorem dX6_fail_13 : decode cX6_fail 13 = .ok (.aload_n 0, 1) := by decide +kernel
theorem dX6_fail_14 : decode cX6_fail 14 = .ok (.getfield 173, 3) := by decide +kernel
theorem dX6_fail_17 : decode cX6_fail 17 = .ok (.putfield 195, 3) := by decide +kernel
theorem dX6_fail_20 : decode cX6_fail 20 = .ok (.return_, 1) := by decide +kernel
theorem dX6_isLetter_0 : decode cX6_isLetter 0 = .ok (.aload_n 0, 1) := by decide +kernel
theorem dX6_isLetter_1 : decode cX6_isLetter 1 = .ok (.getfield 173, 3) := by decide +kernel
theorem dX6_isLetter_4 : decode cX6_isLetter 4 = .ok (.iload_n 1, 1) := by decide +kernel
theorem dX6_isLetter_5 : decode cX6_isLetter 5 = .ok (.iadd, 1) := by decide +kernel
theorem dX6_isLetter_6 : decode cX6_isLetter 6 = .ok (.aload_n 0, 1) := by decide +kernel
theorem dX6_isLetter_7 : decode cX6_isLetter 7 = .ok (.getfield 167, 3) := by decide +kernel
theorem dX6_isLetter_10 : decode cX6_isLetter 10 = .ok (.if_icmp .ge 25, 3) := by decide +kernel
theorem dX6_isLetter_13 : decode cX6_isLetter 13 = .ok (.aload_n 0, 1) := by decide +kernel
theorem dX6_isLetter_14 : decode cX6_isLetter 14 = .ok (.aload_n 0, 1) := by decide +kernel
theorem dX6_isLetter_15 : decode cX6_isLetter 15 = .ok (.getfield 173, 3) := by decide +kernel
theorem dX6_isLetter_18 : decode cX6_isLetter 18 = .ok (.iload_n 1, 1) := by decide +kernel
theorem dX6_isLetter_19 : decode cX6_isLetter 19 = .ok (.iadd, 1) := by decide +kernel
theorem dX6_isLetter_20 : decode cX6_isLetter 20 = .ok (.invokevirtual 170, 3) := by decide +kernel
theorem dX6_isLetter_23 : decode cX6_isLetter 23 = .ok (.iload_n 2, 1) := by decide +kernel
theorem dX6_isLetter_24 : decode cX6_isLetter 24 = .ok (.if_icmp .ne 7, 3) := by decide +kernel
theorem dX6_isLetter_27 : decode cX6_isLetter 27 = .ok (.iconst 1, 1) := by decide +kernel
theorem dX6_isLetter_28 : decode cX6_isLetter 28 = .ok (.goto 16, 3) := by decide +kernel
theorem dX6_isLetter_31 : decode cX6_isLetter 31 = .ok (.iconst 0, 1) := by decide +kernel
theorem dX6_isLetter_32 : decode cX6_isLetter 32 = .ok (.goto 12, 3) := by decide +kernel
theorem dX6_isLetter_35 : decode cX6_isLetter 35 = .ok (.iload_n 2, 1) := by decide +kernel
theorem dX6_isLetter_36 : decode cX6_isLetter 36 = .ok (.ifCond .ne 7, 3) := by decide +kernel
theorem dX6_isLetter_39 : decode cX6_isLetter 39 = .ok (.iconst 1, 1) := by decide +kernel
theorem dX6_isLetter_40 : decode cX6_isLetter 40 = .ok (.goto 4, 3) := by decide +kernel
theorem dX6_isLetter_43 : decode cX6_isLetter 43 = .ok (.iconst 0, 1) := by decide +kernel
theorem dX6_isLetter_44 : decode cX6_isLetter 44 = .ok (.ireturn, 1) := by decide +kernel
theorem dX6_isWord_0 : decode cX6_isWord 0 = .ok (.aload_n 0, 1) := by decide +kernel
theorem dX6_isWord_1 : decode cX6_isWord 1 = .ok (.getfield 191, 3) := by decide +kernel
theorem dX6_isWord_4 : decode cX6_isWord 4 = .ok (.ifCond .ne 108, 3) := by decide +kernel
theorem dX6_isWord_7 : decode cX6_isWord 7 = .ok (.aload_n 0, 1) := by decide +kernel
theorem dX6_isWord_8 : decode cX6_isWord 8 = .ok (.getfield 176, 3) := by decide +kernel
theorem dX6_isWord_11 : decode cX6_isWord 11 = .ok (.iconst 1, 1) := by decide +kernel
theorem dX6_isWord_12 : decode cX6_isWord 12 = .ok (.if_icmp .ne 100, 3) := by decide +kernel
theorem dX6_isWord_15 : decode cX6_isWord 15 = .ok (.aload_n 0, 1) := by decide +kernel
theorem dX6_isWord_16 : decode cX6_isWord 16 = .ok (.getfield 167, 3) := by decide +kernel
theorem dX6_isWord_19 : decode cX6_isWord 19 = .ok (.aload_n 0, 1) := by decide +kernel
theorem dX6_isWord_20 : decode cX6_isWord 20 = .ok (.getfield 173, 3) := by decide +kernel
theorem dX6_isWord_23 : decode cX6_isWord 23 = .ok (.bipush 8, 2) := by decide +kernel
theorem dX6_isWord_25 : decode cX6_isWord 25 = .ok (.iadd, 1) := by decide +kernel
theorem dX6_isWord_26 : decode cX6_isWord 26 = .ok (.if_icmp .gt 86, 3) := by decide +kernel
theorem dX6_isWord_29 : decode cX6_isWord 29 = .ok (.aload_n 0, 1) := by decide +kernel
theorem dX6_isWord_30 : decode cX6_isWord 30 = .ok (.iconst 0, 1) := by decide +kernel
theorem dX6_isWord_31 : decode cX6_isWord 31 = .ok (.iload_n 1, 1) := by decide +kernel
theorem dX6_isWord_32 : decode cX6_isWord 32 = .ok (.invokevirtual 198, 3) := by decide +kernel
theorem dX6_isWord_35 : decode cX6_isWord 35 = .ok (.ifCond .eq 77, 3) := by decide +kernel
theorem dX6_isWord_38 : decode cX6_isWord 38 = .ok (.aload_n 0, 1) := by decide +kernel
theorem dX6_isWord_39 : decode cX6_isWord 39 = .ok (.iconst 1, 1) := by decide +kernel
theorem dX6_isWord_40 : decode cX6_isWord 40 = .ok (.iload_n 2, 1) := by decide +kernel
theorem dX6_isWord_41 : decode cX6_isWord 41 = .ok (.invokevirtual 198, 3) := by decide +kernel
theorem dX6_isWord_44 : decode cX6_isWord 44 = .ok (.ifCond .eq 68, 3) := by decide +kernel
theorem dX6_isWord_47 : decode cX6_isWord 47 = .ok (.aload_n 0, 1) := by decide +kernel
theorem dX6_isWord_48 : decode cX6_isWord 48 = .ok (.iconst 2, 1) := by decide +kernel
theorem dX6_isWord_49 : decode cX6_isWord 49 = .ok (.iload_n 3, 1) := by decide +kernel
theorem dX6_isWord_50 : decode cX6_isWord 50 = .ok (.invokevirtual 198, 3) := by decide +kernel
theorem dX6_isWord_53 : decode cX6_isWord 53 = .ok (.ifCond .eq 59, 3) := by decide +kernel
theorem dX6_isWord_56 : decode cX6_isWord 56 = .ok (.aload_n 0, 1) := by decide +kernel
theorem dX6_isWord_57 : decode cX6_isWord 57 = .ok (.iconst 3, 1) := by decide +kernel
theorem dX6_isWord_58 : decode cX6_isWord 58 = .ok (.iload 4, 2) := by decide +kernel
theorem dX6_isWord_60 : decode cX6_isWord 60 = .ok (.invokevirtual 198, 3) := by decide +kernel
theorem dX6_isWord_63 : decode cX6_isWord 63 = .ok (.ifCond .eq 49, 3) := by decide +kernel
theorem dX6_isWord_66 : decode cX6_isWord 66 = .ok (.aload_n 0, 1) := by decide +kernel
theorem dX6_isWord_67 : decode cX6_isWord 67 = .ok (.iconst 4, 1) := by decide +kernel
theorem dX6_isWord_68 : decode cX6_isWord 68 = .ok (.iload 5, 2) := by decide +kernel
theorem dX6_isWord_70 : decode cX6_isWord 70 = .ok (.invokevirtual 198, 3) := by decide +kernel
theorem dX6_isWord_73 : decode cX6_isWord 73 = .ok (.ifCond .eq 39, 3) := by decide +kernel
theorem dX6_isWord_76 : decode cX6_isWord 76 = .ok (.aload_n 0, 1) := by decide +kernel
theorem dX6_isWord_77 : decode cX6_isWord 77 = .ok (.iconst 5, 1) := by decide +kernel
theorem dX6_isWord_78 : decode cX6_isWord 78 = .ok (.iload 6, 2) := by decide +kernel
theorem dX6_isWord_80 : decode cX6_isWord 80 = .ok (.invokevirtual 198, 3) := by decide +kernel
theorem dX6_isWord_83 : decode cX6_isWord 83 = .ok (.ifCond .eq 29, 3) := by decide +kernel
theorem dX6_isWord_86 : decode cX6_isWord 86 = .ok (.aload_n 0, 1) := by decide +kernel
theorem dX6_isWord_87 : decode cX6_isWord 87 = .ok (.bipush 6, 2) := by decide +kernel
theorem dX6_isWord_89 : decode cX6_isWord 89 = .ok (.iload 7, 2) := by decide +kernel
theorem dX6_isWord_91 : decode cX6_isWord 91 = .ok (.invokevirtual 198, 3) := by decide +kernel
theorem dX6_isWord_94 : decode cX6_isWord 94 = .ok (.ifCond .eq 18, 3) := by decide +kernel
theorem dX6_isWord_97 : decode cX6_isWord 97 = .ok (.aload_n 0, 1) := by decide +kernel
theorem dX6_isWord_98 : decode cX6_isWord 98 = .ok (.bipush 7, 2) := by decide +kernel
theorem dX6_isWord_100 : decode cX6_isWord 100 = .ok (.iload 8, 2) := by decide +kernel
theorem dX6_isWord_102 : decode cX6_isWord 102 = .ok (.invokevirtual 198, 3) := by decide +kernel
theorem dX6_isWord_105 : decode cX6_isWord 105 = .ok (.ifCond .eq 7, 3) := by decide +kernel
theorem dX6_isWord_108 : decode cX6_isWord 108 = .ok (.iconst 1, 1) := by decide +kernel
theorem dX6_isWord_109 : decode cX6_isWord 109 = .ok (.goto 4, 3) := by decide +kernel
theorem dX6_isWord_112 : decode cX6_isWord 112 = .ok (.iconst 0, 1) := by decide +kernel
theorem dX6_isWord_113 : decode cX6_isWord 113 = .ok (.ireturn, 1) := by decide +kernel
theorem dX6_isSign_0 : decode cX6_isSign 0 = .ok (.aload_n 0, 1) := by decide +kernel
theorem dX6_isSign_1 : decode cX6_isSign 1 = .ok (.getfield 191, 3) := by decide +kernel
theorem dX6_isSign_4 : decode cX6_isSign 4 = .ok (.ifCond .ne 25, 3) := by decide +kernel
theorem dX6_isSign_7 : decode cX6_isSign 7 = .ok (.aload_n 0, 1) := by decide +kernel
theorem dX6_isSign_8 : decode cX6_isSign 8 = .ok (.getfield 176, 3) := by decide +kernel
theorem dX6_isSign_11 : decode cX6_isSign 11 = .ok (.iconst 3, 1) := by decide +kernel
theorem dX6_isSign_12 : decode cX6_isSign 12 = .ok (.if_icmp .ne 17, 3) := by decide +kernel
theorem dX6_isSign_15 : decode cX6_isSign 15 = .ok (.aload_n 0, 1) := by decide +kernel
theorem dX6_isSign_16 : decode cX6_isSign 16 = .ok (.getfield 187, 3) := by decide +kernel
theorem dX6_isSign_19 : decode cX6_isSign 19 = .ok (.iload_n 1, 1) := by decide +kernel
theorem dX6_isSign_20 : decode cX6_isSign 20 = .ok (.i2l, 1) := by decide +kernel
theorem dX6_isSign_21 : decode cX6_isSign 21 = .ok (.lcmp, 1) := by decide +kernel
theorem dX6_isSign_22 : decode cX6_isSign 22 = .ok (.ifCond .ne 7, 3) := by decide +kernel
theorem dX6_isSign_25 : decode cX6_isSign 25 = .ok (.iconst 1, 1) := by decide +kernel
theorem dX6_isSign_26 : decode cX6_isSign 26 = .ok (.goto 4, 3) := by decide +kernel
theorem dX6_isSign_29 : decode cX6_isSign 29 = .ok (.iconst 0, 1) := by decide +kernel
theorem dX6_isSign_30 : decode cX6_isSign 30 = .ok (.ireturn, 1) := by decide +kernel
theorem dX6_opens_0 : decode cX6_opens 0 = .ok (.aload_n 0, 1) := by decide +kernel
theorem dX6_opens_1 : decode cX6_opens 1 = .ok (.getfield 201, 3) := by decide +kernel
theorem dX6_opens_4 : decode cX6_opens 4 = .ok (.iconst 5, 1) := by decide +kernel
theorem dX6_opens_5 : decode cX6_opens 5 = .ok (.if_icmp .ne 9, 3) := by decide +kernel
theorem dX6_opens_8 : decode cX6_opens 8 = .ok (.aload_n 0, 1) := by decide +kernel
theorem dX6_opens_9 : decode cX6_opens 9 = .ok (.invokevirtual 204, 3) := by decide +kernel
theorem dX6_opens_12 : decode cX6_opens 12 = .ok (.iconst 0, 1) := by decide +kernel
theorem dX6_opens_13 : decode cX6_opens 13 = .ok (.ireturn, 1) := by decide +kernel
theorem dX6_opens_14 : decode cX6_opens 14 = .ok (.aload_n 0, 1) := by decide +kernel
theorem dX6_opens_15 : decode cX6_opens 15 = .ok (.dup, 1) := by decide +kernel
theorem dX6_opens_16 : decode cX6_opens 16 = .ok (.getfield 201, 3) := by decide +kernel
theorem dX6_opens_19 : decode cX6_opens 19 = .ok (.iconst 1, 1) := by decide +kernel
theorem dX6_opens_20 : decode cX6_opens 20 = .ok (.iadd, 1) := by decide +kernel
theorem dX6_opens_21 : decode cX6_opens 21 = .ok (.putfield 201, 3) := by decide +kernel
theorem dX6_opens_24 : decode cX6_opens 24 = .ok (.aload_n 0, 1) := by decide +kernel
theorem dX6_opens_25 : decode cX6_opens 25 = .ok (.invokevirtual 207, 3) := by decide +kernel
theorem dX6_opens_28 : decode cX6_opens 28 = .ok (.iconst 1, 1) := by decide +kernel
theorem dX6_opens_29 : decode cX6_opens 29 = .ok (.ireturn, 1) := by decide +kernel
theorem dX6_name_0 : decode cX6_name 0 = .ok (.aload_n 0, 1) := by decide +kernel
theorem dX6_name_1 : decode cX6_name 1 = .ok (.bipush 104, 2) := by decide +kernel
theorem dX6_name_3 : decode cX6_name 3 = .ok (.bipush 111, 2) := by decide +kernel
theorem dX6_name_5 : decode cX6_name 5 = .ok (.bipush 117, 2) := by decide +kernel
theorem dX6_name_7 : decode cX6_name 7 = .ok (.bipush 114, 2) := by decide +kernel
theorem dX6_name_9 : decode cX6_name 9 = .ok (.iconst 0, 1) := by decide +kernel
theorem dX6_name_10 : decode cX6_name 10 = .ok (.iconst 0, 1) := by decide +kernel
theorem dX6_name_11 : decode cX6_name 11 = .ok (.iconst 0, 1) := by decide +kernel
theorem dX6_name_12 : decode cX6_name 12 = .ok (.iconst 0, 1) := by decide +kernel
theorem dX6_name_13 : decode cX6_name 13 = .ok (.invokevirtual 210, 3) := by decide +kernel
theorem dX6_name_16 : decode cX6_name 16 = .ok (.ifCond .eq 8, 3) := by decide +kernel
theorem dX6_name_19 : decode cX6_name 19 = .ok (.aload_n 0, 1) := by decide +kernel
theorem dX6_name_20 : decode cX6_name 20 = .ok (.getfield 214, 3) := by decide +kernel
theorem dX6_name_23 : decode cX6_name 23 = .ok (.ireturn, 1) := by decide +kernel
theorem dX6_name_24 : decode cX6_name 24 = .ok (.aload_n 0, 1) := by decide +kernel
theorem dX6_name_25 : decode cX6_name 25 = .ok (.bipush 110, 2) := by decide +kernel
theorem dX6_name_27 : decode cX6_name 27 = .ok (.bipush 117, 2) := by decide +kernel
theorem dX6_name_29 : decode cX6_name 29 = .ok (.bipush 109, 2) := by decide +kernel
theorem dX6_name_31 : decode cX6_name 31 = .ok (.bipush 98, 2) := by decide +kernel
theorem dX6_name_33 : decode cX6_name 33 = .ok (.bipush 101, 2) := by decide +kernel
theorem dX6_name_35 : decode cX6_name 35 = .ok (.bipush 114, 2) := by decide +kernel
theorem dX6_name_37 : decode cX6_name 37 = .ok (.iconst 0, 1) := by decide +kernel
theorem dX6_name_38 : decode cX6_name 38 = .ok (.iconst 0, 1) := by decide +kernel
theorem dX6_name_39 : decode cX6_name 39 = .ok (.invokevirtual 210, 3) := by decide +kernel
theorem dX6_name_42 : decode cX6_name 42 = .ok (.ifCond .eq 8, 3) := by decide +kernel
theorem dX6_name_45 : decode cX6_name 45 = .ok (.aload_n 0, 1) := by decide +kernel
theorem dX6_name_46 : decode cX6_name 46 = .ok (.getfield 217, 3) := by decide +kernel
theorem dX6_name_49 : decode cX6_name 49 = .ok (.ireturn, 1) := by decide +kernel
theorem dX6_name_50 : decode cX6_name 50 = .ok (.aload_n 0, 1) := by decide +kernel
theorem dX6_name_51 : decode cX6_name 51 = .ok (.bipush 109, 2) := by decide +kernel
theorem dX6_name_53 : decode cX6_name 53 = .ok (.bipush 101, 2) := by decide +kernel
theorem dX6_name_55 : decode cX6_name 55 = .ok (.bipush 97, 2) := by decide +kernel
theorem dX6_name_57 : decode cX6_name 57 = .ok (.bipush 110, 2) := by decide +kernel
theorem dX6_name_59 : decode cX6_name 59 = .ok (.bipush 115, 2) := by decide +kernel
theorem dX6_name_61 : decode cX6_name 61 = .ok (.iconst 0, 1) := by decide +kernel
theorem dX6_name_62 : decode cX6_name 62 = .ok (.iconst 0, 1) := by decide +kernel
theorem dX6_name_63 : decode cX6_name 63 = .ok (.iconst 0, 1) := by decide +kernel
theorem dX6_name_64 : decode cX6_name 64 = .ok (.invokevirtual 210, 3) := by decide +kernel
theorem dX6_name_67 : decode cX6_name 67 = .ok (.ifCond .eq 8, 3) := by decide +kernel
theorem dX6_name_70 : decode cX6_name 70 = .ok (.aload_n 0, 1) := by decide +kernel
theorem dX6_name_71 : decode cX6_name 71 = .ok (.getfield 220, 3) := by decide +kernel
theorem dX6_name_74 : decode cX6_name 74 = .ok (.ireturn, 1) := by decide +kernel
theorem dX6_name_75 : decode cX6_name 75 = .ok (.aload_n 0, 1) := by decide +kernel
theorem dX6_name_76 : decode cX6_name 76 = .ok (.bipush 119, 2) := by decide +kernel
theorem dX6_name_78 : decode cX6_name 78 = .ok (.bipush 105, 2) := by decide +kernel
theorem dX6_name_80 : decode cX6_name 80 = .ok (.bipush 115, 2) := by decide +kernel
theorem dX6_name_82 : decode cX6_name 82 = .ok (.bipush 104, 2) := by decide +kernel
theorem dX6_name_84 : decode cX6_name 84 = .ok (.bipush 101, 2) := by decide +kernel
theorem dX6_name_86 : decode cX6_name 86 = .ok (.bipush 100, 2) := by decide +kernel
theorem dX6_name_88 : decode cX6_name 88 = .ok (.iconst 0, 1) := by decide +kernel
theorem dX6_name_89 : decode cX6_name 89 = .ok (.iconst 0, 1) := by decide +kernel
theorem dX6_name_90 : decode cX6_name 90 = .ok (.invokevirtual 210, 3) := by decide +kernel
theorem dX6_name_93 : decode cX6_name 93 = .ok (.ifCond .eq 8, 3) := by decide +kernel
theorem dX6_name_96 : decode cX6_name 96 = .ok (.aload_n 0, 1) := by decide +kernel
theorem dX6_name_97 : decode cX6_name 97 = .ok (.getfield 223, 3) := by decide +kernel
theorem dX6_name_100 : decode cX6_name 100 = .ok (.ireturn, 1) := by decide +kernel
theorem dX6_name_101 : decode cX6_name 101 = .ok (.aload_n 0, 1) := by decide +kernel
theorem dX6_name_102 : decode cX6_name 102 = .ok (.bipush 97, 2) := by decide +kernel
theorem dX6_name_104 : decode cX6_name 104 = .ok (.bipush 115, 2) := by decide +kernel
theorem dX6_name_106 : decode cX6_name 106 = .ok (.bipush 107, 2) := by decide +kernel
theorem dX6_name_108 : decode cX6_name 108 = .ok (.bipush 101, 2) := by decide +kernel
theorem dX6_name_110 : decode cX6_name 110 = .ok (.bipush 100, 2) := by decide +kernel
theorem dX6_name_112 : decode cX6_name 112 = .ok (.iconst 0, 1) := by decide +kernel
theorem dX6_name_113 : decode cX6_name 113 = .ok (.iconst 0, 1) := by decide +kernel
theorem dX6_name_114 : decode cX6_name 114 = .ok (.iconst 0, 1) := by decide +kernel
theorem dX6_name_115 : decode cX6_name 115 = .ok (.invokevirtual 210, 3) := by decide +kernel
theorem dX6_name_118 : decode cX6_name 118 = .ok (.ifCond .eq 8, 3) := by decide +kernel
theorem dX6_name_121 : decode cX6_name 121 = .ok (.aload_n 0, 1) := by decide +kernel
theorem dX6_name_122 : decode cX6_name 122 = .ok (.getfield 226, 3) := by decide +kernel
theorem dX6_name_125 : decode cX6_name 125 = .ok (.ireturn, 1) := by decide +kernel
theorem dX6_name_126 : decode cX6_name 126 = .ok (.aload_n 0, 1) := by decide +kernel
theorem dX6_name_127 : decode cX6_name 127 = .ok (.bipush 99, 2) := by decide +kernel
theorem dX6_name_129 : decode cX6_name 129 = .ok (.bipush 108, 2) := by decide +kernel
theorem dX6_name_131 : decode cX6_name 131 = .ok (.bipush 105, 2) := by decide +kernel
theorem dX6_name_133 : decode cX6_name 133 = .ok (.bipush 101, 2) := by decide +kernel
theorem dX6_name_135 : decode cX6_name 135 = .ok (.bipush 110, 2) := by decide +kernel
theorem dX6_name_137 : decode cX6_name 137 = .ok (.bipush 116, 2) := by decide +kernel
theorem dX6_name_139 : decode cX6_name 139 = .ok (.bipush 115, 2) := by decide +kernel
theorem dX6_name_141 : decode cX6_name 141 = .ok (.iconst 0, 1) := by decide +kernel
theorem dX6_name_142 : decode cX6_name 142 = .ok (.invokevirtual 210, 3) := by decide +kernel
theorem dX6_name_145 : decode cX6_name 145 = .ok (.ifCond .eq 8, 3) := by decide +kernel
theorem dX6_name_148 : decode cX6_name 148 = .ok (.aload_n 0, 1) := by decide +kernel
theorem dX6_name_149 : decode cX6_name 149 = .ok (.getfield 229, 3) := by decide +kernel
theorem dX6_name_152 : decode cX6_name 152 = .ok (.ireturn, 1) := by decide +kernel
theorem dX6_name_153 : decode cX6_name 153 = .ok (.aload_n 0, 1) := by decide +kernel
theorem dX6_name_154 : decode cX6_name 154 = .ok (.invokevirtual 204, 3) := by decide +kernel
theorem dX6_name_157 : decode cX6_name 157 = .ok (.iconst 0, 1) := by decide +kernel
theorem dX6_name_158 : decode cX6_name 158 = .ok (.ireturn, 1) := by decide +kernel
theorem dX6_atom_0 : decode cX6_atom 0 = .ok (.iconst 0, 1) := by decide +kernel
theorem dX6_atom_1 : decode cX6_atom 1 = .ok (.istore_n 1, 1) := by decide +kernel
theorem dX6_atom_2 : decode cX6_atom 2 = .ok (.aload_n 0, 1) := by decide +kernel
theorem dX6_atom_3 : decode cX6_atom 3 = .ok (.bipush 45, 2) := by decide +kernel
theorem dX6_atom_5 : decode cX6_atom 5 = .ok (.invokevirtual 232, 3) := by decide +kernel
theorem dX6_atom_8 : decode cX6_atom 8 = .ok (.ifCond .eq 29, 3) := by decide +kernel
theorem dX6_atom_11 : decode cX6_atom 11 = .ok (.aload_n 0, 1) := by decide +kernel
theorem dX6_atom_12 : decode cX6_atom 12 = .ok (.invokevirtual 235, 3) := by decide +kernel
theorem dX6_atom_15 : decode cX6_atom 15 = .ok (.ifCond .eq 146, 3) := by decide +kernel
theorem dX6_atom_18 : decode cX6_atom 18 = .ok (.aload_n 0, 1) := by decide +kernel
theorem dX6_atom_19 : decode cX6_atom 19 = .ok (.invokevirtual 239, 3) := by decide +kernel
theorem dX6_atom_22 : decode cX6_atom 22 = .ok (.ineg, 1) := by decide +kernel
theorem dX6_atom_23 : decode cX6_atom 23 = .ok (.istore_n 1, 1) := by decide +kernel
theorem dX6_atom_24 : decode cX6_atom 24 = .ok (.aload_n 0, 1) := by decide +kernel
theorem dX6_atom_25 : decode cX6_atom 25 = .ok (.dup, 1) := by decide +kernel
theorem dX6_atom_26 : decode cX6_atom 26 = .ok (.getfield 201, 3) := by decide +kernel
theorem dX6_atom_29 : decode cX6_atom 29 = .ok (.iconst 1, 1) := by decide +kernel
theorem dX6_atom_30 : decode cX6_atom 30 = .ok (.isub, 1) := by decide +kernel
theorem dX6_atom_31 : decode cX6_atom 31 = .ok (.putfield 201, 3) := by decide +kernel
theorem dX6_atom_34 : decode cX6_atom 34 = .ok (.goto 127, 3) := by decide +kernel
theorem dX6_atom_37 : decode cX6_atom 37 = .ok (.aload_n 0, 1) := by decide +kernel
theorem dX6_atom_38 : decode cX6_atom 38 = .ok (.bipush 40, 2) := by decide +kernel
theorem dX6_atom_40 : decode cX6_atom 40 = .ok (.invokevirtual 232, 3) := by decide +kernel
theorem dX6_atom_43 : decode cX6_atom 43 = .ok (.ifCond .eq 52, 3) := by decide +kernel
theorem dX6_atom_46 : decode cX6_atom 46 = .ok (.aload_n 0, 1) := by decide +kernel
theorem dX6_atom_47 : decode cX6_atom 47 = .ok (.invokevirtual 235, 3) := by decide +kernel
theorem dX6_atom_50 : decode cX6_atom 50 = .ok (.ifCond .eq 111, 3) := by decide +kernel
theorem dX6_atom_53 : decode cX6_atom 53 = .ok (.aload_n 0, 1) := by decide +kernel
theorem dX6_atom_54 : decode cX6_atom 54 = .ok (.invokevirtual 243, 3) := by decide +kernel
theorem dX6_atom_57 : decode cX6_atom 57 = .ok (.istore_n 1, 1) := by decide +kernel
theorem dX6_atom_58 : decode cX6_atom 58 = .ok (.aload_n 0, 1) := by decide +kernel
theorem dX6_atom_59 : decode cX6_atom 59 = .ok (.bipush 41, 2) := by decide +kernel
theorem dX6_atom_61 : decode cX6_atom 61 = .ok (.invokevirtual 232, 3) := by decide +kernel
theorem dX6_atom_64 : decode cX6_atom 64 = .ok (.ifCond .ne 7, 3) := by decide +kernel
theorem dX6_atom_67 : decode cX6_atom 67 = .ok (.aload_n 0, 1) := by decide +kernel
theorem dX6_atom_68 : decode cX6_atom 68 = .ok (.invokevirtual 204, 3) := by decide +kernel
theorem dX6_atom_71 : decode cX6_atom 71 = .ok (.aload_n 0, 1) := by decide +kernel
theorem dX6_atom_72 : decode cX6_atom 72 = .ok (.dup, 1) := by decide +kernel
theorem dX6_atom_73 : decode cX6_atom 73 = .ok (.getfield 201, 3) := by decide +kernel
theorem dX6_atom_76 : decode cX6_atom 76 = .ok (.iconst 1, 1) := by decide +kernel
theorem dX6_atom_77 : decode cX6_atom 77 = .ok (.isub, 1) := by decide +kernel
theorem dX6_atom_78 : decode cX6_atom 78 = .ok (.putfield 201, 3) := by decide +kernel
theorem dX6_atom_81 : decode cX6_atom 81 = .ok (.aload_n 0, 1) := by decide +kernel
theorem dX6_atom_82 : decode cX6_atom 82 = .ok (.getfield 191, 3) := by decide +kernel
theorem dX6_atom_85 : decode cX6_atom 85 = .ok (.ifCond .ne 76, 3) := by decide +kernel
theorem dX6_atom_88 : decode cX6_atom 88 = .ok (.aload_n 0, 1) := by decide +kernel
theorem dX6_atom_89 : decode cX6_atom 89 = .ok (.invokevirtual 207, 3) := by decide +kernel
theorem dX6_atom_92 : decode cX6_atom 92 = .ok (.goto 69, 3) := by decide +kernel
theorem dX6_atom_95 : decode cX6_atom 95 = .ok (.aload_n 0, 1) := by decide +kernel
theorem dX6_atom_96 : decode cX6_atom 96 = .ok (.getfield 191, 3) := by decide +kernel
theorem dX6_atom_99 : decode cX6_atom 99 = .ok (.ifCond .ne 24, 3) := by decide +kernel
theorem dX6_atom_102 : decode cX6_atom 102 = .ok (.aload_n 0, 1) := by decide +kernel
theorem dX6_atom_103 : decode cX6_atom 103 = .ok (.getfield 176, 3) := by decide +kernel
theorem dX6_atom_106 : decode cX6_atom 106 = .ok (.iconst 2, 1) := by decide +kernel
theorem dX6_atom_107 : decode cX6_atom 107 = .ok (.if_icmp .ne 16, 3) := by decide +kernel
theorem dX6_atom_110 : decode cX6_atom 110 = .ok (.aload_n 0, 1) := by decide +kernel
theorem dX6_atom_111 : decode cX6_atom 111 = .ok (.getfield 187, 3) := by decide +kernel
theorem dX6_atom_114 : decode cX6_atom 114 = .ok (.l2i, 1) := by decide +kernel
theorem dX6_atom_115 : decode cX6_atom 115 = .ok (.istore_n 1, 1) := by decide +kernel
theorem dX6_atom_116 : decode cX6_atom 116 = .ok (.aload_n 0, 1) := by decide +kernel
theorem dX6_atom_117 : decode cX6_atom 117 = .ok (.invokevirtual 207, 3) := by decide +kernel
theorem dX6_atom_120 : decode cX6_atom 120 = .ok (.goto 41, 3) := by decide +kernel
theorem dX6_atom_123 : decode cX6_atom 123 = .ok (.aload_n 0, 1) := by decide +kernel
theorem dX6_atom_124 : decode cX6_atom 124 = .ok (.getfield 191, 3) := by decide +kernel
theorem dX6_atom_127 : decode cX6_atom 127 = .ok (.ifCond .ne 30, 3) := by decide +kernel
theorem dX6_atom_130 : decode cX6_atom 130 = .ok (.aload_n 0, 1) := by decide +kernel
theorem dX6_atom_131 : decode cX6_atom 131 = .ok (.getfield 176, 3) := by decide +kernel
theorem dX6_atom_134 : decode cX6_atom 134 = .ok (.iconst 1, 1) := by decide +kernel
theorem dX6_atom_135 : decode cX6_atom 135 = .ok (.if_icmp .ne 22, 3) := by decide +kernel
theorem dX6_atom_138 : decode cX6_atom 138 = .ok (.aload_n 0, 1) := by decide +kernel
theorem dX6_atom_139 : decode cX6_atom 139 = .ok (.invokevirtual 246, 3) := by decide +kernel
theorem dX6_atom_142 : decode cX6_atom 142 = .ok (.istore_n 1, 1) := by decide +kernel
theorem dX6_atom_143 : decode cX6_atom 143 = .ok (.aload_n 0, 1) := by decide +kernel
theorem dX6_atom_144 : decode cX6_atom 144 = .ok (.getfield 191, 3) := by decide +kernel
theorem dX6_atom_147 : decode cX6_atom 147 = .ok (.ifCond .ne 14, 3) := by decide +kernel
theorem dX6_atom_150 : decode cX6_atom 150 = .ok (.aload_n 0, 1) := by decide +kernel
theorem dX6_atom_151 : decode cX6_atom 151 = .ok (.invokevirtual 207, 3) := by decide +kernel
theorem dX6_atom_154 : decode cX6_atom 154 = .ok (.goto 7, 3) := by decide +kernel
theorem dX6_atom_157 : decode cX6_atom 157 = .ok (.aload_n 0, 1) := by decide +kernel
theorem dX6_atom_158 : decode cX6_atom 158 = .ok (.invokevirtual 204, 3) := by decide +kernel
theorem dX6_atom_161 : decode cX6_atom 161 = .ok (.iload_n 1, 1) := by decide +kernel
theorem dX6_atom_162 : decode cX6_atom 162 = .ok (.ireturn, 1) := by decide +kernel
theorem dX6_term_0 : decode cX6_term 0 = .ok (.aload_n 0, 1) := by decide +kernel
theorem dX6_term_1 : decode cX6_term 1 = .ok (.invokevirtual 239, 3) := by decide +kernel
theorem dX6_term_4 : decode cX6_term 4 = .ok (.istore_n 1, 1) := by decide +kernel
theorem dX6_term_5 : decode cX6_term 5 = .ok (.aload_n 0, 1) := by decide +kernel
theorem dX6_term_6 : decode cX6_term 6 = .ok (.bipush 42, 2) := by decide +kernel
theorem dX6_term_8 : decode cX6_term 8 = .ok (.invokevirtual 232, 3) := by decide +kernel
theorem dX6_term_11 : decode cX6_term 11 = .ok (.ifCond .eq 17, 3) := by decide +kernel
theorem dX6_term_14 : decode cX6_term 14 = .ok (.aload_n 0, 1) := by decide +kernel
theorem dX6_term_15 : decode cX6_term 15 = .ok (.invokevirtual 207, 3) := by decide +kernel
theorem dX6_term_18 : decode cX6_term 18 = .ok (.iload_n 1, 1) := by decide +kernel
theorem dX6_term_19 : decode cX6_term 19 = .ok (.aload_n 0, 1) := by decide +kernel
theorem dX6_term_20 : decode cX6_term 20 = .ok (.invokevirtual 239, 3) := by decide +kernel
theorem dX6_term_23 : decode cX6_term 23 = .ok (.imul, 1) := by decide +kernel
theorem dX6_term_24 : decode cX6_term 24 = .ok (.istore_n 1, 1) := by decide +kernel
theorem dX6_term_25 : decode cX6_term 25 = .ok (.goto (-20), 3) := by decide +kernel
theorem dX6_term_28 : decode cX6_term 28 = .ok (.iload_n 1, 1) := by decide +kernel
theorem dX6_term_29 : decode cX6_term 29 = .ok (.ireturn, 1) := by decide +kernel
theorem dX6_added_0 : decode cX6_added 0 = .ok (.aload_n 0, 1) := by decide +kernel
theorem dX6_added_1 : decode cX6_added 1 = .ok (.invokevirtual 249, 3) := by decide +kernel
theorem dX6_added_4 : decode cX6_added 4 = .ok (.istore_n 1, 1) := by decide +kernel
theorem dX6_added_5 : decode cX6_added 5 = .ok (.aload_n 0, 1) := by decide +kernel
theorem dX6_added_6 : decode cX6_added 6 = .ok (.bipush 43, 2) := by decide +kernel
theorem dX6_added_8 : decode cX6_added 8 = .ok (.invokevirtual 232, 3) := by decide +kernel
theorem dX6_added_11 : decode cX6_added 11 = .ok (.ifCond .ne 12, 3) := by decide +kernel
theorem dX6_added_14 : decode cX6_added 14 = .ok (.aload_n 0, 1) := by decide +kernel
theorem dX6_added_15 : decode cX6_added 15 = .ok (.bipush 45, 2) := by decide +kernel
theorem dX6_added_17 : decode cX6_added 17 = .ok (.invokevirtual 232, 3) := by decide +kernel
theorem dX6_added_20 : decode cX6_added 20 = .ok (.ifCond .eq 46, 3) := by decide +kernel
theorem dX6_added_23 : decode cX6_added 23 = .ok (.aload_n 0, 1) := by decide +kernel
theorem dX6_added_24 : decode cX6_added 24 = .ok (.getfield 187, 3) := by decide +kernel
theorem dX6_added_27 : decode cX6_added 27 = .ok (.ldc2_w 252, 3) := by decide +kernel
theorem dX6_added_30 : decode cX6_added 30 = .ok (.lcmp, 1) := by decide +kernel
theorem dX6_added_31 : decode cX6_added 31 = .ok (.ifCond .ne 7, 3) := by decide +kernel
theorem dX6_added_34 : decode cX6_added 34 = .ok (.iconst 1, 1) := by decide +kernel
theorem dX6_added_35 : decode cX6_added 35 = .ok (.goto 4, 3) := by decide +kernel
theorem dX6_added_38 : decode cX6_added 38 = .ok (.iconst 0, 1) := by decide +kernel
theorem dX6_added_39 : decode cX6_added 39 = .ok (.istore_n 2, 1) := by decide +kernel
theorem dX6_added_40 : decode cX6_added 40 = .ok (.aload_n 0, 1) := by decide +kernel
theorem dX6_added_41 : decode cX6_added 41 = .ok (.invokevirtual 207, 3) := by decide +kernel
theorem dX6_added_44 : decode cX6_added 44 = .ok (.aload_n 0, 1) := by decide +kernel
theorem dX6_added_45 : decode cX6_added 45 = .ok (.invokevirtual 249, 3) := by decide +kernel
theorem dX6_added_48 : decode cX6_added 48 = .ok (.istore_n 3, 1) := by decide +kernel
theorem dX6_added_49 : decode cX6_added 49 = .ok (.iload_n 2, 1) := by decide +kernel
theorem dX6_added_50 : decode cX6_added 50 = .ok (.ifCond .eq 9, 3) := by decide +kernel
theorem dX6_added_53 : decode cX6_added 53 = .ok (.iload_n 1, 1) := by decide +kernel
theorem dX6_added_54 : decode cX6_added 54 = .ok (.iload_n 3, 1) := by decide +kernel
theorem dX6_added_55 : decode cX6_added 55 = .ok (.iadd, 1) := by decide +kernel
theorem dX6_added_56 : decode cX6_added 56 = .ok (.goto 6, 3) := by decide +kernel
theorem dX6_added_59 : decode cX6_added 59 = .ok (.iload_n 1, 1) := by decide +kernel
theorem dX6_added_60 : decode cX6_added 60 = .ok (.iload_n 3, 1) := by decide +kernel
theorem dX6_added_61 : decode cX6_added 61 = .ok (.isub, 1) := by decide +kernel
theorem dX6_added_62 : decode cX6_added 62 = .ok (.istore_n 1, 1) := by decide +kernel
theorem dX6_added_63 : decode cX6_added 63 = .ok (.goto (-58), 3) := by decide +kernel
theorem dX6_added_66 : decode cX6_added 66 = .ok (.iload_n 1, 1) := by decide +kernel
theorem dX6_added_67 : decode cX6_added 67 = .ok (.ireturn, 1) := by decide +kernel
theorem dX6_not_0 : decode cX6_not 0 = .ok (.aload_n 0, 1) := by decide +kernel
theorem dX6_not_1 : decode cX6_not 1 = .ok (.bipush 110, 2) := by decide +kernel
theorem dX6_not_3 : decode cX6_not 3 = .ok (.bipush 111, 2) := by decide +kernel
theorem dX6_not_5 : decode cX6_not 5 = .ok (.bipush 116, 2) := by decide +kernel
theorem dX6_not_7 : decode cX6_not 7 = .ok (.iconst 0, 1) := by decide +kernel
theorem dX6_not_8 : decode cX6_not 8 = .ok (.iconst 0, 1) := by decide +kernel
theorem dX6_not_9 : decode cX6_not 9 = .ok (.iconst 0, 1) := by decide +kernel
theorem dX6_not_10 : decode cX6_not 10 = .ok (.iconst 0, 1) := by decide +kernel
theorem dX6_not_11 : decode cX6_not 11 = .ok (.iconst 0, 1) := by decide +kernel
theorem dX6_not_12 : decode cX6_not 12 = .ok (.invokevirtual 210, 3) := by decide +kernel
theorem dX6_not_15 : decode cX6_not 15 = .ok (.ifCond .eq 37, 3) := by decide +kernel
theorem dX6_not_18 : decode cX6_not 18 = .ok (.aload_n 0, 1) := by decide +kernel
theorem dX6_not_19 : decode cX6_not 19 = .ok (.invokevirtual 235, 3) := by decide +kernel
theorem dX6_not_22 : decode cX6_not 22 = .ok (.ifCond .ne 5, 3) := by decide +kernel
theorem dX6_not_25 : decode cX6_not 25 = .ok (.iconst 0, 1) := by decide +kernel
theorem dX6_not_26 : decode cX6_not 26 = .ok (.ireturn, 1) := by decide +kernel
theorem dX6_not_27 : decode cX6_not 27 = .ok (.aload_n 0, 1) := by decide +kernel
theorem dX6_not_28 : decode cX6_not 28 = .ok (.invokevirtual 254, 3) := by decide +kernel
theorem dX6_not_31 : decode cX6_not 31 = .ok (.istore_n 1, 1) := by decide +kernel
theorem dX6_not_32 : decode cX6_not 32 = .ok (.aload_n 0, 1) := by decide +kernel
theorem dX6_not_33 : decode cX6_not 33 = .ok (.dup, 1) := by decide +kernel
theorem dX6_not_34 : decode cX6_not 34 = .ok (.getfield 201, 3) := by decide +kernel
theorem dX6_not_37 : decode cX6_not 37 = .ok (.iconst 1, 1) := by decide +kernel
theorem dX6_not_38 : decode cX6_not 38 = .ok (.isub, 1) := by decide +kernel
theorem dX6_not_39 : decode cX6_not 39 = .ok (.putfield 201, 3) := by decide +kernel
theorem dX6_not_42 : decode cX6_not 42 = .ok (.iload_n 1, 1) := by decide +kernel
theorem dX6_not_43 : decode cX6_not 43 = .ok (.ifCond .ne 7, 3) := by decide +kernel
theorem dX6_not_46 : decode cX6_not 46 = .ok (.iconst 1, 1) := by decide +kernel
theorem dX6_not_47 : decode cX6_not 47 = .ok (.goto 4, 3) := by decide +kernel
theorem dX6_not_50 : decode cX6_not 50 = .ok (.iconst 0, 1) := by decide +kernel
theorem dX6_not_51 : decode cX6_not 51 = .ok (.ireturn, 1) := by decide +kernel
theorem dX6_not_52 : decode cX6_not 52 = .ok (.aload_n 0, 1) := by decide +kernel
theorem dX6_not_53 : decode cX6_not 53 = .ok (.invokevirtual 257, 3) := by decide +kernel
theorem dX6_not_56 : decode cX6_not 56 = .ok (.istore_n 1, 1) := by decide +kernel
theorem dX6_not_57 : decode cX6_not 57 = .ok (.aload_n 0, 1) := by decide +kernel
theorem dX6_not_58 : decode cX6_not 58 = .ok (.bipush 60, 2) := by decide +kernel
theorem dX6_not_60 : decode cX6_not 60 = .ok (.invokevirtual 232, 3) := by decide +kernel
theorem dX6_not_63 : decode cX6_not 63 = .ok (.ifCond .ne 14, 3) := by decide +kernel
theorem dX6_not_66 : decode cX6_not 66 = .ok (.aload_n 0, 1) := by decide +kernel
theorem dX6_not_67 : decode cX6_not 67 = .ok (.bipush 61, 2) := by decide +kernel
theorem dX6_not_69 : decode cX6_not 69 = .ok (.invokevirtual 232, 3) := by decide +kernel
theorem dX6_not_72 : decode cX6_not 72 = .ok (.ifCond .ne 5, 3) := by decide +kernel
theorem dX6_not_75 : decode cX6_not 75 = .ok (.iload_n 1, 1) := by decide +kernel
theorem dX6_not_76 : decode cX6_not 76 = .ok (.ireturn, 1) := by decide +kernel
theorem dX6_not_77 : decode cX6_not 77 = .ok (.aload_n 0, 1) := by decide +kernel
theorem dX6_not_78 : decode cX6_not 78 = .ok (.getfield 187, 3) := by decide +kernel
theorem dX6_not_81 : decode cX6_not 81 = .ok (.ldc2_w 260, 3) := by decide +kernel
theorem dX6_not_84 : decode cX6_not 84 = .ok (.lcmp, 1) := by decide +kernel
theorem dX6_not_85 : decode cX6_not 85 = .ok (.ifCond .ne 7, 3) := by decide +kernel
theorem dX6_not_88 : decode cX6_not 88 = .ok (.iconst 1, 1) := by decide +kernel
theorem dX6_not_89 : decode cX6_not 89 = .ok (.goto 4, 3) := by decide +kernel
theorem dX6_not_92 : decode cX6_not 92 = .ok (.iconst 0, 1) := by decide +kernel
theorem dX6_not_93 : decode cX6_not 93 = .ok (.istore_n 2, 1) := by decide +kernel
theorem dX6_not_94 : decode cX6_not 94 = .ok (.aload_n 0, 1) := by decide +kernel
theorem dX6_not_95 : decode cX6_not 95 = .ok (.invokevirtual 207, 3) := by decide +kernel
theorem dX6_not_98 : decode cX6_not 98 = .ok (.aload_n 0, 1) := by decide +kernel
theorem dX6_not_99 : decode cX6_not 99 = .ok (.invokevirtual 257, 3) := by decide +kernel
theorem dX6_not_102 : decode cX6_not 102 = .ok (.istore_n 3, 1) := by decide +kernel
theorem dX6_not_103 : decode cX6_not 103 = .ok (.iload_n 2, 1) := by decide +kernel
theorem dX6_not_104 : decode cX6_not 104 = .ok (.ifCond .eq 11, 3) := by decide +kernel
theorem dX6_not_107 : decode cX6_not 107 = .ok (.iload_n 1, 1) := by decide +kernel
theorem dX6_not_108 : decode cX6_not 108 = .ok (.iload_n 3, 1) := by decide +kernel
theorem dX6_not_109 : decode cX6_not 109 = .ok (.if_icmp .ge 15, 3) := by decide +kernel
theorem dX6_not_112 : decode cX6_not 112 = .ok (.goto 8, 3) := by decide +kernel
theorem dX6_not_115 : decode cX6_not 115 = .ok (.iload_n 1, 1) := by decide +kernel
theorem dX6_not_116 : decode cX6_not 116 = .ok (.iload_n 3, 1) := by decide +kernel
theorem dX6_not_117 : decode cX6_not 117 = .ok (.if_icmp .ne 7, 3) := by decide +kernel
theorem dX6_not_120 : decode cX6_not 120 = .ok (.iconst 1, 1) := by decide +kernel
theorem dX6_not_121 : decode cX6_not 121 = .ok (.goto 4, 3) := by decide +kernel
theorem dX6_not_124 : decode cX6_not 124 = .ok (.iconst 0, 1) := by decide +kernel
theorem dX6_not_125 : decode cX6_not 125 = .ok (.ireturn, 1) := by decide +kernel
theorem dX6_both_0 : decode cX6_both 0 = .ok (.aload_n 0, 1) := by decide +kernel
theorem dX6_both_1 : decode cX6_both 1 = .ok (.invokevirtual 254, 3) := by decide +kernel
theorem dX6_both_4 : decode cX6_both 4 = .ok (.istore_n 1, 1) := by decide +kernel
theorem dX6_both_5 : decode cX6_both 5 = .ok (.aload_n 0, 1) := by decide +kernel
theorem dX6_both_6 : decode cX6_both 6 = .ok (.bipush 97, 2) := by decide +kernel
theorem dX6_both_8 : decode cX6_both 8 = .ok (.bipush 110, 2) := by decide +kernel
theorem dX6_both_10 : decode cX6_both 10 = .ok (.bipush 100, 2) := by decide +kernel
theorem dX6_both_12 : decode cX6_both 12 = .ok (.iconst 0, 1) := by decide +kernel
theorem dX6_both_13 : decode cX6_both 13 = .ok (.iconst 0, 1) := by decide +kernel
theorem dX6_both_14 : decode cX6_both 14 = .ok (.iconst 0, 1) := by decide +kernel
theorem dX6_both_15 : decode cX6_both 15 = .ok (.iconst 0, 1) := by decide +kernel
theorem dX6_both_16 : decode cX6_both 16 = .ok (.iconst 0, 1) := by decide +kernel
theorem dX6_both_17 : decode cX6_both 17 = .ok (.invokevirtual 210, 3) := by decide +kernel
theorem dX6_both_20 : decode cX6_both 20 = .ok (.ifCond .eq 29, 3) := by decide +kernel
theorem dX6_both_23 : decode cX6_both 23 = .ok (.aload_n 0, 1) := by decide +kernel
theorem dX6_both_24 : decode cX6_both 24 = .ok (.invokevirtual 207, 3) := by decide +kernel
theorem dX6_both_27 : decode cX6_both 27 = .ok (.aload_n 0, 1) := by decide +kernel
theorem dX6_both_28 : decode cX6_both 28 = .ok (.invokevirtual 254, 3) := by decide +kernel
theorem dX6_both_31 : decode cX6_both 31 = .ok (.istore_n 2, 1) := by decide +kernel
theorem dX6_both_32 : decode cX6_both 32 = .ok (.iload_n 1, 1) := by decide +kernel
theorem dX6_both_33 : decode cX6_both 33 = .ok (.ifCond .eq 11, 3) := by decide +kernel
theorem dX6_both_36 : decode cX6_both 36 = .ok (.iload_n 2, 1) := by decide +kernel
theorem dX6_both_37 : decode cX6_both 37 = .ok (.ifCond .eq 7, 3) := by decide +kernel
theorem dX6_both_40 : decode cX6_both 40 = .ok (.iconst 1, 1) := by decide +kernel
theorem dX6_both_41 : decode cX6_both 41 = .ok (.goto 4, 3) := by decide +kernel
theorem dX6_both_44 : decode cX6_both 44 = .ok (.iconst 0, 1) := by decide +kernel
theorem dX6_both_45 : decode cX6_both 45 = .ok (.istore_n 1, 1) := by decide +kernel
theorem dX6_both_46 : decode cX6_both 46 = .ok (.goto (-41), 3) := by decide +kernel
theorem dX6_both_49 : decode cX6_both 49 = .ok (.iload_n 1, 1) := by decide +kernel
theorem dX6_both_50 : decode cX6_both 50 = .ok (.ireturn, 1) := by decide +kernel
theorem dX6_either_0 : decode cX6_either 0 = .ok (.aload_n 0, 1) := by decide +kernel
theorem dX6_either_1 : decode cX6_either 1 = .ok (.invokevirtual 262, 3) := by decide +kernel
theorem dX6_either_4 : decode cX6_either 4 = .ok (.istore_n 1, 1) := by decide +kernel
theorem dX6_either_5 : decode cX6_either 5 = .ok (.aload_n 0, 1) := by decide +kernel
theorem dX6_either_6 : decode cX6_either 6 = .ok (.bipush 111, 2) := by decide +kernel
theorem dX6_either_8 : decode cX6_either 8 = .ok (.bipush 114, 2) := by decide +kernel
theorem dX6_either_10 : decode cX6_either 10 = .ok (.iconst 0, 1) := by decide +kernel
theorem dX6_either_11 : decode cX6_either 11 = .ok (.iconst 0, 1) := by decide +kernel
theorem dX6_either_12 : decode cX6_either 12 = .ok (.iconst 0, 1) := by decide +kernel
theorem dX6_either_13 : decode cX6_either 13 = .ok (.iconst 0, 1) := by decide +kernel
theorem dX6_either_14 : decode cX6_either 14 = .ok (.iconst 0, 1) := by decide +kernel
theorem dX6_either_15 : decode cX6_either 15 = .ok (.iconst 0, 1) := by decide +kernel
theorem dX6_either_16 : decode cX6_either 16 = .ok (.invokevirtual 210, 3) := by decide +kernel
theorem dX6_either_19 : decode cX6_either 19 = .ok (.ifCond .eq 29, 3) := by decide +kernel
theorem dX6_either_22 : decode cX6_either 22 = .ok (.aload_n 0, 1) := by decide +kernel
theorem dX6_either_23 : decode cX6_either 23 = .ok (.invokevirtual 207, 3) := by decide +kernel
theorem dX6_either_26 : decode cX6_either 26 = .ok (.aload_n 0, 1) := by decide +kernel
theorem dX6_either_27 : decode cX6_either 27 = .ok (.invokevirtual 262, 3) := by decide +kernel
theorem dX6_either_30 : decode cX6_either 30 = .ok (.istore_n 2, 1) := by decide +kernel
theorem dX6_either_31 : decode cX6_either 31 = .ok (.iload_n 1, 1) := by decide +kernel
theorem dX6_either_32 : decode cX6_either 32 = .ok (.ifCond .ne 7, 3) := by decide +kernel
theorem dX6_either_35 : decode cX6_either 35 = .ok (.iload_n 2, 1) := by decide +kernel
theorem dX6_either_36 : decode cX6_either 36 = .ok (.ifCond .eq 7, 3) := by decide +kernel
theorem dX6_either_39 : decode cX6_either 39 = .ok (.iconst 1, 1) := by decide +kernel
theorem dX6_either_40 : decode cX6_either 40 = .ok (.goto 4, 3) := by decide +kernel
theorem dX6_either_43 : decode cX6_either 43 = .ok (.iconst 0, 1) := by decide +kernel
theorem dX6_either_44 : decode cX6_either 44 = .ok (.istore_n 1, 1) := by decide +kernel
theorem dX6_either_45 : decode cX6_either 45 = .ok (.goto (-40), 3) := by decide +kernel
theorem dX6_either_48 : decode cX6_either 48 = .ok (.iload_n 1, 1) := by decide +kernel
theorem dX6_either_49 : decode cX6_either 49 = .ok (.ireturn, 1) := by decide +kernel
theorem dX6_part_0 : decode cX6_part 0 = .ok (.iload_n 1, 1) := by decide +kernel
theorem dX6_part_1 : decode cX6_part 1 = .ok (.ifCond .ne 7, 3) := by decide +kernel
theorem dX6_part_4 : decode cX6_part 4 = .ok (.aload_n 0, 1) := by decide +kernel
theorem dX6_part_5 : decode cX6_part 5 = .ok (.invokevirtual 204, 3) := by decide +kernel
theorem dX6_part_8 : decode cX6_part 8 = .ok (.aload_n 0, 1) := by decide +kernel
theorem dX6_part_9 : decode cX6_part 9 = .ok (.getfield 191, 3) := by decide +kernel
theorem dX6_part_12 : decode cX6_part 12 = .ok (.ifCond .ne 7, 3) := by decide +kernel
theorem dX6_part_15 : decode cX6_part 15 = .ok (.aload_n 0, 1) := by decide +kernel
theorem dX6_part_16 : decode cX6_part 16 = .ok (.invokevirtual 207, 3) := by decide +kernel
theorem dX6_part_19 : decode cX6_part 19 = .ok (.aload_n 0, 1) := by decide +kernel
theorem dX6_part_20 : decode cX6_part 20 = .ok (.getfield 191, 3) := by decide +kernel
theorem dX6_part_23 : decode cX6_part 23 = .ok (.ifCond .eq 7, 3) := by decide +kernel
theorem dX6_part_26 : decode cX6_part 26 = .ok (.iconst 0, 1) := by decide +kernel
theorem dX6_part_27 : decode cX6_part 27 = .ok (.goto 7, 3) := by decide +kernel
theorem dX6_part_30 : decode cX6_part 30 = .ok (.aload_n 0, 1) := by decide +kernel
theorem dX6_part_31 : decode cX6_part 31 = .ok (.invokevirtual 243, 3) := by decide +kernel
theorem dX6_part_34 : decode cX6_part 34 = .ok (.istore_n 2, 1) := by decide +kernel
theorem dX6_part_35 : decode cX6_part 35 = .ok (.aload_n 0, 1) := by decide +kernel
theorem dX6_part_36 : decode cX6_part 36 = .ok (.bipush 59, 2) := by decide +kernel
theorem dX6_part_38 : decode cX6_part 38 = .ok (.invokevirtual 232, 3) := by decide +kernel
theorem dX6_part_41 : decode cX6_part 41 = .ok (.ifCond .ne 7, 3) := by decide +kernel
theorem dX6_part_44 : decode cX6_part 44 = .ok (.aload_n 0, 1) := by decide +kernel
theorem dX6_part_45 : decode cX6_part 45 = .ok (.invokevirtual 204, 3) := by decide +kernel
theorem dX6_part_48 : decode cX6_part 48 = .ok (.aload_n 0, 1) := by decide +kernel
theorem dX6_part_49 : decode cX6_part 49 = .ok (.getfield 191, 3) := by decide +kernel
theorem dX6_part_52 : decode cX6_part 52 = .ok (.ifCond .ne 7, 3) := by decide +kernel
theorem dX6_part_55 : decode cX6_part 55 = .ok (.aload_n 0, 1) := by decide +kernel
theorem dX6_part_56 : decode cX6_part 56 = .ok (.invokevirtual 207, 3) := by decide +kernel
theorem dX6_part_59 : decode cX6_part 59 = .ok (.iload_n 2, 1) := by decide +kernel
theorem dX6_part_60 : decode cX6_part 60 = .ok (.ireturn, 1) := by decide +kernel
theorem dX6_read_0 : decode cX6_read 0 = .ok (.aload_n 0, 1) := by decide +kernel
theorem dX6_read_1 : decode cX6_read 1 = .ok (.sipush 160, 3) := by decide +kernel
theorem dX6_read_4 : decode cX6_read 4 = .ok (.iload_n 1, 1) := by decide +kernel
theorem dX6_read_5 : decode cX6_read 5 = .ok (.imul, 1) := by decide +kernel
theorem dX6_read_6 : decode cX6_read 6 = .ok (.putfield 164, 3) := by decide +kernel
theorem dX6_read_9 : decode cX6_read 9 = .ok (.aload_n 0, 1) := by decide +kernel
theorem dX6_read_10 : decode cX6_read 10 = .ok (.aload_n 0, 1) := by decide +kernel
theorem dX6_read_11 : decode cX6_read 11 = .ok (.getfield 17, 3) := by decide +kernel
theorem dX6_read_14 : decode cX6_read 14 = .ok (.iload_n 1, 1) := by decide +kernel
theorem dX6_read_15 : decode cX6_read 15 = .ok (.iaload, 1) := by decide +kernel
theorem dX6_read_16 : decode cX6_read 16 = .ok (.putfield 161, 3) := by decide +kernel
theorem dX6_read_19 : decode cX6_read 19 = .ok (.aload_n 0, 1) := by decide +kernel
theorem dX6_read_20 : decode cX6_read 20 = .ok (.iconst 0, 1) := by decide +kernel
theorem dX6_read_21 : decode cX6_read 21 = .ok (.putfield 167, 3) := by decide +kernel
theorem dX6_read_24 : decode cX6_read 24 = .ok (.aload_n 0, 1) := by decide +kernel
theorem dX6_read_25 : decode cX6_read 25 = .ok (.iconst 0, 1) := by decide +kernel
theorem dX6_read_26 : decode cX6_read 26 = .ok (.putfield 201, 3) := by decide +kernel
theorem dX6_read_29 : decode cX6_read 29 = .ok (.aload_n 0, 1) := by decide +kernel
theorem dX6_read_30 : decode cX6_read 30 = .ok (.iconst 0, 1) := by decide +kernel
theorem dX6_read_31 : decode cX6_read 31 = .ok (.putfield 191, 3) := by decide +kernel
theorem dX6_read_34 : decode cX6_read 34 = .ok (.aload_n 0, 1) := by decide +kernel
theorem dX6_read_35 : decode cX6_read 35 = .ok (.invokevirtual 207, 3) := by decide +kernel
theorem dX6_read_38 : decode cX6_read 38 = .ok (.aload_n 0, 1) := by decide +kernel
theorem dX6_read_39 : decode cX6_read 39 = .ok (.aload_n 0, 1) := by decide +kernel
theorem dX6_read_40 : decode cX6_read 40 = .ok (.bipush 112, 2) := by decide +kernel
theorem dX6_read_42 : decode cX6_read 42 = .ok (.bipush 114, 2) := by decide +kernel
theorem dX6_read_44 : decode cX6_read 44 = .ok (.bipush 105, 2) := by decide +kernel
theorem dX6_read_46 : decode cX6_read 46 = .ok (.bipush 99, 2) := by decide +kernel
theorem dX6_read_48 : decode cX6_read 48 = .ok (.bipush 101, 2) := by decide +kernel
theorem dX6_read_50 : decode cX6_read 50 = .ok (.bipush 115, 2) := by decide +kernel
theorem dX6_read_52 : decode cX6_read 52 = .ok (.iconst 0, 1) := by decide +kernel
theorem dX6_read_53 : decode cX6_read 53 = .ok (.iconst 0, 1) := by decide +kernel
theorem dX6_read_54 : decode cX6_read 54 = .ok (.invokevirtual 210, 3) := by decide +kernel
theorem dX6_read_57 : decode cX6_read 57 = .ok (.invokevirtual 265, 3) := by decide +kernel
theorem dX6_read_60 : decode cX6_read 60 = .ok (.istore_n 3, 1) := by decide +kernel
theorem dX6_read_61 : decode cX6_read 61 = .ok (.aload_n 0, 1) := by decide +kernel
theorem dX6_read_62 : decode cX6_read 62 = .ok (.getfield 191, 3) := by decide +kernel
theorem dX6_read_65 : decode cX6_read 65 = .ok (.ifCond .eq 7, 3) := by decide +kernel
theorem dX6_read_68 : decode cX6_read 68 = .ok (.iconst 0, 1) := by decide +kernel
theorem dX6_read_69 : decode cX6_read 69 = .ok (.goto 23, 3) := by decide +kernel
theorem dX6_read_72 : decode cX6_read 72 = .ok (.aload_n 0, 1) := by decide +kernel
theorem dX6_read_73 : decode cX6_read 73 = .ok (.aload_n 0, 1) := by decide +kernel
theorem dX6_read_74 : decode cX6_read 74 = .ok (.bipush 106, 2) := by decide +kernel
theorem dX6_read_76 : decode cX6_read 76 = .ok (.bipush 111, 2) := by decide +kernel
theorem dX6_read_78 : decode cX6_read 78 = .ok (.bipush 121, 2) := by decide +kernel
theorem dX6_read_80 : decode cX6_read 80 = .ok (.bipush 115, 2) := by decide +kernel
theorem dX6_read_82 : decode cX6_read 82 = .ok (.iconst 0, 1) := by decide +kernel
theorem dX6_read_83 : decode cX6_read 83 = .ok (.iconst 0, 1) := by decide +kernel
theorem dX6_read_84 : decode cX6_read 84 = .ok (.iconst 0, 1) := by decide +kernel
theorem dX6_read_85 : decode cX6_read 85 = .ok (.iconst 0, 1) := by decide +kernel
theorem dX6_read_86 : decode cX6_read 86 = .ok (.invokevirtual 210, 3) := by decide +kernel
theorem dX6_read_89 : decode cX6_read 89 = .ok (.invokevirtual 265, 3) := by decide +kernel
theorem dX6_read_92 : decode cX6_read 92 = .ok (.istore 4, 2) := by decide +kernel
theorem dX6_read_94 : decode cX6_read 94 = .ok (.aload_n 0, 1) := by decide +kernel
theorem dX6_read_95 : decode cX6_read 95 = .ok (.getfield 191, 3) := by decide +kernel
theorem dX6_read_98 : decode cX6_read 98 = .ok (.ifCond .eq 7, 3) := by decide +kernel
theorem dX6_read_101 : decode cX6_read 101 = .ok (.iconst 0, 1) := by decide +kernel
theorem dX6_read_102 : decode cX6_read 102 = .ok (.goto 23, 3) := by decide +kernel
theorem dX6_read_105 : decode cX6_read 105 = .ok (.aload_n 0, 1) := by decide +kernel
theorem dX6_read_106 : decode cX6_read 106 = .ok (.aload_n 0, 1) := by decide +kernel
theorem dX6_read_107 : decode cX6_read 107 = .ok (.bipush 112, 2) := by decide +kernel
theorem dX6_read_109 : decode cX6_read 109 = .ok (.bipush 97, 2) := by decide +kernel
theorem dX6_read_111 : decode cX6_read 111 = .ok (.bipush 121, 2) := by decide +kernel
theorem dX6_read_113 : decode cX6_read 113 = .ok (.bipush 115, 2) := by decide +kernel
theorem dX6_read_115 : decode cX6_read 115 = .ok (.iconst 0, 1) := by decide +kernel
theorem dX6_read_116 : decode cX6_read 116 = .ok (.iconst 0, 1) := by decide +kernel
theorem dX6_read_117 : decode cX6_read 117 = .ok (.iconst 0, 1) := by decide +kernel
theorem dX6_read_118 : decode cX6_read 118 = .ok (.iconst 0, 1) := by decide +kernel
theorem dX6_read_119 : decode cX6_read 119 = .ok (.invokevirtual 210, 3) := by decide +kernel
theorem dX6_read_122 : decode cX6_read 122 = .ok (.invokevirtual 265, 3) := by decide +kernel
theorem dX6_read_125 : decode cX6_read 125 = .ok (.istore 5, 2) := by decide +kernel
theorem dX6_read_127 : decode cX6_read 127 = .ok (.aload_n 0, 1) := by decide +kernel
theorem dX6_read_128 : decode cX6_read 128 = .ok (.getfield 191, 3) := by decide +kernel
theorem dX6_read_131 : decode cX6_read 131 = .ok (.ifCond .ne 14, 3) := by decide +kernel
theorem dX6_read_134 : decode cX6_read 134 = .ok (.aload_n 0, 1) := by decide +kernel
theorem dX6_read_135 : decode cX6_read 135 = .ok (.getfield 176, 3) := by decide +kernel
theorem dX6_read_138 : decode cX6_read 138 = .ok (.ifCond .eq 7, 3) := by decide +kernel
theorem dX6_read_141 : decode cX6_read 141 = .ok (.aload_n 0, 1) := by decide +kernel
theorem dX6_read_142 : decode cX6_read 142 = .ok (.invokevirtual 204, 3) := by decide +kernel
theorem dX6_read_145 : decode cX6_read 145 = .ok (.iload_n 2, 1) := by decide +kernel
theorem dX6_read_146 : decode cX6_read 146 = .ok (.ifCond .ne 7, 3) := by decide +kernel
theorem dX6_read_149 : decode cX6_read 149 = .ok (.iload_n 3, 1) := by decide +kernel
theorem dX6_read_150 : decode cX6_read 150 = .ok (.goto 15, 3) := by decide +kernel
theorem dX6_read_153 : decode cX6_read 153 = .ok (.iload_n 2, 1) := by decide +kernel
theorem dX6_read_154 : decode cX6_read 154 = .ok (.iconst 1, 1) := by decide +kernel
theorem dX6_read_155 : decode cX6_read 155 = .ok (.if_icmp .ne 8, 3) := by decide +kernel
theorem dX6_read_158 : decode cX6_read 158 = .ok (.iload 4, 2) := by decide +kernel
theorem dX6_read_160 : decode cX6_read 160 = .ok (.goto 5, 3) := by decide +kernel
theorem dX6_read_163 : decode cX6_read 163 = .ok (.iload 5, 2) := by decide +kernel
theorem dX6_read_165 : decode cX6_read 165 = .ok (.ireturn, 1) := by decide +kernel
theorem dX6_text_0 : decode cX6_text 0 = .ok (.aload_n 0, 1) := by decide +kernel
theorem dX6_text_1 : decode cX6_text 1 = .ok (.getfield 82, 3) := by decide +kernel
theorem dX6_text_4 : decode cX6_text 4 = .ok (.bipush 6, 2) := by decide +kernel
theorem dX6_text_6 : decode cX6_text 6 = .ok (.if_icmp .ne 6, 3) := by decide +kernel
theorem dX6_text_9 : decode cX6_text 9 = .ok (.bipush (-4), 2) := by decide +kernel
theorem dX6_text_11 : decode cX6_text 11 = .ok (.ireturn, 1) := by decide +kernel
theorem dX6_text_12 : decode cX6_text 12 = .ok (.iconst 0, 1) := by decide +kernel
theorem dX6_text_13 : decode cX6_text 13 = .ok (.istore_n 1, 1) := by decide +kernel
theorem dX6_text_14 : decode cX6_text 14 = .ok (.iload_n 1, 1) := by decide +kernel
theorem dX6_text_15 : decode cX6_text 15 = .ok (.aload_n 0, 1) := by decide +kernel
theorem dX6_text_16 : decode cX6_text 16 = .ok (.getfield 158, 3) := by decide +kernel
theorem dX6_text_19 : decode cX6_text 19 = .ok (.if_icmp .ge 30, 3) := by decide +kernel
theorem dX6_text_22 : decode cX6_text 22 = .ok (.aload_n 0, 1) := by decide +kernel
theorem dX6_text_23 : decode cX6_text 23 = .ok (.getfield 13, 3) := by decide +kernel
theorem dX6_text_26 : decode cX6_text 26 = .ok (.sipush 160, 3) := by decide +kernel
theorem dX6_text_29 : decode cX6_text 29 = .ok (.aload_n 0, 1) := by decide +kernel
theorem dX6_text_30 : decode cX6_text 30 = .ok (.getfield 82, 3) := by decide +kernel
theorem dX6_text_33 : decode cX6_text 33 = .ok (.imul, 1) := by decide +kernel
theorem dX6_text_34 : decode cX6_text 34 = .ok (.iload_n 1, 1) := by decide +kernel
theorem dX6_text_35 : decode cX6_text 35 = .ok (.iadd, 1) := by decide +kernel
theorem dX6_text_36 : decode cX6_text 36 = .ok (.aload_n 0, 1) := by decide +kernel
theorem dX6_text_37 : decode cX6_text 37 = .ok (.getfield 20, 3) := by decide +kernel
theorem dX6_text_40 : decode cX6_text 40 = .ok (.iload_n 1, 1) := by decide +kernel
theorem dX6_text_41 : decode cX6_text 41 = .ok (.iaload, 1) := by decide +kernel
theorem dX6_text_42 : decode cX6_text 42 = .ok (.iastore, 1) := by decide +kernel
theorem dX6_text_43 : decode cX6_text 43 = .ok (.iinc 1 1, 3) := by decide +kernel
theorem dX6_text_46 : decode cX6_text 46 = .ok (.goto (-32), 3) := by decide +kernel
theorem dX6_text_49 : decode cX6_text 49 = .ok (.aload_n 0, 1) := by decide +kernel
theorem dX6_text_50 : decode cX6_text 50 = .ok (.getfield 17, 3) := by decide +kernel
theorem dX6_text_53 : decode cX6_text 53 = .ok (.aload_n 0, 1) := by decide +kernel
theorem dX6_text_54 : decode cX6_text 54 = .ok (.getfield 82, 3) := by decide +kernel
theorem dX6_text_57 : decode cX6_text 57 = .ok (.aload_n 0, 1) := by decide +kernel
theorem dX6_text_58 : decode cX6_text 58 = .ok (.getfield 158, 3) := by decide +kernel
theorem dX6_text_61 : decode cX6_text 61 = .ok (.iastore, 1) := by decide +kernel
theorem dX6_text_62 : decode cX6_text 62 = .ok (.aload_n 0, 1) := by decide +kernel
theorem dX6_text_63 : decode cX6_text 63 = .ok (.iconst 0, 1) := by decide +kernel
theorem dX6_text_64 : decode cX6_text 64 = .ok (.putfield 158, 3) := by decide +kernel
theorem dX6_text_67 : decode cX6_text 67 = .ok (.aload_n 0, 1) := by decide +kernel
theorem dX6_text_68 : decode cX6_text 68 = .ok (.aload_n 0, 1) := by decide +kernel
theorem dX6_text_69 : decode cX6_text 69 = .ok (.getfield 82, 3) := by decide +kernel
theorem dX6_text_72 : decode cX6_text 72 = .ok (.iconst 0, 1) := by decide +kernel
theorem dX6_text_73 : decode cX6_text 73 = .ok (.invokevirtual 269, 3) := by decide +kernel
theorem dX6_text_76 : decode cX6_text 76 = .ok (.istore_n 1, 1) := by decide +kernel
theorem dX6_text_77 : decode cX6_text 77 = .ok (.aload_n 0, 1) := by decide +kernel
theorem dX6_text_78 : decode cX6_text 78 = .ok (.getfield 191, 3) := by decide +kernel
theorem dX6_text_81 : decode cX6_text 81 = .ok (.ifCond .eq 11, 3) := by decide +kernel
theorem dX6_text_84 : decode cX6_text 84 = .ok (.bipush (-100), 2) := by decide +kernel
theorem dX6_text_86 : decode cX6_text 86 = .ok (.aload_n 0, 1) := by decide +kernel
theorem dX6_text_87 : decode cX6_text 87 = .ok (.getfield 195, 3) := by decide +kernel
theorem dX6_text_90 : decode cX6_text 90 = .ok (.isub, 1) := by decide +kernel
theorem dX6_text_91 : decode cX6_text 91 = .ok (.ireturn, 1) := by decide +kernel
theorem dX6_text_92 : decode cX6_text 92 = .ok (.aload_n 0, 1) := by decide +kernel
theorem dX6_text_93 : decode cX6_text 93 = .ok (.dup, 1) := by decide +kernel
theorem dX6_text_94 : decode cX6_text 94 = .ok (.getfield 82, 3) := by decide +kernel
theorem dX6_text_97 : decode cX6_text 97 = .ok (.iconst 1, 1) := by decide +kernel
theorem dX6_text_98 : decode cX6_text 98 = .ok (.iadd, 1) := by decide +kernel
theorem dX6_text_99 : decode cX6_text 99 = .ok (.putfield 82, 3) := by decide +kernel
theorem dX6_text_102 : decode cX6_text 102 = .ok (.aload_n 0, 1) := by decide +kernel
theorem dX6_text_103 : decode cX6_text 103 = .ok (.getfield 82, 3) := by decide +kernel
theorem dX6_text_106 : decode cX6_text 106 = .ok (.iconst 1, 1) := by decide +kernel
theorem dX6_text_107 : decode cX6_text 107 = .ok (.isub, 1) := by decide +kernel
theorem dX6_text_108 : decode cX6_text 108 = .ok (.ireturn, 1) := by decide +kernel
theorem dX6_force_0 : decode cX6_force 0 = .ok (.iload_n 1, 1) := by decide +kernel
theorem dX6_force_1 : decode cX6_force 1 = .ok (.i2l, 1) := by decide +kernel
theorem dX6_force_2 : decode cX6_force 2 = .ok (.lconst 0, 1) := by decide +kernel
theorem dX6_force_3 : decode cX6_force 3 = .ok (.aload_n 0, 1) := by decide +kernel
theorem dX6_force_4 : decode cX6_force 4 = .ok (.getfield 82, 3) := by decide +kernel
theorem dX6_force_7 : decode cX6_force 7 = .ok (.iconst 1, 1) := by decide +kernel
theorem dX6_force_8 : decode cX6_force 8 = .ok (.isub, 1) := by decide +kernel
theorem dX6_force_9 : decode cX6_force 9 = .ok (.i2l, 1) := by decide +kernel
theorem dX6_force_10 : decode cX6_force 10 = .ok (.invokestatic 88, 3) := by decide +kernel
theorem dX6_force_13 : decode cX6_force 13 = .ok (.ifCond .ne 6, 3) := by decide +kernel
theorem dX6_force_16 : decode cX6_force 16 = .ok (.bipush (-2), 2) := by decide +kernel
theorem dX6_force_18 : decode cX6_force 18 = .ok (.ireturn, 1) := by decide +kernel
theorem dX6_force_19 : decode cX6_force 19 = .ok (.aload_n 0, 1) := by decide +kernel
theorem dX6_force_20 : decode cX6_force 20 = .ok (.getfield 122, 3) := by decide +kernel
theorem dX6_force_23 : decode cX6_force 23 = .ok (.istore_n 2, 1) := by decide +kernel
theorem dX6_force_24 : decode cX6_force 24 = .ok (.aload_n 0, 1) := by decide +kernel
theorem dX6_force_25 : decode cX6_force 25 = .ok (.iload_n 1, 1) := by decide +kernel
theorem dX6_force_26 : decode cX6_force 26 = .ok (.putfield 122, 3) := by decide +kernel
theorem dX6_force_29 : decode cX6_force 29 = .ok (.iload_n 2, 1) := by decide +kernel
theorem dX6_force_30 : decode cX6_force 30 = .ok (.ireturn, 1) := by decide +kernel
theorem dX6_says_0 : decode cX6_says 0 = .ok (.aload_n 0, 1) := by decide +kernel
theorem dX6_says_1 : decode cX6_says 1 = .ok (.iload_n 3, 1) := by decide +kernel
theorem dX6_says_2 : decode cX6_says 2 = .ok (.putfield 214, 3) := by decide +kernel
theorem dX6_says_5 : decode cX6_says 5 = .ok (.aload_n 0, 1) := by decide +kernel
theorem dX6_says_6 : decode cX6_says 6 = .ok (.aload_n 0, 1) := by decide +kernel
theorem dX6_says_7 : decode cX6_says 7 = .ok (.getfield 29, 3) := by decide +kernel
theorem dX6_says_10 : decode cX6_says 10 = .ok (.iconst 3, 1) := by decide +kernel
theorem dX6_says_11 : decode cX6_says 11 = .ok (.iload_n 2, 1) := by decide +kernel
theorem dX6_says_12 : decode cX6_says 12 = .ok (.imul, 1) := by decide +kernel
theorem dX6_says_13 : decode cX6_says 13 = .ok (.iaload, 1) := by decide +kernel
theorem dX6_says_14 : decode cX6_says 14 = .ok (.putfield 217, 3) := by decide +kernel
theorem dX6_says_17 : decode cX6_says 17 = .ok (.aload_n 0, 1) := by decide +kernel
theorem dX6_says_18 : decode cX6_says 18 = .ok (.aload_n 0, 1) := by decide +kernel
theorem dX6_says_19 : decode cX6_says 19 = .ok (.getfield 29, 3) := by decide +kernel
theorem dX6_says_22 : decode cX6_says 22 = .ok (.iconst 3, 1) := by decide +kernel
theorem dX6_says_23 : decode cX6_says 23 = .ok (.iload_n 2, 1) := by decide +kernel
theorem dX6_says_24 : decode cX6_says 24 = .ok (.imul, 1) := by decide +kernel
theorem dX6_says_25 : decode cX6_says 25 = .ok (.iconst 1, 1) := by decide +kernel
theorem dX6_says_26 : decode cX6_says 26 = .ok (.iadd, 1) := by decide +kernel
theorem dX6_says_27 : decode cX6_says 27 = .ok (.iaload, 1) := by decide +kernel
theorem dX6_says_28 : decode cX6_says 28 = .ok (.putfield 220, 3) := by decide +kernel
theorem dX6_says_31 : decode cX6_says 31 = .ok (.aload_n 0, 1) := by decide +kernel
theorem dX6_says_32 : decode cX6_says 32 = .ok (.iload 4, 2) := by decide +kernel
theorem dX6_says_34 : decode cX6_says 34 = .ok (.putfield 223, 3) := by decide +kernel
theorem dX6_says_37 : decode cX6_says 37 = .ok (.aload_n 0, 1) := by decide +kernel
theorem dX6_says_38 : decode cX6_says 38 = .ok (.aload_n 0, 1) := by decide +kernel
theorem dX6_says_39 : decode cX6_says 39 = .ok (.iload_n 2, 1) := by decide +kernel
theorem dX6_says_40 : decode cX6_says 40 = .ok (.invokevirtual 150, 3) := by decide +kernel
theorem dX6_says_43 : decode cX6_says 43 = .ok (.putfield 226, 3) := by decide +kernel
theorem dX6_says_46 : decode cX6_says 46 = .ok (.aload_n 0, 1) := by decide +kernel
theorem dX6_says_47 : decode cX6_says 47 = .ok (.iconst 0, 1) := by decide +kernel
theorem dX6_says_48 : decode cX6_says 48 = .ok (.putfield 229, 3) := by decide +kernel
theorem dX6_says_51 : decode cX6_says 51 = .ok (.iconst 0, 1) := by decide +kernel
theorem dX6_says_52 : decode cX6_says 52 = .ok (.istore 5, 2) := by decide +kernel
theorem dX6_says_54 : decode cX6_says 54 = .ok (.iload 5, 2) := by decide +kernel
theorem dX6_says_56 : decode cX6_says 56 = .ok (.aload_n 0, 1) := by decide +kernel
theorem dX6_says_57 : decode cX6_says 57 = .ok (.getfield 92, 3) := by decide +kernel
theorem dX6_says_60 : decode cX6_says 60 = .ok (.if_icmp .ge 36, 3) := by decide +kernel
theorem dX6_says_63 : decode cX6_says 63 = .ok (.aload_n 0, 1) := by decide +kernel
theorem dX6_says_64 : decode cX6_says 64 = .ok (.dup, 1) := by decide +kernel
theorem dX6_says_65 : decode cX6_says 65 = .ok (.getfield 229, 3) := by decide +kernel
theorem dX6_says_68 : decode cX6_says 68 = .ok (.aload_n 0, 1) := by decide +kernel
theorem dX6_says_69 : decode cX6_says 69 = .ok (.getfield 32, 3) := by decide +kernel
theorem dX6_says_72 : decode cX6_says 72 = .ok (.iconst 2, 1) := by decide +kernel
theorem dX6_says_73 : decode cX6_says 73 = .ok (.iload 5, 2) := by decide +kernel
theorem dX6_says_75 : decode cX6_says 75 = .ok (.imul, 1) := by decide +kernel
theorem dX6_says_76 : decode cX6_says 76 = .ok (.iaload, 1) := by decide +kernel
theorem dX6_says_77 : decode cX6_says 77 = .ok (.iload_n 3, 1) := by decide +kernel
theorem dX6_says_78 : decode cX6_says 78 = .ok (.if_icmp .ne 7, 3) := by decide +kernel
theorem dX6_says_81 : decode cX6_says 81 = .ok (.iconst 1, 1) := by decide +kernel
theorem dX6_says_82 : decode cX6_says 82 = .ok (.goto 4, 3) := by decide +kernel
theorem dX6_says_85 : decode cX6_says 85 = .ok (.iconst 0, 1) := by decide +kernel
theorem dX6_says_86 : decode cX6_says 86 = .ok (.iadd, 1) := by decide +kernel
theorem dX6_says_87 : decode cX6_says 87 = .ok (.putfield 229, 3) := by decide +kernel
theorem dX6_says_90 : decode cX6_says 90 = .ok (.iinc 5 1, 3) := by decide +kernel
theorem dX6_says_93 : decode cX6_says 93 = .ok (.goto (-39), 3) := by decide +kernel
theorem dX6_says_96 : decode cX6_says 96 = .ok (.aload_n 0, 1) := by decide +kernel
theorem dX6_says_97 : decode cX6_says 97 = .ok (.aload_n 0, 1) := by decide +kernel
theorem dX6_says_98 : decode cX6_says 98 = .ok (.getfield 122, 3) := by decide +kernel
theorem dX6_says_101 : decode cX6_says 101 = .ok (.iload_n 1, 1) := by decide +kernel
theorem dX6_says_102 : decode cX6_says 102 = .ok (.invokevirtual 269, 3) := by decide +kernel
theorem dX6_says_105 : decode cX6_says 105 = .ok (.iload_n 1, 1) := by decide +kernel
theorem dX6_says_106 : decode cX6_says 106 = .ok (.iconst 1, 1) := by decide +kernel
theorem dX6_says_107 : decode cX6_says 107 = .ok (.if_icmp .ne 8, 3) := by decide +kernel
theorem dX6_says_110 : decode cX6_says 110 = .ok (.bipush (-99), 2) := by decide +kernel
theorem dX6_says_112 : decode cX6_says 112 = .ok (.goto 4, 3) := by decide +kernel
theorem dX6_says_115 : decode cX6_says 115 = .ok (.iconst 0, 1) := by decide +kernel
theorem dX6_says_116 : decode cX6_says 116 = .ok (.bipush 99, 2) := by decide +kernel
theorem dX6_says_118 : decode cX6_says 118 = .ok (.invokestatic 272, 3) := by decide +kernel
theorem dX6_says_121 : decode cX6_says 121 = .ok (.ireturn, 1) := by decide +kernel
theorem dX6_costsOf_0 : decode cX6_costsOf 0 = .ok (.aload_n 0, 1) := by decide +kernel
theorem dX6_costsOf_1 : decode cX6_costsOf 1 = .ok (.getfield 26, 3) := by decide +kernel
theorem dX6_costsOf_4 : decode cX6_costsOf 4 = .ok (.iload_n 1, 1) := by decide +kernel
theorem dX6_costsOf_5 : decode cX6_costsOf 5 = .ok (.iaload, 1) := by decide +kernel
theorem dX6_costsOf_6 : decode cX6_costsOf 6 = .ok (.istore_n 3, 1) := by decide +kernel
theorem dX6_costsOf_7 : decode cX6_costsOf 7 = .ok (.aload_n 0, 1) := by decide +kernel
theorem dX6_costsOf_8 : decode cX6_costsOf 8 = .ok (.iconst 0, 1) := by decide +kernel
theorem dX6_costsOf_9 : decode cX6_costsOf 9 = .ok (.iload_n 1, 1) := by decide +kernel
theorem dX6_costsOf_10 : decode cX6_costsOf 10 = .ok (.iload_n 2, 1) := by decide +kernel
theorem dX6_costsOf_11 : decode cX6_costsOf 11 = .ok (.iconst 0, 1) := by decide +kernel
theorem dX6_costsOf_12 : decode cX6_costsOf 12 = .ok (.invokevirtual 276, 3) := by decide +kernel
theorem dX6_costsOf_15 : decode cX6_costsOf 15 = .ok (.aload_n 0, 1) := by decide +kernel
theorem dX6_costsOf_16 : decode cX6_costsOf 16 = .ok (.getfield 23, 3) := by decide +kernel
theorem dX6_costsOf_19 : decode cX6_costsOf 19 = .ok (.imul, 1) := by decide +kernel
theorem dX6_costsOf_20 : decode cX6_costsOf 20 = .ok (.istore 4, 2) := by decide +kernel
theorem dX6_costsOf_22 : decode cX6_costsOf 22 = .ok (.iload_n 3, 1) := by decide +kernel
theorem dX6_costsOf_23 : decode cX6_costsOf 23 = .ok (.iconst 1, 1) := by decide +kernel
theorem dX6_costsOf_24 : decode cX6_costsOf 24 = .ok (.if_icmp .ne 10, 3) := by decide +kernel
theorem dX6_costsOf_27 : decode cX6_costsOf 27 = .ok (.iconst 2, 1) := by decide +kernel
theorem dX6_costsOf_28 : decode cX6_costsOf 28 = .ok (.iload 4, 2) := by decide +kernel
theorem dX6_costsOf_30 : decode cX6_costsOf 30 = .ok (.imul, 1) := by decide +kernel
theorem dX6_costsOf_31 : decode cX6_costsOf 31 = .ok (.goto 62, 3) := by decide +kernel
theorem dX6_costsOf_34 : decode cX6_costsOf 34 = .ok (.iload_n 3, 1) := by decide +kernel
theorem dX6_costsOf_35 : decode cX6_costsOf 35 = .ok (.iconst 3, 1) := by decide +kernel
theorem dX6_costsOf_36 : decode cX6_costsOf 36 = .ok (.if_icmp .ne 19, 3) := by decide +kernel
theorem dX6_costsOf_39 : decode cX6_costsOf 39 = .ok (.iconst 2, 1) := by decide +kernel
theorem dX6_costsOf_40 : decode cX6_costsOf 40 = .ok (.iload 4, 2) := by decide +kernel
theorem dX6_costsOf_42 : decode cX6_costsOf 42 = .ok (.imul, 1) := by decide +kernel
theorem dX6_costsOf_43 : decode cX6_costsOf 43 = .ok (.aload_n 0, 1) := by decide +kernel
theorem dX6_costsOf_44 : decode cX6_costsOf 44 = .ok (.getfield 29, 3) := by decide +kernel
theorem dX6_costsOf_47 : decode cX6_costsOf 47 = .ok (.iconst 3, 1) := by decide +kernel
theorem dX6_costsOf_48 : decode cX6_costsOf 48 = .ok (.iload_n 1, 1) := by decide +kernel
theorem dX6_costsOf_49 : decode cX6_costsOf 49 = .ok (.imul, 1) := by decide +kernel
theorem dX6_costsOf_50 : decode cX6_costsOf 50 = .ok (.iaload, 1) := by decide +kernel
theorem dX6_costsOf_51 : decode cX6_costsOf 51 = .ok (.iadd, 1) := by decide +kernel
theorem dX6_costsOf_52 : decode cX6_costsOf 52 = .ok (.goto 41, 3) := by decide +kernel
theorem dX6_costsOf_55 : decode cX6_costsOf 55 = .ok (.iload_n 3, 1) := by decide +kernel
theorem dX6_costsOf_56 : decode cX6_costsOf 56 = .ok (.iconst 2, 1) := by decide +kernel
theorem dX6_costsOf_57 : decode cX6_costsOf 57 = .ok (.if_icmp .ne 10, 3) := by decide +kernel
theorem dX6_costsOf_60 : decode cX6_costsOf 60 = .ok (.iload 4, 2) := by decide +kernel
theorem dX6_costsOf_62 : decode cX6_costsOf 62 = .ok (.iconst 2, 1) := by decide +kernel
theorem dX6_costsOf_63 : decode cX6_costsOf 63 = .ok (.idiv, 1) := by decide +kernel
theorem dX6_costsOf_64 : decode cX6_costsOf 64 = .ok (.goto 29, 3) := by decide +kernel
theorem dX6_costsOf_67 : decode cX6_costsOf 67 = .ok (.iload_n 3, 1) := by decide +kernel
theorem dX6_costsOf_68 : decode cX6_costsOf 68 = .ok (.iconst 4, 1) := by decide +kernel
theorem dX6_costsOf_69 : decode cX6_costsOf 69 = .ok (.if_icmp .ne 7, 3) := by decide +kernel
theorem dX6_costsOf_72 : decode cX6_costsOf 72 = .ok (.iconst 0, 1) := by decide +kernel
theorem dX6_costsOf_73 : decode cX6_costsOf 73 = .ok (.goto 20, 3) := by decide +kernel
theorem dX6_costsOf_76 : decode cX6_costsOf 76 = .ok (.iload_n 3, 1) := by decide +kernel
theorem dX6_costsOf_77 : decode cX6_costsOf 77 = .ok (.iconst 5, 1) := by decide +kernel
theorem dX6_costsOf_78 : decode cX6_costsOf 78 = .ok (.if_icmp .ne 13, 3) := by decide +kernel
theorem dX6_costsOf_81 : decode cX6_costsOf 81 = .ok (.iload 4, 2) := by decide +kernel
theorem dX6_costsOf_83 : decode cX6_costsOf 83 = .ok (.iconst 5, 1) := by decide +kernel
theorem dX6_costsOf_84 : decode cX6_costsOf 84 = .ok (.if_icmp .le 7, 3) := by decide +kernel
theorem dX6_costsOf_87 : decode cX6_costsOf 87 = .ok (.iconst 5, 1) := by decide +kernel
theorem dX6_costsOf_88 : decode cX6_costsOf 88 = .ok (.goto 5, 3) := by decide +kernel
theorem dX6_costsOf_91 : decode cX6_costsOf 91 = .ok (.iload 4, 2) := by decide +kernel
theorem dX6_costsOf_93 : decode cX6_costsOf 93 = .ok (.istore 5, 2) := by decide +kernel
theorem dX6_costsOf_95 : decode cX6_costsOf 95 = .ok (.iload 5, 2) := by decide +kernel
theorem dX6_costsOf_97 : decode cX6_costsOf 97 = .ok (.iconst 0, 1) := by decide +kernel
theorem dX6_costsOf_98 : decode cX6_costsOf 98 = .ok (.sipush 999, 3) := by decide +kernel
theorem dX6_costsOf_101 : decode cX6_costsOf 101 = .ok (.invokestatic 272, 3) := by decide +kernel
theorem dX6_costsOf_104 : decode cX6_costsOf 104 = .ok (.ireturn, 1) := by decide +kernel
theorem dX6_appears_0 : decode cX6_appears 0 = .ok (.aload_n 0, 1) := by decide +kernel
theorem dX6_appears_1 : decode cX6_appears 1 = .ok (.getfield 29, 3) := by decide +kernel
theorem dX6_appears_4 : decode cX6_appears 4 = .ok (.iconst 3, 1) := by decide +kernel
theorem dX6_appears_5 : decode cX6_appears 5 = .ok (.iload_n 1, 1) := by decide +kernel
theorem dX6_appears_6 : decode cX6_appears 6 = .ok (.imul, 1) := by decide +kernel
theorem dX6_appears_7 : decode cX6_appears 7 = .ok (.iconst 2, 1) := by decide +kernel
theorem dX6_appears_8 : decode cX6_appears 8 = .ok (.iadd, 1) := by decide +kernel
theorem dX6_appears_9 : decode cX6_appears 9 = .ok (.iaload, 1) := by decide +kernel
theorem dX6_appears_10 : decode cX6_appears 10 = .ok (.iload_n 2, 1) := by decide +kernel
theorem dX6_appears_11 : decode cX6_appears 11 = .ok (.ishr, 1) := by decide +kernel
theorem dX6_appears_12 : decode cX6_appears 12 = .ok (.iconst 1, 1) := by decide +kernel
theorem dX6_appears_13 : decode cX6_appears 13 = .ok (.iand, 1) := by decide +kernel
theorem dX6_appears_14 : decode cX6_appears 14 = .ok (.ifCond .ne 5, 3) := by decide +kernel
theorem dX6_appears_17 : decode cX6_appears 17 = .ok (.iconst 0, 1) := by decide +kernel
theorem dX6_appears_18 : decode cX6_appears 18 = .ok (.ireturn, 1) := by decide +kernel
theorem dX6_appears_19 : decode cX6_appears 19 = .ok (.aload_n 0, 1) := by decide +kernel
theorem dX6_appears_20 : decode cX6_appears 20 = .ok (.getfield 26, 3) := by decide +kernel
theorem dX6_appears_23 : decode cX6_appears 23 = .ok (.iload_n 1, 1) := by decide +kernel
theorem dX6_appears_24 : decode cX6_appears 24 = .ok (.iaload, 1) := by decide +kernel
theorem dX6_appears_25 : decode cX6_appears 25 = .ok (.istore_n 3, 1) := by decide +kernel
theorem dX6_appears_26 : decode cX6_appears 26 = .ok (.iload_n 3, 1) := by decide +kernel
theorem dX6_appears_27 : decode cX6_appears 27 = .ok (.iconst 1, 1) := by decide +kernel
theorem dX6_appears_28 : decode cX6_appears 28 = .ok (.if_icmp .eq 8, 3) := by decide +kernel
theorem dX6_appears_31 : decode cX6_appears 31 = .ok (.iload_n 3, 1) := by decide +kernel
theorem dX6_appears_32 : decode cX6_appears 32 = .ok (.iconst 3, 1) := by decide +kernel
theorem dX6_appears_33 : decode cX6_appears 33 = .ok (.if_icmp .ne 40, 3) := by decide +kernel
theorem dX6_appears_36 : decode cX6_appears 36 = .ok (.iload_n 2, 1) := by decide +kernel
theorem dX6_appears_37 : decode cX6_appears 37 = .ok (.i2l, 1) := by decide +kernel
theorem dX6_appears_38 : decode cX6_appears 38 = .ok (.ldc2_w 280, 3) := by decide +kernel
theorem dX6_appears_41 : decode cX6_appears 41 = .ok (.ldc2_w 104, 3) := by decide +kernel
theorem dX6_appears_44 : decode cX6_appears 44 = .ok (.invokestatic 88, 3) := by decide +kernel
theorem dX6_appears_47 : decode cX6_appears 47 = .ok (.ifCond .ne 20, 3) := by decide +kernel
theorem dX6_appears_50 : decode cX6_appears 50 = .ok (.iload_n 3, 1) := by decide +kernel
theorem dX6_appears_51 : decode cX6_appears 51 = .ok (.iconst 3, 1) := by decide +kernel
theorem dX6_appears_52 : decode cX6_appears 52 = .ok (.if_icmp .ne 19, 3) := by decide +kernel
theorem dX6_appears_55 : decode cX6_appears 55 = .ok (.iload_n 2, 1) := by decide +kernel
theorem dX6_appears_56 : decode cX6_appears 56 = .ok (.aload_n 0, 1) := by decide +kernel
theorem dX6_appears_57 : decode cX6_appears 57 = .ok (.getfield 29, 3) := by decide +kernel
theorem dX6_appears_60 : decode cX6_appears 60 = .ok (.iconst 3, 1) := by decide +kernel
theorem dX6_appears_61 : decode cX6_appears 61 = .ok (.iload_n 1, 1) := by decide +kernel
theorem dX6_appears_62 : decode cX6_appears 62 = .ok (.imul, 1) := by decide +kernel
theorem dX6_appears_63 : decode cX6_appears 63 = .ok (.iaload, 1) := by decide +kernel
theorem dX6_appears_64 : decode cX6_appears 64 = .ok (.if_icmp .ne 7, 3) := by decide +kernel
theorem dX6_appears_67 : decode cX6_appears 67 = .ok (.iconst 1, 1) := by decide +kernel
theorem dX6_appears_68 : decode cX6_appears 68 = .ok (.goto 4, 3) := by decide +kernel
theorem dX6_appears_71 : decode cX6_appears 71 = .ok (.iconst 0, 1) := by decide +kernel
theorem dX6_appears_72 : decode cX6_appears 72 = .ok (.ireturn, 1) := by decide +kernel
theorem dX6_appears_73 : decode cX6_appears 73 = .ok (.iload_n 3, 1) := by decide +kernel
theorem dX6_appears_74 : decode cX6_appears 74 = .ok (.iconst 4, 1) := by decide +kernel
theorem dX6_appears_75 : decode cX6_appears 75 = .ok (.if_icmp .ne 27, 3) := by decide +kernel
theorem dX6_appears_78 : decode cX6_appears 78 = .ok (.iload_n 2, 1) := by decide +kernel
theorem dX6_appears_79 : decode cX6_appears 79 = .ok (.iconst 3, 1) := by decide +kernel
theorem dX6_appears_80 : decode cX6_appears 80 = .ok (.irem, 1) := by decide +kernel
theorem dX6_appears_81 : decode cX6_appears 81 = .ok (.aload_n 0, 1) := by decide +kernel
theorem dX6_appears_82 : decode cX6_appears 82 = .ok (.getfield 29, 3) := by decide +kernel
theorem dX6_appears_85 : decode cX6_appears 85 = .ok (.iconst 3, 1) := by decide +kernel
theorem dX6_appears_86 : decode cX6_appears 86 = .ok (.iload_n 1, 1) := by decide +kernel
theorem dX6_appears_87 : decode cX6_appears 87 = .ok (.imul, 1) := by decide +kernel
theorem dX6_appears_88 : decode cX6_appears 88 = .ok (.iaload, 1) := by decide +kernel
theorem dX6_appears_89 : decode cX6_appears 89 = .ok (.iconst 3, 1) := by decide +kernel
theorem dX6_appears_90 : decode cX6_appears 90 = .ok (.irem, 1) := by decide +kernel
theorem dX6_appears_91 : decode cX6_appears 91 = .ok (.if_icmp .ne 7, 3) := by decide +kernel
theorem dX6_appears_94 : decode cX6_appears 94 = .ok (.iconst 1, 1) := by decide +kernel
theorem dX6_appears_95 : decode cX6_appears 95 = .ok (.goto 23, 3) := by decide +kernel
theorem dX6_appears_98 : decode cX6_appears 98 = .ok (.iconst 0, 1) := by decide +kernel
theorem dX6_appears_99 : decode cX6_appears 99 = .ok (.goto 19, 3) := by decide +kernel
theorem dX6_appears_102 : decode cX6_appears 102 = .ok (.iload_n 3, 1) := by decide +kernel
theorem dX6_appears_103 : decode cX6_appears 103 = .ok (.iconst 5, 1) := by decide +kernel
theorem dX6_appears_104 : decode cX6_appears 104 = .ok (.if_icmp .ne 9, 3) := by decide +kernel
theorem dX6_appears_107 : decode cX6_appears 107 = .ok (.iload_n 2, 1) := by decide +kernel
theorem dX6_appears_108 : decode cX6_appears 108 = .ok (.iconst 2, 1) := by decide +kernel
theorem dX6_appears_109 : decode cX6_appears 109 = .ok (.irem, 1) := by decide +kernel
theorem dX6_appears_110 : decode cX6_appears 110 = .ok (.ifCond .ne 7, 3) := by decide +kernel
theorem dX6_appears_113 : decode cX6_appears 113 = .ok (.iconst 1, 1) := by decide +kernel
theorem dX6_appears_114 : decode cX6_appears 114 = .ok (.goto 4, 3) := by decide +kernel
theorem dX6_appears_117 : decode cX6_appears 117 = .ok (.iconst 0, 1) := by decide +kernel
theorem dX6_appears_118 : decode cX6_appears 118 = .ok (.ireturn, 1) := by decide +kernel
theorem dX6_gladOf_0 : decode cX6_gladOf 0 = .ok (.aload_n 0, 1) := by decide +kernel
theorem dX6_gladOf_1 : decode cX6_gladOf 1 = .ok (.getfield 26, 3) := by decide +kernel
theorem dX6_gladOf_4 : decode cX6_gladOf 4 = .ok (.iload_n 2, 1) := by decide +kernel
theorem dX6_gladOf_5 : decode cX6_gladOf 5 = .ok (.iaload, 1) := by decide +kernel
theorem dX6_gladOf_6 : decode cX6_gladOf 6 = .ok (.istore_n 3, 1) := by decide +kernel
theorem dX6_gladOf_7 : decode cX6_gladOf 7 = .ok (.iload_n 3, 1) := by decide +kernel
theorem dX6_gladOf_8 : decode cX6_gladOf 8 = .ok (.iconst 5, 1) := by decide +kernel
theorem dX6_gladOf_9 : decode cX6_gladOf 9 = .ok (.if_icmp .ne 5, 3) := by decide +kernel
theorem dX6_gladOf_12 : decode cX6_gladOf 12 = .ok (.iconst 1, 1) := by decide +kernel
theorem dX6_gladOf_13 : decode cX6_gladOf 13 = .ok (.ireturn, 1) := by decide +kernel
theorem dX6_gladOf_14 : decode cX6_gladOf 14 = .ok (.aload_n 0, 1) := by decide +kernel
theorem dX6_gladOf_15 : decode cX6_gladOf 15 = .ok (.iload_n 1, 1) := by decide +kernel
theorem dX6_gladOf_16 : decode cX6_gladOf 16 = .ok (.iload_n 2, 1) := by decide +kernel
theorem dX6_gladOf_17 : decode cX6_gladOf 17 = .ok (.invokevirtual 153, 3) := by decide +kernel
theorem dX6_gladOf_20 : decode cX6_gladOf 20 = .ok (.ifCond .eq 21, 3) := by decide +kernel
theorem dX6_gladOf_23 : decode cX6_gladOf 23 = .ok (.aload_n 0, 1) := by decide +kernel
theorem dX6_gladOf_24 : decode cX6_gladOf 24 = .ok (.iconst 1, 1) := by decide +kernel
theorem dX6_gladOf_25 : decode cX6_gladOf 25 = .ok (.iload_n 2, 1) := by decide +kernel
theorem dX6_gladOf_26 : decode cX6_gladOf 26 = .ok (.aload_n 0, 1) := by decide +kernel
theorem dX6_gladOf_27 : decode cX6_gladOf 27 = .ok (.getfield 32, 3) := by decide +kernel
theorem dX6_gladOf_30 : decode cX6_gladOf 30 = .ok (.iconst 2, 1) := by decide +kernel
theorem dX6_gladOf_31 : decode cX6_gladOf 31 = .ok (.iload_n 1, 1) := by decide +kernel
theorem dX6_gladOf_32 : decode cX6_gladOf 32 = .ok (.imul, 1) := by decide +kernel
theorem dX6_gladOf_33 : decode cX6_gladOf 33 = .ok (.iaload, 1) := by decide +kernel
theorem dX6_gladOf_34 : decode cX6_gladOf 34 = .ok (.iconst 1, 1) := by decide +kernel
theorem dX6_gladOf_35 : decode cX6_gladOf 35 = .ok (.invokevirtual 276, 3) := by decide +kernel
theorem dX6_gladOf_38 : decode cX6_gladOf 38 = .ok (.goto 4, 3) := by decide +kernel
theorem dX6_gladOf_41 : decode cX6_gladOf 41 = .ok (.iconst 0, 1) := by decide +kernel
theorem dX6_gladOf_42 : decode cX6_gladOf 42 = .ok (.istore 4, 2) := by decide +kernel
theorem dX6_gladOf_44 : decode cX6_gladOf 44 = .ok (.iload_n 3, 1) := by decide +kernel
theorem dX6_gladOf_45 : decode cX6_gladOf 45 = .ok (.iconst 1, 1) := by decide +kernel
theorem dX6_gladOf_46 : decode cX6_gladOf 46 = .ok (.if_icmp .ne 10, 3) := by decide +kernel
theorem dX6_gladOf_49 : decode cX6_gladOf 49 = .ok (.iload 4, 2) := by decide +kernel
theorem dX6_gladOf_51 : decode cX6_gladOf 51 = .ok (.iconst 2, 1) := by decide +kernel
theorem dX6_gladOf_52 : decode cX6_gladOf 52 = .ok (.iadd, 1) := by decide +kernel
theorem dX6_gladOf_53 : decode cX6_gladOf 53 = .ok (.goto 46, 3) := by decide +kernel
theorem dX6_gladOf_56 : decode cX6_gladOf 56 = .ok (.iload_n 3, 1) := by decide +kernel
theorem dX6_gladOf_57 : decode cX6_gladOf 57 = .ok (.iconst 3, 1) := by decide +kernel
theorem dX6_gladOf_58 : decode cX6_gladOf 58 = .ok (.if_icmp .ne 12, 3) := by decide +kernel
theorem dX6_gladOf_61 : decode cX6_gladOf 61 = .ok (.iconst 2, 1) := by decide +kernel
theorem dX6_gladOf_62 : decode cX6_gladOf 62 = .ok (.iload 4, 2) := by decide +kernel
theorem dX6_gladOf_64 : decode cX6_gladOf 64 = .ok (.iconst 2, 1) := by decide +kernel
theorem dX6_gladOf_65 : decode cX6_gladOf 65 = .ok (.iadd, 1) := by decide +kernel
theorem dX6_gladOf_66 : decode cX6_gladOf 66 = .ok (.imul, 1) := by decide +kernel
theorem dX6_gladOf_67 : decode cX6_gladOf 67 = .ok (.goto 32, 3) := by decide +kernel
theorem dX6_gladOf_70 : decode cX6_gladOf 70 = .ok (.iload_n 3, 1) := by decide +kernel
theorem dX6_gladOf_71 : decode cX6_gladOf 71 = .ok (.iconst 2, 1) := by decide +kernel
theorem dX6_gladOf_72 : decode cX6_gladOf 72 = .ok (.if_icmp .ne 10, 3) := by decide +kernel
theorem dX6_gladOf_75 : decode cX6_gladOf 75 = .ok (.iload 4, 2) := by decide +kernel
theorem dX6_gladOf_77 : decode cX6_gladOf 77 = .ok (.iconst 2, 1) := by decide +kernel
theorem dX6_gladOf_78 : decode cX6_gladOf 78 = .ok (.idiv, 1) := by decide +kernel
theorem dX6_gladOf_79 : decode cX6_gladOf 79 = .ok (.goto 20, 3) := by decide +kernel
theorem dX6_gladOf_82 : decode cX6_gladOf 82 = .ok (.iload_n 3, 1) := by decide +kernel
theorem dX6_gladOf_83 : decode cX6_gladOf 83 = .ok (.iconst 4, 1) := by decide +kernel
theorem dX6_gladOf_84 : decode cX6_gladOf 84 = .ok (.if_icmp .ne 13, 3) := by decide +kernel
theorem dX6_gladOf_87 : decode cX6_gladOf 87 = .ok (.iload 4, 2) := by decide +kernel
theorem dX6_gladOf_89 : decode cX6_gladOf 89 = .ok (.iconst 2, 1) := by decide +kernel
theorem dX6_gladOf_90 : decode cX6_gladOf 90 = .ok (.idiv, 1) := by decide +kernel
theorem dX6_gladOf_91 : decode cX6_gladOf 91 = .ok (.bipush 9, 2) := by decide +kernel
theorem dX6_gladOf_93 : decode cX6_gladOf 93 = .ok (.isub, 1) := by decide +kernel
theorem dX6_gladOf_94 : decode cX6_gladOf 94 = .ok (.goto 5, 3) := by decide +kernel
theorem dX6_gladOf_97 : decode cX6_gladOf 97 = .ok (.iload 4, 2) := by decide +kernel
theorem dX6_gladOf_99 : decode cX6_gladOf 99 = .ok (.ireturn, 1) := by decide +kernel
theorem dX6_paysOf_0 : decode cX6_paysOf 0 = .ok (.aload_n 0, 1) := by decide +kernel
theorem dX6_paysOf_1 : decode cX6_paysOf 1 = .ok (.iconst 2, 1) := by decide +kernel
theorem dX6_paysOf_2 : decode cX6_paysOf 2 = .ok (.iload_n 2, 1) := by decide +kernel
theorem dX6_paysOf_3 : decode cX6_paysOf 3 = .ok (.aload_n 0, 1) := by decide +kernel
theorem dX6_paysOf_4 : decode cX6_paysOf 4 = .ok (.getfield 32, 3) := by decide +kernel
theorem dX6_paysOf_7 : decode cX6_paysOf 7 = .ok (.iconst 2, 1) := by decide +kernel
theorem dX6_paysOf_8 : decode cX6_paysOf 8 = .ok (.iload_n 1, 1) := by decide +kernel
theorem dX6_paysOf_9 : decode cX6_paysOf 9 = .ok (.imul, 1) := by decide +kernel
theorem dX6_paysOf_10 : decode cX6_paysOf 10 = .ok (.iaload, 1) := by decide +kernel
theorem dX6_paysOf_11 : decode cX6_paysOf 11 = .ok (.aload_n 0, 1) := by decide +kernel
theorem dX6_paysOf_12 : decode cX6_paysOf 12 = .ok (.iload_n 1, 1) := by decide +kernel
theorem dX6_paysOf_13 : decode cX6_paysOf 13 = .ok (.iload_n 2, 1) := by decide +kernel
theorem dX6_paysOf_14 : decode cX6_paysOf 14 = .ok (.invokevirtual 153, 3) := by decide +kernel
theorem dX6_paysOf_17 : decode cX6_paysOf 17 = .ok (.ifCond .eq 7, 3) := by decide +kernel
theorem dX6_paysOf_20 : decode cX6_paysOf 20 = .ok (.iconst 1, 1) := by decide +kernel
theorem dX6_paysOf_21 : decode cX6_paysOf 21 = .ok (.goto 4, 3) := by decide +kernel
theorem dX6_paysOf_24 : decode cX6_paysOf 24 = .ok (.iconst 0, 1) := by decide +kernel
theorem dX6_paysOf_25 : decode cX6_paysOf 25 = .ok (.invokevirtual 276, 3) := by decide +kernel
theorem dX6_paysOf_28 : decode cX6_paysOf 28 = .ok (.ireturn, 1) := by decide +kernel
theorem dX6_glad_0 : decode cX6_glad 0 = .ok (.aload_n 0, 1) := by decide +kernel
theorem dX6_glad_1 : decode cX6_glad 1 = .ok (.iload_n 1, 1) := by decide +kernel
theorem dX6_glad_2 : decode cX6_glad 2 = .ok (.invokevirtual 97, 3) := by decide +kernel
theorem dX6_glad_5 : decode cX6_glad 5 = .ok (.ifCond .eq 21, 3) := by decide +kernel
theorem dX6_glad_8 : decode cX6_glad 8 = .ok (.aload_n 0, 1) := by decide +kernel
theorem dX6_glad_9 : decode cX6_glad 9 = .ok (.iload_n 2, 1) := by decide +kernel
theorem dX6_glad_10 : decode cX6_glad 10 = .ok (.invokevirtual 101, 3) := by decide +kernel
theorem dX6_glad_13 : decode cX6_glad 13 = .ok (.ifCond .eq 13, 3) := by decide +kernel
theorem dX6_glad_16 : decode cX6_glad 16 = .ok (.iload_n 3, 1) := by decide +kernel
theorem dX6_glad_17 : decode cX6_glad 17 = .ok (.i2l, 1) := by decide +kernel
theorem dX6_glad_18 : decode cX6_glad 18 = .ok (.lconst 0, 1) := by decide +kernel
theorem dX6_glad_19 : decode cX6_glad 19 = .ok (.lconst 1, 1) := by decide +kernel
theorem dX6_glad_20 : decode cX6_glad 20 = .ok (.invokestatic 88, 3) := by decide +kernel
theorem dX6_glad_23 : decode cX6_glad 23 = .ok (.ifCond .ne 7, 3) := by decide +kernel
theorem dX6_glad_26 : decode cX6_glad 26 = .ok (.sipush (-1000), 3) := by decide +kernel
theorem dX6_glad_29 : decode cX6_glad 29 = .ok (.ireturn, 1) := by decide +kernel
theorem dX6_glad_30 : decode cX6_glad 30 = .ok (.iload_n 3, 1) := by decide +kernel
theorem dX6_glad_31 : decode cX6_glad 31 = .ok (.ifCond .ne 12, 3) := by decide +kernel
theorem dX6_glad_34 : decode cX6_glad 34 = .ok (.aload_n 0, 1) := by decide +kernel
theorem dX6_glad_35 : decode cX6_glad 35 = .ok (.iload_n 1, 1) := by decide +kernel
theorem dX6_glad_36 : decode cX6_glad 36 = .ok (.iload_n 2, 1) := by decide +kernel
theorem dX6_glad_37 : decode cX6_glad 37 = .ok (.invokevirtual 282, 3) := by decide +kernel
theorem dX6_glad_40 : decode cX6_glad 40 = .ok (.goto 9, 3) := by decide +kernel
theorem dX6_glad_43 : decode cX6_glad 43 = .ok (.aload_n 0, 1) := by decide +kernel
theorem dX6_glad_44 : decode cX6_glad 44 = .ok (.iload_n 1, 1) := by decide +kernel
theorem dX6_glad_45 : decode cX6_glad 45 = .ok (.iload_n 2, 1) := by decide +kernel
theorem dX6_glad_46 : decode cX6_glad 46 = .ok (.invokevirtual 285, 3) := by decide +kernel
theorem dX6_glad_49 : decode cX6_glad 49 = .ok (.ireturn, 1) := by decide +kernel
theorem dX6_tables_0 : decode cX6_tables 0 = .ok (.iconst 0, 1) := by decide +kernel
theorem dX6_tables_1 : decode cX6_tables 1 = .ok (.istore_n 1, 1) := by decide +kernel
theorem dX6_tables_2 : decode cX6_tables 2 = .ok (.iload_n 1, 1) := by decide +kernel
theorem dX6_tables_3 : decode cX6_tables 3 = .ok (.aload_n 0, 1) := by decide +kernel
theorem dX6_tables_4 : decode cX6_tables 4 = .ok (.getfield 92, 3) := by decide +kernel
theorem dX6_tables_7 : decode cX6_tables 7 = .ok (.if_icmp .ge 101, 3) := by decide +kernel
theorem dX6_tables_10 : decode cX6_tables 10 = .ok (.iconst 0, 1) := by decide +kernel
theorem dX6_tables_11 : decode cX6_tables 11 = .ok (.istore_n 2, 1) := by decide +kernel
theorem dX6_tables_12 : decode cX6_tables 12 = .ok (.iload_n 2, 1) := by decide +kernel
theorem dX6_tables_13 : decode cX6_tables 13 = .ok (.aload_n 0, 1) := by decide +kernel
theorem dX6_tables_14 : decode cX6_tables 14 = .ok (.getfield 85, 3) := by decide +kernel
theorem dX6_tables_17 : decode cX6_tables 17 = .ok (.if_icmp .ge 85, 3) := by decide +kernel
theorem dX6_tables_20 : decode cX6_tables 20 = .ok (.bipush 6, 2) := by decide +kernel
theorem dX6_tables_22 : decode cX6_tables 22 = .ok (.iload_n 1, 1) := by decide +kernel
theorem dX6_tables_23 : decode cX6_tables 23 = .ok (.imul, 1) := by decide +kernel
theorem dX6_tables_24 : decode cX6_tables 24 = .ok (.iload_n 2, 1) := by decide +kernel
theorem dX6_tables_25 : decode cX6_tables 25 = .ok (.iadd, 1) := by decide +kernel
theorem dX6_tables_26 : decode cX6_tables 26 = .ok (.istore_n 3, 1) := by decide +kernel
theorem dX6_tables_27 : decode cX6_tables 27 = .ok (.aload_n 0, 1) := by decide +kernel
theorem dX6_tables_28 : decode cX6_tables 28 = .ok (.getfield 35, 3) := by decide +kernel
theorem dX6_tables_31 : decode cX6_tables 31 = .ok (.iload_n 3, 1) := by decide +kernel
theorem dX6_tables_32 : decode cX6_tables 32 = .ok (.aload_n 0, 1) := by decide +kernel
theorem dX6_tables_33 : decode cX6_tables 33 = .ok (.iload_n 2, 1) := by decide +kernel
theorem dX6_tables_34 : decode cX6_tables 34 = .ok (.aload_n 0, 1) := by decide +kernel
theorem dX6_tables_35 : decode cX6_tables 35 = .ok (.getfield 32, 3) := by decide +kernel
theorem dX6_tables_38 : decode cX6_tables 38 = .ok (.iconst 2, 1) := by decide +kernel
theorem dX6_tables_39 : decode cX6_tables 39 = .ok (.iload_n 1, 1) := by decide +kernel
theorem dX6_tables_40 : decode cX6_tables 40 = .ok (.imul, 1) := by decide +kernel
theorem dX6_tables_41 : decode cX6_tables 41 = .ok (.iaload, 1) := by decide +kernel
theorem dX6_tables_42 : decode cX6_tables 42 = .ok (.invokevirtual 144, 3) := by decide +kernel
theorem dX6_tables_45 : decode cX6_tables 45 = .ok (.iastore, 1) := by decide +kernel
theorem dX6_tables_46 : decode cX6_tables 46 = .ok (.aload_n 0, 1) := by decide +kernel
theorem dX6_tables_47 : decode cX6_tables 47 = .ok (.getfield 38, 3) := by decide +kernel
theorem dX6_tables_50 : decode cX6_tables 50 = .ok (.iload_n 3, 1) := by decide +kernel
theorem dX6_tables_51 : decode cX6_tables 51 = .ok (.aload_n 0, 1) := by decide +kernel
theorem dX6_tables_52 : decode cX6_tables 52 = .ok (.iload_n 1, 1) := by decide +kernel
theorem dX6_tables_53 : decode cX6_tables 53 = .ok (.iload_n 2, 1) := by decide +kernel
theorem dX6_tables_54 : decode cX6_tables 54 = .ok (.invokevirtual 282, 3) := by decide +kernel
theorem dX6_tables_57 : decode cX6_tables 57 = .ok (.iastore, 1) := by decide +kernel
theorem dX6_tables_58 : decode cX6_tables 58 = .ok (.aload_n 0, 1) := by decide +kernel
theorem dX6_tables_59 : decode cX6_tables 59 = .ok (.getfield 41, 3) := by decide +kernel
theorem dX6_tables_62 : decode cX6_tables 62 = .ok (.iload_n 3, 1) := by decide +kernel
theorem dX6_tables_63 : decode cX6_tables 63 = .ok (.aload_n 0, 1) := by decide +kernel
theorem dX6_tables_64 : decode cX6_tables 64 = .ok (.getfield 35, 3) := by decide +kernel
theorem dX6_tables_67 : decode cX6_tables 67 = .ok (.iload_n 3, 1) := by decide +kernel
theorem dX6_tables_68 : decode cX6_tables 68 = .ok (.iaload, 1) := by decide +kernel
theorem dX6_tables_69 : decode cX6_tables 69 = .ok (.aload_n 0, 1) := by decide +kernel
theorem dX6_tables_70 : decode cX6_tables 70 = .ok (.iload_n 1, 1) := by decide +kernel
theorem dX6_tables_71 : decode cX6_tables 71 = .ok (.iload_n 2, 1) := by decide +kernel
theorem dX6_tables_72 : decode cX6_tables 72 = .ok (.invokevirtual 285, 3) := by decide +kernel
theorem dX6_tables_75 : decode cX6_tables 75 = .ok (.iadd, 1) := by decide +kernel
theorem dX6_tables_76 : decode cX6_tables 76 = .ok (.iastore, 1) := by decide +kernel
theorem dX6_tables_77 : decode cX6_tables 77 = .ok (.aload_n 0, 1) := by decide +kernel
theorem dX6_tables_78 : decode cX6_tables 78 = .ok (.getfield 44, 3) := by decide +kernel
theorem dX6_tables_81 : decode cX6_tables 81 = .ok (.iload_n 3, 1) := by decide +kernel
theorem dX6_tables_82 : decode cX6_tables 82 = .ok (.aload_n 0, 1) := by decide +kernel
theorem dX6_tables_83 : decode cX6_tables 83 = .ok (.iload_n 2, 1) := by decide +kernel
theorem dX6_tables_84 : decode cX6_tables 84 = .ok (.aload_n 0, 1) := by decide +kernel
theorem dX6_tables_85 : decode cX6_tables 85 = .ok (.getfield 32, 3) := by decide +kernel
theorem dX6_tables_88 : decode cX6_tables 88 = .ok (.iconst 2, 1) := by decide +kernel
theorem dX6_tables_89 : decode cX6_tables 89 = .ok (.iload_n 1, 1) := by decide +kernel
theorem dX6_tables_90 : decode cX6_tables 90 = .ok (.imul, 1) := by decide +kernel
theorem dX6_tables_91 : decode cX6_tables 91 = .ok (.iaload, 1) := by decide +kernel
theorem dX6_tables_92 : decode cX6_tables 92 = .ok (.invokevirtual 147, 3) := by decide +kernel
theorem dX6_tables_95 : decode cX6_tables 95 = .ok (.bastore, 1) := by decide +kernel
theorem dX6_tables_96 : decode cX6_tables 96 = .ok (.iinc 2 1, 3) := by decide +kernel
theorem dX6_tables_99 : decode cX6_tables 99 = .ok (.goto (-87), 3) := by decide +kernel
theorem dX6_tables_102 : decode cX6_tables 102 = .ok (.iinc 1 1, 3) := by decide +kernel
theorem dX6_tables_105 : decode cX6_tables 105 = .ok (.goto (-103), 3) := by decide +kernel
theorem dX6_tables_108 : decode cX6_tables 108 = .ok (.aload_n 0, 1) := by decide +kernel
theorem dX6_tables_109 : decode cX6_tables 109 = .ok (.invokevirtual 288, 3) := by decide +kernel
theorem dX6_tables_112 : decode cX6_tables 112 = .ok (.return_, 1) := by decide +kernel
theorem dX6_begins_0 : decode cX6_begins 0 = .ok (.iconst 0, 1) := by decide +kernel
theorem dX6_begins_1 : decode cX6_begins 1 = .ok (.istore_n 1, 1) := by decide +kernel
theorem dX6_begins_2 : decode cX6_begins 2 = .ok (.iload_n 1, 1) := by decide +kernel
theorem dX6_begins_3 : decode cX6_begins 3 = .ok (.aload_n 0, 1) := by decide +kernel
theorem dX6_begins_4 : decode cX6_begins 4 = .ok (.getfield 85, 3) := by decide +kernel
theorem dX6_begins_7 : decode cX6_begins 7 = .ok (.if_icmp .ge 25, 3) := by decide +kernel
theorem dX6_begins_10 : decode cX6_begins 10 = .ok (.aload_n 0, 1) := by decide +kernel
theorem dX6_begins_11 : decode cX6_begins 11 = .ok (.getfield 48, 3) := by decide +kernel
theorem dX6_begins_14 : decode cX6_begins 14 = .ok (.iload_n 1, 1) := by decide +kernel
theorem dX6_begins_15 : decode cX6_begins 15 = .ok (.aload_n 0, 1) := by decide +kernel
theorem dX6_begins_16 : decode cX6_begins 16 = .ok (.getfield 29, 3) := by decide +kernel
theorem dX6_begins_19 : decode cX6_begins 19 = .ok (.iconst 3, 1) := by decide +kernel
theorem dX6_begins_20 : decode cX6_begins 20 = .ok (.iload_n 1, 1) := by decide +kernel
theorem dX6_begins_21 : decode cX6_begins 21 = .ok (.imul, 1) := by decide +kernel
theorem dX6_begins_22 : decode cX6_begins 22 = .ok (.iconst 1, 1) := by decide +kernel
theorem dX6_begins_23 : decode cX6_begins 23 = .ok (.iadd, 1) := by decide +kernel
theorem dX6_begins_24 : decode cX6_begins 24 = .ok (.iaload, 1) := by decide +kernel
theorem dX6_begins_25 : decode cX6_begins 25 = .ok (.iastore, 1) := by decide +kernel
theorem dX6_begins_26 : decode cX6_begins 26 = .ok (.iinc 1 1, 3) := by decide +kernel
theorem dX6_begins_29 : decode cX6_begins 29 = .ok (.goto (-27), 3) := by decide +kernel
theorem dX6_begins_32 : decode cX6_begins 32 = .ok (.aload_n 0, 1) := by decide +kernel
theorem dX6_begins_33 : decode cX6_begins 33 = .ok (.iconst 0, 1) := by decide +kernel
theorem dX6_begins_34 : decode cX6_begins 34 = .ok (.putfield 291, 3) := by decide +kernel
theorem dX6_begins_37 : decode cX6_begins 37 = .ok (.aload_n 0, 1) := by decide +kernel
theorem dX6_begins_38 : decode cX6_begins 38 = .ok (.iconst 0, 1) := by decide +kernel
theorem dX6_begins_39 : decode cX6_begins 39 = .ok (.putfield 294, 3) := by decide +kernel
theorem dX6_begins_42 : decode cX6_begins 42 = .ok (.return_, 1) := by decide +kernel
theorem dX6_can_0 : decode cX6_can 0 = .ok (.iload_n 2, 1) := by decide +kernel
theorem dX6_can_1 : decode cX6_can 1 = .ok (.iconst (-1), 1) := by decide +kernel
theorem dX6_can_2 : decode cX6_can 2 = .ok (.if_icmp .eq 37, 3) := by decide +kernel
theorem dX6_can_5 : decode cX6_can 5 = .ok (.aload_n 0, 1) := by decide +kernel
theorem dX6_can_6 : decode cX6_can 6 = .ok (.getfield 44, 3) := by decide +kernel
theorem dX6_can_9 : decode cX6_can 9 = .ok (.bipush 6, 2) := by decide +kernel
theorem dX6_can_11 : decode cX6_can 11 = .ok (.iload_n 1, 1) := by decide +kernel
theorem dX6_can_12 : decode cX6_can 12 = .ok (.imul, 1) := by decide +kernel
theorem dX6_can_13 : decode cX6_can 13 = .ok (.iload_n 2, 1) := by decide +kernel
theorem dX6_can_14 : decode cX6_can 14 = .ok (.iadd, 1) := by decide +kernel
theorem dX6_can_15 : decode cX6_can 15 = .ok (.baload, 1) := by decide +kernel
theorem dX6_can_16 : decode cX6_can 16 = .ok (.ifCond .eq 27, 3) := by decide +kernel
theorem dX6_can_19 : decode cX6_can 19 = .ok (.aload_n 0, 1) := by decide +kernel
theorem dX6_can_20 : decode cX6_can 20 = .ok (.getfield 48, 3) := by decide +kernel
theorem dX6_can_23 : decode cX6_can 23 = .ok (.iload_n 2, 1) := by decide +kernel
theorem dX6_can_24 : decode cX6_can 24 = .ok (.iaload, 1) := by decide +kernel
theorem dX6_can_25 : decode cX6_can 25 = .ok (.aload_n 0, 1) := by decide +kernel
theorem dX6_can_26 : decode cX6_can 26 = .ok (.getfield 35, 3) := by decide +kernel
theorem dX6_can_29 : decode cX6_can 29 = .ok (.bipush 6, 2) := by decide +kernel
theorem dX6_can_31 : decode cX6_can 31 = .ok (.iload_n 1, 1) := by decide +kernel
theorem dX6_can_32 : decode cX6_can 32 = .ok (.imul, 1) := by decide +kernel
theorem dX6_can_33 : decode cX6_can 33 = .ok (.iload_n 2, 1) := by decide +kernel
theorem dX6_can_34 : decode cX6_can 34 = .ok (.iadd, 1) := by decide +kernel
theorem dX6_can_35 : decode cX6_can 35 = .ok (.iaload, 1) := by decide +kernel
theorem dX6_can_36 : decode cX6_can 36 = .ok (.if_icmp .lt 7, 3) := by decide +kernel
theorem dX6_can_39 : decode cX6_can 39 = .ok (.iconst 1, 1) := by decide +kernel
theorem dX6_can_40 : decode cX6_can 40 = .ok (.goto 4, 3) := by decide +kernel
theorem dX6_can_43 : decode cX6_can 43 = .ok (.iconst 0, 1) := by decide +kernel
theorem dX6_can_44 : decode cX6_can 44 = .ok (.ireturn, 1) := by decide +kernel
theorem dX6_turns_0 : decode cX6_turns 0 = .ok (.iload_n 2, 1) := by decide +kernel
theorem dX6_turns_1 : decode cX6_turns 1 = .ok (.iconst (-1), 1) := by decide +kernel
theorem dX6_turns_2 : decode cX6_turns 2 = .ok (.if_icmp .ne 4, 3) := by decide +kernel
theorem dX6_turns_5 : decode cX6_turns 5 = .ok (.return_, 1) := by decide +kernel
theorem dX6_turns_6 : decode cX6_turns 6 = .ok (.bipush 6, 2) := by decide +kernel
theorem dX6_turns_8 : decode cX6_turns 8 = .ok (.iload_n 1, 1) := by decide +kernel
theorem dX6_turns_9 : decode cX6_turns 9 = .ok (.imul, 1) := by decide +kernel
theorem dX6_turns_10 : decode cX6_turns 10 = .ok (.iload_n 2, 1) := by decide +kernel
theorem dX6_turns_11 : decode cX6_turns 11 = .ok (.iadd, 1) := by decide +kernel
theorem dX6_turns_12 : decode cX6_turns 12 = .ok (.istore 4, 2) := by decide +kernel
theorem dX6_turns_14 : decode cX6_turns 14 = .ok (.aload_n 0, 1) := by decide +kernel
theorem dX6_turns_15 : decode cX6_turns 15 = .ok (.getfield 48, 3) := by decide +kernel
theorem dX6_turns_18 : decode cX6_turns 18 = .ok (.iload_n 2, 1) := by decide +kernel
theorem dX6_turns_19 : decode cX6_turns 19 = .ok (.dup2, 1) := by decide +kernel
theorem dX6_turns_20 : decode cX6_turns 20 = .ok (.iaload, 1) := by decide +kernel
theorem dX6_turns_21 : decode cX6_turns 21 = .ok (.iload_n 3, 1) := by decide +kernel
theorem dX6_turns_22 : decode cX6_turns 22 = .ok (.aload_n 0, 1) := by decide +kernel
theorem dX6_turns_23 : decode cX6_turns 23 = .ok (.getfield 35, 3) := by decide +kernel
theorem dX6_turns_26 : decode cX6_turns 26 = .ok (.iload 4, 2) := by decide +kernel
theorem dX6_turns_28 : decode cX6_turns 28 = .ok (.iaload, 1) := by decide +kernel
theorem dX6_turns_29 : decode cX6_turns 29 = .ok (.imul, 1) := by decide +kernel
theorem dX6_turns_30 : decode cX6_turns 30 = .ok (.isub, 1) := by decide +kernel
theorem dX6_turns_31 : decode cX6_turns 31 = .ok (.iastore, 1) := by decide +kernel
theorem dX6_turns_32 : decode cX6_turns 32 = .ok (.aload_n 0, 1) := by decide +kernel
theorem dX6_turns_33 : decode cX6_turns 33 = .ok (.dup, 1) := by decide +kernel
theorem dX6_turns_34 : decode cX6_turns 34 = .ok (.getfield 291, 3) := by decide +kernel
theorem dX6_turns_37 : decode cX6_turns 37 = .ok (.iload_n 3, 1) := by decide +kernel
theorem dX6_turns_38 : decode cX6_turns 38 = .ok (.aload_n 0, 1) := by decide +kernel
theorem dX6_turns_39 : decode cX6_turns 39 = .ok (.getfield 38, 3) := by decide +kernel
theorem dX6_turns_42 : decode cX6_turns 42 = .ok (.iload 4, 2) := by decide +kernel
theorem dX6_turns_44 : decode cX6_turns 44 = .ok (.iaload, 1) := by decide +kernel
theorem dX6_turns_45 : decode cX6_turns 45 = .ok (.imul, 1) := by decide +kernel
theorem dX6_turns_46 : decode cX6_turns 46 = .ok (.iadd, 1) := by decide +kernel
theorem dX6_turns_47 : decode cX6_turns 47 = .ok (.putfield 291, 3) := by decide +kernel
theorem dX6_turns_50 : decode cX6_turns 50 = .ok (.aload_n 0, 1) := by decide +kernel
theorem dX6_turns_51 : decode cX6_turns 51 = .ok (.dup, 1) := by decide +kernel
theorem dX6_turns_52 : decode cX6_turns 52 = .ok (.getfield 294, 3) := by decide +kernel
theorem dX6_turns_55 : decode cX6_turns 55 = .ok (.iload_n 3, 1) := by decide +kernel
theorem dX6_turns_56 : decode cX6_turns 56 = .ok (.aload_n 0, 1) := by decide +kernel
theorem dX6_turns_57 : decode cX6_turns 57 = .ok (.getfield 41, 3) := by decide +kernel
theorem dX6_turns_60 : decode cX6_turns 60 = .ok (.iload 4, 2) := by decide +kernel
theorem dX6_turns_62 : decode cX6_turns 62 = .ok (.iaload, 1) := by decide +kernel
theorem dX6_turns_63 : decode cX6_turns 63 = .ok (.imul, 1) := by decide +kernel
theorem dX6_turns_64 : decode cX6_turns 64 = .ok (.iadd, 1) := by decide +kernel
theorem dX6_turns_65 : decode cX6_turns 65 = .ok (.putfield 294, 3) := by decide +kernel
theorem dX6_turns_68 : decode cX6_turns 68 = .ok (.return_, 1) := by decide +kernel
theorem dX6_isShowing_0 : decode cX6_isShowing 0 = .ok (.aload_n 0, 1) := by decide +kernel
theorem dX6_isShowing_1 : decode cX6_isShowing 1 = .ok (.getfield 72, 3) := by decide +kernel
theorem dX6_isShowing_4 : decode cX6_isShowing 4 = .ok (.iload_n 1, 1) := by decide +kernel
theorem dX6_isShowing_5 : decode cX6_isShowing 5 = .ok (.iaload, 1) := by decide +kernel
theorem dX6_isShowing_6 : decode cX6_isShowing 6 = .ok (.aload_n 0, 1) := by decide +kernel
theorem dX6_isShowing_7 : decode cX6_isShowing 7 = .ok (.getfield 92, 3) := by decide +kernel
theorem dX6_isShowing_10 : decode cX6_isShowing 10 = .ok (.if_icmp .eq 5, 3) := by decide +kernel
theorem dX6_isShowing_13 : decode cX6_isShowing 13 = .ok (.iconst 0, 1) := by decide +kernel
theorem dX6_isShowing_14 : decode cX6_isShowing 14 = .ok (.ireturn, 1) := by decide +kernel
theorem dX6_isShowing_15 : decode cX6_isShowing 15 = .ok (.iconst 0, 1) := by decide +kernel
theorem dX6_isShowing_16 : decode cX6_isShowing 16 = .ok (.istore_n 2, 1) := by decide +kernel
theorem dX6_isShowing_17 : decode cX6_isShowing 17 = .ok (.iload_n 2, 1) := by decide +kernel
theorem dX6_isShowing_18 : decode cX6_isShowing 18 = .ok (.aload_n 0, 1) := by decide +kernel
theorem dX6_isShowing_19 : decode cX6_isShowing 19 = .ok (.getfield 92, 3) := by decide +kernel
theorem dX6_isShowing_22 : decode cX6_isShowing 22 = .ok (.if_icmp .ge 36, 3) := by decide +kernel
theorem dX6_isShowing_25 : decode cX6_isShowing 25 = .ok (.aload_n 0, 1) := by decide +kernel
theorem dX6_isShowing_26 : decode cX6_isShowing 26 = .ok (.getfield 75, 3) := by decide +kernel
theorem dX6_isShowing_29 : decode cX6_isShowing 29 = .ok (.bipush 40, 2) := by decide +kernel
theorem dX6_isShowing_31 : decode cX6_isShowing 31 = .ok (.iload_n 1, 1) := by decide +kernel
theorem dX6_isShowing_32 : decode cX6_isShowing 32 = .ok (.imul, 1) := by decide +kernel
theorem dX6_isShowing_33 : decode cX6_isShowing 33 = .ok (.iload_n 2, 1) := by decide +kernel
theorem dX6_isShowing_34 : decode cX6_isShowing 34 = .ok (.iadd, 1) := by decide +kernel
theorem dX6_isShowing_35 : decode cX6_isShowing 35 = .ok (.iaload, 1) := by decide +kernel
theorem dX6_isShowing_36 : decode cX6_isShowing 36 = .ok (.istore_n 3, 1) := by decide +kernel
theorem dX6_isShowing_37 : decode cX6_isShowing 37 = .ok (.iload_n 3, 1) := by decide +kernel
theorem dX6_isShowing_38 : decode cX6_isShowing 38 = .ok (.iconst (-1), 1) := by decide +kernel
theorem dX6_isShowing_39 : decode cX6_isShowing 39 = .ok (.if_icmp .eq 13, 3) := by decide +kernel
theorem dX6_isShowing_42 : decode cX6_isShowing 42 = .ok (.aload_n 0, 1) := by decide +kernel
theorem dX6_isShowing_43 : decode cX6_isShowing 43 = .ok (.iload_n 3, 1) := by decide +kernel
theorem dX6_isShowing_44 : decode cX6_isShowing 44 = .ok (.invokevirtual 101, 3) := by decide +kernel
theorem dX6_isShowing_47 : decode cX6_isShowing 47 = .ok (.ifCond .ne 5, 3) := by decide +kernel
theorem dX6_isShowing_50 : decode cX6_isShowing 50 = .ok (.iconst 0, 1) := by decide +kernel
theorem dX6_isShowing_51 : decode cX6_isShowing 51 = .ok (.ireturn, 1) := by decide +kernel
theorem dX6_isShowing_52 : decode cX6_isShowing 52 = .ok (.iinc 2 1, 3) := by decide +kernel
theorem dX6_isShowing_55 : decode cX6_isShowing 55 = .ok (.goto (-38), 3) := by decide +kernel
theorem dX6_isShowing_58 : decode cX6_isShowing 58 = .ok (.iconst 1, 1) := by decide +kernel
theorem dX6_isShowing_59 : decode cX6_isShowing 59 = .ok (.ireturn, 1) := by decide +kernel
theorem dX6_goesThrough_0 : decode cX6_goesThrough 0 = .ok (.aload_n 0, 1) := by decide +kernel
theorem dX6_goesThrough_1 : decode cX6_goesThrough 1 = .ok (.invokevirtual 297, 3) := by decide +kernel
theorem dX6_goesThrough_4 : decode cX6_goesThrough 4 = .ok (.iconst 0, 1) := by decide +kernel
theorem dX6_goesThrough_5 : decode cX6_goesThrough 5 = .ok (.istore_n 2, 1) := by decide +kernel
theorem dX6_goesThrough_6 : decode cX6_goesThrough 6 = .ok (.iload_n 2, 1) := by decide +kernel
theorem dX6_goesThrough_7 : decode cX6_goesThrough 7 = .ok (.aload_n 0, 1) := by decide +kernel
theorem dX6_goesThrough_8 : decode cX6_goesThrough 8 = .ok (.getfield 92, 3) := by decide +kernel
theorem dX6_goesThrough_11 : decode cX6_goesThrough 11 = .ok (.if_icmp .ge 39, 3) := by decide +kernel
theorem dX6_goesThrough_14 : decode cX6_goesThrough 14 = .ok (.aload_n 0, 1) := by decide +kernel
theorem dX6_goesThrough_15 : decode cX6_goesThrough 15 = .ok (.getfield 75, 3) := by decide +kernel
theorem dX6_goesThrough_18 : decode cX6_goesThrough 18 = .ok (.bipush 40, 2) := by decide +kernel
theorem dX6_goesThrough_20 : decode cX6_goesThrough 20 = .ok (.iload_n 1, 1) := by decide +kernel
theorem dX6_goesThrough_21 : decode cX6_goesThrough 21 = .ok (.imul, 1) := by decide +kernel
theorem dX6_goesThrough_22 : decode cX6_goesThrough 22 = .ok (.iload_n 2, 1) := by decide +kernel
theorem dX6_goesThrough_23 : decode cX6_goesThrough 23 = .ok (.iadd, 1) := by decide +kernel
theorem dX6_goesThrough_24 : decode cX6_goesThrough 24 = .ok (.iaload, 1) := by decide +kernel
theorem dX6_goesThrough_25 : decode cX6_goesThrough 25 = .ok (.istore_n 3, 1) := by decide +kernel
theorem dX6_goesThrough_26 : decode cX6_goesThrough 26 = .ok (.aload_n 0, 1) := by decide +kernel
theorem dX6_goesThrough_27 : decode cX6_goesThrough 27 = .ok (.iload_n 2, 1) := by decide +kernel
theorem dX6_goesThrough_28 : decode cX6_goesThrough 28 = .ok (.iload_n 3, 1) := by decide +kernel
theorem dX6_goesThrough_29 : decode cX6_goesThrough 29 = .ok (.invokevirtual 300, 3) := by decide +kernel
theorem dX6_goesThrough_32 : decode cX6_goesThrough 32 = .ok (.ifCond .ne 5, 3) := by decide +kernel
theorem dX6_goesThrough_35 : decode cX6_goesThrough 35 = .ok (.iload_n 2, 1) := by decide +kernel
theorem dX6_goesThrough_36 : decode cX6_goesThrough 36 = .ok (.ireturn, 1) := by decide +kernel
theorem dX6_goesThrough_37 : decode cX6_goesThrough 37 = .ok (.aload_n 0, 1) := by decide +kernel
theorem dX6_goesThrough_38 : decode cX6_goesThrough 38 = .ok (.iload_n 2, 1) := by decide +kernel
theorem dX6_goesThrough_39 : decode cX6_goesThrough 39 = .ok (.iload_n 3, 1) := by decide +kernel
theorem dX6_goesThrough_40 : decode cX6_goesThrough 40 = .ok (.iconst 1, 1) := by decide +kernel
theorem dX6_goesThrough_41 : decode cX6_goesThrough 41 = .ok (.invokevirtual 303, 3) := by decide +kernel
theorem dX6_goesThrough_44 : decode cX6_goesThrough 44 = .ok (.iinc 2 1, 3) := by decide +kernel
theorem dX6_goesThrough_47 : decode cX6_goesThrough 47 = .ok (.goto (-41), 3) := by decide +kernel
theorem dX6_goesThrough_50 : decode cX6_goesThrough 50 = .ok (.iconst (-1), 1) := by decide +kernel
theorem dX6_goesThrough_51 : decode cX6_goesThrough 51 = .ok (.ireturn, 1) := by decide +kernel
theorem dX6_show_0 : decode cX6_show 0 = .ok (.iload_n 1, 1) := by decide +kernel
theorem dX6_show_1 : decode cX6_show 1 = .ok (.invokestatic 306, 3) := by decide +kernel
theorem dX6_show_4 : decode cX6_show 4 = .ok (.ifCond .eq 57, 3) := by decide +kernel
theorem dX6_show_7 : decode cX6_show 7 = .ok (.iload_n 2, 1) := by decide +kernel
theorem dX6_show_8 : decode cX6_show 8 = .ok (.i2l, 1) := by decide +kernel
theorem dX6_show_9 : decode cX6_show 9 = .ok (.lconst 0, 1) := by decide +kernel
theorem dX6_show_10 : decode cX6_show 10 = .ok (.ldc2_w 280, 3) := by decide +kernel
theorem dX6_show_13 : decode cX6_show 13 = .ok (.invokestatic 88, 3) := by decide +kernel
theorem dX6_show_16 : decode cX6_show 16 = .ok (.ifCond .ne 28, 3) := by decide +kernel
theorem dX6_show_19 : decode cX6_show 19 = .ok (.iload_n 2, 1) := by decide +kernel
theorem dX6_show_20 : decode cX6_show 20 = .ok (.i2l, 1) := by decide +kernel
theorem dX6_show_21 : decode cX6_show 21 = .ok (.ldc2_w 136, 3) := by decide +kernel
theorem dX6_show_24 : decode cX6_show 24 = .ok (.ldc2_w 309, 3) := by decide +kernel
theorem dX6_show_27 : decode cX6_show 27 = .ok (.invokestatic 88, 3) := by decide +kernel
theorem dX6_show_30 : decode cX6_show 30 = .ok (.ifCond .eq 31, 3) := by decide +kernel
theorem dX6_show_33 : decode cX6_show 33 = .ok (.aload_n 0, 1) := by decide +kernel
theorem dX6_show_34 : decode cX6_show 34 = .ok (.iload_n 2, 1) := by decide +kernel
theorem dX6_show_35 : decode cX6_show 35 = .ok (.bipush 10, 2) := by decide +kernel
theorem dX6_show_37 : decode cX6_show 37 = .ok (.isub, 1) := by decide +kernel
theorem dX6_show_38 : decode cX6_show 38 = .ok (.invokevirtual 101, 3) := by decide +kernel
theorem dX6_show_41 : decode cX6_show 41 = .ok (.ifCond .eq 20, 3) := by decide +kernel
theorem dX6_show_44 : decode cX6_show 44 = .ok (.aload_n 0, 1) := by decide +kernel
theorem dX6_show_45 : decode cX6_show 45 = .ok (.getfield 66, 3) := by decide +kernel
theorem dX6_show_48 : decode cX6_show 48 = .ok (.iload_n 1, 1) := by decide +kernel
theorem dX6_show_49 : decode cX6_show 49 = .ok (.baload, 1) := by decide +kernel
theorem dX6_show_50 : decode cX6_show 50 = .ok (.ifCond .eq 11, 3) := by decide +kernel
theorem dX6_show_53 : decode cX6_show 53 = .ok (.aload_n 0, 1) := by decide +kernel
theorem dX6_show_54 : decode cX6_show 54 = .ok (.iload_n 1, 1) := by decide +kernel
theorem dX6_show_55 : decode cX6_show 55 = .ok (.invokevirtual 311, 3) := by decide +kernel
theorem dX6_show_58 : decode cX6_show 58 = .ok (.ifCond .ne 7, 3) := by decide +kernel
theorem dX6_show_61 : decode cX6_show 61 = .ok (.ldc_w 314, 3) := by decide +kernel
theorem dX6_show_64 : decode cX6_show 64 = .ok (.ireturn, 1) := by decide +kernel
theorem dX6_show_65 : decode cX6_show 65 = .ok (.aload_n 0, 1) := by decide +kernel
theorem dX6_show_66 : decode cX6_show 66 = .ok (.iload_n 1, 1) := by decide +kernel
theorem dX6_show_67 : decode cX6_show 67 = .ok (.invokevirtual 315, 3) := by decide +kernel
theorem dX6_show_70 : decode cX6_show 70 = .ok (.istore_n 3, 1) := by decide +kernel
theorem dX6_show_71 : decode cX6_show 71 = .ok (.iload_n 2, 1) := by decide +kernel
theorem dX6_show_72 : decode cX6_show 72 = .ok (.ifCond .ne 7, 3) := by decide +kernel
theorem dX6_show_75 : decode cX6_show 75 = .ok (.iload_n 3, 1) := by decide +kernel
theorem dX6_show_76 : decode cX6_show 76 = .ok (.goto 36, 3) := by decide +kernel
theorem dX6_show_79 : decode cX6_show 79 = .ok (.iload_n 2, 1) := by decide +kernel
theorem dX6_show_80 : decode cX6_show 80 = .ok (.iconst 1, 1) := by decide +kernel
theorem dX6_show_81 : decode cX6_show 81 = .ok (.if_icmp .ne 10, 3) := by decide +kernel
theorem dX6_show_84 : decode cX6_show 84 = .ok (.aload_n 0, 1) := by decide +kernel
theorem dX6_show_85 : decode cX6_show 85 = .ok (.getfield 291, 3) := by decide +kernel
theorem dX6_show_88 : decode cX6_show 88 = .ok (.goto 24, 3) := by decide +kernel
theorem dX6_show_91 : decode cX6_show 91 = .ok (.iload_n 2, 1) := by decide +kernel
theorem dX6_show_92 : decode cX6_show 92 = .ok (.iconst 2, 1) := by decide +kernel
theorem dX6_show_93 : decode cX6_show 93 = .ok (.if_icmp .ne 10, 3) := by decide +kernel
theorem dX6_show_96 : decode cX6_show 96 = .ok (.aload_n 0, 1) := by decide +kernel
theorem dX6_show_97 : decode cX6_show 97 = .ok (.getfield 294, 3) := by decide +kernel
theorem dX6_show_100 : decode cX6_show 100 = .ok (.goto 12, 3) := by decide +kernel
theorem dX6_show_103 : decode cX6_show 103 = .ok (.aload_n 0, 1) := by decide +kernel
theorem dX6_show_104 : decode cX6_show 104 = .ok (.getfield 48, 3) := by decide +kernel
theorem dX6_show_107 : decode cX6_show 107 = .ok (.iload_n 2, 1) := by decide +kernel
theorem dX6_show_108 : decode cX6_show 108 = .ok (.bipush 10, 2) := by decide +kernel
theorem dX6_show_110 : decode cX6_show 110 = .ok (.isub, 1) := by decide +kernel
theorem dX6_show_111 : decode cX6_show 111 = .ok (.iaload, 1) := by decide +kernel
theorem dX6_show_112 : decode cX6_show 112 = .ok (.ireturn, 1) := by decide +kernel
theorem dX6_take_0 : decode cX6_take 0 = .ok (.iload_n 1, 1) := by decide +kernel
theorem dX6_take_1 : decode cX6_take 1 = .ok (.invokestatic 306, 3) := by decide +kernel
theorem dX6_take_4 : decode cX6_take 4 = .ok (.ifCond .ne 6, 3) := by decide +kernel
theorem dX6_take_7 : decode cX6_take 7 = .ok (.bipush (-2), 2) := by decide +kernel
theorem dX6_take_9 : decode cX6_take 9 = .ok (.ireturn, 1) := by decide +kernel
theorem dX6_take_10 : decode cX6_take 10 = .ok (.aload_n 0, 1) := by decide +kernel
theorem dX6_take_11 : decode cX6_take 11 = .ok (.getfield 66, 3) := by decide +kernel
theorem dX6_take_14 : decode cX6_take 14 = .ok (.iload_n 1, 1) := by decide +kernel
theorem dX6_take_15 : decode cX6_take 15 = .ok (.baload, 1) := by decide +kernel
theorem dX6_take_16 : decode cX6_take 16 = .ok (.ifCond .ne 6, 3) := by decide +kernel
theorem dX6_take_19 : decode cX6_take 19 = .ok (.bipush (-11), 2) := by decide +kernel
theorem dX6_take_21 : decode cX6_take 21 = .ok (.ireturn, 1) := by decide +kernel
theorem dX6_take_22 : decode cX6_take 22 = .ok (.aload_n 0, 1) := by decide +kernel
theorem dX6_take_23 : decode cX6_take 23 = .ok (.iload_n 1, 1) := by decide +kernel
theorem dX6_take_24 : decode cX6_take 24 = .ok (.invokevirtual 311, 3) := by decide +kernel
theorem dX6_take_27 : decode cX6_take 27 = .ok (.ifCond .ne 6, 3) := by decide +kernel
theorem dX6_take_30 : decode cX6_take 30 = .ok (.bipush (-2), 2) := by decide +kernel
theorem dX6_take_32 : decode cX6_take 32 = .ok (.ireturn, 1) := by decide +kernel
theorem dX6_take_33 : decode cX6_take 33 = .ok (.aload_n 0, 1) := by decide +kernel
theorem dX6_take_34 : decode cX6_take 34 = .ok (.iload_n 1, 1) := by decide +kernel
theorem dX6_take_35 : decode cX6_take 35 = .ok (.invokevirtual 315, 3) := by decide +kernel
theorem dX6_take_38 : decode cX6_take 38 = .ok (.iconst (-1), 1) := by decide +kernel
theorem dX6_take_39 : decode cX6_take 39 = .ok (.if_icmp .eq 6, 3) := by decide +kernel
theorem dX6_take_42 : decode cX6_take 42 = .ok (.bipush (-3), 2) := by decide +kernel
theorem dX6_take_44 : decode cX6_take 44 = .ok (.ireturn, 1) := by decide +kernel
theorem dX6_take_45 : decode cX6_take 45 = .ok (.iconst 0, 1) := by decide +kernel
theorem dX6_take_46 : decode cX6_take 46 = .ok (.istore_n 2, 1) := by decide +kernel
theorem dX6_take_47 : decode cX6_take 47 = .ok (.iload_n 2, 1) := by decide +kernel
theorem dX6_take_48 : decode cX6_take 48 = .ok (.aload_n 0, 1) := by decide +kernel
theorem dX6_take_49 : decode cX6_take 49 = .ok (.getfield 85, 3) := by decide +kernel
theorem dX6_take_52 : decode cX6_take 52 = .ok (.if_icmp .ge 25, 3) := by decide +kernel
theorem dX6_take_55 : decode cX6_take 55 = .ok (.aload_n 0, 1) := by decide +kernel
theorem dX6_take_56 : decode cX6_take 56 = .ok (.getfield 29, 3) := by decide +kernel
theorem dX6_take_59 : decode cX6_take 59 = .ok (.iconst 3, 1) := by decide +kernel
theorem dX6_take_60 : decode cX6_take 60 = .ok (.iload_n 2, 1) := by decide +kernel
theorem dX6_take_61 : decode cX6_take 61 = .ok (.imul, 1) := by decide +kernel
theorem dX6_take_62 : decode cX6_take 62 = .ok (.iconst 1, 1) := by decide +kernel
theorem dX6_take_63 : decode cX6_take 63 = .ok (.iadd, 1) := by decide +kernel
theorem dX6_take_64 : decode cX6_take 64 = .ok (.aload_n 0, 1) := by decide +kernel
theorem dX6_take_65 : decode cX6_take 65 = .ok (.getfield 48, 3) := by decide +kernel
theorem dX6_take_68 : decode cX6_take 68 = .ok (.iload_n 2, 1) := by decide +kernel
theorem dX6_take_69 : decode cX6_take 69 = .ok (.iaload, 1) := by decide +kernel
theorem dX6_take_70 : decode cX6_take 70 = .ok (.iastore, 1) := by decide +kernel
theorem dX6_take_71 : decode cX6_take 71 = .ok (.iinc 2 1, 3) := by decide +kernel
theorem dX6_take_74 : decode cX6_take 74 = .ok (.goto (-27), 3) := by decide +kernel
theorem dX6_take_77 : decode cX6_take 77 = .ok (.aload_n 0, 1) := by decide +kernel
theorem dX6_take_78 : decode cX6_take 78 = .ok (.getfield 294, 3) := by decide +kernel
theorem dX6_take_81 : decode cX6_take 81 = .ok (.ireturn, 1) := by decide +kernel
theorem dX6_seeks_0 : decode cX6_seeks 0 = .ok (.iload_n 1, 1) := by decide +kernel
theorem dX6_seeks_1 : decode cX6_seeks 1 = .ok (.aload_n 0, 1) := by decide +kernel
theorem dX6_seeks_2 : decode cX6_seeks 2 = .ok (.getfield 92, 3) := by decide +kernel
theorem dX6_seeks_5 : decode cX6_seeks 5 = .ok (.if_icmp .ne 69, 3) := by decide +kernel
theorem dX6_seeks_8 : decode cX6_seeks 8 = .ok (.aload_n 0, 1) := by decide +kernel
theorem dX6_seeks_9 : decode cX6_seeks 9 = .ok (.getfield 318, 3) := by decide +kernel
theorem dX6_seeks_12 : decode cX6_seeks 12 = .ok (.ifCond .eq 35, 3) := by decide +kernel
theorem dX6_seeks_15 : decode cX6_seeks 15 = .ok (.aload_n 0, 1) := by decide +kernel
theorem dX6_seeks_16 : decode cX6_seeks 16 = .ok (.getfield 321, 3) := by decide +kernel
theorem dX6_seeks_19 : decode cX6_seeks 19 = .ok (.ifCond .ne 17, 3) := by decide +kernel
theorem dX6_seeks_22 : decode cX6_seeks 22 = .ok (.aload_n 0, 1) := by decide +kernel
theorem dX6_seeks_23 : decode cX6_seeks 23 = .ok (.getfield 291, 3) := by decide +kernel
theorem dX6_seeks_26 : decode cX6_seeks 26 = .ok (.aload_n 0, 1) := by decide +kernel
theorem dX6_seeks_27 : decode cX6_seeks 27 = .ok (.getfield 324, 3) := by decide +kernel
theorem dX6_seeks_30 : decode cX6_seeks 30 = .ok (.if_icmp .le 43, 3) := by decide +kernel
theorem dX6_seeks_33 : decode cX6_seeks 33 = .ok (.goto 14, 3) := by decide +kernel
theorem dX6_seeks_36 : decode cX6_seeks 36 = .ok (.aload_n 0, 1) := by decide +kernel
theorem dX6_seeks_37 : decode cX6_seeks 37 = .ok (.getfield 294, 3) := by decide +kernel
theorem dX6_seeks_40 : decode cX6_seeks 40 = .ok (.aload_n 0, 1) := by decide +kernel
theorem dX6_seeks_41 : decode cX6_seeks 41 = .ok (.getfield 327, 3) := by decide +kernel
theorem dX6_seeks_44 : decode cX6_seeks 44 = .ok (.if_icmp .le 29, 3) := by decide +kernel
theorem dX6_seeks_47 : decode cX6_seeks 47 = .ok (.aload_n 0, 1) := by decide +kernel
theorem dX6_seeks_48 : decode cX6_seeks 48 = .ok (.iconst 1, 1) := by decide +kernel
theorem dX6_seeks_49 : decode cX6_seeks 49 = .ok (.putfield 318, 3) := by decide +kernel
theorem dX6_seeks_52 : decode cX6_seeks 52 = .ok (.aload_n 0, 1) := by decide +kernel
theorem dX6_seeks_53 : decode cX6_seeks 53 = .ok (.iload_n 2, 1) := by decide +kernel
theorem dX6_seeks_54 : decode cX6_seeks 54 = .ok (.putfield 330, 3) := by decide +kernel
theorem dX6_seeks_57 : decode cX6_seeks 57 = .ok (.aload_n 0, 1) := by decide +kernel
theorem dX6_seeks_58 : decode cX6_seeks 58 = .ok (.aload_n 0, 1) := by decide +kernel
theorem dX6_seeks_59 : decode cX6_seeks 59 = .ok (.getfield 291, 3) := by decide +kernel
theorem dX6_seeks_62 : decode cX6_seeks 62 = .ok (.putfield 324, 3) := by decide +kernel
theorem dX6_seeks_65 : decode cX6_seeks 65 = .ok (.aload_n 0, 1) := by decide +kernel
theorem dX6_seeks_66 : decode cX6_seeks 66 = .ok (.aload_n 0, 1) := by decide +kernel
theorem dX6_seeks_67 : decode cX6_seeks 67 = .ok (.getfield 294, 3) := by decide +kernel
theorem dX6_seeks_70 : decode cX6_seeks 70 = .ok (.putfield 327, 3) := by decide +kernel
theorem dX6_seeks_73 : decode cX6_seeks 73 = .ok (.return_, 1) := by decide +kernel
theorem dX6_seeks_74 : decode cX6_seeks 74 = .ok (.iconst (-1), 1) := by decide +kernel
theorem dX6_seeks_75 : decode cX6_seeks 75 = .ok (.istore_n 3, 1) := by decide +kernel
theorem dX6_seeks_76 : decode cX6_seeks 76 = .ok (.iload_n 3, 1) := by decide +kernel
theorem dX6_seeks_77 : decode cX6_seeks 77 = .ok (.aload_n 0, 1) := by decide +kernel
theorem dX6_seeks_78 : decode cX6_seeks 78 = .ok (.getfield 85, 3) := by decide +kernel
theorem dX6_seeks_81 : decode cX6_seeks 81 = .ok (.if_icmp .ge 47, 3) := by decide +kernel
theorem dX6_seeks_84 : decode cX6_seeks 84 = .ok (.aload_n 0, 1) := by decide +kernel
theorem dX6_seeks_85 : decode cX6_seeks 85 = .ok (.iload_n 1, 1) := by decide +kernel
theorem dX6_seeks_86 : decode cX6_seeks 86 = .ok (.iload_n 3, 1) := by decide +kernel
theorem dX6_seeks_87 : decode cX6_seeks 87 = .ok (.invokevirtual 300, 3) := by decide +kernel
theorem dX6_seeks_90 : decode cX6_seeks 90 = .ok (.ifCond .eq 32, 3) := by decide +kernel
theorem dX6_seeks_93 : decode cX6_seeks 93 = .ok (.aload_n 0, 1) := by decide +kernel
theorem dX6_seeks_94 : decode cX6_seeks 94 = .ok (.iload_n 1, 1) := by decide +kernel
theorem dX6_seeks_95 : decode cX6_seeks 95 = .ok (.iload_n 3, 1) := by decide +kernel
theorem dX6_seeks_96 : decode cX6_seeks 96 = .ok (.iconst 1, 1) := by decide +kernel
theorem dX6_seeks_97 : decode cX6_seeks 97 = .ok (.invokevirtual 303, 3) := by decide +kernel
theorem dX6_seeks_100 : decode cX6_seeks 100 = .ok (.aload_n 0, 1) := by decide +kernel
theorem dX6_seeks_101 : decode cX6_seeks 101 = .ok (.iload_n 1, 1) := by decide +kernel
theorem dX6_seeks_102 : decode cX6_seeks 102 = .ok (.iconst 1, 1) := by decide +kernel
theorem dX6_seeks_103 : decode cX6_seeks 103 = .ok (.iadd, 1) := by decide +kernel
theorem dX6_seeks_104 : decode cX6_seeks 104 = .ok (.bipush 10, 2) := by decide +kernel
theorem dX6_seeks_106 : decode cX6_seeks 106 = .ok (.iload_n 2, 1) := by decide +kernel
theorem dX6_seeks_107 : decode cX6_seeks 107 = .ok (.imul, 1) := by decide +kernel
theorem dX6_seeks_108 : decode cX6_seeks 108 = .ok (.iload_n 3, 1) := by decide +kernel
theorem dX6_seeks_109 : decode cX6_seeks 109 = .ok (.iadd, 1) := by decide +kernel
theorem dX6_seeks_110 : decode cX6_seeks 110 = .ok (.iconst 1, 1) := by decide +kernel
theorem dX6_seeks_111 : decode cX6_seeks 111 = .ok (.iadd, 1) := by decide +kernel
theorem dX6_seeks_112 : decode cX6_seeks 112 = .ok (.invokevirtual 333, 3) := by decide +kernel
theorem dX6_seeks_115 : decode cX6_seeks 115 = .ok (.aload_n 0, 1) := by decide +kernel
theorem dX6_seeks_116 : decode cX6_seeks 116 = .ok (.iload_n 1, 1) := by decide +kernel
theorem dX6_seeks_117 : decode cX6_seeks 117 = .ok (.iload_n 3, 1) := by decide +kernel
theorem dX6_seeks_118 : decode cX6_seeks 118 = .ok (.iconst (-1), 1) := by decide +kernel
theorem dX6_seeks_119 : decode cX6_seeks 119 = .ok (.invokevirtual 303, 3) := by decide +kernel
theorem dX6_seeks_122 : decode cX6_seeks 122 = .ok (.iinc 3 1, 3) := by decide +kernel
theorem dX6_seeks_125 : decode cX6_seeks 125 = .ok (.goto (-49), 3) := by decide +kernel
theorem dX6_seeks_128 : decode cX6_seeks 128 = .ok (.return_, 1) := by decide +kernel
theorem dX6_finds_0 : decode cX6_finds 0 = .ok (.aload_n 0, 1) := by decide +kernel
theorem dX6_finds_1 : decode cX6_finds 1 = .ok (.invokevirtual 297, 3) := by decide +kernel
theorem dX6_finds_4 : decode cX6_finds 4 = .ok (.aload_n 0, 1) := by decide +kernel
theorem dX6_finds_5 : decode cX6_finds 5 = .ok (.iload_n 1, 1) := by decide +kernel
theorem dX6_finds_6 : decode cX6_finds 6 = .ok (.putfield 321, 3) := by decide +kernel
theorem dX6_finds_9 : decode cX6_finds 9 = .ok (.aload_n 0, 1) := by decide +kernel
theorem dX6_finds_10 : decode cX6_finds 10 = .ok (.iconst 0, 1) := by decide +kernel
theorem dX6_finds_11 : decode cX6_finds 11 = .ok (.putfield 318, 3) := by decide +kernel
theorem dX6_finds_14 : decode cX6_finds 14 = .ok (.aload_n 0, 1) := by decide +kernel
theorem dX6_finds_15 : decode cX6_finds 15 = .ok (.iconst 0, 1) := by decide +kernel
theorem dX6_finds_16 : decode cX6_finds 16 = .ok (.iconst 0, 1) := by decide +kernel
theorem dX6_finds_17 : decode cX6_finds 17 = .ok (.invokevirtual 333, 3) := by decide +kernel
theorem dX6_finds_20 : decode cX6_finds 20 = .ok (.return_, 1) := by decide +kernel
theorem dX6_findsPlain_0 : decode cX6_findsPlain 0 = .ok (.aload_n 0, 1) := by decide +kernel
theorem dX6_findsPlain_1 : decode cX6_findsPlain 1 = .ok (.invokevirtual 297, 3) := by decide +kernel
theorem dX6_findsPlain_4 : decode cX6_findsPlain 4 = .ok (.iconst 0, 1) := by decide +kernel
theorem dX6_findsPlain_5 : decode cX6_findsPlain 5 = .ok (.istore_n 1, 1) := by decide +kernel
theorem dX6_findsPlain_6 : decode cX6_findsPlain 6 = .ok (.iconst 0, 1) := by decide +kernel
theorem dX6_findsPlain_7 : decode cX6_findsPlain 7 = .ok (.istore_n 2, 1) := by decide +kernel
theorem dX6_findsPlain_8 : decode cX6_findsPlain 8 = .ok (.iload_n 2, 1) := by decide +kernel
theorem dX6_findsPlain_9 : decode cX6_findsPlain 9 = .ok (.aload_n 0, 1) := by decide +kernel
theorem dX6_findsPlain_10 : decode cX6_findsPlain 10 = .ok (.getfield 92, 3) := by decide +kernel
theorem dX6_findsPlain_13 : decode cX6_findsPlain 13 = .ok (.if_icmp .ge 73, 3) := by decide +kernel
theorem dX6_findsPlain_16 : decode cX6_findsPlain 16 = .ok (.iconst (-1), 1) := by decide +kernel
theorem dX6_findsPlain_17 : decode cX6_findsPlain 17 = .ok (.istore_n 3, 1) := by decide +kernel
theorem dX6_findsPlain_18 : decode cX6_findsPlain 18 = .ok (.aload_n 0, 1) := by decide +kernel
theorem dX6_findsPlain_19 : decode cX6_findsPlain 19 = .ok (.getfield 85, 3) := by decide +kernel
theorem dX6_findsPlain_22 : decode cX6_findsPlain 22 = .ok (.iconst 1, 1) := by decide +kernel
theorem dX6_findsPlain_23 : decode cX6_findsPlain 23 = .ok (.isub, 1) := by decide +kernel
theorem dX6_findsPlain_24 : decode cX6_findsPlain 24 = .ok (.istore 4, 2) := by decide +kernel
theorem dX6_findsPlain_26 : decode cX6_findsPlain 26 = .ok (.iload 4, 2) := by decide +kernel
theorem dX6_findsPlain_28 : decode cX6_findsPlain 28 = .ok (.ifCond .lt 36, 3) := by decide +kernel
theorem dX6_findsPlain_31 : decode cX6_findsPlain 31 = .ok (.aload_n 0, 1) := by decide +kernel
theorem dX6_findsPlain_32 : decode cX6_findsPlain 32 = .ok (.iload_n 2, 1) := by decide +kernel
theorem dX6_findsPlain_33 : decode cX6_findsPlain 33 = .ok (.iload 4, 2) := by decide +kernel
theorem dX6_findsPlain_35 : decode cX6_findsPlain 35 = .ok (.invokevirtual 153, 3) := by decide +kernel
theorem dX6_findsPlain_38 : decode cX6_findsPlain 38 = .ok (.ifCond .eq 18, 3) := by decide +kernel
theorem dX6_findsPlain_41 : decode cX6_findsPlain 41 = .ok (.aload_n 0, 1) := by decide +kernel
theorem dX6_findsPlain_42 : decode cX6_findsPlain 42 = .ok (.iload_n 2, 1) := by decide +kernel
theorem dX6_findsPlain_43 : decode cX6_findsPlain 43 = .ok (.iload 4, 2) := by decide +kernel
theorem dX6_findsPlain_45 : decode cX6_findsPlain 45 = .ok (.invokevirtual 300, 3) := by decide +kernel
theorem dX6_findsPlain_48 : decode cX6_findsPlain 48 = .ok (.ifCond .eq 8, 3) := by decide +kernel
theorem dX6_findsPlain_51 : decode cX6_findsPlain 51 = .ok (.iload 4, 2) := by decide +kernel
theorem dX6_findsPlain_53 : decode cX6_findsPlain 53 = .ok (.goto 4, 3) := by decide +kernel
theorem dX6_findsPlain_56 : decode cX6_findsPlain 56 = .ok (.iload_n 3, 1) := by decide +kernel
theorem dX6_findsPlain_57 : decode cX6_findsPlain 57 = .ok (.istore_n 3, 1) := by decide +kernel
theorem dX6_findsPlain_58 : decode cX6_findsPlain 58 = .ok (.iinc 4 (-1), 3) := by decide +kernel
theorem dX6_findsPlain_61 : decode cX6_findsPlain 61 = .ok (.goto (-35), 3) := by decide +kernel
theorem dX6_findsPlain_64 : decode cX6_findsPlain 64 = .ok (.aload_n 0, 1) := by decide +kernel
theorem dX6_findsPlain_65 : decode cX6_findsPlain 65 = .ok (.iload_n 2, 1) := by decide +kernel
theorem dX6_findsPlain_66 : decode cX6_findsPlain 66 = .ok (.iload_n 3, 1) := by decide +kernel
theorem dX6_findsPlain_67 : decode cX6_findsPlain 67 = .ok (.iconst 1, 1) := by decide +kernel
theorem dX6_findsPlain_68 : decode cX6_findsPlain 68 = .ok (.invokevirtual 303, 3) := by decide +kernel
theorem dX6_findsPlain_71 : decode cX6_findsPlain 71 = .ok (.bipush 10, 2) := by decide +kernel
theorem dX6_findsPlain_73 : decode cX6_findsPlain 73 = .ok (.iload_n 1, 1) := by decide +kernel
theorem dX6_findsPlain_74 : decode cX6_findsPlain 74 = .ok (.imul, 1) := by decide +kernel
theorem dX6_findsPlain_75 : decode cX6_findsPlain 75 = .ok (.iload_n 3, 1) := by decide +kernel
theorem dX6_findsPlain_76 : decode cX6_findsPlain 76 = .ok (.iadd, 1) := by decide +kernel
theorem dX6_findsPlain_77 : decode cX6_findsPlain 77 = .ok (.iconst 1, 1) := by decide +kernel
theorem dX6_findsPlain_78 : decode cX6_findsPlain 78 = .ok (.iadd, 1) := by decide +kernel
theorem dX6_findsPlain_79 : decode cX6_findsPlain 79 = .ok (.istore_n 1, 1) := by decide +kernel
theorem dX6_findsPlain_80 : decode cX6_findsPlain 80 = .ok (.iinc 2 1, 3) := by decide +kernel
theorem dX6_findsPlain_83 : decode cX6_findsPlain 83 = .ok (.goto (-75), 3) := by decide +kernel
theorem dX6_findsPlain_86 : decode cX6_findsPlain 86 = .ok (.aload_n 0, 1) := by decide +kernel
theorem dX6_findsPlain_87 : decode cX6_findsPlain 87 = .ok (.iload_n 1, 1) := by decide +kernel
theorem dX6_findsPlain_88 : decode cX6_findsPlain 88 = .ok (.putfield 330, 3) := by decide +kernel
theorem dX6_findsPlain_91 : decode cX6_findsPlain 91 = .ok (.aload_n 0, 1) := by decide +kernel
theorem dX6_findsPlain_92 : decode cX6_findsPlain 92 = .ok (.aload_n 0, 1) := by decide +kernel
theorem dX6_findsPlain_93 : decode cX6_findsPlain 93 = .ok (.getfield 291, 3) := by decide +kernel
theorem dX6_findsPlain_96 : decode cX6_findsPlain 96 = .ok (.putfield 324, 3) := by decide +kernel
theorem dX6_findsPlain_99 : decode cX6_findsPlain 99 = .ok (.aload_n 0, 1) := by decide +kernel
theorem dX6_findsPlain_100 : decode cX6_findsPlain 100 = .ok (.aload_n 0, 1) := by decide +kernel
theorem dX6_findsPlain_101 : decode cX6_findsPlain 101 = .ok (.getfield 294, 3) := by decide +kernel
theorem dX6_findsPlain_104 : decode cX6_findsPlain 104 = .ok (.putfield 327, 3) := by decide +kernel
theorem dX6_findsPlain_107 : decode cX6_findsPlain 107 = .ok (.return_, 1) := by decide +kernel
theorem dX6_showing_0 : decode cX6_showing 0 = .ok (.iload_n 1, 1) := by decide +kernel
theorem dX6_showing_1 : decode cX6_showing 1 = .ok (.i2l, 1) := by decide +kernel
theorem dX6_showing_2 : decode cX6_showing 2 = .ok (.lconst 0, 1) := by decide +kernel
theorem dX6_showing_3 : decode cX6_showing 3 = .ok (.ldc2_w 280, 3) := by decide +kernel
theorem dX6_showing_6 : decode cX6_showing 6 = .ok (.invokestatic 88, 3) := by decide +kernel
theorem dX6_showing_9 : decode cX6_showing 9 = .ok (.ifCond .eq 15, 3) := by decide +kernel
theorem dX6_showing_12 : decode cX6_showing 12 = .ok (.iload_n 2, 1) := by decide +kernel
theorem dX6_showing_13 : decode cX6_showing 13 = .ok (.i2l, 1) := by decide +kernel
theorem dX6_showing_14 : decode cX6_showing 14 = .ok (.lconst 0, 1) := by decide +kernel
theorem dX6_showing_15 : decode cX6_showing 15 = .ok (.ldc2_w 280, 3) := by decide +kernel
theorem dX6_showing_18 : decode cX6_showing 18 = .ok (.invokestatic 88, 3) := by decide +kernel
theorem dX6_showing_21 : decode cX6_showing 21 = .ok (.ifCond .ne 7, 3) := by decide +kernel
theorem dX6_showing_24 : decode cX6_showing 24 = .ok (.ldc_w 314, 3) := by decide +kernel
theorem dX6_showing_27 : decode cX6_showing 27 = .ok (.ireturn, 1) := by decide +kernel
theorem dX6_showing_28 : decode cX6_showing 28 = .ok (.iload_n 1, 1) := by decide +kernel
theorem dX6_showing_29 : decode cX6_showing 29 = .ok (.iconst 2, 1) := by decide +kernel
theorem dX6_showing_30 : decode cX6_showing 30 = .ok (.if_icmp .ne 10, 3) := by decide +kernel
theorem dX6_showing_33 : decode cX6_showing 33 = .ok (.aload_n 0, 1) := by decide +kernel
theorem dX6_showing_34 : decode cX6_showing 34 = .ok (.invokevirtual 337, 3) := by decide +kernel
theorem dX6_showing_37 : decode cX6_showing 37 = .ok (.goto 8, 3) := by decide +kernel
theorem dX6_showing_40 : decode cX6_showing 40 = .ok (.aload_n 0, 1) := by decide +kernel
theorem dX6_showing_41 : decode cX6_showing 41 = .ok (.iload_n 1, 1) := by decide +kernel
theorem dX6_showing_42 : decode cX6_showing 42 = .ok (.invokevirtual 340, 3) := by decide +kernel
theorem dX6_showing_45 : decode cX6_showing 45 = .ok (.iload_n 2, 1) := by decide +kernel
theorem dX6_showing_46 : decode cX6_showing 46 = .ok (.ifCond .ne 10, 3) := by decide +kernel
theorem dX6_showing_49 : decode cX6_showing 49 = .ok (.aload_n 0, 1) := by decide +kernel
theorem dX6_showing_50 : decode cX6_showing 50 = .ok (.getfield 330, 3) := by decide +kernel
theorem dX6_showing_53 : decode cX6_showing 53 = .ok (.goto 19, 3) := by decide +kernel
theorem dX6_showing_56 : decode cX6_showing 56 = .ok (.iload_n 2, 1) := by decide +kernel
theorem dX6_showing_57 : decode cX6_showing 57 = .ok (.iconst 1, 1) := by decide +kernel
theorem dX6_showing_58 : decode cX6_showing 58 = .ok (.if_icmp .ne 10, 3) := by decide +kernel
theorem dX6_showing_61 : decode cX6_showing 61 = .ok (.aload_n 0, 1) := by decide +kernel
theorem dX6_showing_62 : decode cX6_showing 62 = .ok (.getfield 324, 3) := by decide +kernel
theorem dX6_showing_65 : decode cX6_showing 65 = .ok (.goto 7, 3) := by decide +kernel
theorem dX6_showing_68 : decode cX6_showing 68 = .ok (.aload_n 0, 1) := by decide +kernel
theorem dX6_showing_69 : decode cX6_showing 69 = .ok (.getfield 327, 3) := by decide +kernel
theorem dX6_showing_72 : decode cX6_showing 72 = .ok (.ireturn, 1) := by decide +kernel
theorem dX6_joyBest_0 : decode cX6_joyBest 0 = .ok (.aload_n 0, 1) := by decide +kernel
theorem dX6_joyBest_1 : decode cX6_joyBest 1 = .ok (.iconst 0, 1) := by decide +kernel
theorem dX6_joyBest_2 : decode cX6_joyBest 2 = .ok (.invokevirtual 340, 3) := by decide +kernel
theorem dX6_joyBest_5 : decode cX6_joyBest 5 = .ok (.aload_n 0, 1) := by decide +kernel
theorem dX6_joyBest_6 : decode cX6_joyBest 6 = .ok (.getfield 324, 3) := by decide +kernel
theorem dX6_joyBest_9 : decode cX6_joyBest 9 = .ok (.ireturn, 1) := by decide +kernel
theorem dX6_bitsOf_0 : decode cX6_bitsOf 0 = .ok (.iconst 0, 1) := by decide +kernel
theorem dX6_bitsOf_1 : decode cX6_bitsOf 1 = .ok (.istore_n 1, 1) := by decide +kernel
theorem dX6_bitsOf_2 : decode cX6_bitsOf 2 = .ok (.iload_n 0, 1) := by decide +kernel
theorem dX6_bitsOf_3 : decode cX6_bitsOf 3 = .ok (.istore_n 2, 1) := by decide +kernel
theorem dX6_bitsOf_4 : decode cX6_bitsOf 4 = .ok (.iload_n 2, 1) := by decide +kernel
theorem dX6_bitsOf_5 : decode cX6_bitsOf 5 = .ok (.ifCond .eq 15, 3) := by decide +kernel
theorem dX6_bitsOf_8 : decode cX6_bitsOf 8 = .ok (.iinc 1 1, 3) := by decide +kernel
theorem dX6_bitsOf_11 : decode cX6_bitsOf 11 = .ok (.iload_n 2, 1) := by decide +kernel
theorem dX6_bitsOf_12 : decode cX6_bitsOf 12 = .ok (.iload_n 2, 1) := by decide +kernel
theorem dX6_bitsOf_13 : decode cX6_bitsOf 13 = .ok (.iconst 1, 1) := by decide +kernel
theorem dX6_bitsOf_14 : decode cX6_bitsOf 14 = .ok (.isub, 1) := by decide +kernel
theorem dX6_bitsOf_15 : decode cX6_bitsOf 15 = .ok (.iand, 1) := by decide +kernel
theorem dX6_bitsOf_16 : decode cX6_bitsOf 16 = .ok (.istore_n 2, 1) := by decide +kernel
theorem dX6_bitsOf_17 : decode cX6_bitsOf 17 = .ok (.goto (-13), 3) := by decide +kernel
theorem dX6_bitsOf_20 : decode cX6_bitsOf 20 = .ok (.iload_n 1, 1) := by decide +kernel
theorem dX6_bitsOf_21 : decode cX6_bitsOf 21 = .ok (.ireturn, 1) := by decide +kernel
theorem dX6_ups_0 : decode cX6_ups 0 = .ok (.iconst 0, 1) := by decide +kernel
theorem dX6_ups_1 : decode cX6_ups 1 = .ok (.istore_n 2, 1) := by decide +kernel
theorem dX6_ups_2 : decode cX6_ups 2 = .ok (.iload_n 2, 1) := by decide +kernel
theorem dX6_ups_3 : decode cX6_ups 3 = .ok (.aload_n 0, 1) := by decide +kernel
theorem dX6_ups_4 : decode cX6_ups 4 = .ok (.getfield 85, 3) := by decide +kernel
theorem dX6_ups_7 : decode cX6_ups 7 = .ok (.if_icmp .ge 54, 3) := by decide +kernel
theorem dX6_ups_10 : decode cX6_ups 10 = .ok (.aload_n 0, 1) := by decide +kernel
theorem dX6_ups_11 : decode cX6_ups 11 = .ok (.getfield 51, 3) := by decide +kernel
theorem dX6_ups_14 : decode cX6_ups 14 = .ok (.iload_n 2, 1) := by decide +kernel
theorem dX6_ups_15 : decode cX6_ups 15 = .ok (.aload_n 0, 1) := by decide +kernel
theorem dX6_ups_16 : decode cX6_ups 16 = .ok (.getfield 29, 3) := by decide +kernel
theorem dX6_ups_19 : decode cX6_ups 19 = .ok (.iconst 3, 1) := by decide +kernel
theorem dX6_ups_20 : decode cX6_ups 20 = .ok (.iload_n 2, 1) := by decide +kernel
theorem dX6_ups_21 : decode cX6_ups 21 = .ok (.imul, 1) := by decide +kernel
theorem dX6_ups_22 : decode cX6_ups 22 = .ok (.iconst 2, 1) := by decide +kernel
theorem dX6_ups_23 : decode cX6_ups 23 = .ok (.iadd, 1) := by decide +kernel
theorem dX6_ups_24 : decode cX6_ups 24 = .ok (.iaload, 1) := by decide +kernel
theorem dX6_ups_25 : decode cX6_ups 25 = .ok (.iastore, 1) := by decide +kernel
theorem dX6_ups_26 : decode cX6_ups 26 = .ok (.aload_n 0, 1) := by decide +kernel
theorem dX6_ups_27 : decode cX6_ups 27 = .ok (.getfield 29, 3) := by decide +kernel
theorem dX6_ups_30 : decode cX6_ups 30 = .ok (.iconst 3, 1) := by decide +kernel
theorem dX6_ups_31 : decode cX6_ups 31 = .ok (.iload_n 2, 1) := by decide +kernel
theorem dX6_ups_32 : decode cX6_ups 32 = .ok (.imul, 1) := by decide +kernel
theorem dX6_ups_33 : decode cX6_ups 33 = .ok (.iconst 2, 1) := by decide +kernel
theorem dX6_ups_34 : decode cX6_ups 34 = .ok (.iadd, 1) := by decide +kernel
theorem dX6_ups_35 : decode cX6_ups 35 = .ok (.iload_n 1, 1) := by decide +kernel
theorem dX6_ups_36 : decode cX6_ups 36 = .ok (.iload_n 2, 1) := by decide +kernel
theorem dX6_ups_37 : decode cX6_ups 37 = .ok (.ishr, 1) := by decide +kernel
theorem dX6_ups_38 : decode cX6_ups 38 = .ok (.iconst 1, 1) := by decide +kernel
theorem dX6_ups_39 : decode cX6_ups 39 = .ok (.iand, 1) := by decide +kernel
theorem dX6_ups_40 : decode cX6_ups 40 = .ok (.iconst 1, 1) := by decide +kernel
theorem dX6_ups_41 : decode cX6_ups 41 = .ok (.if_icmp .ne 12, 3) := by decide +kernel
theorem dX6_ups_44 : decode cX6_ups 44 = .ok (.aload_n 0, 1) := by decide +kernel
theorem dX6_ups_45 : decode cX6_ups 45 = .ok (.getfield 51, 3) := by decide +kernel
theorem dX6_ups_48 : decode cX6_ups 48 = .ok (.iload_n 2, 1) := by decide +kernel
theorem dX6_ups_49 : decode cX6_ups 49 = .ok (.iaload, 1) := by decide +kernel
theorem dX6_ups_50 : decode cX6_ups 50 = .ok (.goto 4, 3) := by decide +kernel
theorem dX6_ups_53 : decode cX6_ups 53 = .ok (.iconst 0, 1) := by decide +kernel
theorem dX6_ups_54 : decode cX6_ups 54 = .ok (.iastore, 1) := by decide +kernel
theorem dX6_ups_55 : decode cX6_ups 55 = .ok (.iinc 2 1, 3) := by decide +kernel
theorem dX6_ups_58 : decode cX6_ups 58 = .ok (.goto (-56), 3) := by decide +kernel
theorem dX6_ups_61 : decode cX6_ups 61 = .ok (.return_, 1) := by decide +kernel
theorem dX6_upsAgain_0 : decode cX6_upsAgain 0 = .ok (.iconst 0, 1) := by decide +kernel
theorem dX6_upsAgain_1 : decode cX6_upsAgain 1 = .ok (.istore_n 1, 1) := by decide +kernel
theorem dX6_upsAgain_2 : decode cX6_upsAgain 2 = .ok (.iload_n 1, 1) := by decide +kernel
theorem dX6_upsAgain_3 : decode cX6_upsAgain 3 = .ok (.aload_n 0, 1) := by decide +kernel
theorem dX6_upsAgain_4 : decode cX6_upsAgain 4 = .ok (.getfield 85, 3) := by decide +kernel
theorem dX6_upsAgain_7 : decode cX6_upsAgain 7 = .ok (.if_icmp .ge 25, 3) := by decide +kernel
theorem dX6_upsAgain_10 : decode cX6_upsAgain 10 = .ok (.aload_n 0, 1) := by decide +kernel
theorem dX6_upsAgain_11 : decode cX6_upsAgain 11 = .ok (.getfield 29, 3) := by decide +kernel
theorem dX6_upsAgain_14 : decode cX6_upsAgain 14 = .ok (.iconst 3, 1) := by decide +kernel
theorem dX6_upsAgain_15 : decode cX6_upsAgain 15 = .ok (.iload_n 1, 1) := by decide +kernel
theorem dX6_upsAgain_16 : decode cX6_upsAgain 16 = .ok (.imul, 1) := by decide +kernel
theorem dX6_upsAgain_17 : decode cX6_upsAgain 17 = .ok (.iconst 2, 1) := by decide +kernel
theorem dX6_upsAgain_18 : decode cX6_upsAgain 18 = .ok (.iadd, 1) := by decide +kernel
theorem dX6_upsAgain_19 : decode cX6_upsAgain 19 = .ok (.aload_n 0, 1) := by decide +kernel
theorem dX6_upsAgain_20 : decode cX6_upsAgain 20 = .ok (.getfield 51, 3) := by decide +kernel
theorem dX6_upsAgain_23 : decode cX6_upsAgain 23 = .ok (.iload_n 1, 1) := by decide +kernel
theorem dX6_upsAgain_24 : decode cX6_upsAgain 24 = .ok (.iaload, 1) := by decide +kernel
theorem dX6_upsAgain_25 : decode cX6_upsAgain 25 = .ok (.iastore, 1) := by decide +kernel
theorem dX6_upsAgain_26 : decode cX6_upsAgain 26 = .ok (.iinc 1 1, 3) := by decide +kernel
theorem dX6_upsAgain_29 : decode cX6_upsAgain 29 = .ok (.goto (-27), 3) := by decide +kernel
theorem dX6_upsAgain_32 : decode cX6_upsAgain 32 = .ok (.return_, 1) := by decide +kernel
theorem dX6_joyBy_0 : decode cX6_joyBy 0 = .ok (.aload_n 0, 1) := by decide +kernel
theorem dX6_joyBy_1 : decode cX6_joyBy 1 = .ok (.iload_n 1, 1) := by decide +kernel
theorem dX6_joyBy_2 : decode cX6_joyBy 2 = .ok (.invokevirtual 344, 3) := by decide +kernel
theorem dX6_joyBy_5 : decode cX6_joyBy 5 = .ok (.aload_n 0, 1) := by decide +kernel
theorem dX6_joyBy_6 : decode cX6_joyBy 6 = .ok (.invokevirtual 347, 3) := by decide +kernel
theorem dX6_joyBy_9 : decode cX6_joyBy 9 = .ok (.istore_n 2, 1) := by decide +kernel
theorem dX6_joyBy_10 : decode cX6_joyBy 10 = .ok (.aload_n 0, 1) := by decide +kernel
theorem dX6_joyBy_11 : decode cX6_joyBy 11 = .ok (.invokevirtual 350, 3) := by decide +kernel
theorem dX6_joyBy_14 : decode cX6_joyBy 14 = .ok (.iload_n 2, 1) := by decide +kernel
theorem dX6_joyBy_15 : decode cX6_joyBy 15 = .ok (.ireturn, 1) := by decide +kernel
theorem dX6_few_0 : decode cX6_few 0 = .ok (.iload_n 1, 1) := by decide +kernel
theorem dX6_few_1 : decode cX6_few 1 = .ok (.i2l, 1) := by decide +kernel
theorem dX6_few_2 : decode cX6_few 2 = .ok (.lconst 0, 1) := by decide +kernel
theorem dX6_few_3 : decode cX6_few 3 = .ok (.lconst 1, 1) := by decide +kernel
theorem dX6_few_4 : decode cX6_few 4 = .ok (.invokestatic 88, 3) := by decide +kernel
theorem dX6_few_7 : decode cX6_few 7 = .ok (.ifCond .ne 6, 3) := by decide +kernel
theorem dX6_few_10 : decode cX6_few 10 = .ok (.bipush (-2), 2) := by decide +kernel
theorem dX6_few_12 : decode cX6_few 12 = .ok (.ireturn, 1) := by decide +kernel
theorem dX6_few_13 : decode cX6_few 13 = .ok (.aload_n 0, 1) := by decide +kernel
theorem dX6_few_14 : decode cX6_few 14 = .ok (.invokevirtual 347, 3) := by decide +kernel
theorem dX6_few_17 : decode cX6_few 17 = .ok (.istore_n 2, 1) := by decide +kernel
theorem dX6_few_18 : decode cX6_few 18 = .ok (.iconst (-1), 1) := by decide +kernel
theorem dX6_few_19 : decode cX6_few 19 = .ok (.istore_n 3, 1) := by decide +kernel
theorem dX6_few_20 : decode cX6_few 20 = .ok (.iconst 0, 1) := by decide +kernel
theorem dX6_few_21 : decode cX6_few 21 = .ok (.istore 4, 2) := by decide +kernel
theorem dX6_few_23 : decode cX6_few 23 = .ok (.iload 4, 2) := by decide +kernel
theorem dX6_few_25 : decode cX6_few 25 = .ok (.iconst 1, 1) := by decide +kernel
theorem dX6_few_26 : decode cX6_few 26 = .ok (.aload_n 0, 1) := by decide +kernel
theorem dX6_few_27 : decode cX6_few 27 = .ok (.getfield 85, 3) := by decide +kernel
theorem dX6_few_30 : decode cX6_few 30 = .ok (.ishl, 1) := by decide +kernel
theorem dX6_few_31 : decode cX6_few 31 = .ok (.if_icmp .ge 39, 3) := by decide +kernel
theorem dX6_few_34 : decode cX6_few 34 = .ok (.iload_n 3, 1) := by decide +kernel
theorem dX6_few_35 : decode cX6_few 35 = .ok (.iconst (-1), 1) := by decide +kernel
theorem dX6_few_36 : decode cX6_few 36 = .ok (.if_icmp .eq 15, 3) := by decide +kernel
theorem dX6_few_39 : decode cX6_few 39 = .ok (.iload 4, 2) := by decide +kernel
theorem dX6_few_41 : decode cX6_few 41 = .ok (.invokestatic 353, 3) := by decide +kernel
theorem dX6_few_44 : decode cX6_few 44 = .ok (.iload_n 3, 1) := by decide +kernel
theorem dX6_few_45 : decode cX6_few 45 = .ok (.invokestatic 353, 3) := by decide +kernel
theorem dX6_few_48 : decode cX6_few 48 = .ok (.if_icmp .ge 16, 3) := by decide +kernel
theorem dX6_few_51 : decode cX6_few 51 = .ok (.aload_n 0, 1) := by decide +kernel
theorem dX6_few_52 : decode cX6_few 52 = .ok (.iload 4, 2) := by decide +kernel
theorem dX6_few_54 : decode cX6_few 54 = .ok (.invokevirtual 356, 3) := by decide +kernel
theorem dX6_few_57 : decode cX6_few 57 = .ok (.iload_n 2, 1) := by decide +kernel
theorem dX6_few_58 : decode cX6_few 58 = .ok (.if_icmp .ne 6, 3) := by decide +kernel
theorem dX6_few_61 : decode cX6_few 61 = .ok (.iload 4, 2) := by decide +kernel
theorem dX6_few_63 : decode cX6_few 63 = .ok (.istore_n 3, 1) := by decide +kernel
theorem dX6_few_64 : decode cX6_few 64 = .ok (.iinc 4 1, 3) := by decide +kernel
theorem dX6_few_67 : decode cX6_few 67 = .ok (.goto (-44), 3) := by decide +kernel
theorem dX6_few_70 : decode cX6_few 70 = .ok (.iload_n 1, 1) := by decide +kernel
theorem dX6_few_71 : decode cX6_few 71 = .ok (.ifCond .ne 7, 3) := by decide +kernel
theorem dX6_few_74 : decode cX6_few 74 = .ok (.iload_n 3, 1) := by decide +kernel
theorem dX6_few_75 : decode cX6_few 75 = .ok (.goto 7, 3) := by decide +kernel
theorem dX6_few_78 : decode cX6_few 78 = .ok (.iload_n 3, 1) := by decide +kernel
theorem dX6_few_79 : decode cX6_few 79 = .ok (.invokestatic 353, 3) := by decide +kernel
theorem dX6_few_82 : decode cX6_few 82 = .ok (.ireturn, 1) := by decide +kernel
theorem dX6_missed_0 : decode cX6_missed 0 = .ok (.iload_n 1, 1) := by decide +kernel
theorem dX6_missed_1 : decode cX6_missed 1 = .ok (.i2l, 1) := by decide +kernel
theorem dX6_missed_2 : decode cX6_missed 2 = .ok (.lconst 0, 1) := by decide +kernel
theorem dX6_missed_3 : decode cX6_missed 3 = .ok (.lconst 1, 1) := by decide +kernel
theorem dX6_missed_4 : decode cX6_missed 4 = .ok (.invokestatic 88, 3) := by decide +kernel
theorem dX6_missed_7 : decode cX6_missed 7 = .ok (.ifCond .ne 7, 3) := by decide +kernel
theorem dX6_missed_10 : decode cX6_missed 10 = .ok (.ldc_w 314, 3) := by decide +kernel
theorem dX6_missed_13 : decode cX6_missed 13 = .ok (.ireturn, 1) := by decide +kernel
theorem dX6_missed_14 : decode cX6_missed 14 = .ok (.iconst (-1), 1) := by decide +kernel
theorem dX6_missed_15 : decode cX6_missed 15 = .ok (.istore_n 2, 1) := by decide +kernel
theorem dX6_missed_16 : decode cX6_missed 16 = .ok (.aload_n 0, 1) := by decide +kernel
theorem dX6_missed_17 : decode cX6_missed 17 = .ok (.invokevirtual 347, 3) := by decide +kernel
theorem dX6_missed_20 : decode cX6_missed 20 = .ok (.istore_n 3, 1) := by decide +kernel
theorem dX6_missed_21 : decode cX6_missed 21 = .ok (.iconst 0, 1) := by decide +kernel
theorem dX6_missed_22 : decode cX6_missed 22 = .ok (.istore 4, 2) := by decide +kernel
theorem dX6_missed_24 : decode cX6_missed 24 = .ok (.iload 4, 2) := by decide +kernel
theorem dX6_missed_26 : decode cX6_missed 26 = .ok (.aload_n 0, 1) := by decide +kernel
theorem dX6_missed_27 : decode cX6_missed 27 = .ok (.getfield 85, 3) := by decide +kernel
theorem dX6_missed_30 : decode cX6_missed 30 = .ok (.if_icmp .ge 47, 3) := by decide +kernel
theorem dX6_missed_33 : decode cX6_missed 33 = .ok (.aload_n 0, 1) := by decide +kernel
theorem dX6_missed_34 : decode cX6_missed 34 = .ok (.iconst 1, 1) := by decide +kernel
theorem dX6_missed_35 : decode cX6_missed 35 = .ok (.aload_n 0, 1) := by decide +kernel
theorem dX6_missed_36 : decode cX6_missed 36 = .ok (.getfield 85, 3) := by decide +kernel
theorem dX6_missed_39 : decode cX6_missed 39 = .ok (.ishl, 1) := by decide +kernel
theorem dX6_missed_40 : decode cX6_missed 40 = .ok (.iconst 1, 1) := by decide +kernel
theorem dX6_missed_41 : decode cX6_missed 41 = .ok (.isub, 1) := by decide +kernel
theorem dX6_missed_42 : decode cX6_missed 42 = .ok (.iconst 1, 1) := by decide +kernel
theorem dX6_missed_43 : decode cX6_missed 43 = .ok (.iload 4, 2) := by decide +kernel
theorem dX6_missed_45 : decode cX6_missed 45 = .ok (.ishl, 1) := by decide +kernel
theorem dX6_missed_46 : decode cX6_missed 46 = .ok (.iconst (-1), 1) := by decide +kernel
theorem dX6_missed_47 : decode cX6_missed 47 = .ok (.ixor, 1) := by decide +kernel
theorem dX6_missed_48 : decode cX6_missed 48 = .ok (.iand, 1) := by decide +kernel
theorem dX6_missed_49 : decode cX6_missed 49 = .ok (.invokevirtual 356, 3) := by decide +kernel
theorem dX6_missed_52 : decode cX6_missed 52 = .ok (.istore 5, 2) := by decide +kernel
theorem dX6_missed_54 : decode cX6_missed 54 = .ok (.iload_n 2, 1) := by decide +kernel
theorem dX6_missed_55 : decode cX6_missed 55 = .ok (.iconst (-1), 1) := by decide +kernel
theorem dX6_missed_56 : decode cX6_missed 56 = .ok (.if_icmp .eq 9, 3) := by decide +kernel
theorem dX6_missed_59 : decode cX6_missed 59 = .ok (.iload 5, 2) := by decide +kernel
theorem dX6_missed_61 : decode cX6_missed 61 = .ok (.iload_n 3, 1) := by decide +kernel
theorem dX6_missed_62 : decode cX6_missed 62 = .ok (.if_icmp .ge 9, 3) := by decide +kernel
theorem dX6_missed_65 : decode cX6_missed 65 = .ok (.iload 4, 2) := by decide +kernel
theorem dX6_missed_67 : decode cX6_missed 67 = .ok (.istore_n 2, 1) := by decide +kernel
theorem dX6_missed_68 : decode cX6_missed 68 = .ok (.iload 5, 2) := by decide +kernel
theorem dX6_missed_70 : decode cX6_missed 70 = .ok (.istore_n 3, 1) := by decide +kernel
theorem dX6_missed_71 : decode cX6_missed 71 = .ok (.iinc 4 1, 3) := by decide +kernel
theorem dX6_missed_74 : decode cX6_missed 74 = .ok (.goto (-50), 3) := by decide +kernel
theorem dX6_missed_77 : decode cX6_missed 77 = .ok (.iload_n 1, 1) := by decide +kernel
theorem dX6_missed_78 : decode cX6_missed 78 = .ok (.ifCond .ne 7, 3) := by decide +kernel
theorem dX6_missed_81 : decode cX6_missed 81 = .ok (.iload_n 2, 1) := by decide +kernel
theorem dX6_missed_82 : decode cX6_missed 82 = .ok (.goto 4, 3) := by decide +kernel
theorem dX6_missed_85 : decode cX6_missed 85 = .ok (.iload_n 3, 1) := by decide +kernel
theorem dX6_missed_86 : decode cX6_missed 86 = .ok (.ireturn, 1) := by decide +kernel
theorem dX6_change_0 : decode cX6_change 0 = .ok (.iload_n 1, 1) := by decide +kernel
theorem dX6_change_1 : decode cX6_change 1 = .ok (.i2l, 1) := by decide +kernel
theorem dX6_change_2 : decode cX6_change 2 = .ok (.lconst 0, 1) := by decide +kernel
theorem dX6_change_3 : decode cX6_change 3 = .ok (.lconst 1, 1) := by decide +kernel
theorem dX6_change_4 : decode cX6_change 4 = .ok (.invokestatic 88, 3) := by decide +kernel
theorem dX6_change_7 : decode cX6_change 7 = .ok (.ifCond .ne 7, 3) := by decide +kernel
theorem dX6_change_10 : decode cX6_change 10 = .ok (.ldc_w 314, 3) := by decide +kernel
theorem dX6_change_13 : decode cX6_change 13 = .ok (.ireturn, 1) := by decide +kernel
theorem dX6_change_14 : decode cX6_change 14 = .ok (.iconst (-1), 1) := by decide +kernel
theorem dX6_change_15 : decode cX6_change 15 = .ok (.istore_n 2, 1) := by decide +kernel
theorem dX6_change_16 : decode cX6_change 16 = .ok (.aload_n 0, 1) := by decide +kernel
theorem dX6_change_17 : decode cX6_change 17 = .ok (.invokevirtual 347, 3) := by decide +kernel
theorem dX6_change_20 : decode cX6_change 20 = .ok (.istore_n 3, 1) := by decide +kernel
theorem dX6_change_21 : decode cX6_change 21 = .ok (.iconst 0, 1) := by decide +kernel
theorem dX6_change_22 : decode cX6_change 22 = .ok (.istore 4, 2) := by decide +kernel
theorem dX6_change_24 : decode cX6_change 24 = .ok (.iload 4, 2) := by decide +kernel
theorem dX6_change_26 : decode cX6_change 26 = .ok (.aload_n 0, 1) := by decide +kernel
theorem dX6_change_27 : decode cX6_change 27 = .ok (.getfield 92, 3) := by decide +kernel
theorem dX6_change_30 : decode cX6_change 30 = .ok (.if_icmp .ge 120, 3) := by decide +kernel
theorem dX6_change_33 : decode cX6_change 33 = .ok (.iload 4, 2) := by decide +kernel
theorem dX6_change_35 : decode cX6_change 35 = .ok (.iconst 1, 1) := by decide +kernel
theorem dX6_change_36 : decode cX6_change 36 = .ok (.iadd, 1) := by decide +kernel
theorem dX6_change_37 : decode cX6_change 37 = .ok (.istore 5, 2) := by decide +kernel
theorem dX6_change_39 : decode cX6_change 39 = .ok (.iload 5, 2) := by decide +kernel
theorem dX6_change_41 : decode cX6_change 41 = .ok (.aload_n 0, 1) := by decide +kernel
theorem dX6_change_42 : decode cX6_change 42 = .ok (.getfield 92, 3) := by decide +kernel
theorem dX6_change_45 : decode cX6_change 45 = .ok (.if_icmp .ge 99, 3) := by decide +kernel
theorem dX6_change_48 : decode cX6_change 48 = .ok (.aload_n 0, 1) := by decide +kernel
theorem dX6_change_49 : decode cX6_change 49 = .ok (.getfield 32, 3) := by decide +kernel
theorem dX6_change_52 : decode cX6_change 52 = .ok (.iconst 2, 1) := by decide +kernel
theorem dX6_change_53 : decode cX6_change 53 = .ok (.iload 4, 2) := by decide +kernel
theorem dX6_change_55 : decode cX6_change 55 = .ok (.imul, 1) := by decide +kernel
theorem dX6_change_56 : decode cX6_change 56 = .ok (.iaload, 1) := by decide +kernel
theorem dX6_change_57 : decode cX6_change 57 = .ok (.istore 6, 2) := by decide +kernel
theorem dX6_change_59 : decode cX6_change 59 = .ok (.aload_n 0, 1) := by decide +kernel
theorem dX6_change_60 : decode cX6_change 60 = .ok (.getfield 32, 3) := by decide +kernel
theorem dX6_change_63 : decode cX6_change 63 = .ok (.iconst 2, 1) := by decide +kernel
theorem dX6_change_64 : decode cX6_change 64 = .ok (.iload 5, 2) := by decide +kernel
theorem dX6_change_66 : decode cX6_change 66 = .ok (.imul, 1) := by decide +kernel
theorem dX6_change_67 : decode cX6_change 67 = .ok (.iaload, 1) := by decide +kernel
theorem dX6_change_68 : decode cX6_change 68 = .ok (.istore 7, 2) := by decide +kernel
theorem dX6_change_70 : decode cX6_change 70 = .ok (.aload_n 0, 1) := by decide +kernel
theorem dX6_change_71 : decode cX6_change 71 = .ok (.getfield 32, 3) := by decide +kernel
theorem dX6_change_74 : decode cX6_change 74 = .ok (.iconst 2, 1) := by decide +kernel
theorem dX6_change_75 : decode cX6_change 75 = .ok (.iload 4, 2) := by decide +kernel
theorem dX6_change_77 : decode cX6_change 77 = .ok (.imul, 1) := by decide +kernel
theorem dX6_change_78 : decode cX6_change 78 = .ok (.iload 7, 2) := by decide +kernel
theorem dX6_change_80 : decode cX6_change 80 = .ok (.iastore, 1) := by decide +kernel
theorem dX6_change_81 : decode cX6_change 81 = .ok (.aload_n 0, 1) := by decide +kernel
theorem dX6_change_82 : decode cX6_change 82 = .ok (.getfield 32, 3) := by decide +kernel
theorem dX6_change_85 : decode cX6_change 85 = .ok (.iconst 2, 1) := by decide +kernel
theorem dX6_change_86 : decode cX6_change 86 = .ok (.iload 5, 2) := by decide +kernel
theorem dX6_change_88 : decode cX6_change 88 = .ok (.imul, 1) := by decide +kernel
theorem dX6_change_89 : decode cX6_change 89 = .ok (.iload 6, 2) := by decide +kernel
theorem dX6_change_91 : decode cX6_change 91 = .ok (.iastore, 1) := by decide +kernel
theorem dX6_change_92 : decode cX6_change 92 = .ok (.aload_n 0, 1) := by decide +kernel
theorem dX6_change_93 : decode cX6_change 93 = .ok (.invokevirtual 347, 3) := by decide +kernel
theorem dX6_change_96 : decode cX6_change 96 = .ok (.istore 8, 2) := by decide +kernel
theorem dX6_change_98 : decode cX6_change 98 = .ok (.aload_n 0, 1) := by decide +kernel
theorem dX6_change_99 : decode cX6_change 99 = .ok (.getfield 32, 3) := by decide +kernel
theorem dX6_change_102 : decode cX6_change 102 = .ok (.iconst 2, 1) := by decide +kernel
theorem dX6_change_103 : decode cX6_change 103 = .ok (.iload 4, 2) := by decide +kernel
theorem dX6_change_105 : decode cX6_change 105 = .ok (.imul, 1) := by decide +kernel
theorem dX6_change_106 : decode cX6_change 106 = .ok (.iload 6, 2) := by decide +kernel
theorem dX6_change_108 : decode cX6_change 108 = .ok (.iastore, 1) := by decide +kernel
theorem dX6_change_109 : decode cX6_change 109 = .ok (.aload_n 0, 1) := by decide +kernel
theorem dX6_change_110 : decode cX6_change 110 = .ok (.getfield 32, 3) := by decide +kernel
theorem dX6_change_113 : decode cX6_change 113 = .ok (.iconst 2, 1) := by decide +kernel
theorem dX6_change_114 : decode cX6_change 114 = .ok (.iload 5, 2) := by decide +kernel
theorem dX6_change_116 : decode cX6_change 116 = .ok (.imul, 1) := by decide +kernel
theorem dX6_change_117 : decode cX6_change 117 = .ok (.iload 7, 2) := by decide +kernel
theorem dX6_change_119 : decode cX6_change 119 = .ok (.iastore, 1) := by decide +kernel
theorem dX6_change_120 : decode cX6_change 120 = .ok (.iload 8, 2) := by decide +kernel
theorem dX6_change_122 : decode cX6_change 122 = .ok (.iload_n 3, 1) := by decide +kernel
theorem dX6_change_123 : decode cX6_change 123 = .ok (.if_icmp .le 15, 3) := by decide +kernel
theorem dX6_change_126 : decode cX6_change 126 = .ok (.bipush 10, 2) := by decide +kernel
theorem dX6_change_128 : decode cX6_change 128 = .ok (.iload 4, 2) := by decide +kernel
theorem dX6_change_130 : decode cX6_change 130 = .ok (.imul, 1) := by decide +kernel
theorem dX6_change_131 : decode cX6_change 131 = .ok (.iload 5, 2) := by decide +kernel
theorem dX6_change_133 : decode cX6_change 133 = .ok (.iadd, 1) := by decide +kernel
theorem dX6_change_134 : decode cX6_change 134 = .ok (.istore_n 2, 1) := by decide +kernel
theorem dX6_change_135 : decode cX6_change 135 = .ok (.iload 8, 2) := by decide +kernel
theorem dX6_change_137 : decode cX6_change 137 = .ok (.istore_n 3, 1) := by decide +kernel
theorem dX6_change_138 : decode cX6_change 138 = .ok (.iinc 5 1, 3) := by decide +kernel
theorem dX6_change_141 : decode cX6_change 141 = .ok (.goto (-102), 3) := by decide +kernel
theorem dX6_change_144 : decode cX6_change 144 = .ok (.iinc 4 1, 3) := by decide +kernel
theorem dX6_change_147 : decode cX6_change 147 = .ok (.goto (-123), 3) := by decide +kernel
theorem dX6_change_150 : decode cX6_change 150 = .ok (.iload_n 1, 1) := by decide +kernel
theorem dX6_change_151 : decode cX6_change 151 = .ok (.ifCond .ne 7, 3) := by decide +kernel
theorem dX6_change_154 : decode cX6_change 154 = .ok (.iload_n 2, 1) := by decide +kernel
theorem dX6_change_155 : decode cX6_change 155 = .ok (.goto 4, 3) := by decide +kernel
theorem dX6_change_158 : decode cX6_change 158 = .ok (.iload_n 3, 1) := by decide +kernel
theorem dX6_change_159 : decode cX6_change 159 = .ok (.ireturn, 1) := by decide +kernel
theorem dX6_raise_0 : decode cX6_raise 0 = .ok (.iload_n 1, 1) := by decide +kernel
theorem dX6_raise_1 : decode cX6_raise 1 = .ok (.i2l, 1) := by decide +kernel
theorem dX6_raise_2 : decode cX6_raise 2 = .ok (.lconst 0, 1) := by decide +kernel
theorem dX6_raise_3 : decode cX6_raise 3 = .ok (.ldc2_w 127, 3) := by decide +kernel
theorem dX6_raise_6 : decode cX6_raise 6 = .ok (.invokestatic 88, 3) := by decide +kernel
theorem dX6_raise_9 : decode cX6_raise 9 = .ok (.ifCond .eq 13, 3) := by decide +kernel
theorem dX6_raise_12 : decode cX6_raise 12 = .ok (.iload_n 2, 1) := by decide +kernel
theorem dX6_raise_13 : decode cX6_raise 13 = .ok (.i2l, 1) := by decide +kernel
theorem dX6_raise_14 : decode cX6_raise 14 = .ok (.lconst 0, 1) := by decide +kernel
theorem dX6_raise_15 : decode cX6_raise 15 = .ok (.lconst 1, 1) := by decide +kernel
theorem dX6_raise_16 : decode cX6_raise 16 = .ok (.invokestatic 88, 3) := by decide +kernel
theorem dX6_raise_19 : decode cX6_raise 19 = .ok (.ifCond .ne 7, 3) := by decide +kernel
theorem dX6_raise_22 : decode cX6_raise 22 = .ok (.ldc_w 314, 3) := by decide +kernel
theorem dX6_raise_25 : decode cX6_raise 25 = .ok (.ireturn, 1) := by decide +kernel
theorem dX6_raise_26 : decode cX6_raise 26 = .ok (.iconst (-1), 1) := by decide +kernel
theorem dX6_raise_27 : decode cX6_raise 27 = .ok (.istore_n 3, 1) := by decide +kernel
theorem dX6_raise_28 : decode cX6_raise 28 = .ok (.aload_n 0, 1) := by decide +kernel
theorem dX6_raise_29 : decode cX6_raise 29 = .ok (.invokevirtual 347, 3) := by decide +kernel
theorem dX6_raise_32 : decode cX6_raise 32 = .ok (.istore 4, 2) := by decide +kernel
theorem dX6_raise_34 : decode cX6_raise 34 = .ok (.iconst 0, 1) := by decide +kernel
theorem dX6_raise_35 : decode cX6_raise 35 = .ok (.istore 5, 2) := by decide +kernel
theorem dX6_raise_37 : decode cX6_raise 37 = .ok (.iload 5, 2) := by decide +kernel
theorem dX6_raise_39 : decode cX6_raise 39 = .ok (.aload_n 0, 1) := by decide +kernel
theorem dX6_raise_40 : decode cX6_raise 40 = .ok (.getfield 85, 3) := by decide +kernel
theorem dX6_raise_43 : decode cX6_raise 43 = .ok (.if_icmp .ge 77, 3) := by decide +kernel
theorem dX6_raise_46 : decode cX6_raise 46 = .ok (.aload_n 0, 1) := by decide +kernel
theorem dX6_raise_47 : decode cX6_raise 47 = .ok (.getfield 29, 3) := by decide +kernel
theorem dX6_raise_50 : decode cX6_raise 50 = .ok (.iconst 3, 1) := by decide +kernel
theorem dX6_raise_51 : decode cX6_raise 51 = .ok (.iload 5, 2) := by decide +kernel
theorem dX6_raise_53 : decode cX6_raise 53 = .ok (.imul, 1) := by decide +kernel
theorem dX6_raise_54 : decode cX6_raise 54 = .ok (.iconst 1, 1) := by decide +kernel
theorem dX6_raise_55 : decode cX6_raise 55 = .ok (.iadd, 1) := by decide +kernel
theorem dX6_raise_56 : decode cX6_raise 56 = .ok (.iaload, 1) := by decide +kernel
theorem dX6_raise_57 : decode cX6_raise 57 = .ok (.istore 6, 2) := by decide +kernel
theorem dX6_raise_59 : decode cX6_raise 59 = .ok (.aload_n 0, 1) := by decide +kernel
theorem dX6_raise_60 : decode cX6_raise 60 = .ok (.getfield 29, 3) := by decide +kernel
theorem dX6_raise_63 : decode cX6_raise 63 = .ok (.iconst 3, 1) := by decide +kernel
theorem dX6_raise_64 : decode cX6_raise 64 = .ok (.iload 5, 2) := by decide +kernel
theorem dX6_raise_66 : decode cX6_raise 66 = .ok (.imul, 1) := by decide +kernel
theorem dX6_raise_67 : decode cX6_raise 67 = .ok (.iconst 1, 1) := by decide +kernel
theorem dX6_raise_68 : decode cX6_raise 68 = .ok (.iadd, 1) := by decide +kernel
theorem dX6_raise_69 : decode cX6_raise 69 = .ok (.iload 6, 2) := by decide +kernel
theorem dX6_raise_71 : decode cX6_raise 71 = .ok (.iload_n 1, 1) := by decide +kernel
theorem dX6_raise_72 : decode cX6_raise 72 = .ok (.iadd, 1) := by decide +kernel
theorem dX6_raise_73 : decode cX6_raise 73 = .ok (.iconst 0, 1) := by decide +kernel
theorem dX6_raise_74 : decode cX6_raise 74 = .ok (.sipush 999, 3) := by decide +kernel
theorem dX6_raise_77 : decode cX6_raise 77 = .ok (.invokestatic 272, 3) := by decide +kernel
theorem dX6_raise_80 : decode cX6_raise 80 = .ok (.iastore, 1) := by decide +kernel
theorem dX6_raise_81 : decode cX6_raise 81 = .ok (.aload_n 0, 1) := by decide +kernel
theorem dX6_raise_82 : decode cX6_raise 82 = .ok (.invokevirtual 347, 3) := by decide +kernel
theorem dX6_raise_85 : decode cX6_raise 85 = .ok (.istore 7, 2) := by decide +kernel
theorem dX6_raise_87 : decode cX6_raise 87 = .ok (.aload_n 0, 1) := by decide +kernel
theorem dX6_raise_88 : decode cX6_raise 88 = .ok (.getfield 29, 3) := by decide +kernel
theorem dX6_raise_91 : decode cX6_raise 91 = .ok (.iconst 3, 1) := by decide +kernel
theorem dX6_raise_92 : decode cX6_raise 92 = .ok (.iload 5, 2) := by decide +kernel
theorem dX6_raise_94 : decode cX6_raise 94 = .ok (.imul, 1) := by decide +kernel
theorem dX6_raise_95 : decode cX6_raise 95 = .ok (.iconst 1, 1) := by decide +kernel
theorem dX6_raise_96 : decode cX6_raise 96 = .ok (.iadd, 1) := by decide +kernel
theorem dX6_raise_97 : decode cX6_raise 97 = .ok (.iload 6, 2) := by decide +kernel
theorem dX6_raise_99 : decode cX6_raise 99 = .ok (.iastore, 1) := by decide +kernel
theorem dX6_raise_100 : decode cX6_raise 100 = .ok (.iload 7, 2) := by decide +kernel
theorem dX6_raise_102 : decode cX6_raise 102 = .ok (.iload 4, 2) := by decide +kernel
theorem dX6_raise_104 : decode cX6_raise 104 = .ok (.if_icmp .le 10, 3) := by decide +kernel
theorem dX6_raise_107 : decode cX6_raise 107 = .ok (.iload 5, 2) := by decide +kernel
theorem dX6_raise_109 : decode cX6_raise 109 = .ok (.istore_n 3, 1) := by decide +kernel
theorem dX6_raise_110 : decode cX6_raise 110 = .ok (.iload 7, 2) := by decide +kernel
theorem dX6_raise_112 : decode cX6_raise 112 = .ok (.istore 4, 2) := by decide +kernel
theorem dX6_raise_114 : decode cX6_raise 114 = .ok (.iinc 5 1, 3) := by decide +kernel
theorem dX6_raise_117 : decode cX6_raise 117 = .ok (.goto (-80), 3) := by decide +kernel
theorem dX6_raise_120 : decode cX6_raise 120 = .ok (.iload_n 2, 1) := by decide +kernel
theorem dX6_raise_121 : decode cX6_raise 121 = .ok (.ifCond .ne 7, 3) := by decide +kernel
theorem dX6_raise_124 : decode cX6_raise 124 = .ok (.iload_n 3, 1) := by decide +kernel
theorem dX6_raise_125 : decode cX6_raise 125 = .ok (.goto 5, 3) := by decide +kernel
theorem dX6_raise_128 : decode cX6_raise 128 = .ok (.iload 4, 2) := by decide +kernel
theorem dX6_raise_130 : decode cX6_raise 130 = .ok (.ireturn, 1) := by decide +kernel
theorem dX6_dear_0 : decode cX6_dear 0 = .ok (.iload_n 1, 1) := by decide +kernel
theorem dX6_dear_1 : decode cX6_dear 1 = .ok (.i2l, 1) := by decide +kernel
theorem dX6_dear_2 : decode cX6_dear 2 = .ok (.lconst 0, 1) := by decide +kernel
theorem dX6_dear_3 : decode cX6_dear 3 = .ok (.lconst 1, 1) := by decide +kernel
theorem dX6_dear_4 : decode cX6_dear 4 = .ok (.invokestatic 88, 3) := by decide +kernel
theorem dX6_dear_7 : decode cX6_dear 7 = .ok (.ifCond .ne 7, 3) := by decide +kernel
theorem dX6_dear_10 : decode cX6_dear 10 = .ok (.ldc_w 314, 3) := by decide +kernel
theorem dX6_dear_13 : decode cX6_dear 13 = .ok (.ireturn, 1) := by decide +kernel
theorem dX6_dear_14 : decode cX6_dear 14 = .ok (.aload_n 0, 1) := by decide +kernel
theorem dX6_dear_15 : decode cX6_dear 15 = .ok (.getfield 23, 3) := by decide +kernel
theorem dX6_dear_18 : decode cX6_dear 18 = .ok (.istore_n 2, 1) := by decide +kernel
theorem dX6_dear_19 : decode cX6_dear 19 = .ok (.iconst (-1), 1) := by decide +kernel
theorem dX6_dear_20 : decode cX6_dear 20 = .ok (.istore_n 3, 1) := by decide +kernel
theorem dX6_dear_21 : decode cX6_dear 21 = .ok (.iconst 0, 1) := by decide +kernel
theorem dX6_dear_22 : decode cX6_dear 22 = .ok (.istore 4, 2) := by decide +kernel
theorem dX6_dear_24 : decode cX6_dear 24 = .ok (.iconst 1, 1) := by decide +kernel
theorem dX6_dear_25 : decode cX6_dear 25 = .ok (.istore 5, 2) := by decide +kernel
theorem dX6_dear_27 : decode cX6_dear 27 = .ok (.iload 5, 2) := by decide +kernel
theorem dX6_dear_29 : decode cX6_dear 29 = .ok (.bipush 10, 2) := by decide +kernel
theorem dX6_dear_31 : decode cX6_dear 31 = .ok (.if_icmp .ge 43, 3) := by decide +kernel
theorem dX6_dear_34 : decode cX6_dear 34 = .ok (.aload_n 0, 1) := by decide +kernel
theorem dX6_dear_35 : decode cX6_dear 35 = .ok (.iload 5, 2) := by decide +kernel
theorem dX6_dear_37 : decode cX6_dear 37 = .ok (.putfield 23, 3) := by decide +kernel
theorem dX6_dear_40 : decode cX6_dear 40 = .ok (.aload_n 0, 1) := by decide +kernel
theorem dX6_dear_41 : decode cX6_dear 41 = .ok (.iconst 1, 1) := by decide +kernel
theorem dX6_dear_42 : decode cX6_dear 42 = .ok (.invokevirtual 340, 3) := by decide +kernel
theorem dX6_dear_45 : decode cX6_dear 45 = .ok (.iload_n 3, 1) := by decide +kernel
theorem dX6_dear_46 : decode cX6_dear 46 = .ok (.iconst (-1), 1) := by decide +kernel
theorem dX6_dear_47 : decode cX6_dear 47 = .ok (.if_icmp .eq 12, 3) := by decide +kernel
theorem dX6_dear_50 : decode cX6_dear 50 = .ok (.aload_n 0, 1) := by decide +kernel
theorem dX6_dear_51 : decode cX6_dear 51 = .ok (.getfield 327, 3) := by decide +kernel
theorem dX6_dear_54 : decode cX6_dear 54 = .ok (.iload 4, 2) := by decide +kernel
theorem dX6_dear_56 : decode cX6_dear 56 = .ok (.if_icmp .le 12, 3) := by decide +kernel
theorem dX6_dear_59 : decode cX6_dear 59 = .ok (.iload 5, 2) := by decide +kernel
theorem dX6_dear_61 : decode cX6_dear 61 = .ok (.istore_n 3, 1) := by decide +kernel
theorem dX6_dear_62 : decode cX6_dear 62 = .ok (.aload_n 0, 1) := by decide +kernel
theorem dX6_dear_63 : decode cX6_dear 63 = .ok (.getfield 327, 3) := by decide +kernel
theorem dX6_dear_66 : decode cX6_dear 66 = .ok (.istore 4, 2) := by decide +kernel
theorem dX6_dear_68 : decode cX6_dear 68 = .ok (.iinc 5 1, 3) := by decide +kernel
theorem dX6_dear_71 : decode cX6_dear 71 = .ok (.goto (-44), 3) := by decide +kernel
theorem dX6_dear_74 : decode cX6_dear 74 = .ok (.aload_n 0, 1) := by decide +kernel
theorem dX6_dear_75 : decode cX6_dear 75 = .ok (.iload_n 2, 1) := by decide +kernel
theorem dX6_dear_76 : decode cX6_dear 76 = .ok (.putfield 23, 3) := by decide +kernel
theorem dX6_dear_79 : decode cX6_dear 79 = .ok (.iload_n 1, 1) := by decide +kernel
theorem dX6_dear_80 : decode cX6_dear 80 = .ok (.ifCond .ne 7, 3) := by decide +kernel
theorem dX6_dear_83 : decode cX6_dear 83 = .ok (.iload_n 3, 1) := by decide +kernel
theorem dX6_dear_84 : decode cX6_dear 84 = .ok (.goto 5, 3) := by decide +kernel
theorem dX6_dear_87 : decode cX6_dear 87 = .ok (.iload 4, 2) := by decide +kernel
theorem dX6_dear_89 : decode cX6_dear 89 = .ok (.ireturn, 1) := by decide +kernel
theorem dX6_firstOther_0 : decode cX6_firstOther 0 = .ok (.iconst 0, 1) := by decide +kernel
theorem dX6_firstOther_1 : decode cX6_firstOther 1 = .ok (.istore_n 3, 1) := by decide +kernel
theorem dX6_firstOther_2 : decode cX6_firstOther 2 = .ok (.iload_n 3, 1) := by decide +kernel
theorem dX6_firstOther_3 : decode cX6_firstOther 3 = .ok (.aload_n 0, 1) := by decide +kernel
theorem dX6_firstOther_4 : decode cX6_firstOther 4 = .ok (.getfield 72, 3) := by decide +kernel
theorem dX6_firstOther_7 : decode cX6_firstOther 7 = .ok (.iload_n 1, 1) := by decide +kernel
theorem dX6_firstOther_8 : decode cX6_firstOther 8 = .ok (.iaload, 1) := by decide +kernel
theorem dX6_firstOther_9 : decode cX6_firstOther 9 = .ok (.if_icmp .ge 31, 3) := by decide +kernel
theorem dX6_firstOther_12 : decode cX6_firstOther 12 = .ok (.aload_n 0, 1) := by decide +kernel
theorem dX6_firstOther_13 : decode cX6_firstOther 13 = .ok (.iload_n 2, 1) := by decide +kernel
theorem dX6_firstOther_14 : decode cX6_firstOther 14 = .ok (.iload_n 3, 1) := by decide +kernel
theorem dX6_firstOther_15 : decode cX6_firstOther 15 = .ok (.invokevirtual 144, 3) := by decide +kernel
theorem dX6_firstOther_18 : decode cX6_firstOther 18 = .ok (.aload_n 0, 1) := by decide +kernel
theorem dX6_firstOther_19 : decode cX6_firstOther 19 = .ok (.getfield 75, 3) := by decide +kernel
theorem dX6_firstOther_22 : decode cX6_firstOther 22 = .ok (.bipush 40, 2) := by decide +kernel
theorem dX6_firstOther_24 : decode cX6_firstOther 24 = .ok (.iload_n 1, 1) := by decide +kernel
theorem dX6_firstOther_25 : decode cX6_firstOther 25 = .ok (.imul, 1) := by decide +kernel
theorem dX6_firstOther_26 : decode cX6_firstOther 26 = .ok (.iload_n 3, 1) := by decide +kernel
theorem dX6_firstOther_27 : decode cX6_firstOther 27 = .ok (.iadd, 1) := by decide +kernel
theorem dX6_firstOther_28 : decode cX6_firstOther 28 = .ok (.iaload, 1) := by decide +kernel
theorem dX6_firstOther_29 : decode cX6_firstOther 29 = .ok (.if_icmp .eq 5, 3) := by decide +kernel
theorem dX6_firstOther_32 : decode cX6_firstOther 32 = .ok (.iload_n 3, 1) := by decide +kernel
theorem dX6_firstOther_33 : decode cX6_firstOther 33 = .ok (.ireturn, 1) := by decide +kernel
theorem dX6_firstOther_34 : decode cX6_firstOther 34 = .ok (.iinc 3 1, 3) := by decide +kernel
theorem dX6_firstOther_37 : decode cX6_firstOther 37 = .ok (.goto (-35), 3) := by decide +kernel
theorem dX6_firstOther_40 : decode cX6_firstOther 40 = .ok (.iconst (-1), 1) := by decide +kernel
theorem dX6_firstOther_41 : decode cX6_firstOther 41 = .ok (.ireturn, 1) := by decide +kernel
theorem dX6_tells_0 : decode cX6_tells 0 = .ok (.iload_n 1, 1) := by decide +kernel
theorem dX6_tells_1 : decode cX6_tells 1 = .ok (.invokestatic 306, 3) := by decide +kernel
theorem dX6_tells_4 : decode cX6_tells 4 = .ok (.ifCond .eq 23, 3) := by decide +kernel
theorem dX6_tells_7 : decode cX6_tells 7 = .ok (.aload_n 0, 1) := by decide +kernel
theorem dX6_tells_8 : decode cX6_tells 8 = .ok (.iload_n 2, 1) := by decide +kernel
theorem dX6_tells_9 : decode cX6_tells 9 = .ok (.invokevirtual 101, 3) := by decide +kernel
theorem dX6_tells_12 : decode cX6_tells 12 = .ok (.ifCond .eq 15, 3) := by decide +kernel
theorem dX6_tells_15 : decode cX6_tells 15 = .ok (.iload_n 3, 1) := by decide +kernel
theorem dX6_tells_16 : decode cX6_tells 16 = .ok (.i2l, 1) := by decide +kernel
theorem dX6_tells_17 : decode cX6_tells 17 = .ok (.lconst 0, 1) := by decide +kernel
theorem dX6_tells_18 : decode cX6_tells 18 = .ok (.ldc2_w 359, 3) := by decide +kernel
theorem dX6_tells_21 : decode cX6_tells 21 = .ok (.invokestatic 88, 3) := by decide +kernel
theorem dX6_tells_24 : decode cX6_tells 24 = .ok (.ifCond .ne 6, 3) := by decide +kernel
theorem dX6_tells_27 : decode cX6_tells 27 = .ok (.bipush (-2), 2) := by decide +kernel
theorem dX6_tells_29 : decode cX6_tells 29 = .ok (.ireturn, 1) := by decide +kernel
theorem dX6_tells_30 : decode cX6_tells 30 = .ok (.aload_n 0, 1) := by decide +kernel
theorem dX6_tells_31 : decode cX6_tells 31 = .ok (.getfield 66, 3) := by decide +kernel
theorem dX6_tells_34 : decode cX6_tells 34 = .ok (.iload_n 1, 1) := by decide +kernel
theorem dX6_tells_35 : decode cX6_tells 35 = .ok (.baload, 1) := by decide +kernel
theorem dX6_tells_36 : decode cX6_tells 36 = .ok (.ifCond .ne 6, 3) := by decide +kernel
theorem dX6_tells_39 : decode cX6_tells 39 = .ok (.bipush (-11), 2) := by decide +kernel
theorem dX6_tells_41 : decode cX6_tells 41 = .ok (.ireturn, 1) := by decide +kernel
theorem dX6_tells_42 : decode cX6_tells 42 = .ok (.aload_n 0, 1) := by decide +kernel
theorem dX6_tells_43 : decode cX6_tells 43 = .ok (.getfield 72, 3) := by decide +kernel
theorem dX6_tells_46 : decode cX6_tells 46 = .ok (.iload_n 1, 1) := by decide +kernel
theorem dX6_tells_47 : decode cX6_tells 47 = .ok (.iaload, 1) := by decide +kernel
theorem dX6_tells_48 : decode cX6_tells 48 = .ok (.bipush 12, 2) := by decide +kernel
theorem dX6_tells_50 : decode cX6_tells 50 = .ok (.if_icmp .le 6, 3) := by decide +kernel
theorem dX6_tells_53 : decode cX6_tells 53 = .ok (.bipush (-2), 2) := by decide +kernel
theorem dX6_tells_55 : decode cX6_tells 55 = .ok (.ireturn, 1) := by decide +kernel
theorem dX6_tells_56 : decode cX6_tells 56 = .ok (.iload_n 3, 1) := by decide +kernel
theorem dX6_tells_57 : decode cX6_tells 57 = .ok (.ifCond .ne 10, 3) := by decide +kernel
theorem dX6_tells_60 : decode cX6_tells 60 = .ok (.aload_n 0, 1) := by decide +kernel
theorem dX6_tells_61 : decode cX6_tells 61 = .ok (.iload_n 1, 1) := by decide +kernel
theorem dX6_tells_62 : decode cX6_tells 62 = .ok (.iload_n 2, 1) := by decide +kernel
theorem dX6_tells_63 : decode cX6_tells 63 = .ok (.invokevirtual 361, 3) := by decide +kernel
theorem dX6_tells_66 : decode cX6_tells 66 = .ok (.ireturn, 1) := by decide +kernel
theorem dX6_tells_67 : decode cX6_tells 67 = .ok (.iload_n 3, 1) := by decide +kernel
theorem dX6_tells_68 : decode cX6_tells 68 = .ok (.iconst 1, 1) := by decide +kernel
theorem dX6_tells_69 : decode cX6_tells 69 = .ok (.if_icmp .ne 8, 3) := by decide +kernel
theorem dX6_tells_72 : decode cX6_tells 72 = .ok (.bipush 6, 2) := by decide +kernel
theorem dX6_tells_74 : decode cX6_tells 74 = .ok (.goto 32, 3) := by decide +kernel
theorem dX6_tells_77 : decode cX6_tells 77 = .ok (.iload_n 3, 1) := by decide +kernel
theorem dX6_tells_78 : decode cX6_tells 78 = .ok (.iconst 2, 1) := by decide +kernel
theorem dX6_tells_79 : decode cX6_tells 79 = .ok (.if_icmp .ne 7, 3) := by decide +kernel
theorem dX6_tells_82 : decode cX6_tells 82 = .ok (.iconst 1, 1) := by decide +kernel
theorem dX6_tells_83 : decode cX6_tells 83 = .ok (.goto 23, 3) := by decide +kernel
theorem dX6_tells_86 : decode cX6_tells 86 = .ok (.iload_n 3, 1) := by decide +kernel
theorem dX6_tells_87 : decode cX6_tells 87 = .ok (.iconst 3, 1) := by decide +kernel
theorem dX6_tells_88 : decode cX6_tells 88 = .ok (.if_icmp .ne 7, 3) := by decide +kernel
theorem dX6_tells_91 : decode cX6_tells 91 = .ok (.iconst 0, 1) := by decide +kernel
theorem dX6_tells_92 : decode cX6_tells 92 = .ok (.goto 14, 3) := by decide +kernel
theorem dX6_tells_95 : decode cX6_tells 95 = .ok (.iload_n 3, 1) := by decide +kernel
theorem dX6_tells_96 : decode cX6_tells 96 = .ok (.iconst 4, 1) := by decide +kernel
theorem dX6_tells_97 : decode cX6_tells 97 = .ok (.if_icmp .ne 8, 3) := by decide +kernel
theorem dX6_tells_100 : decode cX6_tells 100 = .ok (.bipush 7, 2) := by decide +kernel
theorem dX6_tells_102 : decode cX6_tells 102 = .ok (.goto 4, 3) := by decide +kernel
theorem dX6_tells_105 : decode cX6_tells 105 = .ok (.iconst 2, 1) := by decide +kernel
theorem dX6_tells_106 : decode cX6_tells 106 = .ok (.istore 4, 2) := by decide +kernel
theorem dX6_tells_108 : decode cX6_tells 108 = .ok (.iload 4, 2) := by decide +kernel
theorem dX6_tells_110 : decode cX6_tells 110 = .ok (.bipush 7, 2) := by decide +kernel
theorem dX6_tells_112 : decode cX6_tells 112 = .ok (.if_icmp .ne 10, 3) := by decide +kernel
theorem dX6_tells_115 : decode cX6_tells 115 = .ok (.aload_n 0, 1) := by decide +kernel
theorem dX6_tells_116 : decode cX6_tells 116 = .ok (.getfield 122, 3) := by decide +kernel
theorem dX6_tells_119 : decode cX6_tells 119 = .ok (.goto 10, 3) := by decide +kernel
theorem dX6_tells_122 : decode cX6_tells 122 = .ok (.aload_n 0, 1) := by decide +kernel
theorem dX6_tells_123 : decode cX6_tells 123 = .ok (.iload_n 2, 1) := by decide +kernel
theorem dX6_tells_124 : decode cX6_tells 124 = .ok (.iload 4, 2) := by decide +kernel
theorem dX6_tells_126 : decode cX6_tells 126 = .ok (.invokevirtual 114, 3) := by decide +kernel
theorem dX6_tells_129 : decode cX6_tells 129 = .ok (.istore 5, 2) := by decide +kernel
theorem dX6_tells_131 : decode cX6_tells 131 = .ok (.iload 4, 2) := by decide +kernel
theorem dX6_tells_133 : decode cX6_tells 133 = .ok (.bipush 7, 2) := by decide +kernel
theorem dX6_tells_135 : decode cX6_tells 135 = .ok (.if_icmp .ne 12, 3) := by decide +kernel
theorem dX6_tells_138 : decode cX6_tells 138 = .ok (.aload_n 0, 1) := by decide +kernel
theorem dX6_tells_139 : decode cX6_tells 139 = .ok (.getfield 82, 3) := by decide +kernel
theorem dX6_tells_142 : decode cX6_tells 142 = .ok (.iconst 1, 1) := by decide +kernel
theorem dX6_tells_143 : decode cX6_tells 143 = .ok (.isub, 1) := by decide +kernel
theorem dX6_tells_144 : decode cX6_tells 144 = .ok (.goto 19, 3) := by decide +kernel
theorem dX6_tells_147 : decode cX6_tells 147 = .ok (.iload 4, 2) := by decide +kernel
theorem dX6_tells_149 : decode cX6_tells 149 = .ok (.bipush 6, 2) := by decide +kernel
theorem dX6_tells_151 : decode cX6_tells 151 = .ok (.if_icmp .ne 7, 3) := by decide +kernel
theorem dX6_tells_154 : decode cX6_tells 154 = .ok (.iconst 5, 1) := by decide +kernel
theorem dX6_tells_155 : decode cX6_tells 155 = .ok (.goto 8, 3) := by decide +kernel
theorem dX6_tells_158 : decode cX6_tells 158 = .ok (.iload 4, 2) := by decide +kernel
theorem dX6_tells_160 : decode cX6_tells 160 = .ok (.invokestatic 110, 3) := by decide +kernel
theorem dX6_tells_163 : decode cX6_tells 163 = .ok (.istore 6, 2) := by decide +kernel
theorem dX6_tells_165 : decode cX6_tells 165 = .ok (.iconst 0, 1) := by decide +kernel
theorem dX6_tells_166 : decode cX6_tells 166 = .ok (.istore 7, 2) := by decide +kernel
theorem dX6_tells_168 : decode cX6_tells 168 = .ok (.iconst 0, 1) := by decide +kernel
theorem dX6_tells_169 : decode cX6_tells 169 = .ok (.istore 8, 2) := by decide +kernel
theorem dX6_tells_171 : decode cX6_tells 171 = .ok (.iconst (-1), 1) := by decide +kernel
theorem dX6_tells_172 : decode cX6_tells 172 = .ok (.istore 9, 2) := by decide +kernel
theorem dX6_tells_174 : decode cX6_tells 174 = .ok (.iload 6, 2) := by decide +kernel
theorem dX6_tells_176 : decode cX6_tells 176 = .ok (.istore 10, 2) := by decide +kernel
theorem dX6_tells_178 : decode cX6_tells 178 = .ok (.iload 10, 2) := by decide +kernel
theorem dX6_tells_180 : decode cX6_tells 180 = .ok (.iload 4, 2) := by decide +kernel
theorem dX6_tells_182 : decode cX6_tells 182 = .ok (.ifCond .ne 7, 3) := by decide +kernel
theorem dX6_tells_185 : decode cX6_tells 185 = .ok (.iconst 1, 1) := by decide +kernel
theorem dX6_tells_186 : decode cX6_tells 186 = .ok (.goto 4, 3) := by decide +kernel
theorem dX6_tells_189 : decode cX6_tells 189 = .ok (.iconst 0, 1) := by decide +kernel
theorem dX6_tells_190 : decode cX6_tells 190 = .ok (.if_icmp .lt 54, 3) := by decide +kernel
theorem dX6_tells_193 : decode cX6_tells 193 = .ok (.aload_n 0, 1) := by decide +kernel
theorem dX6_tells_194 : decode cX6_tells 194 = .ok (.iload 4, 2) := by decide +kernel
theorem dX6_tells_196 : decode cX6_tells 196 = .ok (.iload_n 2, 1) := by decide +kernel
theorem dX6_tells_197 : decode cX6_tells 197 = .ok (.iload 10, 2) := by decide +kernel
theorem dX6_tells_199 : decode cX6_tells 199 = .ok (.invokevirtual 118, 3) := by decide +kernel
theorem dX6_tells_202 : decode cX6_tells 202 = .ok (.aload_n 0, 1) := by decide +kernel
theorem dX6_tells_203 : decode cX6_tells 203 = .ok (.iload_n 1, 1) := by decide +kernel
theorem dX6_tells_204 : decode cX6_tells 204 = .ok (.iload_n 2, 1) := by decide +kernel
theorem dX6_tells_205 : decode cX6_tells 205 = .ok (.invokevirtual 361, 3) := by decide +kernel
theorem dX6_tells_208 : decode cX6_tells 208 = .ok (.iconst (-1), 1) := by decide +kernel
theorem dX6_tells_209 : decode cX6_tells 209 = .ok (.if_icmp .ne 29, 3) := by decide +kernel
theorem dX6_tells_212 : decode cX6_tells 212 = .ok (.iload 7, 2) := by decide +kernel
theorem dX6_tells_214 : decode cX6_tells 214 = .ok (.iload 4, 2) := by decide +kernel
theorem dX6_tells_216 : decode cX6_tells 216 = .ok (.iconst 2, 1) := by decide +kernel
theorem dX6_tells_217 : decode cX6_tells 217 = .ok (.if_icmp .ne 7, 3) := by decide +kernel
theorem dX6_tells_220 : decode cX6_tells 220 = .ok (.iconst 0, 1) := by decide +kernel
theorem dX6_tells_221 : decode cX6_tells 221 = .ok (.goto 7, 3) := by decide +kernel
theorem dX6_tells_224 : decode cX6_tells 224 = .ok (.iconst 1, 1) := by decide +kernel
theorem dX6_tells_225 : decode cX6_tells 225 = .ok (.iload 10, 2) := by decide +kernel
theorem dX6_tells_227 : decode cX6_tells 227 = .ok (.ishl, 1) := by decide +kernel
theorem dX6_tells_228 : decode cX6_tells 228 = .ok (.ior, 1) := by decide +kernel
theorem dX6_tells_229 : decode cX6_tells 229 = .ok (.istore 7, 2) := by decide +kernel
theorem dX6_tells_231 : decode cX6_tells 231 = .ok (.iinc 8 1, 3) := by decide +kernel
theorem dX6_tells_234 : decode cX6_tells 234 = .ok (.iload 10, 2) := by decide +kernel
theorem dX6_tells_236 : decode cX6_tells 236 = .ok (.istore 9, 2) := by decide +kernel
theorem dX6_tells_238 : decode cX6_tells 238 = .ok (.iinc 10 (-1), 3) := by decide +kernel
theorem dX6_tells_241 : decode cX6_tells 241 = .ok (.goto (-63), 3) := by decide +kernel
theorem dX6_tells_244 : decode cX6_tells 244 = .ok (.aload_n 0, 1) := by decide +kernel
theorem dX6_tells_245 : decode cX6_tells 245 = .ok (.iload 4, 2) := by decide +kernel
theorem dX6_tells_247 : decode cX6_tells 247 = .ok (.iload_n 2, 1) := by decide +kernel
theorem dX6_tells_248 : decode cX6_tells 248 = .ok (.iload 5, 2) := by decide +kernel
theorem dX6_tells_250 : decode cX6_tells 250 = .ok (.invokevirtual 118, 3) := by decide +kernel
theorem dX6_tells_253 : decode cX6_tells 253 = .ok (.iload_n 3, 1) := by decide +kernel
theorem dX6_tells_254 : decode cX6_tells 254 = .ok (.iconst 5, 1) := by decide +kernel
theorem dX6_tells_255 : decode cX6_tells 255 = .ok (.if_icmp .ne 8, 3) := by decide +kernel
theorem dX6_tells_258 : decode cX6_tells 258 = .ok (.iload 8, 2) := by decide +kernel
theorem dX6_tells_260 : decode cX6_tells 260 = .ok (.goto 16, 3) := by decide +kernel
theorem dX6_tells_263 : decode cX6_tells 263 = .ok (.iload_n 3, 1) := by decide +kernel
theorem dX6_tells_264 : decode cX6_tells 264 = .ok (.bipush 6, 2) := by decide +kernel
theorem dX6_tells_266 : decode cX6_tells 266 = .ok (.if_icmp .ne 8, 3) := by decide +kernel
theorem dX6_tells_269 : decode cX6_tells 269 = .ok (.iload 9, 2) := by decide +kernel
theorem dX6_tells_271 : decode cX6_tells 271 = .ok (.goto 5, 3) := by decide +kernel
theorem dX6_tells_274 : decode cX6_tells 274 = .ok (.iload 7, 2) := by decide +kernel
theorem dX6_tells_276 : decode cX6_tells 276 = .ok (.ireturn, 1) := by decide +kernel
theorem dX6_film_0 : decode cX6_film 0 = .ok (.iload_n 1, 1) := by decide +kernel
theorem dX6_film_1 : decode cX6_film 1 = .ok (.invokestatic 306, 3) := by decide +kernel
theorem dX6_film_4 : decode cX6_film 4 = .ok (.ifCond .eq 23, 3) := by decide +kernel
theorem dX6_film_7 : decode cX6_film 7 = .ok (.aload_n 0, 1) := by decide +kernel
theorem dX6_film_8 : decode cX6_film 8 = .ok (.iload_n 2, 1) := by decide +kernel
theorem dX6_film_9 : decode cX6_film 9 = .ok (.invokevirtual 101, 3) := by decide +kernel
theorem dX6_film_12 : decode cX6_film 12 = .ok (.ifCond .eq 15, 3) := by decide +kernel
theorem dX6_film_15 : decode cX6_film 15 = .ok (.iload_n 3, 1) := by decide +kernel
theorem dX6_film_16 : decode cX6_film 16 = .ok (.i2l, 1) := by decide +kernel
theorem dX6_film_17 : decode cX6_film 17 = .ok (.lconst 0, 1) := by decide +kernel
theorem dX6_film_18 : decode cX6_film 18 = .ok (.ldc2_w 364, 3) := by decide +kernel
theorem dX6_film_21 : decode cX6_film 21 = .ok (.invokestatic 88, 3) := by decide +kernel
theorem dX6_film_24 : decode cX6_film 24 = .ok (.ifCond .ne 6, 3) := by decide +kernel
theorem dX6_film_27 : decode cX6_film 27 = .ok (.bipush (-2), 2) := by decide +kernel
theorem dX6_film_29 : decode cX6_film 29 = .ok (.ireturn, 1) := by decide +kernel
theorem dX6_film_30 : decode cX6_film 30 = .ok (.aload_n 0, 1) := by decide +kernel
theorem dX6_film_31 : decode cX6_film 31 = .ok (.iload_n 1, 1) := by decide +kernel
theorem dX6_film_32 : decode cX6_film 32 = .ok (.iconst 1, 1) := by decide +kernel
theorem dX6_film_33 : decode cX6_film 33 = .ok (.iload_n 3, 1) := by decide +kernel
theorem dX6_film_34 : decode cX6_film 34 = .ok (.invokevirtual 366, 3) := by decide +kernel
theorem dX6_film_37 : decode cX6_film 37 = .ok (.pop, 1) := by decide +kernel
theorem dX6_film_38 : decode cX6_film 38 = .ok (.iconst 0, 1) := by decide +kernel
theorem dX6_film_39 : decode cX6_film 39 = .ok (.istore 4, 2) := by decide +kernel
theorem dX6_film_41 : decode cX6_film 41 = .ok (.iload 4, 2) := by decide +kernel
theorem dX6_film_43 : decode cX6_film 43 = .ok (.iload_n 3, 1) := by decide +kernel
theorem dX6_film_44 : decode cX6_film 44 = .ok (.if_icmp .ge 28, 3) := by decide +kernel
theorem dX6_film_47 : decode cX6_film 47 = .ok (.aload_n 0, 1) := by decide +kernel
theorem dX6_film_48 : decode cX6_film 48 = .ok (.getfield 75, 3) := by decide +kernel
theorem dX6_film_51 : decode cX6_film 51 = .ok (.bipush 40, 2) := by decide +kernel
theorem dX6_film_53 : decode cX6_film 53 = .ok (.iload_n 1, 1) := by decide +kernel
theorem dX6_film_54 : decode cX6_film 54 = .ok (.imul, 1) := by decide +kernel
theorem dX6_film_55 : decode cX6_film 55 = .ok (.iload 4, 2) := by decide +kernel
theorem dX6_film_57 : decode cX6_film 57 = .ok (.iadd, 1) := by decide +kernel
theorem dX6_film_58 : decode cX6_film 58 = .ok (.aload_n 0, 1) := by decide +kernel
theorem dX6_film_59 : decode cX6_film 59 = .ok (.iload_n 2, 1) := by decide +kernel
theorem dX6_film_60 : decode cX6_film 60 = .ok (.iload 4, 2) := by decide +kernel
theorem dX6_film_62 : decode cX6_film 62 = .ok (.invokevirtual 144, 3) := by decide +kernel
theorem dX6_film_65 : decode cX6_film 65 = .ok (.iastore, 1) := by decide +kernel
theorem dX6_film_66 : decode cX6_film 66 = .ok (.iinc 4 1, 3) := by decide +kernel
theorem dX6_film_69 : decode cX6_film 69 = .ok (.goto (-28), 3) := by decide +kernel
theorem dX6_film_72 : decode cX6_film 72 = .ok (.iload_n 3, 1) := by decide +kernel
theorem dX6_film_73 : decode cX6_film 73 = .ok (.ireturn, 1) := by decide +kernel
theorem dX6_joyDrawn_0 : decode cX6_joyDrawn 0 = .ok (.iload_n 1, 1) := by decide +kernel
theorem dX6_joyDrawn_1 : decode cX6_joyDrawn 1 = .ok (.istore_n 2, 1) := by decide +kernel
theorem dX6_joyDrawn_2 : decode cX6_joyDrawn 2 = .ok (.iconst 0, 1) := by decide +kernel
theorem dX6_joyDrawn_3 : decode cX6_joyDrawn 3 = .ok (.istore_n 3, 1) := by decide +kernel
theorem dX6_joyDrawn_4 : decode cX6_joyDrawn 4 = .ok (.iload_n 3, 1) := by decide +kernel
theorem dX6_joyDrawn_5 : decode cX6_joyDrawn 5 = .ok (.aload_n 0, 1) := by decide +kernel
theorem dX6_joyDrawn_6 : decode cX6_joyDrawn 6 = .ok (.getfield 85, 3) := by decide +kernel
theorem dX6_joyDrawn_9 : decode cX6_joyDrawn 9 = .ok (.if_icmp .ge 52, 3) := by decide +kernel
theorem dX6_joyDrawn_12 : decode cX6_joyDrawn 12 = .ok (.aload_n 0, 1) := by decide +kernel
theorem dX6_joyDrawn_13 : decode cX6_joyDrawn 13 = .ok (.getfield 54, 3) := by decide +kernel
theorem dX6_joyDrawn_16 : decode cX6_joyDrawn 16 = .ok (.iload_n 3, 1) := by decide +kernel
theorem dX6_joyDrawn_17 : decode cX6_joyDrawn 17 = .ok (.aload_n 0, 1) := by decide +kernel
theorem dX6_joyDrawn_18 : decode cX6_joyDrawn 18 = .ok (.getfield 29, 3) := by decide +kernel
theorem dX6_joyDrawn_21 : decode cX6_joyDrawn 21 = .ok (.iconst 3, 1) := by decide +kernel
theorem dX6_joyDrawn_22 : decode cX6_joyDrawn 22 = .ok (.iload_n 3, 1) := by decide +kernel
theorem dX6_joyDrawn_23 : decode cX6_joyDrawn 23 = .ok (.imul, 1) := by decide +kernel
theorem dX6_joyDrawn_24 : decode cX6_joyDrawn 24 = .ok (.iconst 1, 1) := by decide +kernel
theorem dX6_joyDrawn_25 : decode cX6_joyDrawn 25 = .ok (.iadd, 1) := by decide +kernel
theorem dX6_joyDrawn_26 : decode cX6_joyDrawn 26 = .ok (.iaload, 1) := by decide +kernel
theorem dX6_joyDrawn_27 : decode cX6_joyDrawn 27 = .ok (.iastore, 1) := by decide +kernel
theorem dX6_joyDrawn_28 : decode cX6_joyDrawn 28 = .ok (.iload_n 2, 1) := by decide +kernel
theorem dX6_joyDrawn_29 : decode cX6_joyDrawn 29 = .ok (.ldc_w 369, 3) := by decide +kernel
theorem dX6_joyDrawn_32 : decode cX6_joyDrawn 32 = .ok (.imul, 1) := by decide +kernel
theorem dX6_joyDrawn_33 : decode cX6_joyDrawn 33 = .ok (.sipush 12345, 3) := by decide +kernel
theorem dX6_joyDrawn_36 : decode cX6_joyDrawn 36 = .ok (.iadd, 1) := by decide +kernel
theorem dX6_joyDrawn_37 : decode cX6_joyDrawn 37 = .ok (.istore_n 2, 1) := by decide +kernel
theorem dX6_joyDrawn_38 : decode cX6_joyDrawn 38 = .ok (.aload_n 0, 1) := by decide +kernel
theorem dX6_joyDrawn_39 : decode cX6_joyDrawn 39 = .ok (.getfield 29, 3) := by decide +kernel
theorem dX6_joyDrawn_42 : decode cX6_joyDrawn 42 = .ok (.iconst 3, 1) := by decide +kernel
theorem dX6_joyDrawn_43 : decode cX6_joyDrawn 43 = .ok (.iload_n 3, 1) := by decide +kernel
theorem dX6_joyDrawn_44 : decode cX6_joyDrawn 44 = .ok (.imul, 1) := by decide +kernel
theorem dX6_joyDrawn_45 : decode cX6_joyDrawn 45 = .ok (.iconst 1, 1) := by decide +kernel
theorem dX6_joyDrawn_46 : decode cX6_joyDrawn 46 = .ok (.iadd, 1) := by decide +kernel
theorem dX6_joyDrawn_47 : decode cX6_joyDrawn 47 = .ok (.iload_n 2, 1) := by decide +kernel
theorem dX6_joyDrawn_48 : decode cX6_joyDrawn 48 = .ok (.bipush 9, 2) := by decide +kernel
theorem dX6_joyDrawn_50 : decode cX6_joyDrawn 50 = .ok (.iushr, 1) := by decide +kernel
theorem dX6_joyDrawn_51 : decode cX6_joyDrawn 51 = .ok (.bipush 100, 2) := by decide +kernel
theorem dX6_joyDrawn_53 : decode cX6_joyDrawn 53 = .ok (.irem, 1) := by decide +kernel
theorem dX6_joyDrawn_54 : decode cX6_joyDrawn 54 = .ok (.iastore, 1) := by decide +kernel
theorem dX6_joyDrawn_55 : decode cX6_joyDrawn 55 = .ok (.iinc 3 1, 3) := by decide +kernel
theorem dX6_joyDrawn_58 : decode cX6_joyDrawn 58 = .ok (.goto (-54), 3) := by decide +kernel
theorem dX6_joyDrawn_61 : decode cX6_joyDrawn 61 = .ok (.aload_n 0, 1) := by decide +kernel
theorem dX6_joyDrawn_62 : decode cX6_joyDrawn 62 = .ok (.invokevirtual 337, 3) := by decide +kernel
theorem dX6_joyDrawn_65 : decode cX6_joyDrawn 65 = .ok (.iconst 0, 1) := by decide +kernel
theorem dX6_joyDrawn_66 : decode cX6_joyDrawn 66 = .ok (.istore_n 3, 1) := by decide +kernel
theorem dX6_joyDrawn_67 : decode cX6_joyDrawn 67 = .ok (.iload_n 3, 1) := by decide +kernel
theorem dX6_joyDrawn_68 : decode cX6_joyDrawn 68 = .ok (.aload_n 0, 1) := by decide +kernel
theorem dX6_joyDrawn_69 : decode cX6_joyDrawn 69 = .ok (.getfield 85, 3) := by decide +kernel
theorem dX6_joyDrawn_72 : decode cX6_joyDrawn 72 = .ok (.if_icmp .ge 25, 3) := by decide +kernel
theorem dX6_joyDrawn_75 : decode cX6_joyDrawn 75 = .ok (.aload_n 0, 1) := by decide +kernel
theorem dX6_joyDrawn_76 : decode cX6_joyDrawn 76 = .ok (.getfield 29, 3) := by decide +kernel
theorem dX6_joyDrawn_79 : decode cX6_joyDrawn 79 = .ok (.iconst 3, 1) := by decide +kernel
theorem dX6_joyDrawn_80 : decode cX6_joyDrawn 80 = .ok (.iload_n 3, 1) := by decide +kernel
theorem dX6_joyDrawn_81 : decode cX6_joyDrawn 81 = .ok (.imul, 1) := by decide +kernel
theorem dX6_joyDrawn_82 : decode cX6_joyDrawn 82 = .ok (.iconst 1, 1) := by decide +kernel
theorem dX6_joyDrawn_83 : decode cX6_joyDrawn 83 = .ok (.iadd, 1) := by decide +kernel
theorem dX6_joyDrawn_84 : decode cX6_joyDrawn 84 = .ok (.aload_n 0, 1) := by decide +kernel
theorem dX6_joyDrawn_85 : decode cX6_joyDrawn 85 = .ok (.getfield 54, 3) := by decide +kernel
theorem dX6_joyDrawn_88 : decode cX6_joyDrawn 88 = .ok (.iload_n 3, 1) := by decide +kernel
theorem dX6_joyDrawn_89 : decode cX6_joyDrawn 89 = .ok (.iaload, 1) := by decide +kernel
theorem dX6_joyDrawn_90 : decode cX6_joyDrawn 90 = .ok (.iastore, 1) := by decide +kernel
theorem dX6_joyDrawn_91 : decode cX6_joyDrawn 91 = .ok (.iinc 3 1, 3) := by decide +kernel
theorem dX6_joyDrawn_94 : decode cX6_joyDrawn 94 = .ok (.goto (-27), 3) := by decide +kernel
theorem dX6_joyDrawn_97 : decode cX6_joyDrawn 97 = .ok (.aload_n 0, 1) := by decide +kernel
theorem dX6_joyDrawn_98 : decode cX6_joyDrawn 98 = .ok (.getfield 324, 3) := by decide +kernel
theorem dX6_joyDrawn_101 : decode cX6_joyDrawn 101 = .ok (.ireturn, 1) := by decide +kernel
theorem dX6_drawn_0 : decode cX6_drawn 0 = .ok (.aload_n 0, 1) := by decide +kernel
theorem dX6_drawn_1 : decode cX6_drawn 1 = .ok (.iload_n 1, 1) := by decide +kernel
theorem dX6_drawn_2 : decode cX6_drawn 2 = .ok (.invokevirtual 370, 3) := by decide +kernel
theorem dX6_drawn_5 : decode cX6_drawn 5 = .ok (.ireturn, 1) := by decide +kernel
theorem dX6_chance_0 : decode cX6_chance 0 = .ok (.iload_n 2, 1) := by decide +kernel
theorem dX6_chance_1 : decode cX6_chance 1 = .ok (.i2l, 1) := by decide +kernel
theorem dX6_chance_2 : decode cX6_chance 2 = .ok (.lconst 1, 1) := by decide +kernel
theorem dX6_chance_3 : decode cX6_chance 3 = .ok (.ldc2_w 373, 3) := by decide +kernel
theorem dX6_chance_6 : decode cX6_chance 6 = .ok (.invokestatic 88, 3) := by decide +kernel
theorem dX6_chance_9 : decode cX6_chance 9 = .ok (.ifCond .eq 26, 3) := by decide +kernel
theorem dX6_chance_12 : decode cX6_chance 12 = .ok (.iload_n 3, 1) := by decide +kernel
theorem dX6_chance_13 : decode cX6_chance 13 = .ok (.i2l, 1) := by decide +kernel
theorem dX6_chance_14 : decode cX6_chance 14 = .ok (.lconst 0, 1) := by decide +kernel
theorem dX6_chance_15 : decode cX6_chance 15 = .ok (.ldc2_w 127, 3) := by decide +kernel
theorem dX6_chance_18 : decode cX6_chance 18 = .ok (.invokestatic 88, 3) := by decide +kernel
theorem dX6_chance_21 : decode cX6_chance 21 = .ok (.ifCond .eq 14, 3) := by decide +kernel
theorem dX6_chance_24 : decode cX6_chance 24 = .ok (.iload 4, 2) := by decide +kernel
theorem dX6_chance_26 : decode cX6_chance 26 = .ok (.i2l, 1) := by decide +kernel
theorem dX6_chance_27 : decode cX6_chance 27 = .ok (.lconst 0, 1) := by decide +kernel
theorem dX6_chance_28 : decode cX6_chance 28 = .ok (.lconst 1, 1) := by decide +kernel
theorem dX6_chance_29 : decode cX6_chance 29 = .ok (.invokestatic 88, 3) := by decide +kernel
theorem dX6_chance_32 : decode cX6_chance 32 = .ok (.ifCond .ne 7, 3) := by decide +kernel
theorem dX6_chance_35 : decode cX6_chance 35 = .ok (.ldc2_w 375, 3) := by decide +kernel
theorem dX6_chance_38 : decode cX6_chance 38 = .ok (.lreturn, 1) := by decide +kernel
theorem dX6_chance_39 : decode cX6_chance 39 = .ok (.lconst 0, 1) := by decide +kernel
theorem dX6_chance_40 : decode cX6_chance 40 = .ok (.lstore 5, 2) := by decide +kernel
theorem dX6_chance_42 : decode cX6_chance 42 = .ok (.iconst 0, 1) := by decide +kernel
theorem dX6_chance_43 : decode cX6_chance 43 = .ok (.istore 7, 2) := by decide +kernel
theorem dX6_chance_45 : decode cX6_chance 45 = .ok (.iload 7, 2) := by decide +kernel
theorem dX6_chance_47 : decode cX6_chance 47 = .ok (.iload_n 2, 1) := by decide +kernel
theorem dX6_chance_48 : decode cX6_chance 48 = .ok (.if_icmp .ge 31, 3) := by decide +kernel
theorem dX6_chance_51 : decode cX6_chance 51 = .ok (.lload 5, 2) := by decide +kernel
theorem dX6_chance_53 : decode cX6_chance 53 = .ok (.aload_n 0, 1) := by decide +kernel
theorem dX6_chance_54 : decode cX6_chance 54 = .ok (.iload_n 1, 1) := by decide +kernel
theorem dX6_chance_55 : decode cX6_chance 55 = .ok (.iload 7, 2) := by decide +kernel
theorem dX6_chance_57 : decode cX6_chance 57 = .ok (.iadd, 1) := by decide +kernel
theorem dX6_chance_58 : decode cX6_chance 58 = .ok (.invokevirtual 370, 3) := by decide +kernel
theorem dX6_chance_61 : decode cX6_chance 61 = .ok (.iload_n 3, 1) := by decide +kernel
theorem dX6_chance_62 : decode cX6_chance 62 = .ok (.if_icmp .lt 7, 3) := by decide +kernel
theorem dX6_chance_65 : decode cX6_chance 65 = .ok (.lconst 1, 1) := by decide +kernel
theorem dX6_chance_66 : decode cX6_chance 66 = .ok (.goto 4, 3) := by decide +kernel
theorem dX6_chance_69 : decode cX6_chance 69 = .ok (.lconst 0, 1) := by decide +kernel
theorem dX6_chance_70 : decode cX6_chance 70 = .ok (.ladd, 1) := by decide +kernel
theorem dX6_chance_71 : decode cX6_chance 71 = .ok (.lstore 5, 2) := by decide +kernel
theorem dX6_chance_73 : decode cX6_chance 73 = .ok (.iinc 7 1, 3) := by decide +kernel
theorem dX6_chance_76 : decode cX6_chance 76 = .ok (.goto (-31), 3) := by decide +kernel
theorem dX6_chance_79 : decode cX6_chance 79 = .ok (.lload 5, 2) := by decide +kernel
theorem dX6_chance_81 : decode cX6_chance 81 = .ok (.lstore 7, 2) := by decide +kernel
theorem dX6_chance_83 : decode cX6_chance 83 = .ok (.iload_n 2, 1) := by decide +kernel
theorem dX6_chance_84 : decode cX6_chance 84 = .ok (.i2l, 1) := by decide +kernel
theorem dX6_chance_85 : decode cX6_chance 85 = .ok (.lstore 9, 2) := by decide +kernel
theorem dX6_chance_87 : decode cX6_chance 87 = .ok (.lload 9, 2) := by decide +kernel
theorem dX6_chance_89 : decode cX6_chance 89 = .ok (.lconst 0, 1) := by decide +kernel
theorem dX6_chance_90 : decode cX6_chance 90 = .ok (.lcmp, 1) := by decide +kernel
theorem dX6_chance_91 : decode cX6_chance 91 = .ok (.ifCond .eq 21, 3) := by decide +kernel
theorem dX6_chance_94 : decode cX6_chance 94 = .ok (.lload 7, 2) := by decide +kernel
theorem dX6_chance_96 : decode cX6_chance 96 = .ok (.lload 9, 2) := by decide +kernel
theorem dX6_chance_98 : decode cX6_chance 98 = .ok (.lrem, 1) := by decide +kernel
theorem dX6_chance_99 : decode cX6_chance 99 = .ok (.lstore 11, 2) := by decide +kernel
theorem dX6_chance_101 : decode cX6_chance 101 = .ok (.lload 9, 2) := by decide +kernel
theorem dX6_chance_103 : decode cX6_chance 103 = .ok (.lstore 7, 2) := by decide +kernel
theorem dX6_chance_105 : decode cX6_chance 105 = .ok (.lload 11, 2) := by decide +kernel
theorem dX6_chance_107 : decode cX6_chance 107 = .ok (.lstore 9, 2) := by decide +kernel
theorem dX6_chance_109 : decode cX6_chance 109 = .ok (.goto (-22), 3) := by decide +kernel
theorem dX6_chance_112 : decode cX6_chance 112 = .ok (.iload 4, 2) := by decide +kernel
theorem dX6_chance_114 : decode cX6_chance 114 = .ok (.ifCond .ne 11, 3) := by decide +kernel
theorem dX6_chance_117 : decode cX6_chance 117 = .ok (.lload 5, 2) := by decide +kernel
theorem dX6_chance_119 : decode cX6_chance 119 = .ok (.lload 7, 2) := by decide +kernel
theorem dX6_chance_121 : decode cX6_chance 121 = .ok (.ldiv, 1) := by decide +kernel
theorem dX6_chance_122 : decode cX6_chance 122 = .ok (.goto 8, 3) := by decide +kernel
theorem dX6_chance_125 : decode cX6_chance 125 = .ok (.iload_n 2, 1) := by decide +kernel
theorem dX6_chance_126 : decode cX6_chance 126 = .ok (.i2l, 1) := by decide +kernel
theorem dX6_chance_127 : decode cX6_chance 127 = .ok (.lload 7, 2) := by decide +kernel
theorem dX6_chance_129 : decode cX6_chance 129 = .ok (.ldiv, 1) := by decide +kernel
theorem dX6_chance_130 : decode cX6_chance 130 = .ok (.lreturn, 1) := by decide +kernel
theorem dX6_image_0 : decode cX6_image 0 = .ok (.iconst 0, 1) := by decide +kernel
theorem dX6_image_1 : decode cX6_image 1 = .ok (.istore_n 1, 1) := by decide +kernel
theorem dX6_image_2 : decode cX6_image 2 = .ok (.iload_n 1, 1) := by decide +kernel
theorem dX6_image_3 : decode cX6_image 3 = .ok (.bipush 18, 2) := by decide +kernel
theorem dX6_image_5 : decode cX6_image 5 = .ok (.if_icmp .ge 21, 3) := by decide +kernel
theorem dX6_image_8 : decode cX6_image 8 = .ok (.aload_n 0, 1) := by decide +kernel
theorem dX6_image_9 : decode cX6_image 9 = .ok (.getfield 57, 3) := by decide +kernel
theorem dX6_image_12 : decode cX6_image 12 = .ok (.iload_n 1, 1) := by decide +kernel
theorem dX6_image_13 : decode cX6_image 13 = .ok (.aload_n 0, 1) := by decide +kernel
theorem dX6_image_14 : decode cX6_image 14 = .ok (.getfield 29, 3) := by decide +kernel
theorem dX6_image_17 : decode cX6_image 17 = .ok (.iload_n 1, 1) := by decide +kernel
theorem dX6_image_18 : decode cX6_image 18 = .ok (.iaload, 1) := by decide +kernel
theorem dX6_image_19 : decode cX6_image 19 = .ok (.iastore, 1) := by decide +kernel
theorem dX6_image_20 : decode cX6_image 20 = .ok (.iinc 1 1, 3) := by decide +kernel
theorem dX6_image_23 : decode cX6_image 23 = .ok (.goto (-21), 3) := by decide +kernel
theorem dX6_image_26 : decode cX6_image 26 = .ok (.iconst 0, 1) := by decide +kernel
theorem dX6_image_27 : decode cX6_image 27 = .ok (.istore_n 1, 1) := by decide +kernel
theorem dX6_image_28 : decode cX6_image 28 = .ok (.iload_n 1, 1) := by decide +kernel
theorem dX6_image_29 : decode cX6_image 29 = .ok (.bipush 10, 2) := by decide +kernel
theorem dX6_image_31 : decode cX6_image 31 = .ok (.if_icmp .ge 21, 3) := by decide +kernel
theorem dX6_image_34 : decode cX6_image 34 = .ok (.aload_n 0, 1) := by decide +kernel
theorem dX6_image_35 : decode cX6_image 35 = .ok (.getfield 60, 3) := by decide +kernel
theorem dX6_image_38 : decode cX6_image 38 = .ok (.iload_n 1, 1) := by decide +kernel
theorem dX6_image_39 : decode cX6_image 39 = .ok (.aload_n 0, 1) := by decide +kernel
theorem dX6_image_40 : decode cX6_image 40 = .ok (.getfield 32, 3) := by decide +kernel
theorem dX6_image_43 : decode cX6_image 43 = .ok (.iload_n 1, 1) := by decide +kernel
theorem dX6_image_44 : decode cX6_image 44 = .ok (.iaload, 1) := by decide +kernel
theorem dX6_image_45 : decode cX6_image 45 = .ok (.iastore, 1) := by decide +kernel
theorem dX6_image_46 : decode cX6_image 46 = .ok (.iinc 1 1, 3) := by decide +kernel
theorem dX6_image_49 : decode cX6_image 49 = .ok (.goto (-21), 3) := by decide +kernel
theorem dX6_image_52 : decode cX6_image 52 = .ok (.aload_n 0, 1) := by decide +kernel
theorem dX6_image_53 : decode cX6_image 53 = .ok (.aload_n 0, 1) := by decide +kernel
theorem dX6_image_54 : decode cX6_image 54 = .ok (.getfield 85, 3) := by decide +kernel
theorem dX6_image_57 : decode cX6_image 57 = .ok (.putfield 63, 3) := by decide +kernel
theorem dX6_image_60 : decode cX6_image 60 = .ok (.aload_n 0, 1) := by decide +kernel
theorem dX6_image_61 : decode cX6_image 61 = .ok (.aload_n 0, 1) := by decide +kernel
theorem dX6_image_62 : decode cX6_image 62 = .ok (.getfield 92, 3) := by decide +kernel
theorem dX6_image_65 : decode cX6_image 65 = .ok (.putfield 377, 3) := by decide +kernel
theorem dX6_image_68 : decode cX6_image 68 = .ok (.aload_n 0, 1) := by decide +kernel
theorem dX6_image_69 : decode cX6_image 69 = .ok (.aload_n 0, 1) := by decide +kernel
theorem dX6_image_70 : decode cX6_image 70 = .ok (.getfield 23, 3) := by decide +kernel
theorem dX6_image_73 : decode cX6_image 73 = .ok (.putfield 380, 3) := by decide +kernel
theorem dX6_image_76 : decode cX6_image 76 = .ok (.aload_n 0, 1) := by decide +kernel
theorem dX6_image_77 : decode cX6_image 77 = .ok (.aload_n 0, 1) := by decide +kernel
theorem dX6_image_78 : decode cX6_image 78 = .ok (.getfield 122, 3) := by decide +kernel
theorem dX6_image_81 : decode cX6_image 81 = .ok (.putfield 383, 3) := by decide +kernel
theorem dX6_image_84 : decode cX6_image 84 = .ok (.aload_n 0, 1) := by decide +kernel
theorem dX6_image_85 : decode cX6_image 85 = .ok (.getfield 85, 3) := by decide +kernel
theorem dX6_image_88 : decode cX6_image 88 = .ok (.ireturn, 1) := by decide +kernel
theorem dX6_back_0 : decode cX6_back 0 = .ok (.aload_n 0, 1) := by decide +kernel
theorem dX6_back_1 : decode cX6_back 1 = .ok (.getfield 63, 3) := by decide +kernel
theorem dX6_back_4 : decode cX6_back 4 = .ok (.iconst (-1), 1) := by decide +kernel
theorem dX6_back_5 : decode cX6_back 5 = .ok (.if_icmp .ne 6, 3) := by decide +kernel
theorem dX6_back_8 : decode cX6_back 8 = .ok (.bipush (-3), 2) := by decide +kernel
theorem dX6_back_10 : decode cX6_back 10 = .ok (.ireturn, 1) := by decide +kernel
theorem dX6_back_11 : decode cX6_back 11 = .ok (.iconst 0, 1) := by decide +kernel
theorem dX6_back_12 : decode cX6_back 12 = .ok (.istore_n 1, 1) := by decide +kernel
theorem dX6_back_13 : decode cX6_back 13 = .ok (.iload_n 1, 1) := by decide +kernel
theorem dX6_back_14 : decode cX6_back 14 = .ok (.bipush 18, 2) := by decide +kernel
theorem dX6_back_16 : decode cX6_back 16 = .ok (.if_icmp .ge 21, 3) := by decide +kernel
theorem dX6_back_19 : decode cX6_back 19 = .ok (.aload_n 0, 1) := by decide +kernel
theorem dX6_back_20 : decode cX6_back 20 = .ok (.getfield 29, 3) := by decide +kernel
theorem dX6_back_23 : decode cX6_back 23 = .ok (.iload_n 1, 1) := by decide +kernel
theorem dX6_back_24 : decode cX6_back 24 = .ok (.aload_n 0, 1) := by decide +kernel
theorem dX6_back_25 : decode cX6_back 25 = .ok (.getfield 57, 3) := by decide +kernel
theorem dX6_back_28 : decode cX6_back 28 = .ok (.iload_n 1, 1) := by decide +kernel
theorem dX6_back_29 : decode cX6_back 29 = .ok (.iaload, 1) := by decide +kernel
theorem dX6_back_30 : decode cX6_back 30 = .ok (.iastore, 1) := by decide +kernel
theorem dX6_back_31 : decode cX6_back 31 = .ok (.iinc 1 1, 3) := by decide +kernel
theorem dX6_back_34 : decode cX6_back 34 = .ok (.goto (-21), 3) := by decide +kernel
theorem dX6_back_37 : decode cX6_back 37 = .ok (.iconst 0, 1) := by decide +kernel
theorem dX6_back_38 : decode cX6_back 38 = .ok (.istore_n 1, 1) := by decide +kernel
theorem dX6_back_39 : decode cX6_back 39 = .ok (.iload_n 1, 1) := by decide +kernel
theorem dX6_back_40 : decode cX6_back 40 = .ok (.bipush 10, 2) := by decide +kernel
theorem dX6_back_42 : decode cX6_back 42 = .ok (.if_icmp .ge 21, 3) := by decide +kernel
theorem dX6_back_45 : decode cX6_back 45 = .ok (.aload_n 0, 1) := by decide +kernel
theorem dX6_back_46 : decode cX6_back 46 = .ok (.getfield 32, 3) := by decide +kernel
theorem dX6_back_49 : decode cX6_back 49 = .ok (.iload_n 1, 1) := by decide +kernel
theorem dX6_back_50 : decode cX6_back 50 = .ok (.aload_n 0, 1) := by decide +kernel
theorem dX6_back_51 : decode cX6_back 51 = .ok (.getfield 60, 3) := by decide +kernel
theorem dX6_back_54 : decode cX6_back 54 = .ok (.iload_n 1, 1) := by decide +kernel
theorem dX6_back_55 : decode cX6_back 55 = .ok (.iaload, 1) := by decide +kernel
theorem dX6_back_56 : decode cX6_back 56 = .ok (.iastore, 1) := by decide +kernel
theorem dX6_back_57 : decode cX6_back 57 = .ok (.iinc 1 1, 3) := by decide +kernel
theorem dX6_back_60 : decode cX6_back 60 = .ok (.goto (-21), 3) := by decide +kernel
theorem dX6_back_63 : decode cX6_back 63 = .ok (.aload_n 0, 1) := by decide +kernel
theorem dX6_back_64 : decode cX6_back 64 = .ok (.aload_n 0, 1) := by decide +kernel
theorem dX6_back_65 : decode cX6_back 65 = .ok (.getfield 63, 3) := by decide +kernel
theorem dX6_back_68 : decode cX6_back 68 = .ok (.putfield 85, 3) := by decide +kernel
theorem dX6_back_71 : decode cX6_back 71 = .ok (.aload_n 0, 1) := by decide +kernel
theorem dX6_back_72 : decode cX6_back 72 = .ok (.aload_n 0, 1) := by decide +kernel
theorem dX6_back_73 : decode cX6_back 73 = .ok (.getfield 377, 3) := by decide +kernel
theorem dX6_back_76 : decode cX6_back 76 = .ok (.putfield 92, 3) := by decide +kernel
theorem dX6_back_79 : decode cX6_back 79 = .ok (.aload_n 0, 1) := by decide +kernel
theorem dX6_back_80 : decode cX6_back 80 = .ok (.aload_n 0, 1) := by decide +kernel
theorem dX6_back_81 : decode cX6_back 81 = .ok (.getfield 380, 3) := by decide +kernel
theorem dX6_back_84 : decode cX6_back 84 = .ok (.putfield 23, 3) := by decide +kernel
theorem dX6_back_87 : decode cX6_back 87 = .ok (.aload_n 0, 1) := by decide +kernel
theorem dX6_back_88 : decode cX6_back 88 = .ok (.aload_n 0, 1) := by decide +kernel
theorem dX6_back_89 : decode cX6_back 89 = .ok (.getfield 383, 3) := by decide +kernel
theorem dX6_back_92 : decode cX6_back 92 = .ok (.putfield 122, 3) := by decide +kernel
theorem dX6_back_95 : decode cX6_back 95 = .ok (.aload_n 0, 1) := by decide +kernel
theorem dX6_back_96 : decode cX6_back 96 = .ok (.getfield 85, 3) := by decide +kernel
theorem dX6_back_99 : decode cX6_back 99 = .ok (.ireturn, 1) := by decide +kernel
theorem dX6_count_0 : decode cX6_count 0 = .ok (.iload_n 1, 1) := by decide +kernel
theorem dX6_count_1 : decode cX6_count 1 = .ok (.i2l, 1) := by decide +kernel
theorem dX6_count_2 : decode cX6_count 2 = .ok (.lconst 0, 1) := by decide +kernel
theorem dX6_count_3 : decode cX6_count 3 = .ok (.ldc2_w 104, 3) := by decide +kernel
theorem dX6_count_6 : decode cX6_count 6 = .ok (.invokestatic 88, 3) := by decide +kernel
theorem dX6_count_9 : decode cX6_count 9 = .ok (.ifCond .ne 6, 3) := by decide +kernel
theorem dX6_count_12 : decode cX6_count 12 = .ok (.bipush (-2), 2) := by decide +kernel
theorem dX6_count_14 : decode cX6_count 14 = .ok (.ireturn, 1) := by decide +kernel
theorem dX6_count_15 : decode cX6_count 15 = .ok (.iload_n 1, 1) := by decide +kernel
theorem dX6_count_16 : decode cX6_count 16 = .ok (.iconst 2, 1) := by decide +kernel
theorem dX6_count_17 : decode cX6_count 17 = .ok (.if_icmp .eq 55, 3) := by decide +kernel
theorem dX6_count_20 : decode cX6_count 20 = .ok (.iload_n 1, 1) := by decide +kernel
theorem dX6_count_21 : decode cX6_count 21 = .ok (.ifCond .ne 10, 3) := by decide +kernel
theorem dX6_count_24 : decode cX6_count 24 = .ok (.aload_n 0, 1) := by decide +kernel
theorem dX6_count_25 : decode cX6_count 25 = .ok (.getfield 85, 3) := by decide +kernel
theorem dX6_count_28 : decode cX6_count 28 = .ok (.goto 43, 3) := by decide +kernel
theorem dX6_count_31 : decode cX6_count 31 = .ok (.iload_n 1, 1) := by decide +kernel
theorem dX6_count_32 : decode cX6_count 32 = .ok (.iconst 1, 1) := by decide +kernel
theorem dX6_count_33 : decode cX6_count 33 = .ok (.if_icmp .ne 10, 3) := by decide +kernel
theorem dX6_count_36 : decode cX6_count 36 = .ok (.aload_n 0, 1) := by decide +kernel
theorem dX6_count_37 : decode cX6_count 37 = .ok (.getfield 92, 3) := by decide +kernel
theorem dX6_count_40 : decode cX6_count 40 = .ok (.goto 31, 3) := by decide +kernel
theorem dX6_count_43 : decode cX6_count 43 = .ok (.iload_n 1, 1) := by decide +kernel
theorem dX6_count_44 : decode cX6_count 44 = .ok (.iconst 3, 1) := by decide +kernel
theorem dX6_count_45 : decode cX6_count 45 = .ok (.if_icmp .ne 10, 3) := by decide +kernel
theorem dX6_count_48 : decode cX6_count 48 = .ok (.aload_n 0, 1) := by decide +kernel
theorem dX6_count_49 : decode cX6_count 49 = .ok (.getfield 82, 3) := by decide +kernel
theorem dX6_count_52 : decode cX6_count 52 = .ok (.goto 19, 3) := by decide +kernel
theorem dX6_count_55 : decode cX6_count 55 = .ok (.iload_n 1, 1) := by decide +kernel
theorem dX6_count_56 : decode cX6_count 56 = .ok (.iconst 4, 1) := by decide +kernel
theorem dX6_count_57 : decode cX6_count 57 = .ok (.if_icmp .ne 10, 3) := by decide +kernel
theorem dX6_count_60 : decode cX6_count 60 = .ok (.aload_n 0, 1) := by decide +kernel
theorem dX6_count_61 : decode cX6_count 61 = .ok (.getfield 158, 3) := by decide +kernel
theorem dX6_count_64 : decode cX6_count 64 = .ok (.goto 7, 3) := by decide +kernel
theorem dX6_count_67 : decode cX6_count 67 = .ok (.aload_n 0, 1) := by decide +kernel
theorem dX6_count_68 : decode cX6_count 68 = .ok (.getfield 122, 3) := by decide +kernel
theorem dX6_count_71 : decode cX6_count 71 = .ok (.ireturn, 1) := by decide +kernel
theorem dX6_count_72 : decode cX6_count 72 = .ok (.iconst 0, 1) := by decide +kernel
theorem dX6_count_73 : decode cX6_count 73 = .ok (.istore_n 2, 1) := by decide +kernel
theorem dX6_count_74 : decode cX6_count 74 = .ok (.iconst 0, 1) := by decide +kernel
theorem dX6_count_75 : decode cX6_count 75 = .ok (.istore_n 3, 1) := by decide +kernel
theorem dX6_count_76 : decode cX6_count 76 = .ok (.iload_n 3, 1) := by decide +kernel
theorem dX6_count_77 : decode cX6_count 77 = .ok (.aload_n 0, 1) := by decide +kernel
theorem dX6_count_78 : decode cX6_count 78 = .ok (.getfield 85, 3) := by decide +kernel
theorem dX6_count_81 : decode cX6_count 81 = .ok (.if_icmp .ge 22, 3) := by decide +kernel
theorem dX6_count_84 : decode cX6_count 84 = .ok (.iload_n 2, 1) := by decide +kernel
theorem dX6_count_85 : decode cX6_count 85 = .ok (.aload_n 0, 1) := by decide +kernel
theorem dX6_count_86 : decode cX6_count 86 = .ok (.getfield 29, 3) := by decide +kernel
theorem dX6_count_89 : decode cX6_count 89 = .ok (.iconst 3, 1) := by decide +kernel
theorem dX6_count_90 : decode cX6_count 90 = .ok (.iload_n 3, 1) := by decide +kernel
theorem dX6_count_91 : decode cX6_count 91 = .ok (.imul, 1) := by decide +kernel
theorem dX6_count_92 : decode cX6_count 92 = .ok (.iconst 1, 1) := by decide +kernel
theorem dX6_count_93 : decode cX6_count 93 = .ok (.iadd, 1) := by decide +kernel
theorem dX6_count_94 : decode cX6_count 94 = .ok (.iaload, 1) := by decide +kernel
theorem dX6_count_95 : decode cX6_count 95 = .ok (.iadd, 1) := by decide +kernel
theorem dX6_count_96 : decode cX6_count 96 = .ok (.istore_n 2, 1) := by decide +kernel
theorem dX6_count_97 : decode cX6_count 97 = .ok (.iinc 3 1, 3) := by decide +kernel
theorem dX6_count_100 : decode cX6_count 100 = .ok (.goto (-24), 3) := by decide +kernel
theorem dX6_count_103 : decode cX6_count 103 = .ok (.iload_n 2, 1) := by decide +kernel
theorem dX6_count_104 : decode cX6_count 104 = .ok (.ireturn, 1) := by decide +kernel
theorem dX6_isSheet_0 : decode cX6_isSheet 0 = .ok (.iload_n 0, 1) := by decide +kernel
theorem dX6_isSheet_1 : decode cX6_isSheet 1 = .ok (.i2l, 1) := by decide +kernel
theorem dX6_isSheet_2 : decode cX6_isSheet 2 = .ok (.lconst 0, 1) := by decide +kernel
theorem dX6_isSheet_3 : decode cX6_isSheet 3 = .ok (.ldc2_w 386, 3) := by decide +kernel
theorem dX6_isSheet_6 : decode cX6_isSheet 6 = .ok (.invokestatic 88, 3) := by decide +kernel
theorem dX6_isSheet_9 : decode cX6_isSheet 9 = .ok (.ireturn, 1) := by decide +kernel
theorem dX6_sheet_0 : decode cX6_sheet 0 = .ok (.iload_n 1, 1) := by decide +kernel
theorem dX6_sheet_1 : decode cX6_sheet 1 = .ok (.invokestatic 306, 3) := by decide +kernel
theorem dX6_sheet_4 : decode cX6_sheet 4 = .ok (.ifCond .eq 27, 3) := by decide +kernel
theorem dX6_sheet_7 : decode cX6_sheet 7 = .ok (.iload_n 2, 1) := by decide +kernel
theorem dX6_sheet_8 : decode cX6_sheet 8 = .ok (.i2l, 1) := by decide +kernel
theorem dX6_sheet_9 : decode cX6_sheet 9 = .ok (.ldc2_w 388, 3) := by decide +kernel
theorem dX6_sheet_12 : decode cX6_sheet 12 = .ok (.ldc2_w 280, 3) := by decide +kernel
theorem dX6_sheet_15 : decode cX6_sheet 15 = .ok (.invokestatic 88, 3) := by decide +kernel
theorem dX6_sheet_18 : decode cX6_sheet 18 = .ok (.ifCond .eq 13, 3) := by decide +kernel
theorem dX6_sheet_21 : decode cX6_sheet 21 = .ok (.iload_n 2, 1) := by decide +kernel
theorem dX6_sheet_22 : decode cX6_sheet 22 = .ok (.ifCond .lt 12, 3) := by decide +kernel
theorem dX6_sheet_25 : decode cX6_sheet 25 = .ok (.iload_n 3, 1) := by decide +kernel
theorem dX6_sheet_26 : decode cX6_sheet 26 = .ok (.bipush 40, 2) := by decide +kernel
theorem dX6_sheet_28 : decode cX6_sheet 28 = .ok (.if_icmp .le 6, 3) := by decide +kernel
theorem dX6_sheet_31 : decode cX6_sheet 31 = .ok (.bipush (-2), 2) := by decide +kernel
theorem dX6_sheet_33 : decode cX6_sheet 33 = .ok (.ireturn, 1) := by decide +kernel
theorem dX6_sheet_34 : decode cX6_sheet 34 = .ok (.iload_n 2, 1) := by decide +kernel
theorem dX6_sheet_35 : decode cX6_sheet 35 = .ok (.ifCond .lt 10, 3) := by decide +kernel
theorem dX6_sheet_38 : decode cX6_sheet 38 = .ok (.iload_n 3, 1) := by decide +kernel
theorem dX6_sheet_39 : decode cX6_sheet 39 = .ok (.ifCond .ge 6, 3) := by decide +kernel
theorem dX6_sheet_42 : decode cX6_sheet 42 = .ok (.bipush (-14), 2) := by decide +kernel
theorem dX6_sheet_44 : decode cX6_sheet 44 = .ok (.ireturn, 1) := by decide +kernel
theorem dX6_sheet_45 : decode cX6_sheet 45 = .ok (.aload_n 0, 1) := by decide +kernel
theorem dX6_sheet_46 : decode cX6_sheet 46 = .ok (.getfield 66, 3) := by decide +kernel
theorem dX6_sheet_49 : decode cX6_sheet 49 = .ok (.iload_n 1, 1) := by decide +kernel
theorem dX6_sheet_50 : decode cX6_sheet 50 = .ok (.iload_n 2, 1) := by decide +kernel
theorem dX6_sheet_51 : decode cX6_sheet 51 = .ok (.ifCond .lt 7, 3) := by decide +kernel
theorem dX6_sheet_54 : decode cX6_sheet 54 = .ok (.iconst 1, 1) := by decide +kernel
theorem dX6_sheet_55 : decode cX6_sheet 55 = .ok (.goto 4, 3) := by decide +kernel
theorem dX6_sheet_58 : decode cX6_sheet 58 = .ok (.iconst 0, 1) := by decide +kernel
theorem dX6_sheet_59 : decode cX6_sheet 59 = .ok (.bastore, 1) := by decide +kernel
theorem dX6_sheet_60 : decode cX6_sheet 60 = .ok (.aload_n 0, 1) := by decide +kernel
theorem dX6_sheet_61 : decode cX6_sheet 61 = .ok (.getfield 69, 3) := by decide +kernel
theorem dX6_sheet_64 : decode cX6_sheet 64 = .ok (.iload_n 1, 1) := by decide +kernel
theorem dX6_sheet_65 : decode cX6_sheet 65 = .ok (.iload_n 2, 1) := by decide +kernel
theorem dX6_sheet_66 : decode cX6_sheet 66 = .ok (.iastore, 1) := by decide +kernel
theorem dX6_sheet_67 : decode cX6_sheet 67 = .ok (.aload_n 0, 1) := by decide +kernel
theorem dX6_sheet_68 : decode cX6_sheet 68 = .ok (.getfield 72, 3) := by decide +kernel
theorem dX6_sheet_71 : decode cX6_sheet 71 = .ok (.iload_n 1, 1) := by decide +kernel
theorem dX6_sheet_72 : decode cX6_sheet 72 = .ok (.iload_n 3, 1) := by decide +kernel
theorem dX6_sheet_73 : decode cX6_sheet 73 = .ok (.iastore, 1) := by decide +kernel
theorem dX6_sheet_74 : decode cX6_sheet 74 = .ok (.iconst 0, 1) := by decide +kernel
theorem dX6_sheet_75 : decode cX6_sheet 75 = .ok (.istore 4, 2) := by decide +kernel
theorem dX6_sheet_77 : decode cX6_sheet 77 = .ok (.iload 4, 2) := by decide +kernel
theorem dX6_sheet_79 : decode cX6_sheet 79 = .ok (.iload_n 3, 1) := by decide +kernel
theorem dX6_sheet_80 : decode cX6_sheet 80 = .ok (.if_icmp .ge 26, 3) := by decide +kernel
theorem dX6_sheet_83 : decode cX6_sheet 83 = .ok (.iload_n 2, 1) := by decide +kernel
theorem dX6_sheet_84 : decode cX6_sheet 84 = .ok (.ifCond .lt 22, 3) := by decide +kernel
theorem dX6_sheet_87 : decode cX6_sheet 87 = .ok (.aload_n 0, 1) := by decide +kernel
theorem dX6_sheet_88 : decode cX6_sheet 88 = .ok (.getfield 75, 3) := by decide +kernel
theorem dX6_sheet_91 : decode cX6_sheet 91 = .ok (.bipush 40, 2) := by decide +kernel
theorem dX6_sheet_93 : decode cX6_sheet 93 = .ok (.iload_n 1, 1) := by decide +kernel
theorem dX6_sheet_94 : decode cX6_sheet 94 = .ok (.imul, 1) := by decide +kernel
theorem dX6_sheet_95 : decode cX6_sheet 95 = .ok (.iload 4, 2) := by decide +kernel
theorem dX6_sheet_97 : decode cX6_sheet 97 = .ok (.iadd, 1) := by decide +kernel
theorem dX6_sheet_98 : decode cX6_sheet 98 = .ok (.iconst 0, 1) := by decide +kernel
theorem dX6_sheet_99 : decode cX6_sheet 99 = .ok (.iastore, 1) := by decide +kernel
theorem dX6_sheet_100 : decode cX6_sheet 100 = .ok (.iinc 4 1, 3) := by decide +kernel
theorem dX6_sheet_103 : decode cX6_sheet 103 = .ok (.goto (-26), 3) := by decide +kernel
theorem dX6_sheet_106 : decode cX6_sheet 106 = .ok (.iconst 1, 1) := by decide +kernel
theorem dX6_sheet_107 : decode cX6_sheet 107 = .ok (.ireturn, 1) := by decide +kernel
theorem dX6_cell_0 : decode cX6_cell 0 = .ok (.iload_n 1, 1) := by decide +kernel
theorem dX6_cell_1 : decode cX6_cell 1 = .ok (.invokestatic 306, 3) := by decide +kernel
theorem dX6_cell_4 : decode cX6_cell 4 = .ok (.ifCond .ne 6, 3) := by decide +kernel
theorem dX6_cell_7 : decode cX6_cell 7 = .ok (.bipush (-2), 2) := by decide +kernel
theorem dX6_cell_9 : decode cX6_cell 9 = .ok (.ireturn, 1) := by decide +kernel
theorem dX6_cell_10 : decode cX6_cell 10 = .ok (.aload_n 0, 1) := by decide +kernel
theorem dX6_cell_11 : decode cX6_cell 11 = .ok (.getfield 66, 3) := by decide +kernel
theorem dX6_cell_14 : decode cX6_cell 14 = .ok (.iload_n 1, 1) := by decide +kernel
theorem dX6_cell_15 : decode cX6_cell 15 = .ok (.baload, 1) := by decide +kernel
theorem dX6_cell_16 : decode cX6_cell 16 = .ok (.ifCond .ne 6, 3) := by decide +kernel
theorem dX6_cell_19 : decode cX6_cell 19 = .ok (.bipush (-11), 2) := by decide +kernel
theorem dX6_cell_21 : decode cX6_cell 21 = .ok (.ireturn, 1) := by decide +kernel
theorem dX6_cell_22 : decode cX6_cell 22 = .ok (.iload_n 2, 1) := by decide +kernel
theorem dX6_cell_23 : decode cX6_cell 23 = .ok (.i2l, 1) := by decide +kernel
theorem dX6_cell_24 : decode cX6_cell 24 = .ok (.lconst 0, 1) := by decide +kernel
theorem dX6_cell_25 : decode cX6_cell 25 = .ok (.aload_n 0, 1) := by decide +kernel
theorem dX6_cell_26 : decode cX6_cell 26 = .ok (.getfield 72, 3) := by decide +kernel
theorem dX6_cell_29 : decode cX6_cell 29 = .ok (.iload_n 1, 1) := by decide +kernel
theorem dX6_cell_30 : decode cX6_cell 30 = .ok (.iaload, 1) := by decide +kernel
theorem dX6_cell_31 : decode cX6_cell 31 = .ok (.iconst 1, 1) := by decide +kernel
theorem dX6_cell_32 : decode cX6_cell 32 = .ok (.isub, 1) := by decide +kernel
theorem dX6_cell_33 : decode cX6_cell 33 = .ok (.i2l, 1) := by decide +kernel
theorem dX6_cell_34 : decode cX6_cell 34 = .ok (.invokestatic 88, 3) := by decide +kernel
theorem dX6_cell_37 : decode cX6_cell 37 = .ok (.ifCond .ne 6, 3) := by decide +kernel
theorem dX6_cell_40 : decode cX6_cell 40 = .ok (.bipush (-12), 2) := by decide +kernel
theorem dX6_cell_42 : decode cX6_cell 42 = .ok (.ireturn, 1) := by decide +kernel
theorem dX6_cell_43 : decode cX6_cell 43 = .ok (.aload_n 0, 1) := by decide +kernel
theorem dX6_cell_44 : decode cX6_cell 44 = .ok (.getfield 75, 3) := by decide +kernel
theorem dX6_cell_47 : decode cX6_cell 47 = .ok (.bipush 40, 2) := by decide +kernel
theorem dX6_cell_49 : decode cX6_cell 49 = .ok (.iload_n 1, 1) := by decide +kernel
theorem dX6_cell_50 : decode cX6_cell 50 = .ok (.imul, 1) := by decide +kernel
theorem dX6_cell_51 : decode cX6_cell 51 = .ok (.iload_n 2, 1) := by decide +kernel
theorem dX6_cell_52 : decode cX6_cell 52 = .ok (.iadd, 1) := by decide +kernel
theorem dX6_cell_53 : decode cX6_cell 53 = .ok (.aload_n 0, 1) := by decide +kernel
theorem dX6_cell_54 : decode cX6_cell 54 = .ok (.getfield 69, 3) := by decide +kernel
theorem dX6_cell_57 : decode cX6_cell 57 = .ok (.iload_n 1, 1) := by decide +kernel
theorem dX6_cell_58 : decode cX6_cell 58 = .ok (.iaload, 1) := by decide +kernel
theorem dX6_cell_59 : decode cX6_cell 59 = .ok (.ifCond .ne 8, 3) := by decide +kernel
theorem dX6_cell_62 : decode cX6_cell 62 = .ok (.iload_n 3, 1) := by decide +kernel
theorem dX6_cell_63 : decode cX6_cell 63 = .ok (.i2b, 1) := by decide +kernel
theorem dX6_cell_64 : decode cX6_cell 64 = .ok (.goto 19, 3) := by decide +kernel
theorem dX6_cell_67 : decode cX6_cell 67 = .ok (.aload_n 0, 1) := by decide +kernel
theorem dX6_cell_68 : decode cX6_cell 68 = .ok (.getfield 69, 3) := by decide +kernel
theorem dX6_cell_71 : decode cX6_cell 71 = .ok (.iload_n 1, 1) := by decide +kernel
theorem dX6_cell_72 : decode cX6_cell 72 = .ok (.iaload, 1) := by decide +kernel
theorem dX6_cell_73 : decode cX6_cell 73 = .ok (.iconst 1, 1) := by decide +kernel
theorem dX6_cell_74 : decode cX6_cell 74 = .ok (.if_icmp .ne 8, 3) := by decide +kernel
theorem dX6_cell_77 : decode cX6_cell 77 = .ok (.iload_n 3, 1) := by decide +kernel
theorem dX6_cell_78 : decode cX6_cell 78 = .ok (.i2s, 1) := by decide +kernel
theorem dX6_cell_79 : decode cX6_cell 79 = .ok (.goto 4, 3) := by decide +kernel
theorem dX6_cell_82 : decode cX6_cell 82 = .ok (.iload_n 3, 1) := by decide +kernel
theorem dX6_cell_83 : decode cX6_cell 83 = .ok (.iastore, 1) := by decide +kernel
theorem dX6_cell_84 : decode cX6_cell 84 = .ok (.iconst 1, 1) := by decide +kernel
theorem dX6_cell_85 : decode cX6_cell 85 = .ok (.ireturn, 1) := by decide +kernel
theorem dX6_copy_0 : decode cX6_copy 0 = .ok (.iload_n 1, 1) := by decide +kernel
theorem dX6_copy_1 : decode cX6_copy 1 = .ok (.invokestatic 306, 3) := by decide +kernel
theorem dX6_copy_4 : decode cX6_copy 4 = .ok (.ifCond .eq 10, 3) := by decide +kernel
theorem dX6_copy_7 : decode cX6_copy 7 = .ok (.iload_n 3, 1) := by decide +kernel
theorem dX6_copy_8 : decode cX6_copy 8 = .ok (.invokestatic 306, 3) := by decide +kernel
theorem dX6_copy_11 : decode cX6_copy 11 = .ok (.ifCond .ne 6, 3) := by decide +kernel
theorem dX6_copy_14 : decode cX6_copy 14 = .ok (.bipush (-2), 2) := by decide +kernel
theorem dX6_copy_16 : decode cX6_copy 16 = .ok (.ireturn, 1) := by decide +kernel
theorem dX6_copy_17 : decode cX6_copy 17 = .ok (.aload_n 0, 1) := by decide +kernel
theorem dX6_copy_18 : decode cX6_copy 18 = .ok (.getfield 66, 3) := by decide +kernel
theorem dX6_copy_21 : decode cX6_copy 21 = .ok (.iload_n 1, 1) := by decide +kernel
theorem dX6_copy_22 : decode cX6_copy 22 = .ok (.baload, 1) := by decide +kernel
theorem dX6_copy_23 : decode cX6_copy 23 = .ok (.ifCond .eq 12, 3) := by decide +kernel
theorem dX6_copy_26 : decode cX6_copy 26 = .ok (.aload_n 0, 1) := by decide +kernel
theorem dX6_copy_27 : decode cX6_copy 27 = .ok (.getfield 66, 3) := by decide +kernel
theorem dX6_copy_30 : decode cX6_copy 30 = .ok (.iload_n 3, 1) := by decide +kernel
theorem dX6_copy_31 : decode cX6_copy 31 = .ok (.baload, 1) := by decide +kernel
theorem dX6_copy_32 : decode cX6_copy 32 = .ok (.ifCond .ne 6, 3) := by decide +kernel
theorem dX6_copy_35 : decode cX6_copy 35 = .ok (.bipush (-11), 2) := by decide +kernel
theorem dX6_copy_37 : decode cX6_copy 37 = .ok (.ireturn, 1) := by decide +kernel
theorem dX6_copy_38 : decode cX6_copy 38 = .ok (.aload_n 0, 1) := by decide +kernel
theorem dX6_copy_39 : decode cX6_copy 39 = .ok (.getfield 69, 3) := by decide +kernel
theorem dX6_copy_42 : decode cX6_copy 42 = .ok (.iload_n 1, 1) := by decide +kernel
theorem dX6_copy_43 : decode cX6_copy 43 = .ok (.iaload, 1) := by decide +kernel
theorem dX6_copy_44 : decode cX6_copy 44 = .ok (.aload_n 0, 1) := by decide +kernel
theorem dX6_copy_45 : decode cX6_copy 45 = .ok (.getfield 69, 3) := by decide +kernel
theorem dX6_copy_48 : decode cX6_copy 48 = .ok (.iload_n 3, 1) := by decide +kernel
theorem dX6_copy_49 : decode cX6_copy 49 = .ok (.iaload, 1) := by decide +kernel
theorem dX6_copy_50 : decode cX6_copy 50 = .ok (.if_icmp .eq 6, 3) := by decide +kernel
theorem dX6_copy_53 : decode cX6_copy 53 = .ok (.bipush (-13), 2) := by decide +kernel
theorem dX6_copy_55 : decode cX6_copy 55 = .ok (.ireturn, 1) := by decide +kernel
theorem dX6_copy_56 : decode cX6_copy 56 = .ok (.iload 5, 2) := by decide +kernel
theorem dX6_copy_58 : decode cX6_copy 58 = .ok (.ifCond .lt 39, 3) := by decide +kernel
theorem dX6_copy_61 : decode cX6_copy 61 = .ok (.iload_n 2, 1) := by decide +kernel
theorem dX6_copy_62 : decode cX6_copy 62 = .ok (.ifCond .lt 35, 3) := by decide +kernel
theorem dX6_copy_65 : decode cX6_copy 65 = .ok (.iload 4, 2) := by decide +kernel
theorem dX6_copy_67 : decode cX6_copy 67 = .ok (.ifCond .lt 30, 3) := by decide +kernel
theorem dX6_copy_70 : decode cX6_copy 70 = .ok (.iload_n 2, 1) := by decide +kernel
theorem dX6_copy_71 : decode cX6_copy 71 = .ok (.aload_n 0, 1) := by decide +kernel
theorem dX6_copy_72 : decode cX6_copy 72 = .ok (.getfield 72, 3) := by decide +kernel
theorem dX6_copy_75 : decode cX6_copy 75 = .ok (.iload_n 1, 1) := by decide +kernel
theorem dX6_copy_76 : decode cX6_copy 76 = .ok (.iaload, 1) := by decide +kernel
theorem dX6_copy_77 : decode cX6_copy 77 = .ok (.iload 5, 2) := by decide +kernel
theorem dX6_copy_79 : decode cX6_copy 79 = .ok (.isub, 1) := by decide +kernel
theorem dX6_copy_80 : decode cX6_copy 80 = .ok (.if_icmp .gt 17, 3) := by decide +kernel
theorem dX6_copy_83 : decode cX6_copy 83 = .ok (.iload 4, 2) := by decide +kernel
theorem dX6_copy_85 : decode cX6_copy 85 = .ok (.aload_n 0, 1) := by decide +kernel
theorem dX6_copy_86 : decode cX6_copy 86 = .ok (.getfield 72, 3) := by decide +kernel
theorem dX6_copy_89 : decode cX6_copy 89 = .ok (.iload_n 3, 1) := by decide +kernel
theorem dX6_copy_90 : decode cX6_copy 90 = .ok (.iaload, 1) := by decide +kernel
theorem dX6_copy_91 : decode cX6_copy 91 = .ok (.iload 5, 2) := by decide +kernel
theorem dX6_copy_93 : decode cX6_copy 93 = .ok (.isub, 1) := by decide +kernel
theorem dX6_copy_94 : decode cX6_copy 94 = .ok (.if_icmp .le 6, 3) := by decide +kernel
theorem dX6_copy_97 : decode cX6_copy 97 = .ok (.bipush (-12), 2) := by decide +kernel
theorem dX6_copy_99 : decode cX6_copy 99 = .ok (.ireturn, 1) := by decide +kernel
theorem dX6_copy_100 : decode cX6_copy 100 = .ok (.iload_n 1, 1) := by decide +kernel
theorem dX6_copy_101 : decode cX6_copy 101 = .ok (.iload_n 3, 1) := by decide +kernel
theorem dX6_copy_102 : decode cX6_copy 102 = .ok (.if_icmp .ne 13, 3) := by decide +kernel
theorem dX6_copy_105 : decode cX6_copy 105 = .ok (.iload_n 2, 1) := by decide +kernel
theorem dX6_copy_106 : decode cX6_copy 106 = .ok (.iload 4, 2) := by decide +kernel
theorem dX6_copy_108 : decode cX6_copy 108 = .ok (.if_icmp .ge 7, 3) := by decide +kernel
theorem dX6_copy_111 : decode cX6_copy 111 = .ok (.iconst 1, 1) := by decide +kernel
theorem dX6_copy_112 : decode cX6_copy 112 = .ok (.goto 4, 3) := by decide +kernel
theorem dX6_copy_115 : decode cX6_copy 115 = .ok (.iconst 0, 1) := by decide +kernel
theorem dX6_copy_116 : decode cX6_copy 116 = .ok (.istore 6, 2) := by decide +kernel
theorem dX6_copy_118 : decode cX6_copy 118 = .ok (.iconst 0, 1) := by decide +kernel
theorem dX6_copy_119 : decode cX6_copy 119 = .ok (.istore 7, 2) := by decide +kernel
theorem dX6_copy_121 : decode cX6_copy 121 = .ok (.iload 7, 2) := by decide +kernel
theorem dX6_copy_123 : decode cX6_copy 123 = .ok (.iload 5, 2) := by decide +kernel
theorem dX6_copy_125 : decode cX6_copy 125 = .ok (.if_icmp .ge 57, 3) := by decide +kernel
theorem dX6_copy_128 : decode cX6_copy 128 = .ok (.iload 6, 2) := by decide +kernel
theorem dX6_copy_130 : decode cX6_copy 130 = .ok (.ifCond .eq 13, 3) := by decide +kernel
theorem dX6_copy_133 : decode cX6_copy 133 = .ok (.iload 5, 2) := by decide +kernel
theorem dX6_copy_135 : decode cX6_copy 135 = .ok (.iconst 1, 1) := by decide +kernel
theorem dX6_copy_136 : decode cX6_copy 136 = .ok (.isub, 1) := by decide +kernel
theorem dX6_copy_137 : decode cX6_copy 137 = .ok (.iload 7, 2) := by decide +kernel
theorem dX6_copy_139 : decode cX6_copy 139 = .ok (.isub, 1) := by decide +kernel
theorem dX6_copy_140 : decode cX6_copy 140 = .ok (.goto 5, 3) := by decide +kernel
theorem dX6_copy_143 : decode cX6_copy 143 = .ok (.iload 7, 2) := by decide +kernel
theorem dX6_copy_145 : decode cX6_copy 145 = .ok (.istore 8, 2) := by decide +kernel
theorem dX6_copy_147 : decode cX6_copy 147 = .ok (.aload_n 0, 1) := by decide +kernel
theorem dX6_copy_148 : decode cX6_copy 148 = .ok (.getfield 75, 3) := by decide +kernel
theorem dX6_copy_151 : decode cX6_copy 151 = .ok (.bipush 40, 2) := by decide +kernel
theorem dX6_copy_153 : decode cX6_copy 153 = .ok (.iload_n 3, 1) := by decide +kernel
theorem dX6_copy_154 : decode cX6_copy 154 = .ok (.imul, 1) := by decide +kernel
theorem dX6_copy_155 : decode cX6_copy 155 = .ok (.iload 4, 2) := by decide +kernel
theorem dX6_copy_157 : decode cX6_copy 157 = .ok (.iadd, 1) := by decide +kernel
theorem dX6_copy_158 : decode cX6_copy 158 = .ok (.iload 8, 2) := by decide +kernel
theorem dX6_copy_160 : decode cX6_copy 160 = .ok (.iadd, 1) := by decide +kernel
theorem dX6_copy_161 : decode cX6_copy 161 = .ok (.aload_n 0, 1) := by decide +kernel
theorem dX6_copy_162 : decode cX6_copy 162 = .ok (.getfield 75, 3) := by decide +kernel
theorem dX6_copy_165 : decode cX6_copy 165 = .ok (.bipush 40, 2) := by decide +kernel
theorem dX6_copy_167 : decode cX6_copy 167 = .ok (.iload_n 1, 1) := by decide +kernel
theorem dX6_copy_168 : decode cX6_copy 168 = .ok (.imul, 1) := by decide +kernel
theorem dX6_copy_169 : decode cX6_copy 169 = .ok (.iload_n 2, 1) := by decide +kernel
theorem dX6_copy_170 : decode cX6_copy 170 = .ok (.iadd, 1) := by decide +kernel
theorem dX6_copy_171 : decode cX6_copy 171 = .ok (.iload 8, 2) := by decide +kernel
theorem dX6_copy_173 : decode cX6_copy 173 = .ok (.iadd, 1) := by decide +kernel
theorem dX6_copy_174 : decode cX6_copy 174 = .ok (.iaload, 1) := by decide +kernel
theorem dX6_copy_175 : decode cX6_copy 175 = .ok (.iastore, 1) := by decide +kernel
theorem dX6_copy_176 : decode cX6_copy 176 = .ok (.iinc 7 1, 3) := by decide +kernel
theorem dX6_copy_179 : decode cX6_copy 179 = .ok (.goto (-58), 3) := by decide +kernel
theorem dX6_copy_182 : decode cX6_copy 182 = .ok (.iload 5, 2) := by decide +kernel
theorem dX6_copy_184 : decode cX6_copy 184 = .ok (.ireturn, 1) := by decide +kernel
theorem dX6_figures_0 : decode cX6_figures 0 = .ok (.iload_n 1, 1) := by decide +kernel
theorem dX6_figures_1 : decode cX6_figures 1 = .ok (.invokestatic 306, 3) := by decide +kernel
theorem dX6_figures_4 : decode cX6_figures 4 = .ok (.ifCond .eq 28, 3) := by decide +kernel
theorem dX6_figures_7 : decode cX6_figures 7 = .ok (.iload_n 2, 1) := by decide +kernel
theorem dX6_figures_8 : decode cX6_figures 8 = .ok (.i2l, 1) := by decide +kernel
theorem dX6_figures_9 : decode cX6_figures 9 = .ok (.lconst 0, 1) := by decide +kernel
theorem dX6_figures_10 : decode cX6_figures 10 = .ok (.ldc2_w 280, 3) := by decide +kernel
theorem dX6_figures_13 : decode cX6_figures 13 = .ok (.invokestatic 88, 3) := by decide +kernel
theorem dX6_figures_16 : decode cX6_figures 16 = .ok (.ifCond .eq 16, 3) := by decide +kernel
theorem dX6_figures_19 : decode cX6_figures 19 = .ok (.iload 4, 2) := by decide +kernel
theorem dX6_figures_21 : decode cX6_figures 21 = .ok (.i2l, 1) := by decide +kernel
theorem dX6_figures_22 : decode cX6_figures 22 = .ok (.lconst 0, 1) := by decide +kernel
theorem dX6_figures_23 : decode cX6_figures 23 = .ok (.ldc2_w 359, 3) := by decide +kernel
theorem dX6_figures_26 : decode cX6_figures 26 = .ok (.invokestatic 88, 3) := by decide +kernel
theorem dX6_figures_29 : decode cX6_figures 29 = .ok (.ifCond .ne 6, 3) := by decide +kernel
theorem dX6_figures_32 : decode cX6_figures 32 = .ok (.bipush (-2), 2) := by decide +kernel
theorem dX6_figures_34 : decode cX6_figures 34 = .ok (.ireturn, 1) := by decide +kernel
theorem dX6_figures_35 : decode cX6_figures 35 = .ok (.aload_n 0, 1) := by decide +kernel
theorem dX6_figures_36 : decode cX6_figures 36 = .ok (.getfield 66, 3) := by decide +kernel
theorem dX6_figures_39 : decode cX6_figures 39 = .ok (.iload_n 1, 1) := by decide +kernel
theorem dX6_figures_40 : decode cX6_figures 40 = .ok (.baload, 1) := by decide +kernel
theorem dX6_figures_41 : decode cX6_figures 41 = .ok (.ifCond .eq 16, 3) := by decide +kernel
theorem dX6_figures_44 : decode cX6_figures 44 = .ok (.aload_n 0, 1) := by decide +kernel
theorem dX6_figures_45 : decode cX6_figures 45 = .ok (.getfield 69, 3) := by decide +kernel
theorem dX6_figures_48 : decode cX6_figures 48 = .ok (.iload_n 1, 1) := by decide +kernel
theorem dX6_figures_49 : decode cX6_figures 49 = .ok (.iaload, 1) := by decide +kernel
theorem dX6_figures_50 : decode cX6_figures 50 = .ok (.iload_n 2, 1) := by decide +kernel
theorem dX6_figures_51 : decode cX6_figures 51 = .ok (.if_icmp .eq 6, 3) := by decide +kernel
theorem dX6_figures_54 : decode cX6_figures 54 = .ok (.bipush (-13), 2) := by decide +kernel
theorem dX6_figures_56 : decode cX6_figures 56 = .ok (.ireturn, 1) := by decide +kernel
theorem dX6_figures_57 : decode cX6_figures 57 = .ok (.aload_n 0, 1) := by decide +kernel
theorem dX6_figures_58 : decode cX6_figures 58 = .ok (.getfield 66, 3) := by decide +kernel
theorem dX6_figures_61 : decode cX6_figures 61 = .ok (.iload_n 1, 1) := by decide +kernel
theorem dX6_figures_62 : decode cX6_figures 62 = .ok (.baload, 1) := by decide +kernel
theorem dX6_figures_63 : decode cX6_figures 63 = .ok (.ifCond .ne 6, 3) := by decide +kernel
theorem dX6_figures_66 : decode cX6_figures 66 = .ok (.bipush (-11), 2) := by decide +kernel
theorem dX6_figures_68 : decode cX6_figures 68 = .ok (.ireturn, 1) := by decide +kernel
theorem dX6_figures_69 : decode cX6_figures 69 = .ok (.iconst 0, 1) := by decide +kernel
theorem dX6_figures_70 : decode cX6_figures 70 = .ok (.istore 5, 2) := by decide +kernel
theorem dX6_figures_72 : decode cX6_figures 72 = .ok (.iconst 0, 1) := by decide +kernel
theorem dX6_figures_73 : decode cX6_figures 73 = .ok (.istore 6, 2) := by decide +kernel
theorem dX6_figures_75 : decode cX6_figures 75 = .ok (.iload 6, 2) := by decide +kernel
theorem dX6_figures_77 : decode cX6_figures 77 = .ok (.iload 4, 2) := by decide +kernel
theorem dX6_figures_79 : decode cX6_figures 79 = .ok (.if_icmp .ge 88, 3) := by decide +kernel
theorem dX6_figures_82 : decode cX6_figures 82 = .ok (.iload_n 3, 1) := by decide +kernel
theorem dX6_figures_83 : decode cX6_figures 83 = .ok (.ifCond .lt 20, 3) := by decide +kernel
theorem dX6_figures_86 : decode cX6_figures 86 = .ok (.iload_n 3, 1) := by decide +kernel
theorem dX6_figures_87 : decode cX6_figures 87 = .ok (.aload_n 0, 1) := by decide +kernel
theorem dX6_figures_88 : decode cX6_figures 88 = .ok (.getfield 72, 3) := by decide +kernel
theorem dX6_figures_91 : decode cX6_figures 91 = .ok (.iload_n 1, 1) := by decide +kernel
theorem dX6_figures_92 : decode cX6_figures 92 = .ok (.iaload, 1) := by decide +kernel
theorem dX6_figures_93 : decode cX6_figures 93 = .ok (.iconst 3, 1) := by decide +kernel
theorem dX6_figures_94 : decode cX6_figures 94 = .ok (.iload 6, 2) := by decide +kernel
theorem dX6_figures_96 : decode cX6_figures 96 = .ok (.imul, 1) := by decide +kernel
theorem dX6_figures_97 : decode cX6_figures 97 = .ok (.isub, 1) := by decide +kernel
theorem dX6_figures_98 : decode cX6_figures 98 = .ok (.iconst 3, 1) := by decide +kernel
theorem dX6_figures_99 : decode cX6_figures 99 = .ok (.isub, 1) := by decide +kernel
theorem dX6_figures_100 : decode cX6_figures 100 = .ok (.if_icmp .le 6, 3) := by decide +kernel
theorem dX6_figures_103 : decode cX6_figures 103 = .ok (.bipush (-12), 2) := by decide +kernel
theorem dX6_figures_105 : decode cX6_figures 105 = .ok (.ireturn, 1) := by decide +kernel
theorem dX6_figures_106 : decode cX6_figures 106 = .ok (.bipush 40, 2) := by decide +kernel
theorem dX6_figures_108 : decode cX6_figures 108 = .ok (.iload_n 1, 1) := by decide +kernel
theorem dX6_figures_109 : decode cX6_figures 109 = .ok (.imul, 1) := by decide +kernel
theorem dX6_figures_110 : decode cX6_figures 110 = .ok (.iload_n 3, 1) := by decide +kernel
theorem dX6_figures_111 : decode cX6_figures 111 = .ok (.iadd, 1) := by decide +kernel
theorem dX6_figures_112 : decode cX6_figures 112 = .ok (.iconst 3, 1) := by decide +kernel
theorem dX6_figures_113 : decode cX6_figures 113 = .ok (.iload 6, 2) := by decide +kernel
theorem dX6_figures_115 : decode cX6_figures 115 = .ok (.imul, 1) := by decide +kernel
theorem dX6_figures_116 : decode cX6_figures 116 = .ok (.iadd, 1) := by decide +kernel
theorem dX6_figures_117 : decode cX6_figures 117 = .ok (.istore 7, 2) := by decide +kernel
theorem dX6_figures_119 : decode cX6_figures 119 = .ok (.iload 5, 2) := by decide +kernel
theorem dX6_figures_121 : decode cX6_figures 121 = .ok (.aload_n 0, 1) := by decide +kernel
theorem dX6_figures_122 : decode cX6_figures 122 = .ok (.aload_n 0, 1) := by decide +kernel
theorem dX6_figures_123 : decode cX6_figures 123 = .ok (.getfield 75, 3) := by decide +kernel
theorem dX6_figures_126 : decode cX6_figures 126 = .ok (.iload 7, 2) := by decide +kernel
theorem dX6_figures_128 : decode cX6_figures 128 = .ok (.iaload, 1) := by decide +kernel
theorem dX6_figures_129 : decode cX6_figures 129 = .ok (.aload_n 0, 1) := by decide +kernel
theorem dX6_figures_130 : decode cX6_figures 130 = .ok (.getfield 75, 3) := by decide +kernel
theorem dX6_figures_133 : decode cX6_figures 133 = .ok (.iload 7, 2) := by decide +kernel
theorem dX6_figures_135 : decode cX6_figures 135 = .ok (.iconst 1, 1) := by decide +kernel
theorem dX6_figures_136 : decode cX6_figures 136 = .ok (.iadd, 1) := by decide +kernel
theorem dX6_figures_137 : decode cX6_figures 137 = .ok (.iaload, 1) := by decide +kernel
theorem dX6_figures_138 : decode cX6_figures 138 = .ok (.aload_n 0, 1) := by decide +kernel
theorem dX6_figures_139 : decode cX6_figures 139 = .ok (.getfield 75, 3) := by decide +kernel
theorem dX6_figures_142 : decode cX6_figures 142 = .ok (.iload 7, 2) := by decide +kernel
theorem dX6_figures_144 : decode cX6_figures 144 = .ok (.iconst 2, 1) := by decide +kernel
theorem dX6_figures_145 : decode cX6_figures 145 = .ok (.iadd, 1) := by decide +kernel
theorem dX6_figures_146 : decode cX6_figures 146 = .ok (.iaload, 1) := by decide +kernel
theorem dX6_figures_147 : decode cX6_figures 147 = .ok (.invokevirtual 390, 3) := by decide +kernel
theorem dX6_figures_150 : decode cX6_figures 150 = .ok (.ifCond .lt 7, 3) := by decide +kernel
theorem dX6_figures_153 : decode cX6_figures 153 = .ok (.iconst 1, 1) := by decide +kernel
theorem dX6_figures_154 : decode cX6_figures 154 = .ok (.goto 4, 3) := by decide +kernel
theorem dX6_figures_157 : decode cX6_figures 157 = .ok (.iconst 0, 1) := by decide +kernel
theorem dX6_figures_158 : decode cX6_figures 158 = .ok (.iadd, 1) := by decide +kernel
theorem dX6_figures_159 : decode cX6_figures 159 = .ok (.istore 5, 2) := by decide +kernel
theorem dX6_figures_161 : decode cX6_figures 161 = .ok (.iinc 6 1, 3) := by decide +kernel
theorem dX6_figures_164 : decode cX6_figures 164 = .ok (.goto (-89), 3) := by decide +kernel
theorem dX6_figures_167 : decode cX6_figures 167 = .ok (.iload 5, 2) := by decide +kernel
theorem dX6_figures_169 : decode cX6_figures 169 = .ok (.ireturn, 1) := by decide +kernel
theorem dX6_over_0 : decode cX6_over 0 = .ok (.iload_n 0, 1) := by decide +kernel
theorem dX6_over_1 : decode cX6_over 1 = .ok (.ifCond .ne 7, 3) := by decide +kernel
theorem dX6_over_4 : decode cX6_over 4 = .ok (.iconst (-1), 1) := by decide +kernel
theorem dX6_over_5 : decode cX6_over 5 = .ok (.goto 22, 3) := by decide +kernel
theorem dX6_over_8 : decode cX6_over 8 = .ok (.iload_n 0, 1) := by decide +kernel
theorem dX6_over_9 : decode cX6_over 9 = .ok (.iconst 3, 1) := by decide +kernel
theorem dX6_over_10 : decode cX6_over 10 = .ok (.if_icmp .ne 7, 3) := by decide +kernel
theorem dX6_over_13 : decode cX6_over 13 = .ok (.iconst 1, 1) := by decide +kernel
theorem dX6_over_14 : decode cX6_over 14 = .ok (.goto 13, 3) := by decide +kernel
theorem dX6_over_17 : decode cX6_over 17 = .ok (.iload_n 0, 1) := by decide +kernel
theorem dX6_over_18 : decode cX6_over 18 = .ok (.iconst 4, 1) := by decide +kernel
theorem dX6_over_19 : decode cX6_over 19 = .ok (.if_icmp .ne 7, 3) := by decide +kernel
theorem dX6_over_22 : decode cX6_over 22 = .ok (.iconst 2, 1) := by decide +kernel
theorem dX6_over_23 : decode cX6_over 23 = .ok (.goto 4, 3) := by decide +kernel
theorem dX6_over_26 : decode cX6_over 26 = .ok (.iconst 0, 1) := by decide +kernel
theorem dX6_over_27 : decode cX6_over 27 = .ok (.ireturn, 1) := by decide +kernel
theorem dX6_taken_0 : decode cX6_taken 0 = .ok (.iload_n 2, 1) := by decide +kernel
theorem dX6_taken_1 : decode cX6_taken 1 = .ok (.i2l, 1) := by decide +kernel
theorem dX6_taken_2 : decode cX6_taken 2 = .ok (.lconst 0, 1) := by decide +kernel
theorem dX6_taken_3 : decode cX6_taken 3 = .ok (.ldc2_w 104, 3) := by decide +kernel
theorem dX6_taken_6 : decode cX6_taken 6 = .ok (.invokestatic 88, 3) := by decide +kernel
theorem dX6_taken_9 : decode cX6_taken 9 = .ok (.ifCond .ne 6, 3) := by decide +kernel
theorem dX6_taken_12 : decode cX6_taken 12 = .ok (.bipush (-2), 2) := by decide +kernel
theorem dX6_taken_14 : decode cX6_taken 14 = .ok (.ireturn, 1) := by decide +kernel
theorem dX6_taken_15 : decode cX6_taken 15 = .ok (.aload_n 0, 1) := by decide +kernel
theorem dX6_taken_16 : decode cX6_taken 16 = .ok (.iload_n 1, 1) := by decide +kernel
theorem dX6_taken_17 : decode cX6_taken 17 = .ok (.invokevirtual 101, 3) := by decide +kernel
theorem dX6_taken_20 : decode cX6_taken 20 = .ok (.ifCond .ne 6, 3) := by decide +kernel
theorem dX6_taken_23 : decode cX6_taken 23 = .ok (.bipush (-11), 2) := by decide +kernel
theorem dX6_taken_25 : decode cX6_taken 25 = .ok (.ireturn, 1) := by decide +kernel
theorem dX6_taken_26 : decode cX6_taken 26 = .ok (.aload_n 0, 1) := by decide +kernel
theorem dX6_taken_27 : decode cX6_taken 27 = .ok (.getfield 26, 3) := by decide +kernel
theorem dX6_taken_30 : decode cX6_taken 30 = .ok (.iload_n 1, 1) := by decide +kernel
theorem dX6_taken_31 : decode cX6_taken 31 = .ok (.iaload, 1) := by decide +kernel
theorem dX6_taken_32 : decode cX6_taken 32 = .ok (.istore_n 3, 1) := by decide +kernel
theorem dX6_taken_33 : decode cX6_taken 33 = .ok (.iload_n 3, 1) := by decide +kernel
theorem dX6_taken_34 : decode cX6_taken 34 = .ok (.iconst (-1), 1) := by decide +kernel
theorem dX6_taken_35 : decode cX6_taken 35 = .ok (.if_icmp .eq 16, 3) := by decide +kernel
theorem dX6_taken_38 : decode cX6_taken 38 = .ok (.iload_n 3, 1) := by decide +kernel
theorem dX6_taken_39 : decode cX6_taken 39 = .ok (.iload_n 2, 1) := by decide +kernel
theorem dX6_taken_40 : decode cX6_taken 40 = .ok (.if_icmp .eq 11, 3) := by decide +kernel
theorem dX6_taken_43 : decode cX6_taken 43 = .ok (.iload_n 3, 1) := by decide +kernel
theorem dX6_taken_44 : decode cX6_taken 44 = .ok (.invokestatic 393, 3) := by decide +kernel
theorem dX6_taken_47 : decode cX6_taken 47 = .ok (.istore_n 3, 1) := by decide +kernel
theorem dX6_taken_48 : decode cX6_taken 48 = .ok (.goto (-15), 3) := by decide +kernel
theorem dX6_taken_51 : decode cX6_taken 51 = .ok (.iload_n 3, 1) := by decide +kernel
theorem dX6_taken_52 : decode cX6_taken 52 = .ok (.iload_n 2, 1) := by decide +kernel
theorem dX6_taken_53 : decode cX6_taken 53 = .ok (.if_icmp .ne 14, 3) := by decide +kernel
theorem dX6_taken_56 : decode cX6_taken 56 = .ok (.aload_n 0, 1) := by decide +kernel
theorem dX6_taken_57 : decode cX6_taken 57 = .ok (.getfield 29, 3) := by decide +kernel
theorem dX6_taken_60 : decode cX6_taken 60 = .ok (.iconst 3, 1) := by decide +kernel
theorem dX6_taken_61 : decode cX6_taken 61 = .ok (.iload_n 1, 1) := by decide +kernel
theorem dX6_taken_62 : decode cX6_taken 62 = .ok (.imul, 1) := by decide +kernel
theorem dX6_taken_63 : decode cX6_taken 63 = .ok (.iaload, 1) := by decide +kernel
theorem dX6_taken_64 : decode cX6_taken 64 = .ok (.goto 5, 3) := by decide +kernel
theorem dX6_taken_67 : decode cX6_taken 67 = .ok (.bipush (-13), 2) := by decide +kernel
theorem dX6_taken_69 : decode cX6_taken 69 = .ok (.ireturn, 1) := by decide +kernel
