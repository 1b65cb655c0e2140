theorem dX9_init_0 : decode cX9_init 0 = .ok (.aload_n 0, 1) := by decide +kernel
theorem dX9_init_1 : decode cX9_init 1 = .ok (.invokespecial 1, 3) := by decide +kernel
theorem dX9_init_4 : decode cX9_init 4 = .ok (.aload_n 0, 1) := by decide +kernel
theorem dX9_init_5 : decode cX9_init 5 = .ok (.sipush 1471, 3) := by decide +kernel
theorem dX9_init_8 : decode cX9_init 8 = .ok (.newarray .int, 2) := by decide +kernel
theorem dX9_init_10 : decode cX9_init 10 = .ok (.putfield 9, 3) := by decide +kernel
theorem dX9_init_13 : decode cX9_init 13 = .ok (.aload_n 0, 1) := by decide +kernel
theorem dX9_init_14 : decode cX9_init 14 = .ok (.sipush 1471, 3) := by decide +kernel
theorem dX9_init_17 : decode cX9_init 17 = .ok (.newarray .int, 2) := by decide +kernel
theorem dX9_init_19 : decode cX9_init 19 = .ok (.putfield 13, 3) := by decide +kernel
theorem dX9_init_22 : decode cX9_init 22 = .ok (.aload_n 0, 1) := by decide +kernel
theorem dX9_init_23 : decode cX9_init 23 = .ok (.sipush 1471, 3) := by decide +kernel
theorem dX9_init_26 : decode cX9_init 26 = .ok (.newarray .int, 2) := by decide +kernel
theorem dX9_init_28 : decode cX9_init 28 = .ok (.putfield 16, 3) := by decide +kernel
theorem dX9_init_31 : decode cX9_init 31 = .ok (.aload_n 0, 1) := by decide +kernel
theorem dX9_init_32 : decode cX9_init 32 = .ok (.bipush 25, 2) := by decide +kernel
theorem dX9_init_34 : decode cX9_init 34 = .ok (.newarray .int, 2) := by decide +kernel
theorem dX9_init_36 : decode cX9_init 36 = .ok (.putfield 19, 3) := by decide +kernel
theorem dX9_init_39 : decode cX9_init 39 = .ok (.aload_n 0, 1) := by decide +kernel
theorem dX9_init_40 : decode cX9_init 40 = .ok (.sipush 3400, 3) := by decide +kernel
theorem dX9_init_43 : decode cX9_init 43 = .ok (.newarray .long, 2) := by decide +kernel
theorem dX9_init_45 : decode cX9_init 45 = .ok (.putfield 22, 3) := by decide +kernel
theorem dX9_init_48 : decode cX9_init 48 = .ok (.aload_n 0, 1) := by decide +kernel
theorem dX9_init_49 : decode cX9_init 49 = .ok (.iconst 5, 1) := by decide +kernel
theorem dX9_init_50 : decode cX9_init 50 = .ok (.newarray .long, 2) := by decide +kernel
theorem dX9_init_52 : decode cX9_init 52 = .ok (.putfield 26, 3) := by decide +kernel
theorem dX9_init_55 : decode cX9_init 55 = .ok (.aload_n 0, 1) := by decide +kernel
theorem dX9_init_56 : decode cX9_init 56 = .ok (.bipush 40, 2) := by decide +kernel
theorem dX9_init_58 : decode cX9_init 58 = .ok (.newarray .int, 2) := by decide +kernel
theorem dX9_init_60 : decode cX9_init 60 = .ok (.putfield 29, 3) := by decide +kernel
theorem dX9_init_63 : decode cX9_init 63 = .ok (.aload_n 0, 1) := by decide +kernel
theorem dX9_init_64 : decode cX9_init 64 = .ok (.bipush 121, 2) := by decide +kernel
theorem dX9_init_66 : decode cX9_init 66 = .ok (.newarray .boolean, 2) := by decide +kernel
theorem dX9_init_68 : decode cX9_init 68 = .ok (.putfield 32, 3) := by decide +kernel
theorem dX9_init_71 : decode cX9_init 71 = .ok (.aload_n 0, 1) := by decide +kernel
theorem dX9_init_72 : decode cX9_init 72 = .ok (.bipush 96, 2) := by decide +kernel
theorem dX9_init_74 : decode cX9_init 74 = .ok (.newarray .int, 2) := by decide +kernel
theorem dX9_init_76 : decode cX9_init 76 = .ok (.putfield 36, 3) := by decide +kernel
theorem dX9_init_79 : decode cX9_init 79 = .ok (.aload_n 0, 1) := by decide +kernel
theorem dX9_init_80 : decode cX9_init 80 = .ok (.bipush 13, 2) := by decide +kernel
theorem dX9_init_82 : decode cX9_init 82 = .ok (.newarray .char, 2) := by decide +kernel
theorem dX9_init_84 : decode cX9_init 84 = .ok (.dup, 1) := by decide +kernel
theorem dX9_init_85 : decode cX9_init 85 = .ok (.iconst 0, 1) := by decide +kernel
theorem dX9_init_86 : decode cX9_init 86 = .ok (.bipush 116, 2) := by decide +kernel
theorem dX9_init_88 : decode cX9_init 88 = .ok (.castore, 1) := by decide +kernel
theorem dX9_init_89 : decode cX9_init 89 = .ok (.dup, 1) := by decide +kernel
theorem dX9_init_90 : decode cX9_init 90 = .ok (.iconst 1, 1) := by decide +kernel
theorem dX9_init_91 : decode cX9_init 91 = .ok (.bipush 101, 2) := by decide +kernel
theorem dX9_init_93 : decode cX9_init 93 = .ok (.castore, 1) := by decide +kernel
theorem dX9_init_94 : decode cX9_init 94 = .ok (.dup, 1) := by decide +kernel
theorem dX9_init_95 : decode cX9_init 95 = .ok (.iconst 2, 1) := by decide +kernel
theorem dX9_init_96 : decode cX9_init 96 = .ok (.bipush 114, 2) := by decide +kernel
theorem dX9_init_98 : decode cX9_init 98 = .ok (.castore, 1) := by decide +kernel
theorem dX9_init_99 : decode cX9_init 99 = .ok (.dup, 1) := by decide +kernel
theorem dX9_init_100 : decode cX9_init 100 = .ok (.iconst 3, 1) := by decide +kernel
theorem dX9_init_101 : decode cX9_init 101 = .ok (.bipush 109, 2) := by decide +kernel
theorem dX9_init_103 : decode cX9_init 103 = .ok (.castore, 1) := by decide +kernel
theorem dX9_init_104 : decode cX9_init 104 = .ok (.dup, 1) := by decide +kernel
theorem dX9_init_105 : decode cX9_init 105 = .ok (.iconst 4, 1) := by decide +kernel
theorem dX9_init_106 : decode cX9_init 106 = .ok (.bipush 115, 2) := by decide +kernel
theorem dX9_init_108 : decode cX9_init 108 = .ok (.castore, 1) := by decide +kernel
theorem dX9_init_109 : decode cX9_init 109 = .ok (.dup, 1) := by decide +kernel
theorem dX9_init_110 : decode cX9_init 110 = .ok (.iconst 5, 1) := by decide +kernel
theorem dX9_init_111 : decode cX9_init 111 = .ok (.bipush 108, 2) := by decide +kernel
theorem dX9_init_113 : decode cX9_init 113 = .ok (.castore, 1) := by decide +kernel
theorem dX9_init_114 : decode cX9_init 114 = .ok (.dup, 1) := by decide +kernel
theorem dX9_init_115 : decode cX9_init 115 = .ok (.bipush 6, 2) := by decide +kernel
theorem dX9_init_117 : decode cX9_init 117 = .ok (.bipush 111, 2) := by decide +kernel
theorem dX9_init_119 : decode cX9_init 119 = .ok (.castore, 1) := by decide +kernel
theorem dX9_init_120 : decode cX9_init 120 = .ok (.dup, 1) := by decide +kernel
theorem dX9_init_121 : decode cX9_init 121 = .ok (.bipush 7, 2) := by decide +kernel
theorem dX9_init_123 : decode cX9_init 123 = .ok (.bipush 112, 2) := by decide +kernel
theorem dX9_init_125 : decode cX9_init 125 = .ok (.castore, 1) := by decide +kernel
theorem dX9_init_126 : decode cX9_init 126 = .ok (.dup, 1) := by decide +kernel
theorem dX9_init_127 : decode cX9_init 127 = .ok (.bipush 8, 2) := by decide +kernel
theorem dX9_init_129 : decode cX9_init 129 = .ok (.bipush 101, 2) := by decide +kernel
theorem dX9_init_131 : decode cX9_init 131 = .ok (.castore, 1) := by decide +kernel
theorem dX9_init_132 : decode cX9_init 132 = .ok (.dup, 1) := by decide +kernel
theorem dX9_init_133 : decode cX9_init 133 = .ok (.bipush 9, 2) := by decide +kernel
theorem dX9_init_135 : decode cX9_init 135 = .ok (.bipush 109, 2) := by decide +kernel
theorem dX9_init_137 : decode cX9_init 137 = .ok (.castore, 1) := by decide +kernel
theorem dX9_init_138 : decode cX9_init 138 = .ok (.dup, 1) := by decide +kernel
theorem dX9_init_139 : decode cX9_init 139 = .ok (.bipush 10, 2) := by decide +kernel
theorem dX9_init_141 : decode cX9_init 141 = .ok (.bipush 97, 2) := by decide +kernel
theorem dX9_init_143 : decode cX9_init 143 = .ok (.castore, 1) := by decide +kernel
theorem dX9_init_144 : decode cX9_init 144 = .ok (.dup, 1) := by decide +kernel
theorem dX9_init_145 : decode cX9_init 145 = .ok (.bipush 11, 2) := by decide +kernel
theorem dX9_init_147 : decode cX9_init 147 = .ok (.bipush 114, 2) := by decide +kernel
theorem dX9_init_149 : decode cX9_init 149 = .ok (.castore, 1) := by decide +kernel
theorem dX9_init_150 : decode cX9_init 150 = .ok (.dup, 1) := by decide +kernel
theorem dX9_init_151 : decode cX9_init 151 = .ok (.bipush 12, 2) := by decide +kernel
theorem dX9_init_153 : decode cX9_init 153 = .ok (.bipush 107, 2) := by decide +kernel
theorem dX9_init_155 : decode cX9_init 155 = .ok (.castore, 1) := by decide +kernel
theorem dX9_init_156 : decode cX9_init 156 = .ok (.putfield 39, 3) := by decide +kernel
theorem dX9_init_159 : decode cX9_init 159 = .ok (.aload_n 0, 1) := by decide +kernel
theorem dX9_init_160 : decode cX9_init 160 = .ok (.iconst 4, 1) := by decide +kernel
theorem dX9_init_161 : decode cX9_init 161 = .ok (.newarray .int, 2) := by decide +kernel
theorem dX9_init_163 : decode cX9_init 163 = .ok (.dup, 1) := by decide +kernel
theorem dX9_init_164 : decode cX9_init 164 = .ok (.iconst 0, 1) := by decide +kernel
theorem dX9_init_165 : decode cX9_init 165 = .ok (.iconst 0, 1) := by decide +kernel
theorem dX9_init_166 : decode cX9_init 166 = .ok (.iastore, 1) := by decide +kernel
theorem dX9_init_167 : decode cX9_init 167 = .ok (.dup, 1) := by decide +kernel
theorem dX9_init_168 : decode cX9_init 168 = .ok (.iconst 1, 1) := by decide +kernel
theorem dX9_init_169 : decode cX9_init 169 = .ok (.iconst 4, 1) := by decide +kernel
theorem dX9_init_170 : decode cX9_init 170 = .ok (.iastore, 1) := by decide +kernel
theorem dX9_init_171 : decode cX9_init 171 = .ok (.dup, 1) := by decide +kernel
theorem dX9_init_172 : decode cX9_init 172 = .ok (.iconst 2, 1) := by decide +kernel
theorem dX9_init_173 : decode cX9_init 173 = .ok (.bipush 9, 2) := by decide +kernel
theorem dX9_init_175 : decode cX9_init 175 = .ok (.iastore, 1) := by decide +kernel
theorem dX9_init_176 : decode cX9_init 176 = .ok (.dup, 1) := by decide +kernel
theorem dX9_init_177 : decode cX9_init 177 = .ok (.iconst 3, 1) := by decide +kernel
theorem dX9_init_178 : decode cX9_init 178 = .ok (.bipush 13, 2) := by decide +kernel
theorem dX9_init_180 : decode cX9_init 180 = .ok (.iastore, 1) := by decide +kernel
theorem dX9_init_181 : decode cX9_init 181 = .ok (.putfield 43, 3) := by decide +kernel
theorem dX9_init_184 : decode cX9_init 184 = .ok (.aload_n 0, 1) := by decide +kernel
theorem dX9_init_185 : decode cX9_init 185 = .ok (.bipush 96, 2) := by decide +kernel
theorem dX9_init_187 : decode cX9_init 187 = .ok (.newarray .int, 2) := by decide +kernel
theorem dX9_init_189 : decode cX9_init 189 = .ok (.putfield 46, 3) := by decide +kernel
theorem dX9_init_192 : decode cX9_init 192 = .ok (.aload_n 0, 1) := by decide +kernel
theorem dX9_init_193 : decode cX9_init 193 = .ok (.bipush 96, 2) := by decide +kernel
theorem dX9_init_195 : decode cX9_init 195 = .ok (.newarray .int, 2) := by decide +kernel
theorem dX9_init_197 : decode cX9_init 197 = .ok (.putfield 49, 3) := by decide +kernel
theorem dX9_init_200 : decode cX9_init 200 = .ok (.aload_n 0, 1) := by decide +kernel
theorem dX9_init_201 : decode cX9_init 201 = .ok (.bipush 10, 2) := by decide +kernel
theorem dX9_init_203 : decode cX9_init 203 = .ok (.newarray .boolean, 2) := by decide +kernel
theorem dX9_init_205 : decode cX9_init 205 = .ok (.putfield 52, 3) := by decide +kernel
theorem dX9_init_208 : decode cX9_init 208 = .ok (.aload_n 0, 1) := by decide +kernel
theorem dX9_init_209 : decode cX9_init 209 = .ok (.bipush 96, 2) := by decide +kernel
theorem dX9_init_211 : decode cX9_init 211 = .ok (.newarray .int, 2) := by decide +kernel
theorem dX9_init_213 : decode cX9_init 213 = .ok (.putfield 55, 3) := by decide +kernel
theorem dX9_init_216 : decode cX9_init 216 = .ok (.aload_n 0, 1) := by decide +kernel
theorem dX9_init_217 : decode cX9_init 217 = .ok (.iconst 4, 1) := by decide +kernel
theorem dX9_init_218 : decode cX9_init 218 = .ok (.newarray .int, 2) := by decide +kernel
theorem dX9_init_220 : decode cX9_init 220 = .ok (.putfield 58, 3) := by decide +kernel
theorem dX9_init_223 : decode cX9_init 223 = .ok (.aload_n 0, 1) := by decide +kernel
theorem dX9_init_224 : decode cX9_init 224 = .ok (.iconst 4, 1) := by decide +kernel
theorem dX9_init_225 : decode cX9_init 225 = .ok (.newarray .int, 2) := by decide +kernel
theorem dX9_init_227 : decode cX9_init 227 = .ok (.dup, 1) := by decide +kernel
theorem dX9_init_228 : decode cX9_init 228 = .ok (.iconst 0, 1) := by decide +kernel
theorem dX9_init_229 : decode cX9_init 229 = .ok (.iconst (-1), 1) := by decide +kernel
theorem dX9_init_230 : decode cX9_init 230 = .ok (.iastore, 1) := by decide +kernel
theorem dX9_init_231 : decode cX9_init 231 = .ok (.dup, 1) := by decide +kernel
theorem dX9_init_232 : decode cX9_init 232 = .ok (.iconst 1, 1) := by decide +kernel
theorem dX9_init_233 : decode cX9_init 233 = .ok (.iconst (-1), 1) := by decide +kernel
theorem dX9_init_234 : decode cX9_init 234 = .ok (.iastore, 1) := by decide +kernel
theorem dX9_init_235 : decode cX9_init 235 = .ok (.dup, 1) := by decide +kernel
theorem dX9_init_236 : decode cX9_init 236 = .ok (.iconst 2, 1) := by decide +kernel
theorem dX9_init_237 : decode cX9_init 237 = .ok (.iconst (-1), 1) := by decide +kernel
theorem dX9_init_238 : decode cX9_init 238 = .ok (.iastore, 1) := by decide +kernel
theorem dX9_init_239 : decode cX9_init 239 = .ok (.dup, 1) := by decide +kernel
theorem dX9_init_240 : decode cX9_init 240 = .ok (.iconst 3, 1) := by decide +kernel
theorem dX9_init_241 : decode cX9_init 241 = .ok (.iconst (-1), 1) := by decide +kernel
theorem dX9_init_242 : decode cX9_init 242 = .ok (.iastore, 1) := by decide +kernel
theorem dX9_init_243 : decode cX9_init 243 = .ok (.putfield 61, 3) := by decide +kernel
theorem dX9_init_246 : decode cX9_init 246 = .ok (.aload_n 0, 1) := by decide +kernel
theorem dX9_init_247 : decode cX9_init 247 = .ok (.iconst 4, 1) := by decide +kernel
theorem dX9_init_248 : decode cX9_init 248 = .ok (.newarray .int, 2) := by decide +kernel
theorem dX9_init_250 : decode cX9_init 250 = .ok (.putfield 64, 3) := by decide +kernel
theorem dX9_init_253 : decode cX9_init 253 = .ok (.aload_n 0, 1) := by decide +kernel
theorem dX9_init_254 : decode cX9_init 254 = .ok (.bipush 96, 2) := by decide +kernel
theorem dX9_init_256 : decode cX9_init 256 = .ok (.newarray .int, 2) := by decide +kernel
theorem dX9_init_258 : decode cX9_init 258 = .ok (.putfield 67, 3) := by decide +kernel
theorem dX9_init_261 : decode cX9_init 261 = .ok (.aload_n 0, 1) := by decide +kernel
theorem dX9_init_262 : decode cX9_init 262 = .ok (.iconst 5, 1) := by decide +kernel
theorem dX9_init_263 : decode cX9_init 263 = .ok (.newarray .int, 2) := by decide +kernel
theorem dX9_init_265 : decode cX9_init 265 = .ok (.putfield 70, 3) := by decide +kernel
theorem dX9_init_268 : decode cX9_init 268 = .ok (.aload_n 0, 1) := by decide +kernel
theorem dX9_init_269 : decode cX9_init 269 = .ok (.iconst 5, 1) := by decide +kernel
theorem dX9_init_270 : decode cX9_init 270 = .ok (.newarray .int, 2) := by decide +kernel
theorem dX9_init_272 : decode cX9_init 272 = .ok (.putfield 73, 3) := by decide +kernel
theorem dX9_init_275 : decode cX9_init 275 = .ok (.aload_n 0, 1) := by decide +kernel
theorem dX9_init_276 : decode cX9_init 276 = .ok (.iconst 5, 1) := by decide +kernel
theorem dX9_init_277 : decode cX9_init 277 = .ok (.newarray .int, 2) := by decide +kernel
theorem dX9_init_279 : decode cX9_init 279 = .ok (.putfield 76, 3) := by decide +kernel
theorem dX9_init_282 : decode cX9_init 282 = .ok (.aload_n 0, 1) := by decide +kernel
theorem dX9_init_283 : decode cX9_init 283 = .ok (.bipush 120, 2) := by decide +kernel
theorem dX9_init_285 : decode cX9_init 285 = .ok (.newarray .int, 2) := by decide +kernel
theorem dX9_init_287 : decode cX9_init 287 = .ok (.putfield 79, 3) := by decide +kernel
theorem dX9_init_290 : decode cX9_init 290 = .ok (.aload_n 0, 1) := by decide +kernel
theorem dX9_init_291 : decode cX9_init 291 = .ok (.bipush 24, 2) := by decide +kernel
theorem dX9_init_293 : decode cX9_init 293 = .ok (.newarray .int, 2) := by decide +kernel
theorem dX9_init_295 : decode cX9_init 295 = .ok (.putfield 82, 3) := by decide +kernel
theorem dX9_init_298 : decode cX9_init 298 = .ok (.aload_n 0, 1) := by decide +kernel
theorem dX9_init_299 : decode cX9_init 299 = .ok (.bipush 60, 2) := by decide +kernel
theorem dX9_init_301 : decode cX9_init 301 = .ok (.newarray .int, 2) := by decide +kernel
theorem dX9_init_303 : decode cX9_init 303 = .ok (.putfield 85, 3) := by decide +kernel
theorem dX9_init_306 : decode cX9_init 306 = .ok (.aload_n 0, 1) := by decide +kernel
theorem dX9_init_307 : decode cX9_init 307 = .ok (.getfield 9, 3) := by decide +kernel
theorem dX9_init_310 : decode cX9_init 310 = .ok (.iconst 0, 1) := by decide +kernel
theorem dX9_init_311 : decode cX9_init 311 = .ok (.iconst 1, 1) := by decide +kernel
theorem dX9_init_312 : decode cX9_init 312 = .ok (.iastore, 1) := by decide +kernel
theorem dX9_init_313 : decode cX9_init 313 = .ok (.return_, 1) := by decide +kernel
theorem dX9_in_0 : decode cX9_in 0 = .ok (.iload_n 0, 1) := by decide +kernel
theorem dX9_in_1 : decode cX9_in 1 = .ok (.iload_n 1, 1) := by decide +kernel
theorem dX9_in_2 : decode cX9_in 2 = .ok (.if_icmp .lt 12, 3) := by decide +kernel
theorem dX9_in_5 : decode cX9_in 5 = .ok (.iload_n 0, 1) := by decide +kernel
theorem dX9_in_6 : decode cX9_in 6 = .ok (.iload_n 2, 1) := by decide +kernel
theorem dX9_in_7 : decode cX9_in 7 = .ok (.if_icmp .gt 7, 3) := by decide +kernel
theorem dX9_in_10 : decode cX9_in 10 = .ok (.iconst 1, 1) := by decide +kernel
theorem dX9_in_11 : decode cX9_in 11 = .ok (.goto 4, 3) := by decide +kernel
theorem dX9_in_14 : decode cX9_in 14 = .ok (.iconst 0, 1) := by decide +kernel
theorem dX9_in_15 : decode cX9_in 15 = .ok (.ireturn, 1) := by decide +kernel
theorem dX9_within_0 : decode cX9_within 0 = .ok (.iload_n 0, 1) := by decide +kernel
theorem dX9_within_1 : decode cX9_within 1 = .ok (.iload_n 1, 1) := by decide +kernel
theorem dX9_within_2 : decode cX9_within 2 = .ok (.if_icmp .ge 7, 3) := by decide +kernel
theorem dX9_within_5 : decode cX9_within 5 = .ok (.iload_n 1, 1) := by decide +kernel
theorem dX9_within_6 : decode cX9_within 6 = .ok (.goto 13, 3) := by decide +kernel
theorem dX9_within_9 : decode cX9_within 9 = .ok (.iload_n 0, 1) := by decide +kernel
theorem dX9_within_10 : decode cX9_within 10 = .ok (.iload_n 2, 1) := by decide +kernel
theorem dX9_within_11 : decode cX9_within 11 = .ok (.if_icmp .le 7, 3) := by decide +kernel
theorem dX9_within_14 : decode cX9_within 14 = .ok (.iload_n 2, 1) := by decide +kernel
theorem dX9_within_15 : decode cX9_within 15 = .ok (.goto 4, 3) := by decide +kernel
theorem dX9_within_18 : decode cX9_within 18 = .ok (.iload_n 0, 1) := by decide +kernel
theorem dX9_within_19 : decode cX9_within 19 = .ok (.ireturn, 1) := by decide +kernel
theorem dX9_copyAll_0 : decode cX9_copyAll 0 = .ok (.iconst 0, 1) := by decide +kernel
theorem dX9_copyAll_1 : decode cX9_copyAll 1 = .ok (.istore_n 2, 1) := by decide +kernel
theorem dX9_copyAll_2 : decode cX9_copyAll 2 = .ok (.iload_n 2, 1) := by decide +kernel
theorem dX9_copyAll_3 : decode cX9_copyAll 3 = .ok (.sipush 1471, 3) := by decide +kernel
theorem dX9_copyAll_6 : decode cX9_copyAll 6 = .ok (.if_icmp .ge 15, 3) := by decide +kernel
theorem dX9_copyAll_9 : decode cX9_copyAll 9 = .ok (.aload_n 1, 1) := by decide +kernel
theorem dX9_copyAll_10 : decode cX9_copyAll 10 = .ok (.iload_n 2, 1) := by decide +kernel
theorem dX9_copyAll_11 : decode cX9_copyAll 11 = .ok (.aload_n 0, 1) := by decide +kernel
theorem dX9_copyAll_12 : decode cX9_copyAll 12 = .ok (.iload_n 2, 1) := by decide +kernel
theorem dX9_copyAll_13 : decode cX9_copyAll 13 = .ok (.iaload, 1) := by decide +kernel
theorem dX9_copyAll_14 : decode cX9_copyAll 14 = .ok (.iastore, 1) := by decide +kernel
theorem dX9_copyAll_15 : decode cX9_copyAll 15 = .ok (.iinc 2 1, 3) := by decide +kernel
theorem dX9_copyAll_18 : decode cX9_copyAll 18 = .ok (.goto (-16), 3) := by decide +kernel
theorem dX9_copyAll_21 : decode cX9_copyAll 21 = .ok (.return_, 1) := by decide +kernel
theorem dX9_isCurve_0 : decode cX9_isCurve 0 = .ok (.iload_n 1, 1) := by decide +kernel
theorem dX9_isCurve_1 : decode cX9_isCurve 1 = .ok (.iconst 0, 1) := by decide +kernel
theorem dX9_isCurve_2 : decode cX9_isCurve 2 = .ok (.aload_n 0, 1) := by decide +kernel
theorem dX9_isCurve_3 : decode cX9_isCurve 3 = .ok (.getfield 9, 3) := by decide +kernel
theorem dX9_isCurve_6 : decode cX9_isCurve 6 = .ok (.iconst 1, 1) := by decide +kernel
theorem dX9_isCurve_7 : decode cX9_isCurve 7 = .ok (.iaload, 1) := by decide +kernel
theorem dX9_isCurve_8 : decode cX9_isCurve 8 = .ok (.iconst 1, 1) := by decide +kernel
theorem dX9_isCurve_9 : decode cX9_isCurve 9 = .ok (.isub, 1) := by decide +kernel
theorem dX9_isCurve_10 : decode cX9_isCurve 10 = .ok (.invokestatic 88, 3) := by decide +kernel
theorem dX9_isCurve_13 : decode cX9_isCurve 13 = .ok (.ireturn, 1) := by decide +kernel
theorem dX9_spot_0 : decode cX9_spot 0 = .ok (.iconst 3, 1) := by decide +kernel
theorem dX9_spot_1 : decode cX9_spot 1 = .ok (.bipush 16, 2) := by decide +kernel
theorem dX9_spot_3 : decode cX9_spot 3 = .ok (.iload_n 0, 1) := by decide +kernel
theorem dX9_spot_4 : decode cX9_spot 4 = .ok (.imul, 1) := by decide +kernel
theorem dX9_spot_5 : decode cX9_spot 5 = .ok (.iadd, 1) := by decide +kernel
theorem dX9_spot_6 : decode cX9_spot 6 = .ok (.iconst 1, 1) := by decide +kernel
theorem dX9_spot_7 : decode cX9_spot 7 = .ok (.iadd, 1) := by decide +kernel
theorem dX9_spot_8 : decode cX9_spot 8 = .ok (.iload_n 1, 1) := by decide +kernel
theorem dX9_spot_9 : decode cX9_spot 9 = .ok (.ifCond .ne 7, 3) := by decide +kernel
theorem dX9_spot_12 : decode cX9_spot 12 = .ok (.iconst 0, 1) := by decide +kernel
theorem dX9_spot_13 : decode cX9_spot 13 = .ok (.goto 34, 3) := by decide +kernel
theorem dX9_spot_16 : decode cX9_spot 16 = .ok (.iload_n 1, 1) := by decide +kernel
theorem dX9_spot_17 : decode cX9_spot 17 = .ok (.iconst 1, 1) := by decide +kernel
theorem dX9_spot_18 : decode cX9_spot 18 = .ok (.if_icmp .ne 7, 3) := by decide +kernel
theorem dX9_spot_21 : decode cX9_spot 21 = .ok (.iconst 5, 1) := by decide +kernel
theorem dX9_spot_22 : decode cX9_spot 22 = .ok (.goto 25, 3) := by decide +kernel
theorem dX9_spot_25 : decode cX9_spot 25 = .ok (.iload_n 1, 1) := by decide +kernel
theorem dX9_spot_26 : decode cX9_spot 26 = .ok (.iconst 2, 1) := by decide +kernel
theorem dX9_spot_27 : decode cX9_spot 27 = .ok (.if_icmp .ne 8, 3) := by decide +kernel
theorem dX9_spot_30 : decode cX9_spot 30 = .ok (.bipush 9, 2) := by decide +kernel
theorem dX9_spot_32 : decode cX9_spot 32 = .ok (.goto 15, 3) := by decide +kernel
theorem dX9_spot_35 : decode cX9_spot 35 = .ok (.iload_n 1, 1) := by decide +kernel
theorem dX9_spot_36 : decode cX9_spot 36 = .ok (.iconst 3, 1) := by decide +kernel
theorem dX9_spot_37 : decode cX9_spot 37 = .ok (.if_icmp .ne 8, 3) := by decide +kernel
theorem dX9_spot_40 : decode cX9_spot 40 = .ok (.bipush 12, 2) := by decide +kernel
theorem dX9_spot_42 : decode cX9_spot 42 = .ok (.goto 5, 3) := by decide +kernel
theorem dX9_spot_45 : decode cX9_spot 45 = .ok (.bipush 14, 2) := by decide +kernel
theorem dX9_spot_47 : decode cX9_spot 47 = .ok (.iadd, 1) := by decide +kernel
theorem dX9_spot_48 : decode cX9_spot 48 = .ok (.iload_n 2, 1) := by decide +kernel
theorem dX9_spot_49 : decode cX9_spot 49 = .ok (.iadd, 1) := by decide +kernel
theorem dX9_spot_50 : decode cX9_spot 50 = .ok (.ireturn, 1) := by decide +kernel
theorem dX9_isAt_0 : decode cX9_isAt 0 = .ok (.iload_n 0, 1) := by decide +kernel
theorem dX9_isAt_1 : decode cX9_isAt 1 = .ok (.ifCond .lt 20, 3) := by decide +kernel
theorem dX9_isAt_4 : decode cX9_isAt 4 = .ok (.iload_n 0, 1) := by decide +kernel
theorem dX9_isAt_5 : decode cX9_isAt 5 = .ok (.bipush 10, 2) := by decide +kernel
theorem dX9_isAt_7 : decode cX9_isAt 7 = .ok (.idiv, 1) := by decide +kernel
theorem dX9_isAt_8 : decode cX9_isAt 8 = .ok (.iload_n 0, 1) := by decide +kernel
theorem dX9_isAt_9 : decode cX9_isAt 9 = .ok (.bipush 10, 2) := by decide +kernel
theorem dX9_isAt_11 : decode cX9_isAt 11 = .ok (.irem, 1) := by decide +kernel
theorem dX9_isAt_12 : decode cX9_isAt 12 = .ok (.iadd, 1) := by decide +kernel
theorem dX9_isAt_13 : decode cX9_isAt 13 = .ok (.iconst 4, 1) := by decide +kernel
theorem dX9_isAt_14 : decode cX9_isAt 14 = .ok (.if_icmp .gt 7, 3) := by decide +kernel
theorem dX9_isAt_17 : decode cX9_isAt 17 = .ok (.iconst 1, 1) := by decide +kernel
theorem dX9_isAt_18 : decode cX9_isAt 18 = .ok (.goto 4, 3) := by decide +kernel
theorem dX9_isAt_21 : decode cX9_isAt 21 = .ok (.iconst 0, 1) := by decide +kernel
theorem dX9_isAt_22 : decode cX9_isAt 22 = .ok (.ireturn, 1) := by decide +kernel
theorem dX9_kindOf_0 : decode cX9_kindOf 0 = .ok (.aload_n 0, 1) := by decide +kernel
theorem dX9_kindOf_1 : decode cX9_kindOf 1 = .ok (.getfield 9, 3) := by decide +kernel
theorem dX9_kindOf_4 : decode cX9_kindOf 4 = .ok (.iconst 3, 1) := by decide +kernel
theorem dX9_kindOf_5 : decode cX9_kindOf 5 = .ok (.bipush 16, 2) := by decide +kernel
theorem dX9_kindOf_7 : decode cX9_kindOf 7 = .ok (.iload_n 1, 1) := by decide +kernel
theorem dX9_kindOf_8 : decode cX9_kindOf 8 = .ok (.imul, 1) := by decide +kernel
theorem dX9_kindOf_9 : decode cX9_kindOf 9 = .ok (.iadd, 1) := by decide +kernel
theorem dX9_kindOf_10 : decode cX9_kindOf 10 = .ok (.iaload, 1) := by decide +kernel
theorem dX9_kindOf_11 : decode cX9_kindOf 11 = .ok (.ireturn, 1) := by decide +kernel
theorem dX9_comes_0 : decode cX9_comes 0 = .ok (.iconst 3, 1) := by decide +kernel
theorem dX9_comes_1 : decode cX9_comes 1 = .ok (.bipush 16, 2) := by decide +kernel
theorem dX9_comes_3 : decode cX9_comes 3 = .ok (.aload_n 0, 1) := by decide +kernel
theorem dX9_comes_4 : decode cX9_comes 4 = .ok (.getfield 9, 3) := by decide +kernel
theorem dX9_comes_7 : decode cX9_comes 7 = .ok (.iconst 1, 1) := by decide +kernel
theorem dX9_comes_8 : decode cX9_comes 8 = .ok (.iaload, 1) := by decide +kernel
theorem dX9_comes_9 : decode cX9_comes 9 = .ok (.imul, 1) := by decide +kernel
theorem dX9_comes_10 : decode cX9_comes 10 = .ok (.iadd, 1) := by decide +kernel
theorem dX9_comes_11 : decode cX9_comes 11 = .ok (.istore_n 2, 1) := by decide +kernel
theorem dX9_comes_12 : decode cX9_comes 12 = .ok (.iconst 1, 1) := by decide +kernel
theorem dX9_comes_13 : decode cX9_comes 13 = .ok (.istore_n 3, 1) := by decide +kernel
theorem dX9_comes_14 : decode cX9_comes 14 = .ok (.iload_n 3, 1) := by decide +kernel
theorem dX9_comes_15 : decode cX9_comes 15 = .ok (.bipush 16, 2) := by decide +kernel
theorem dX9_comes_17 : decode cX9_comes 17 = .ok (.if_icmp .ge 18, 3) := by decide +kernel
theorem dX9_comes_20 : decode cX9_comes 20 = .ok (.aload_n 0, 1) := by decide +kernel
theorem dX9_comes_21 : decode cX9_comes 21 = .ok (.getfield 9, 3) := by decide +kernel
theorem dX9_comes_24 : decode cX9_comes 24 = .ok (.iload_n 2, 1) := by decide +kernel
theorem dX9_comes_25 : decode cX9_comes 25 = .ok (.iload_n 3, 1) := by decide +kernel
theorem dX9_comes_26 : decode cX9_comes 26 = .ok (.iadd, 1) := by decide +kernel
theorem dX9_comes_27 : decode cX9_comes 27 = .ok (.iconst 0, 1) := by decide +kernel
theorem dX9_comes_28 : decode cX9_comes 28 = .ok (.iastore, 1) := by decide +kernel
theorem dX9_comes_29 : decode cX9_comes 29 = .ok (.iinc 3 1, 3) := by decide +kernel
theorem dX9_comes_32 : decode cX9_comes 32 = .ok (.goto (-18), 3) := by decide +kernel
theorem dX9_comes_35 : decode cX9_comes 35 = .ok (.aload_n 0, 1) := by decide +kernel
theorem dX9_comes_36 : decode cX9_comes 36 = .ok (.getfield 9, 3) := by decide +kernel
theorem dX9_comes_39 : decode cX9_comes 39 = .ok (.iload_n 2, 1) := by decide +kernel
theorem dX9_comes_40 : decode cX9_comes 40 = .ok (.iload_n 1, 1) := by decide +kernel
theorem dX9_comes_41 : decode cX9_comes 41 = .ok (.iastore, 1) := by decide +kernel
theorem dX9_comes_42 : decode cX9_comes 42 = .ok (.aload_n 0, 1) := by decide +kernel
theorem dX9_comes_43 : decode cX9_comes 43 = .ok (.getfield 9, 3) := by decide +kernel
theorem dX9_comes_46 : decode cX9_comes 46 = .ok (.iconst 1, 1) := by decide +kernel
theorem dX9_comes_47 : decode cX9_comes 47 = .ok (.dup2, 1) := by decide +kernel
theorem dX9_comes_48 : decode cX9_comes 48 = .ok (.iaload, 1) := by decide +kernel
theorem dX9_comes_49 : decode cX9_comes 49 = .ok (.iconst 1, 1) := by decide +kernel
theorem dX9_comes_50 : decode cX9_comes 50 = .ok (.iadd, 1) := by decide +kernel
theorem dX9_comes_51 : decode cX9_comes 51 = .ok (.iastore, 1) := by decide +kernel
theorem dX9_comes_52 : decode cX9_comes 52 = .ok (.aload_n 0, 1) := by decide +kernel
theorem dX9_comes_53 : decode cX9_comes 53 = .ok (.getfield 9, 3) := by decide +kernel
theorem dX9_comes_56 : decode cX9_comes 56 = .ok (.iconst 1, 1) := by decide +kernel
theorem dX9_comes_57 : decode cX9_comes 57 = .ok (.iaload, 1) := by decide +kernel
theorem dX9_comes_58 : decode cX9_comes 58 = .ok (.iconst 1, 1) := by decide +kernel
theorem dX9_comes_59 : decode cX9_comes 59 = .ok (.isub, 1) := by decide +kernel
theorem dX9_comes_60 : decode cX9_comes 60 = .ok (.ireturn, 1) := by decide +kernel
theorem dX9_curve_0 : decode cX9_curve 0 = .ok (.iload_n 1, 1) := by decide +kernel
theorem dX9_curve_1 : decode cX9_curve 1 = .ok (.iconst 0, 1) := by decide +kernel
theorem dX9_curve_2 : decode cX9_curve 2 = .ok (.iconst 5, 1) := by decide +kernel
theorem dX9_curve_3 : decode cX9_curve 3 = .ok (.invokestatic 88, 3) := by decide +kernel
theorem dX9_curve_6 : decode cX9_curve 6 = .ok (.ifCond .ne 6, 3) := by decide +kernel
theorem dX9_curve_9 : decode cX9_curve 9 = .ok (.ldc 92, 2) := by decide +kernel
theorem dX9_curve_11 : decode cX9_curve 11 = .ok (.ireturn, 1) := by decide +kernel
theorem dX9_curve_12 : decode cX9_curve 12 = .ok (.aload_n 0, 1) := by decide +kernel
theorem dX9_curve_13 : decode cX9_curve 13 = .ok (.getfield 9, 3) := by decide +kernel
theorem dX9_curve_16 : decode cX9_curve 16 = .ok (.iconst 1, 1) := by decide +kernel
theorem dX9_curve_17 : decode cX9_curve 17 = .ok (.iaload, 1) := by decide +kernel
theorem dX9_curve_18 : decode cX9_curve 18 = .ok (.bipush 6, 2) := by decide +kernel
theorem dX9_curve_20 : decode cX9_curve 20 = .ok (.if_icmp .ne 8, 3) := by decide +kernel
theorem dX9_curve_23 : decode cX9_curve 23 = .ok (.ldc 93, 2) := by decide +kernel
theorem dX9_curve_25 : decode cX9_curve 25 = .ok (.goto 8, 3) := by decide +kernel
theorem dX9_curve_28 : decode cX9_curve 28 = .ok (.aload_n 0, 1) := by decide +kernel
theorem dX9_curve_29 : decode cX9_curve 29 = .ok (.iload_n 1, 1) := by decide +kernel
theorem dX9_curve_30 : decode cX9_curve 30 = .ok (.invokevirtual 94, 3) := by decide +kernel
theorem dX9_curve_33 : decode cX9_curve 33 = .ok (.ireturn, 1) := by decide +kernel
theorem dX9_put_0 : decode cX9_put 0 = .ok (.aload_n 0, 1) := by decide +kernel
theorem dX9_put_1 : decode cX9_put 1 = .ok (.iload_n 1, 1) := by decide +kernel
theorem dX9_put_2 : decode cX9_put 2 = .ok (.invokevirtual 98, 3) := by decide +kernel
theorem dX9_put_5 : decode cX9_put 5 = .ok (.ifCond .eq 21, 3) := by decide +kernel
theorem dX9_put_8 : decode cX9_put 8 = .ok (.iload_n 2, 1) := by decide +kernel
theorem dX9_put_9 : decode cX9_put 9 = .ok (.invokestatic 102, 3) := by decide +kernel
theorem dX9_put_12 : decode cX9_put 12 = .ok (.ifCond .eq 14, 3) := by decide +kernel
theorem dX9_put_15 : decode cX9_put 15 = .ok (.iload_n 3, 1) := by decide +kernel
theorem dX9_put_16 : decode cX9_put 16 = .ok (.bipush (-99), 2) := by decide +kernel
theorem dX9_put_18 : decode cX9_put 18 = .ok (.bipush 99, 2) := by decide +kernel
theorem dX9_put_20 : decode cX9_put 20 = .ok (.invokestatic 88, 3) := by decide +kernel
theorem dX9_put_23 : decode cX9_put 23 = .ok (.ifCond .ne 6, 3) := by decide +kernel
theorem dX9_put_26 : decode cX9_put 26 = .ok (.ldc 92, 2) := by decide +kernel
theorem dX9_put_28 : decode cX9_put 28 = .ok (.ireturn, 1) := by decide +kernel
theorem dX9_put_29 : decode cX9_put 29 = .ok (.iload_n 1, 1) := by decide +kernel
theorem dX9_put_30 : decode cX9_put 30 = .ok (.iload_n 2, 1) := by decide +kernel
theorem dX9_put_31 : decode cX9_put 31 = .ok (.bipush 10, 2) := by decide +kernel
theorem dX9_put_33 : decode cX9_put 33 = .ok (.idiv, 1) := by decide +kernel
theorem dX9_put_34 : decode cX9_put 34 = .ok (.iload_n 2, 1) := by decide +kernel
theorem dX9_put_35 : decode cX9_put 35 = .ok (.bipush 10, 2) := by decide +kernel
theorem dX9_put_37 : decode cX9_put 37 = .ok (.irem, 1) := by decide +kernel
theorem dX9_put_38 : decode cX9_put 38 = .ok (.invokestatic 105, 3) := by decide +kernel
theorem dX9_put_41 : decode cX9_put 41 = .ok (.istore 4, 2) := by decide +kernel
theorem dX9_put_43 : decode cX9_put 43 = .ok (.aload_n 0, 1) := by decide +kernel
theorem dX9_put_44 : decode cX9_put 44 = .ok (.getfield 9, 3) := by decide +kernel
theorem dX9_put_47 : decode cX9_put 47 = .ok (.iload 4, 2) := by decide +kernel
theorem dX9_put_49 : decode cX9_put 49 = .ok (.iaload, 1) := by decide +kernel
theorem dX9_put_50 : decode cX9_put 50 = .ok (.istore 5, 2) := by decide +kernel
theorem dX9_put_52 : decode cX9_put 52 = .ok (.aload_n 0, 1) := by decide +kernel
theorem dX9_put_53 : decode cX9_put 53 = .ok (.getfield 9, 3) := by decide +kernel
theorem dX9_put_56 : decode cX9_put 56 = .ok (.iload 4, 2) := by decide +kernel
theorem dX9_put_58 : decode cX9_put 58 = .ok (.iload_n 3, 1) := by decide +kernel
theorem dX9_put_59 : decode cX9_put 59 = .ok (.iastore, 1) := by decide +kernel
theorem dX9_put_60 : decode cX9_put 60 = .ok (.iload 5, 2) := by decide +kernel
theorem dX9_put_62 : decode cX9_put 62 = .ok (.ireturn, 1) := by decide +kernel
theorem dX9_plain_0 : decode cX9_plain 0 = .ok (.aload_n 0, 1) := by decide +kernel
theorem dX9_plain_1 : decode cX9_plain 1 = .ok (.getfield 9, 3) := by decide +kernel
theorem dX9_plain_4 : decode cX9_plain 4 = .ok (.iload_n 1, 1) := by decide +kernel
theorem dX9_plain_5 : decode cX9_plain 5 = .ok (.iload_n 2, 1) := by decide +kernel
theorem dX9_plain_6 : decode cX9_plain 6 = .ok (.iload_n 3, 1) := by decide +kernel
theorem dX9_plain_7 : decode cX9_plain 7 = .ok (.invokestatic 105, 3) := by decide +kernel
theorem dX9_plain_10 : decode cX9_plain 10 = .ok (.iaload, 1) := by decide +kernel
theorem dX9_plain_11 : decode cX9_plain 11 = .ok (.istore 4, 2) := by decide +kernel
theorem dX9_plain_13 : decode cX9_plain 13 = .ok (.aload_n 0, 1) := by decide +kernel
theorem dX9_plain_14 : decode cX9_plain 14 = .ok (.iconst 0, 1) := by decide +kernel
theorem dX9_plain_15 : decode cX9_plain 15 = .ok (.invokevirtual 109, 3) := by decide +kernel
theorem dX9_plain_18 : decode cX9_plain 18 = .ok (.istore 5, 2) := by decide +kernel
theorem dX9_plain_20 : decode cX9_plain 20 = .ok (.aload_n 0, 1) := by decide +kernel
theorem dX9_plain_21 : decode cX9_plain 21 = .ok (.getfield 58, 3) := by decide +kernel
theorem dX9_plain_24 : decode cX9_plain 24 = .ok (.iconst 0, 1) := by decide +kernel
theorem dX9_plain_25 : decode cX9_plain 25 = .ok (.iload_n 2, 1) := by decide +kernel
theorem dX9_plain_26 : decode cX9_plain 26 = .ok (.iastore, 1) := by decide +kernel
theorem dX9_plain_27 : decode cX9_plain 27 = .ok (.aload_n 0, 1) := by decide +kernel
theorem dX9_plain_28 : decode cX9_plain 28 = .ok (.getfield 58, 3) := by decide +kernel
theorem dX9_plain_31 : decode cX9_plain 31 = .ok (.iconst 1, 1) := by decide +kernel
theorem dX9_plain_32 : decode cX9_plain 32 = .ok (.iload_n 3, 1) := by decide +kernel
theorem dX9_plain_33 : decode cX9_plain 33 = .ok (.iastore, 1) := by decide +kernel
theorem dX9_plain_34 : decode cX9_plain 34 = .ok (.aload_n 0, 1) := by decide +kernel
theorem dX9_plain_35 : decode cX9_plain 35 = .ok (.getfield 58, 3) := by decide +kernel
theorem dX9_plain_38 : decode cX9_plain 38 = .ok (.iconst 2, 1) := by decide +kernel
theorem dX9_plain_39 : decode cX9_plain 39 = .ok (.iload 4, 2) := by decide +kernel
theorem dX9_plain_41 : decode cX9_plain 41 = .ok (.iastore, 1) := by decide +kernel
theorem dX9_plain_42 : decode cX9_plain 42 = .ok (.iload 5, 2) := by decide +kernel
theorem dX9_plain_44 : decode cX9_plain 44 = .ok (.ifCond .ge 8, 3) := by decide +kernel
theorem dX9_plain_47 : decode cX9_plain 47 = .ok (.iload 4, 2) := by decide +kernel
theorem dX9_plain_49 : decode cX9_plain 49 = .ok (.goto 16, 3) := by decide +kernel
theorem dX9_plain_52 : decode cX9_plain 52 = .ok (.aload_n 0, 1) := by decide +kernel
theorem dX9_plain_53 : decode cX9_plain 53 = .ok (.iload 5, 2) := by decide +kernel
theorem dX9_plain_55 : decode cX9_plain 55 = .ok (.invokevirtual 112, 3) := by decide +kernel
theorem dX9_plain_58 : decode cX9_plain 58 = .ok (.bipush (-99), 2) := by decide +kernel
theorem dX9_plain_60 : decode cX9_plain 60 = .ok (.bipush 99, 2) := by decide +kernel
theorem dX9_plain_62 : decode cX9_plain 62 = .ok (.invokestatic 115, 3) := by decide +kernel
theorem dX9_plain_65 : decode cX9_plain 65 = .ok (.ireturn, 1) := by decide +kernel
theorem dX9_termOf_0 : decode cX9_termOf 0 = .ok (.aload_n 0, 1) := by decide +kernel
theorem dX9_termOf_1 : decode cX9_termOf 1 = .ok (.iload_n 1, 1) := by decide +kernel
theorem dX9_termOf_2 : decode cX9_termOf 2 = .ok (.invokevirtual 118, 3) := by decide +kernel
theorem dX9_termOf_5 : decode cX9_termOf 5 = .ok (.tableswitch 122 1 5 #[35, 43, 69, 78, 106], 35) := by decide +kernel
theorem dX9_termOf_40 : decode cX9_termOf 40 = .ok (.aload_n 0, 1) := by decide +kernel
theorem dX9_termOf_41 : decode cX9_termOf 41 = .ok (.iload_n 1, 1) := by decide +kernel
theorem dX9_termOf_42 : decode cX9_termOf 42 = .ok (.iload_n 3, 1) := by decide +kernel
theorem dX9_termOf_43 : decode cX9_termOf 43 = .ok (.iload_n 2, 1) := by decide +kernel
theorem dX9_termOf_44 : decode cX9_termOf 44 = .ok (.invokevirtual 121, 3) := by decide +kernel
theorem dX9_termOf_47 : decode cX9_termOf 47 = .ok (.ireturn, 1) := by decide +kernel
theorem dX9_termOf_48 : decode cX9_termOf 48 = .ok (.iload_n 2, 1) := by decide +kernel
theorem dX9_termOf_49 : decode cX9_termOf 49 = .ok (.iconst 2, 1) := by decide +kernel
theorem dX9_termOf_50 : decode cX9_termOf 50 = .ok (.irem, 1) := by decide +kernel
theorem dX9_termOf_51 : decode cX9_termOf 51 = .ok (.iconst 1, 1) := by decide +kernel
theorem dX9_termOf_52 : decode cX9_termOf 52 = .ok (.if_icmp .ne 14, 3) := by decide +kernel
theorem dX9_termOf_55 : decode cX9_termOf 55 = .ok (.aload_n 0, 1) := by decide +kernel
theorem dX9_termOf_56 : decode cX9_termOf 56 = .ok (.iload_n 1, 1) := by decide +kernel
theorem dX9_termOf_57 : decode cX9_termOf 57 = .ok (.iload_n 2, 1) := by decide +kernel
theorem dX9_termOf_58 : decode cX9_termOf 58 = .ok (.iload_n 3, 1) := by decide +kernel
theorem dX9_termOf_59 : decode cX9_termOf 59 = .ok (.invokevirtual 121, 3) := by decide +kernel
theorem dX9_termOf_62 : decode cX9_termOf 62 = .ok (.ineg, 1) := by decide +kernel
theorem dX9_termOf_63 : decode cX9_termOf 63 = .ok (.goto 10, 3) := by decide +kernel
theorem dX9_termOf_66 : decode cX9_termOf 66 = .ok (.aload_n 0, 1) := by decide +kernel
theorem dX9_termOf_67 : decode cX9_termOf 67 = .ok (.iload_n 1, 1) := by decide +kernel
theorem dX9_termOf_68 : decode cX9_termOf 68 = .ok (.iload_n 2, 1) := by decide +kernel
theorem dX9_termOf_69 : decode cX9_termOf 69 = .ok (.iload_n 3, 1) := by decide +kernel
theorem dX9_termOf_70 : decode cX9_termOf 70 = .ok (.invokevirtual 121, 3) := by decide +kernel
theorem dX9_termOf_73 : decode cX9_termOf 73 = .ok (.ireturn, 1) := by decide +kernel
theorem dX9_termOf_74 : decode cX9_termOf 74 = .ok (.aload_n 0, 1) := by decide +kernel
theorem dX9_termOf_75 : decode cX9_termOf 75 = .ok (.iload_n 1, 1) := by decide +kernel
theorem dX9_termOf_76 : decode cX9_termOf 76 = .ok (.iload_n 3, 1) := by decide +kernel
theorem dX9_termOf_77 : decode cX9_termOf 77 = .ok (.iload_n 2, 1) := by decide +kernel
theorem dX9_termOf_78 : decode cX9_termOf 78 = .ok (.invokevirtual 121, 3) := by decide +kernel
theorem dX9_termOf_81 : decode cX9_termOf 81 = .ok (.ineg, 1) := by decide +kernel
theorem dX9_termOf_82 : decode cX9_termOf 82 = .ok (.ireturn, 1) := by decide +kernel
theorem dX9_termOf_83 : decode cX9_termOf 83 = .ok (.iconst 2, 1) := by decide +kernel
theorem dX9_termOf_84 : decode cX9_termOf 84 = .ok (.iload_n 2, 1) := by decide +kernel
theorem dX9_termOf_85 : decode cX9_termOf 85 = .ok (.iconst 2, 1) := by decide +kernel
theorem dX9_termOf_86 : decode cX9_termOf 86 = .ok (.irem, 1) := by decide +kernel
theorem dX9_termOf_87 : decode cX9_termOf 87 = .ok (.iconst 1, 1) := by decide +kernel
theorem dX9_termOf_88 : decode cX9_termOf 88 = .ok (.if_icmp .ne 14, 3) := by decide +kernel
theorem dX9_termOf_91 : decode cX9_termOf 91 = .ok (.aload_n 0, 1) := by decide +kernel
theorem dX9_termOf_92 : decode cX9_termOf 92 = .ok (.iload_n 1, 1) := by decide +kernel
theorem dX9_termOf_93 : decode cX9_termOf 93 = .ok (.iload_n 2, 1) := by decide +kernel
theorem dX9_termOf_94 : decode cX9_termOf 94 = .ok (.iload_n 3, 1) := by decide +kernel
theorem dX9_termOf_95 : decode cX9_termOf 95 = .ok (.invokevirtual 121, 3) := by decide +kernel
theorem dX9_termOf_98 : decode cX9_termOf 98 = .ok (.ineg, 1) := by decide +kernel
theorem dX9_termOf_99 : decode cX9_termOf 99 = .ok (.goto 10, 3) := by decide +kernel
theorem dX9_termOf_102 : decode cX9_termOf 102 = .ok (.aload_n 0, 1) := by decide +kernel
theorem dX9_termOf_103 : decode cX9_termOf 103 = .ok (.iload_n 1, 1) := by decide +kernel
theorem dX9_termOf_104 : decode cX9_termOf 104 = .ok (.iload_n 2, 1) := by decide +kernel
theorem dX9_termOf_105 : decode cX9_termOf 105 = .ok (.iload_n 3, 1) := by decide +kernel
theorem dX9_termOf_106 : decode cX9_termOf 106 = .ok (.invokevirtual 121, 3) := by decide +kernel
theorem dX9_termOf_109 : decode cX9_termOf 109 = .ok (.imul, 1) := by decide +kernel
theorem dX9_termOf_110 : decode cX9_termOf 110 = .ok (.ireturn, 1) := by decide +kernel
theorem dX9_termOf_111 : decode cX9_termOf 111 = .ok (.iload_n 3, 1) := by decide +kernel
theorem dX9_termOf_112 : decode cX9_termOf 112 = .ok (.ifCond .ne 13, 3) := by decide +kernel
theorem dX9_termOf_115 : decode cX9_termOf 115 = .ok (.aload_n 0, 1) := by decide +kernel
theorem dX9_termOf_116 : decode cX9_termOf 116 = .ok (.iload_n 1, 1) := by decide +kernel
theorem dX9_termOf_117 : decode cX9_termOf 117 = .ok (.iload_n 2, 1) := by decide +kernel
theorem dX9_termOf_118 : decode cX9_termOf 118 = .ok (.iload_n 3, 1) := by decide +kernel
theorem dX9_termOf_119 : decode cX9_termOf 119 = .ok (.invokevirtual 121, 3) := by decide +kernel
theorem dX9_termOf_122 : decode cX9_termOf 122 = .ok (.goto 4, 3) := by decide +kernel
theorem dX9_termOf_125 : decode cX9_termOf 125 = .ok (.iconst 0, 1) := by decide +kernel
theorem dX9_termOf_126 : decode cX9_termOf 126 = .ok (.ireturn, 1) := by decide +kernel
theorem dX9_termOf_127 : decode cX9_termOf 127 = .ok (.aload_n 0, 1) := by decide +kernel
theorem dX9_termOf_128 : decode cX9_termOf 128 = .ok (.iload_n 1, 1) := by decide +kernel
theorem dX9_termOf_129 : decode cX9_termOf 129 = .ok (.iload_n 2, 1) := by decide +kernel
theorem dX9_termOf_130 : decode cX9_termOf 130 = .ok (.iload_n 3, 1) := by decide +kernel
theorem dX9_termOf_131 : decode cX9_termOf 131 = .ok (.invokevirtual 121, 3) := by decide +kernel
theorem dX9_termOf_134 : decode cX9_termOf 134 = .ok (.ireturn, 1) := by decide +kernel
theorem dX9_term_0 : decode cX9_term 0 = .ok (.aload_n 0, 1) := by decide +kernel
theorem dX9_term_1 : decode cX9_term 1 = .ok (.iload_n 1, 1) := by decide +kernel
theorem dX9_term_2 : decode cX9_term 2 = .ok (.invokevirtual 98, 3) := by decide +kernel
theorem dX9_term_5 : decode cX9_term 5 = .ok (.ifCond .eq 19, 3) := by decide +kernel
theorem dX9_term_8 : decode cX9_term 8 = .ok (.iload_n 2, 1) := by decide +kernel
theorem dX9_term_9 : decode cX9_term 9 = .ok (.invokestatic 102, 3) := by decide +kernel
theorem dX9_term_12 : decode cX9_term 12 = .ok (.ifCond .eq 12, 3) := by decide +kernel
theorem dX9_term_15 : decode cX9_term 15 = .ok (.iload_n 3, 1) := by decide +kernel
theorem dX9_term_16 : decode cX9_term 16 = .ok (.iconst 0, 1) := by decide +kernel
theorem dX9_term_17 : decode cX9_term 17 = .ok (.iconst 1, 1) := by decide +kernel
theorem dX9_term_18 : decode cX9_term 18 = .ok (.invokestatic 88, 3) := by decide +kernel
theorem dX9_term_21 : decode cX9_term 21 = .ok (.ifCond .ne 6, 3) := by decide +kernel
theorem dX9_term_24 : decode cX9_term 24 = .ok (.ldc 92, 2) := by decide +kernel
theorem dX9_term_26 : decode cX9_term 26 = .ok (.ireturn, 1) := by decide +kernel
theorem dX9_term_27 : decode cX9_term 27 = .ok (.iload_n 3, 1) := by decide +kernel
theorem dX9_term_28 : decode cX9_term 28 = .ok (.ifCond .ne 23, 3) := by decide +kernel
theorem dX9_term_31 : decode cX9_term 31 = .ok (.aload_n 0, 1) := by decide +kernel
theorem dX9_term_32 : decode cX9_term 32 = .ok (.getfield 9, 3) := by decide +kernel
theorem dX9_term_35 : decode cX9_term 35 = .ok (.iload_n 1, 1) := by decide +kernel
theorem dX9_term_36 : decode cX9_term 36 = .ok (.iload_n 2, 1) := by decide +kernel
theorem dX9_term_37 : decode cX9_term 37 = .ok (.bipush 10, 2) := by decide +kernel
theorem dX9_term_39 : decode cX9_term 39 = .ok (.idiv, 1) := by decide +kernel
theorem dX9_term_40 : decode cX9_term 40 = .ok (.iload_n 2, 1) := by decide +kernel
theorem dX9_term_41 : decode cX9_term 41 = .ok (.bipush 10, 2) := by decide +kernel
theorem dX9_term_43 : decode cX9_term 43 = .ok (.irem, 1) := by decide +kernel
theorem dX9_term_44 : decode cX9_term 44 = .ok (.invokestatic 105, 3) := by decide +kernel
theorem dX9_term_47 : decode cX9_term 47 = .ok (.iaload, 1) := by decide +kernel
theorem dX9_term_48 : decode cX9_term 48 = .ok (.goto 16, 3) := by decide +kernel
theorem dX9_term_51 : decode cX9_term 51 = .ok (.aload_n 0, 1) := by decide +kernel
theorem dX9_term_52 : decode cX9_term 52 = .ok (.iload_n 1, 1) := by decide +kernel
theorem dX9_term_53 : decode cX9_term 53 = .ok (.iload_n 2, 1) := by decide +kernel
theorem dX9_term_54 : decode cX9_term 54 = .ok (.bipush 10, 2) := by decide +kernel
theorem dX9_term_56 : decode cX9_term 56 = .ok (.idiv, 1) := by decide +kernel
theorem dX9_term_57 : decode cX9_term 57 = .ok (.iload_n 2, 1) := by decide +kernel
theorem dX9_term_58 : decode cX9_term 58 = .ok (.bipush 10, 2) := by decide +kernel
theorem dX9_term_60 : decode cX9_term 60 = .ok (.irem, 1) := by decide +kernel
theorem dX9_term_61 : decode cX9_term 61 = .ok (.invokevirtual 124, 3) := by decide +kernel
theorem dX9_term_64 : decode cX9_term 64 = .ok (.ireturn, 1) := by decide +kernel
theorem dX9_manyOf_0 : decode cX9_manyOf 0 = .ok (.iconst 0, 1) := by decide +kernel
theorem dX9_manyOf_1 : decode cX9_manyOf 1 = .ok (.istore_n 2, 1) := by decide +kernel
theorem dX9_manyOf_2 : decode cX9_manyOf 2 = .ok (.iconst 1, 1) := by decide +kernel
theorem dX9_manyOf_3 : decode cX9_manyOf 3 = .ok (.istore_n 3, 1) := by decide +kernel
theorem dX9_manyOf_4 : decode cX9_manyOf 4 = .ok (.iload_n 3, 1) := by decide +kernel
theorem dX9_manyOf_5 : decode cX9_manyOf 5 = .ok (.bipush 16, 2) := by decide +kernel
theorem dX9_manyOf_7 : decode cX9_manyOf 7 = .ok (.if_icmp .ge 33, 3) := by decide +kernel
theorem dX9_manyOf_10 : decode cX9_manyOf 10 = .ok (.iload_n 2, 1) := by decide +kernel
theorem dX9_manyOf_11 : decode cX9_manyOf 11 = .ok (.aload_n 0, 1) := by decide +kernel
theorem dX9_manyOf_12 : decode cX9_manyOf 12 = .ok (.getfield 9, 3) := by decide +kernel
theorem dX9_manyOf_15 : decode cX9_manyOf 15 = .ok (.iconst 3, 1) := by decide +kernel
theorem dX9_manyOf_16 : decode cX9_manyOf 16 = .ok (.bipush 16, 2) := by decide +kernel
theorem dX9_manyOf_18 : decode cX9_manyOf 18 = .ok (.iload_n 1, 1) := by decide +kernel
theorem dX9_manyOf_19 : decode cX9_manyOf 19 = .ok (.imul, 1) := by decide +kernel
theorem dX9_manyOf_20 : decode cX9_manyOf 20 = .ok (.iadd, 1) := by decide +kernel
theorem dX9_manyOf_21 : decode cX9_manyOf 21 = .ok (.iload_n 3, 1) := by decide +kernel
theorem dX9_manyOf_22 : decode cX9_manyOf 22 = .ok (.iadd, 1) := by decide +kernel
theorem dX9_manyOf_23 : decode cX9_manyOf 23 = .ok (.iaload, 1) := by decide +kernel
theorem dX9_manyOf_24 : decode cX9_manyOf 24 = .ok (.ifCond .eq 7, 3) := by decide +kernel
theorem dX9_manyOf_27 : decode cX9_manyOf 27 = .ok (.iconst 1, 1) := by decide +kernel
theorem dX9_manyOf_28 : decode cX9_manyOf 28 = .ok (.goto 4, 3) := by decide +kernel
theorem dX9_manyOf_31 : decode cX9_manyOf 31 = .ok (.iconst 0, 1) := by decide +kernel
theorem dX9_manyOf_32 : decode cX9_manyOf 32 = .ok (.iadd, 1) := by decide +kernel
theorem dX9_manyOf_33 : decode cX9_manyOf 33 = .ok (.istore_n 2, 1) := by decide +kernel
theorem dX9_manyOf_34 : decode cX9_manyOf 34 = .ok (.iinc 3 1, 3) := by decide +kernel
theorem dX9_manyOf_37 : decode cX9_manyOf 37 = .ok (.goto (-33), 3) := by decide +kernel
theorem dX9_manyOf_40 : decode cX9_manyOf 40 = .ok (.iload_n 2, 1) := by decide +kernel
theorem dX9_manyOf_41 : decode cX9_manyOf 41 = .ok (.ireturn, 1) := by decide +kernel
theorem dX9_worthOf_0 : decode cX9_worthOf 0 = .ok (.aload_n 0, 1) := by decide +kernel
theorem dX9_worthOf_1 : decode cX9_worthOf 1 = .ok (.iload_n 1, 1) := by decide +kernel
theorem dX9_worthOf_2 : decode cX9_worthOf 2 = .ok (.invokevirtual 127, 3) := by decide +kernel
theorem dX9_worthOf_5 : decode cX9_worthOf 5 = .ok (.istore_n 2, 1) := by decide +kernel
theorem dX9_worthOf_6 : decode cX9_worthOf 6 = .ok (.iload_n 2, 1) := by decide +kernel
theorem dX9_worthOf_7 : decode cX9_worthOf 7 = .ok (.aload_n 0, 1) := by decide +kernel
theorem dX9_worthOf_8 : decode cX9_worthOf 8 = .ok (.getfield 9, 3) := by decide +kernel
theorem dX9_worthOf_11 : decode cX9_worthOf 11 = .ok (.iload_n 1, 1) := by decide +kernel
theorem dX9_worthOf_12 : decode cX9_worthOf 12 = .ok (.iconst 1, 1) := by decide +kernel
theorem dX9_worthOf_13 : decode cX9_worthOf 13 = .ok (.iconst 0, 1) := by decide +kernel
theorem dX9_worthOf_14 : decode cX9_worthOf 14 = .ok (.invokestatic 105, 3) := by decide +kernel
theorem dX9_worthOf_17 : decode cX9_worthOf 17 = .ok (.iaload, 1) := by decide +kernel
theorem dX9_worthOf_18 : decode cX9_worthOf 18 = .ok (.iadd, 1) := by decide +kernel
theorem dX9_worthOf_19 : decode cX9_worthOf 19 = .ok (.istore_n 3, 1) := by decide +kernel
theorem dX9_worthOf_20 : decode cX9_worthOf 20 = .ok (.aload_n 0, 1) := by decide +kernel
theorem dX9_worthOf_21 : decode cX9_worthOf 21 = .ok (.iload_n 1, 1) := by decide +kernel
theorem dX9_worthOf_22 : decode cX9_worthOf 22 = .ok (.invokevirtual 118, 3) := by decide +kernel
theorem dX9_worthOf_25 : decode cX9_worthOf 25 = .ok (.tableswitch 62 1 5 #[35, 37, 41, 44, 50], 35) := by decide +kernel
theorem dX9_worthOf_60 : decode cX9_worthOf 60 = .ok (.iload_n 3, 1) := by decide +kernel
theorem dX9_worthOf_61 : decode cX9_worthOf 61 = .ok (.ireturn, 1) := by decide +kernel
theorem dX9_worthOf_62 : decode cX9_worthOf 62 = .ok (.iconst 2, 1) := by decide +kernel
theorem dX9_worthOf_63 : decode cX9_worthOf 63 = .ok (.iload_n 2, 1) := by decide +kernel
theorem dX9_worthOf_64 : decode cX9_worthOf 64 = .ok (.imul, 1) := by decide +kernel
theorem dX9_worthOf_65 : decode cX9_worthOf 65 = .ok (.ireturn, 1) := by decide +kernel
theorem dX9_worthOf_66 : decode cX9_worthOf 66 = .ok (.iload_n 3, 1) := by decide +kernel
theorem dX9_worthOf_67 : decode cX9_worthOf 67 = .ok (.ineg, 1) := by decide +kernel
theorem dX9_worthOf_68 : decode cX9_worthOf 68 = .ok (.ireturn, 1) := by decide +kernel
theorem dX9_worthOf_69 : decode cX9_worthOf 69 = .ok (.iconst 2, 1) := by decide +kernel
theorem dX9_worthOf_70 : decode cX9_worthOf 70 = .ok (.iload_n 2, 1) := by decide +kernel
theorem dX9_worthOf_71 : decode cX9_worthOf 71 = .ok (.imul, 1) := by decide +kernel
theorem dX9_worthOf_72 : decode cX9_worthOf 72 = .ok (.iconst 1, 1) := by decide +kernel
theorem dX9_worthOf_73 : decode cX9_worthOf 73 = .ok (.iadd, 1) := by decide +kernel
theorem dX9_worthOf_74 : decode cX9_worthOf 74 = .ok (.ireturn, 1) := by decide +kernel
theorem dX9_worthOf_75 : decode cX9_worthOf 75 = .ok (.aload_n 0, 1) := by decide +kernel
theorem dX9_worthOf_76 : decode cX9_worthOf 76 = .ok (.getfield 9, 3) := by decide +kernel
theorem dX9_worthOf_79 : decode cX9_worthOf 79 = .ok (.iload_n 1, 1) := by decide +kernel
theorem dX9_worthOf_80 : decode cX9_worthOf 80 = .ok (.iconst 0, 1) := by decide +kernel
theorem dX9_worthOf_81 : decode cX9_worthOf 81 = .ok (.iconst 0, 1) := by decide +kernel
theorem dX9_worthOf_82 : decode cX9_worthOf 82 = .ok (.invokestatic 105, 3) := by decide +kernel
theorem dX9_worthOf_85 : decode cX9_worthOf 85 = .ok (.iaload, 1) := by decide +kernel
theorem dX9_worthOf_86 : decode cX9_worthOf 86 = .ok (.ireturn, 1) := by decide +kernel
theorem dX9_worthOf_87 : decode cX9_worthOf 87 = .ok (.iload_n 2, 1) := by decide +kernel
theorem dX9_worthOf_88 : decode cX9_worthOf 88 = .ok (.ireturn, 1) := by decide +kernel
theorem dX9_findTerms_0 : decode cX9_findTerms 0 = .ok (.iconst 0, 1) := by decide +kernel
theorem dX9_findTerms_1 : decode cX9_findTerms 1 = .ok (.istore_n 2, 1) := by decide +kernel
theorem dX9_findTerms_2 : decode cX9_findTerms 2 = .ok (.iconst 0, 1) := by decide +kernel
theorem dX9_findTerms_3 : decode cX9_findTerms 3 = .ok (.istore_n 3, 1) := by decide +kernel
theorem dX9_findTerms_4 : decode cX9_findTerms 4 = .ok (.iload_n 3, 1) := by decide +kernel
theorem dX9_findTerms_5 : decode cX9_findTerms 5 = .ok (.iconst 5, 1) := by decide +kernel
theorem dX9_findTerms_6 : decode cX9_findTerms 6 = .ok (.if_icmp .ge 77, 3) := by decide +kernel
theorem dX9_findTerms_9 : decode cX9_findTerms 9 = .ok (.iconst 0, 1) := by decide +kernel
theorem dX9_findTerms_10 : decode cX9_findTerms 10 = .ok (.istore 4, 2) := by decide +kernel
theorem dX9_findTerms_12 : decode cX9_findTerms 12 = .ok (.iload 4, 2) := by decide +kernel
theorem dX9_findTerms_14 : decode cX9_findTerms 14 = .ok (.iconst 5, 1) := by decide +kernel
theorem dX9_findTerms_15 : decode cX9_findTerms 15 = .ok (.if_icmp .ge 62, 3) := by decide +kernel
theorem dX9_findTerms_18 : decode cX9_findTerms 18 = .ok (.aload_n 0, 1) := by decide +kernel
theorem dX9_findTerms_19 : decode cX9_findTerms 19 = .ok (.getfield 19, 3) := by decide +kernel
theorem dX9_findTerms_22 : decode cX9_findTerms 22 = .ok (.iconst 5, 1) := by decide +kernel
theorem dX9_findTerms_23 : decode cX9_findTerms 23 = .ok (.iload_n 3, 1) := by decide +kernel
theorem dX9_findTerms_24 : decode cX9_findTerms 24 = .ok (.imul, 1) := by decide +kernel
theorem dX9_findTerms_25 : decode cX9_findTerms 25 = .ok (.iload 4, 2) := by decide +kernel
theorem dX9_findTerms_27 : decode cX9_findTerms 27 = .ok (.iadd, 1) := by decide +kernel
theorem dX9_findTerms_28 : decode cX9_findTerms 28 = .ok (.iload_n 3, 1) := by decide +kernel
theorem dX9_findTerms_29 : decode cX9_findTerms 29 = .ok (.iload 4, 2) := by decide +kernel
theorem dX9_findTerms_31 : decode cX9_findTerms 31 = .ok (.iadd, 1) := by decide +kernel
theorem dX9_findTerms_32 : decode cX9_findTerms 32 = .ok (.iconst 4, 1) := by decide +kernel
theorem dX9_findTerms_33 : decode cX9_findTerms 33 = .ok (.if_icmp .le 7, 3) := by decide +kernel
theorem dX9_findTerms_36 : decode cX9_findTerms 36 = .ok (.iconst 0, 1) := by decide +kernel
theorem dX9_findTerms_37 : decode cX9_findTerms 37 = .ok (.goto 11, 3) := by decide +kernel
theorem dX9_findTerms_40 : decode cX9_findTerms 40 = .ok (.aload_n 0, 1) := by decide +kernel
theorem dX9_findTerms_41 : decode cX9_findTerms 41 = .ok (.iload_n 1, 1) := by decide +kernel
theorem dX9_findTerms_42 : decode cX9_findTerms 42 = .ok (.iload_n 3, 1) := by decide +kernel
theorem dX9_findTerms_43 : decode cX9_findTerms 43 = .ok (.iload 4, 2) := by decide +kernel
theorem dX9_findTerms_45 : decode cX9_findTerms 45 = .ok (.invokevirtual 124, 3) := by decide +kernel
theorem dX9_findTerms_48 : decode cX9_findTerms 48 = .ok (.iastore, 1) := by decide +kernel
theorem dX9_findTerms_49 : decode cX9_findTerms 49 = .ok (.iload_n 2, 1) := by decide +kernel
theorem dX9_findTerms_50 : decode cX9_findTerms 50 = .ok (.aload_n 0, 1) := by decide +kernel
theorem dX9_findTerms_51 : decode cX9_findTerms 51 = .ok (.getfield 19, 3) := by decide +kernel
theorem dX9_findTerms_54 : decode cX9_findTerms 54 = .ok (.iconst 5, 1) := by decide +kernel
theorem dX9_findTerms_55 : decode cX9_findTerms 55 = .ok (.iload_n 3, 1) := by decide +kernel
theorem dX9_findTerms_56 : decode cX9_findTerms 56 = .ok (.imul, 1) := by decide +kernel
theorem dX9_findTerms_57 : decode cX9_findTerms 57 = .ok (.iload 4, 2) := by decide +kernel
theorem dX9_findTerms_59 : decode cX9_findTerms 59 = .ok (.iadd, 1) := by decide +kernel
theorem dX9_findTerms_60 : decode cX9_findTerms 60 = .ok (.iaload, 1) := by decide +kernel
theorem dX9_findTerms_61 : decode cX9_findTerms 61 = .ok (.ifCond .eq 7, 3) := by decide +kernel
theorem dX9_findTerms_64 : decode cX9_findTerms 64 = .ok (.iconst 1, 1) := by decide +kernel
theorem dX9_findTerms_65 : decode cX9_findTerms 65 = .ok (.goto 4, 3) := by decide +kernel
theorem dX9_findTerms_68 : decode cX9_findTerms 68 = .ok (.iconst 0, 1) := by decide +kernel
theorem dX9_findTerms_69 : decode cX9_findTerms 69 = .ok (.iadd, 1) := by decide +kernel
theorem dX9_findTerms_70 : decode cX9_findTerms 70 = .ok (.istore_n 2, 1) := by decide +kernel
theorem dX9_findTerms_71 : decode cX9_findTerms 71 = .ok (.iinc 4 1, 3) := by decide +kernel
theorem dX9_findTerms_74 : decode cX9_findTerms 74 = .ok (.goto (-62), 3) := by decide +kernel
theorem dX9_findTerms_77 : decode cX9_findTerms 77 = .ok (.iinc 3 1, 3) := by decide +kernel
theorem dX9_findTerms_80 : decode cX9_findTerms 80 = .ok (.goto (-76), 3) := by decide +kernel
theorem dX9_findTerms_83 : decode cX9_findTerms 83 = .ok (.iload_n 2, 1) := by decide +kernel
theorem dX9_findTerms_84 : decode cX9_findTerms 84 = .ok (.ireturn, 1) := by decide +kernel
theorem dX9_degreeNow_0 : decode cX9_degreeNow 0 = .ok (.iconst (-1), 1) := by decide +kernel
theorem dX9_degreeNow_1 : decode cX9_degreeNow 1 = .ok (.istore_n 1, 1) := by decide +kernel
theorem dX9_degreeNow_2 : decode cX9_degreeNow 2 = .ok (.iconst 0, 1) := by decide +kernel
theorem dX9_degreeNow_3 : decode cX9_degreeNow 3 = .ok (.istore_n 2, 1) := by decide +kernel
theorem dX9_degreeNow_4 : decode cX9_degreeNow 4 = .ok (.iload_n 2, 1) := by decide +kernel
theorem dX9_degreeNow_5 : decode cX9_degreeNow 5 = .ok (.bipush 25, 2) := by decide +kernel
theorem dX9_degreeNow_7 : decode cX9_degreeNow 7 = .ok (.if_icmp .ge 41, 3) := by decide +kernel
theorem dX9_degreeNow_10 : decode cX9_degreeNow 10 = .ok (.aload_n 0, 1) := by decide +kernel
theorem dX9_degreeNow_11 : decode cX9_degreeNow 11 = .ok (.getfield 19, 3) := by decide +kernel
theorem dX9_degreeNow_14 : decode cX9_degreeNow 14 = .ok (.iload_n 2, 1) := by decide +kernel
theorem dX9_degreeNow_15 : decode cX9_degreeNow 15 = .ok (.iaload, 1) := by decide +kernel
theorem dX9_degreeNow_16 : decode cX9_degreeNow 16 = .ok (.ifCond .eq 24, 3) := by decide +kernel
theorem dX9_degreeNow_19 : decode cX9_degreeNow 19 = .ok (.iload_n 2, 1) := by decide +kernel
theorem dX9_degreeNow_20 : decode cX9_degreeNow 20 = .ok (.iconst 5, 1) := by decide +kernel
theorem dX9_degreeNow_21 : decode cX9_degreeNow 21 = .ok (.idiv, 1) := by decide +kernel
theorem dX9_degreeNow_22 : decode cX9_degreeNow 22 = .ok (.iload_n 2, 1) := by decide +kernel
theorem dX9_degreeNow_23 : decode cX9_degreeNow 23 = .ok (.iconst 5, 1) := by decide +kernel
theorem dX9_degreeNow_24 : decode cX9_degreeNow 24 = .ok (.irem, 1) := by decide +kernel
theorem dX9_degreeNow_25 : decode cX9_degreeNow 25 = .ok (.iadd, 1) := by decide +kernel
theorem dX9_degreeNow_26 : decode cX9_degreeNow 26 = .ok (.iload_n 1, 1) := by decide +kernel
theorem dX9_degreeNow_27 : decode cX9_degreeNow 27 = .ok (.if_icmp .le 13, 3) := by decide +kernel
theorem dX9_degreeNow_30 : decode cX9_degreeNow 30 = .ok (.iload_n 2, 1) := by decide +kernel
theorem dX9_degreeNow_31 : decode cX9_degreeNow 31 = .ok (.iconst 5, 1) := by decide +kernel
theorem dX9_degreeNow_32 : decode cX9_degreeNow 32 = .ok (.idiv, 1) := by decide +kernel
theorem dX9_degreeNow_33 : decode cX9_degreeNow 33 = .ok (.iload_n 2, 1) := by decide +kernel
theorem dX9_degreeNow_34 : decode cX9_degreeNow 34 = .ok (.iconst 5, 1) := by decide +kernel
theorem dX9_degreeNow_35 : decode cX9_degreeNow 35 = .ok (.irem, 1) := by decide +kernel
theorem dX9_degreeNow_36 : decode cX9_degreeNow 36 = .ok (.iadd, 1) := by decide +kernel
theorem dX9_degreeNow_37 : decode cX9_degreeNow 37 = .ok (.goto 4, 3) := by decide +kernel
theorem dX9_degreeNow_40 : decode cX9_degreeNow 40 = .ok (.iload_n 1, 1) := by decide +kernel
theorem dX9_degreeNow_41 : decode cX9_degreeNow 41 = .ok (.istore_n 1, 1) := by decide +kernel
theorem dX9_degreeNow_42 : decode cX9_degreeNow 42 = .ok (.iinc 2 1, 3) := by decide +kernel
theorem dX9_degreeNow_45 : decode cX9_degreeNow 45 = .ok (.goto (-41), 3) := by decide +kernel
theorem dX9_degreeNow_48 : decode cX9_degreeNow 48 = .ok (.iload_n 1, 1) := by decide +kernel
theorem dX9_degreeNow_49 : decode cX9_degreeNow 49 = .ok (.ireturn, 1) := by decide +kernel
theorem dX9_told_0 : decode cX9_told 0 = .ok (.aload_n 0, 1) := by decide +kernel
theorem dX9_told_1 : decode cX9_told 1 = .ok (.iload_n 1, 1) := by decide +kernel
theorem dX9_told_2 : decode cX9_told 2 = .ok (.invokevirtual 98, 3) := by decide +kernel
theorem dX9_told_5 : decode cX9_told 5 = .ok (.ifCond .eq 12, 3) := by decide +kernel
theorem dX9_told_8 : decode cX9_told 8 = .ok (.iload_n 2, 1) := by decide +kernel
theorem dX9_told_9 : decode cX9_told 9 = .ok (.iconst 0, 1) := by decide +kernel
theorem dX9_told_10 : decode cX9_told 10 = .ok (.iconst 3, 1) := by decide +kernel
theorem dX9_told_11 : decode cX9_told 11 = .ok (.invokestatic 88, 3) := by decide +kernel
theorem dX9_told_14 : decode cX9_told 14 = .ok (.ifCond .ne 6, 3) := by decide +kernel
theorem dX9_told_17 : decode cX9_told 17 = .ok (.ldc 92, 2) := by decide +kernel
theorem dX9_told_19 : decode cX9_told 19 = .ok (.ireturn, 1) := by decide +kernel
theorem dX9_told_20 : decode cX9_told 20 = .ok (.iload_n 2, 1) := by decide +kernel
theorem dX9_told_21 : decode cX9_told 21 = .ok (.ifCond .eq 8, 3) := by decide +kernel
theorem dX9_told_24 : decode cX9_told 24 = .ok (.iload_n 2, 1) := by decide +kernel
theorem dX9_told_25 : decode cX9_told 25 = .ok (.iconst 2, 1) := by decide +kernel
theorem dX9_told_26 : decode cX9_told 26 = .ok (.if_icmp .ne 21, 3) := by decide +kernel
theorem dX9_told_29 : decode cX9_told 29 = .ok (.iload_n 2, 1) := by decide +kernel
theorem dX9_told_30 : decode cX9_told 30 = .ok (.ifCond .ne 11, 3) := by decide +kernel
theorem dX9_told_33 : decode cX9_told 33 = .ok (.aload_n 0, 1) := by decide +kernel
theorem dX9_told_34 : decode cX9_told 34 = .ok (.iload_n 1, 1) := by decide +kernel
theorem dX9_told_35 : decode cX9_told 35 = .ok (.invokevirtual 118, 3) := by decide +kernel
theorem dX9_told_38 : decode cX9_told 38 = .ok (.goto 8, 3) := by decide +kernel
theorem dX9_told_41 : decode cX9_told 41 = .ok (.aload_n 0, 1) := by decide +kernel
theorem dX9_told_42 : decode cX9_told 42 = .ok (.iload_n 1, 1) := by decide +kernel
theorem dX9_told_43 : decode cX9_told 43 = .ok (.invokevirtual 130, 3) := by decide +kernel
theorem dX9_told_46 : decode cX9_told 46 = .ok (.ireturn, 1) := by decide +kernel
theorem dX9_told_47 : decode cX9_told 47 = .ok (.aload_n 0, 1) := by decide +kernel
theorem dX9_told_48 : decode cX9_told 48 = .ok (.iload_n 1, 1) := by decide +kernel
theorem dX9_told_49 : decode cX9_told 49 = .ok (.invokevirtual 133, 3) := by decide +kernel
theorem dX9_told_52 : decode cX9_told 52 = .ok (.istore_n 3, 1) := by decide +kernel
theorem dX9_told_53 : decode cX9_told 53 = .ok (.iload_n 2, 1) := by decide +kernel
theorem dX9_told_54 : decode cX9_told 54 = .ok (.iconst 1, 1) := by decide +kernel
theorem dX9_told_55 : decode cX9_told 55 = .ok (.if_icmp .ne 10, 3) := by decide +kernel
theorem dX9_told_58 : decode cX9_told 58 = .ok (.aload_n 0, 1) := by decide +kernel
theorem dX9_told_59 : decode cX9_told 59 = .ok (.invokevirtual 136, 3) := by decide +kernel
theorem dX9_told_62 : decode cX9_told 62 = .ok (.goto 4, 3) := by decide +kernel
theorem dX9_told_65 : decode cX9_told 65 = .ok (.iload_n 3, 1) := by decide +kernel
theorem dX9_told_66 : decode cX9_told 66 = .ok (.ireturn, 1) := by decide +kernel
theorem dX9_isUnder_0 : decode cX9_isUnder 0 = .ok (.iload_n 1, 1) := by decide +kernel
theorem dX9_isUnder_1 : decode cX9_isUnder 1 = .ok (.ifCond .eq 28, 3) := by decide +kernel
theorem dX9_isUnder_4 : decode cX9_isUnder 4 = .ok (.iload_n 0, 1) := by decide +kernel
theorem dX9_isUnder_5 : decode cX9_isUnder 5 = .ok (.iload_n 1, 1) := by decide +kernel
theorem dX9_isUnder_6 : decode cX9_isUnder 6 = .ok (.if_icmp .eq 23, 3) := by decide +kernel
theorem dX9_isUnder_9 : decode cX9_isUnder 9 = .ok (.iload_n 1, 1) := by decide +kernel
theorem dX9_isUnder_10 : decode cX9_isUnder 10 = .ok (.iconst 1, 1) := by decide +kernel
theorem dX9_isUnder_11 : decode cX9_isUnder 11 = .ok (.if_icmp .ne 8, 3) := by decide +kernel
theorem dX9_isUnder_14 : decode cX9_isUnder 14 = .ok (.iload_n 0, 1) := by decide +kernel
theorem dX9_isUnder_15 : decode cX9_isUnder 15 = .ok (.iconst 3, 1) := by decide +kernel
theorem dX9_isUnder_16 : decode cX9_isUnder 16 = .ok (.if_icmp .eq 13, 3) := by decide +kernel
theorem dX9_isUnder_19 : decode cX9_isUnder 19 = .ok (.iload_n 1, 1) := by decide +kernel
theorem dX9_isUnder_20 : decode cX9_isUnder 20 = .ok (.iconst 2, 1) := by decide +kernel
theorem dX9_isUnder_21 : decode cX9_isUnder 21 = .ok (.if_icmp .ne 12, 3) := by decide +kernel
theorem dX9_isUnder_24 : decode cX9_isUnder 24 = .ok (.iload_n 0, 1) := by decide +kernel
theorem dX9_isUnder_25 : decode cX9_isUnder 25 = .ok (.iconst 4, 1) := by decide +kernel
theorem dX9_isUnder_26 : decode cX9_isUnder 26 = .ok (.if_icmp .ne 7, 3) := by decide +kernel
theorem dX9_isUnder_29 : decode cX9_isUnder 29 = .ok (.iconst 1, 1) := by decide +kernel
theorem dX9_isUnder_30 : decode cX9_isUnder 30 = .ok (.goto 4, 3) := by decide +kernel
theorem dX9_isUnder_33 : decode cX9_isUnder 33 = .ok (.iconst 0, 1) := by decide +kernel
theorem dX9_isUnder_34 : decode cX9_isUnder 34 = .ok (.ireturn, 1) := by decide +kernel
theorem dX9_as_0 : decode cX9_as 0 = .ok (.aload_n 0, 1) := by decide +kernel
theorem dX9_as_1 : decode cX9_as 1 = .ok (.iload_n 1, 1) := by decide +kernel
theorem dX9_as_2 : decode cX9_as 2 = .ok (.invokevirtual 98, 3) := by decide +kernel
theorem dX9_as_5 : decode cX9_as 5 = .ok (.ifCond .eq 12, 3) := by decide +kernel
theorem dX9_as_8 : decode cX9_as 8 = .ok (.iload_n 2, 1) := by decide +kernel
theorem dX9_as_9 : decode cX9_as 9 = .ok (.iconst 0, 1) := by decide +kernel
theorem dX9_as_10 : decode cX9_as 10 = .ok (.iconst 5, 1) := by decide +kernel
theorem dX9_as_11 : decode cX9_as 11 = .ok (.invokestatic 88, 3) := by decide +kernel
theorem dX9_as_14 : decode cX9_as 14 = .ok (.ifCond .ne 6, 3) := by decide +kernel
theorem dX9_as_17 : decode cX9_as 17 = .ok (.ldc 92, 2) := by decide +kernel
theorem dX9_as_19 : decode cX9_as 19 = .ok (.ireturn, 1) := by decide +kernel
theorem dX9_as_20 : decode cX9_as 20 = .ok (.aload_n 0, 1) := by decide +kernel
theorem dX9_as_21 : decode cX9_as 21 = .ok (.iload_n 1, 1) := by decide +kernel
theorem dX9_as_22 : decode cX9_as 22 = .ok (.invokevirtual 118, 3) := by decide +kernel
theorem dX9_as_25 : decode cX9_as 25 = .ok (.iload_n 2, 1) := by decide +kernel
theorem dX9_as_26 : decode cX9_as 26 = .ok (.invokestatic 140, 3) := by decide +kernel
theorem dX9_as_29 : decode cX9_as 29 = .ok (.ifCond .eq 17, 3) := by decide +kernel
theorem dX9_as_32 : decode cX9_as 32 = .ok (.aload_n 0, 1) := by decide +kernel
theorem dX9_as_33 : decode cX9_as 33 = .ok (.getfield 9, 3) := by decide +kernel
theorem dX9_as_36 : decode cX9_as 36 = .ok (.iload_n 1, 1) := by decide +kernel
theorem dX9_as_37 : decode cX9_as 37 = .ok (.iconst 0, 1) := by decide +kernel
theorem dX9_as_38 : decode cX9_as 38 = .ok (.iconst 0, 1) := by decide +kernel
theorem dX9_as_39 : decode cX9_as 39 = .ok (.invokestatic 105, 3) := by decide +kernel
theorem dX9_as_42 : decode cX9_as 42 = .ok (.iaload, 1) := by decide +kernel
theorem dX9_as_43 : decode cX9_as 43 = .ok (.goto 5, 3) := by decide +kernel
theorem dX9_as_46 : decode cX9_as 46 = .ok (.ldc 144, 2) := by decide +kernel
theorem dX9_as_48 : decode cX9_as 48 = .ok (.ireturn, 1) := by decide +kernel
theorem dX9_turns_0 : decode cX9_turns 0 = .ok (.aload_n 0, 1) := by decide +kernel
theorem dX9_turns_1 : decode cX9_turns 1 = .ok (.iload_n 1, 1) := by decide +kernel
theorem dX9_turns_2 : decode cX9_turns 2 = .ok (.invokevirtual 98, 3) := by decide +kernel
theorem dX9_turns_5 : decode cX9_turns 5 = .ok (.ifCond .eq 12, 3) := by decide +kernel
theorem dX9_turns_8 : decode cX9_turns 8 = .ok (.iload_n 2, 1) := by decide +kernel
theorem dX9_turns_9 : decode cX9_turns 9 = .ok (.iconst 0, 1) := by decide +kernel
theorem dX9_turns_10 : decode cX9_turns 10 = .ok (.iconst 5, 1) := by decide +kernel
theorem dX9_turns_11 : decode cX9_turns 11 = .ok (.invokestatic 88, 3) := by decide +kernel
theorem dX9_turns_14 : decode cX9_turns 14 = .ok (.ifCond .ne 6, 3) := by decide +kernel
theorem dX9_turns_17 : decode cX9_turns 17 = .ok (.ldc 92, 2) := by decide +kernel
theorem dX9_turns_19 : decode cX9_turns 19 = .ok (.ireturn, 1) := by decide +kernel
theorem dX9_turns_20 : decode cX9_turns 20 = .ok (.aload_n 0, 1) := by decide +kernel
theorem dX9_turns_21 : decode cX9_turns 21 = .ok (.iload_n 1, 1) := by decide +kernel
theorem dX9_turns_22 : decode cX9_turns 22 = .ok (.invokevirtual 118, 3) := by decide +kernel
theorem dX9_turns_25 : decode cX9_turns 25 = .ok (.istore_n 3, 1) := by decide +kernel
theorem dX9_turns_26 : decode cX9_turns 26 = .ok (.aload_n 0, 1) := by decide +kernel
theorem dX9_turns_27 : decode cX9_turns 27 = .ok (.getfield 9, 3) := by decide +kernel
theorem dX9_turns_30 : decode cX9_turns 30 = .ok (.iconst 3, 1) := by decide +kernel
theorem dX9_turns_31 : decode cX9_turns 31 = .ok (.bipush 16, 2) := by decide +kernel
theorem dX9_turns_33 : decode cX9_turns 33 = .ok (.iload_n 1, 1) := by decide +kernel
theorem dX9_turns_34 : decode cX9_turns 34 = .ok (.imul, 1) := by decide +kernel
theorem dX9_turns_35 : decode cX9_turns 35 = .ok (.iadd, 1) := by decide +kernel
theorem dX9_turns_36 : decode cX9_turns 36 = .ok (.iload_n 2, 1) := by decide +kernel
theorem dX9_turns_37 : decode cX9_turns 37 = .ok (.iastore, 1) := by decide +kernel
theorem dX9_turns_38 : decode cX9_turns 38 = .ok (.iload_n 3, 1) := by decide +kernel
theorem dX9_turns_39 : decode cX9_turns 39 = .ok (.ireturn, 1) := by decide +kernel
theorem dX9_mix_0 : decode cX9_mix 0 = .ok (.aload_n 0, 1) := by decide +kernel
theorem dX9_mix_1 : decode cX9_mix 1 = .ok (.iload_n 1, 1) := by decide +kernel
theorem dX9_mix_2 : decode cX9_mix 2 = .ok (.invokevirtual 98, 3) := by decide +kernel
theorem dX9_mix_5 : decode cX9_mix 5 = .ok (.ifCond .eq 29, 3) := by decide +kernel
theorem dX9_mix_8 : decode cX9_mix 8 = .ok (.aload_n 0, 1) := by decide +kernel
theorem dX9_mix_9 : decode cX9_mix 9 = .ok (.iload_n 2, 1) := by decide +kernel
theorem dX9_mix_10 : decode cX9_mix 10 = .ok (.invokevirtual 98, 3) := by decide +kernel
theorem dX9_mix_13 : decode cX9_mix 13 = .ok (.ifCond .eq 21, 3) := by decide +kernel
theorem dX9_mix_16 : decode cX9_mix 16 = .ok (.aload_n 0, 1) := by decide +kernel
theorem dX9_mix_17 : decode cX9_mix 17 = .ok (.iload_n 3, 1) := by decide +kernel
theorem dX9_mix_18 : decode cX9_mix 18 = .ok (.invokevirtual 98, 3) := by decide +kernel
theorem dX9_mix_21 : decode cX9_mix 21 = .ok (.ifCond .eq 13, 3) := by decide +kernel
theorem dX9_mix_24 : decode cX9_mix 24 = .ok (.iload 4, 2) := by decide +kernel
theorem dX9_mix_26 : decode cX9_mix 26 = .ok (.iconst 0, 1) := by decide +kernel
theorem dX9_mix_27 : decode cX9_mix 27 = .ok (.iconst 1, 1) := by decide +kernel
theorem dX9_mix_28 : decode cX9_mix 28 = .ok (.invokestatic 88, 3) := by decide +kernel
theorem dX9_mix_31 : decode cX9_mix 31 = .ok (.ifCond .ne 6, 3) := by decide +kernel
theorem dX9_mix_34 : decode cX9_mix 34 = .ok (.ldc 92, 2) := by decide +kernel
theorem dX9_mix_36 : decode cX9_mix 36 = .ok (.ireturn, 1) := by decide +kernel
theorem dX9_mix_37 : decode cX9_mix 37 = .ok (.iconst 1, 1) := by decide +kernel
theorem dX9_mix_38 : decode cX9_mix 38 = .ok (.istore 5, 2) := by decide +kernel
theorem dX9_mix_40 : decode cX9_mix 40 = .ok (.iload 5, 2) := by decide +kernel
theorem dX9_mix_42 : decode cX9_mix 42 = .ok (.bipush 16, 2) := by decide +kernel
theorem dX9_mix_44 : decode cX9_mix 44 = .ok (.if_icmp .ge 80, 3) := by decide +kernel
theorem dX9_mix_47 : decode cX9_mix 47 = .ok (.aload_n 0, 1) := by decide +kernel
theorem dX9_mix_48 : decode cX9_mix 48 = .ok (.getfield 9, 3) := by decide +kernel
theorem dX9_mix_51 : decode cX9_mix 51 = .ok (.iconst 3, 1) := by decide +kernel
theorem dX9_mix_52 : decode cX9_mix 52 = .ok (.bipush 16, 2) := by decide +kernel
theorem dX9_mix_54 : decode cX9_mix 54 = .ok (.iload_n 2, 1) := by decide +kernel
theorem dX9_mix_55 : decode cX9_mix 55 = .ok (.imul, 1) := by decide +kernel
theorem dX9_mix_56 : decode cX9_mix 56 = .ok (.iadd, 1) := by decide +kernel
theorem dX9_mix_57 : decode cX9_mix 57 = .ok (.iload 5, 2) := by decide +kernel
theorem dX9_mix_59 : decode cX9_mix 59 = .ok (.iadd, 1) := by decide +kernel
theorem dX9_mix_60 : decode cX9_mix 60 = .ok (.iaload, 1) := by decide +kernel
theorem dX9_mix_61 : decode cX9_mix 61 = .ok (.istore 6, 2) := by decide +kernel
theorem dX9_mix_63 : decode cX9_mix 63 = .ok (.aload_n 0, 1) := by decide +kernel
theorem dX9_mix_64 : decode cX9_mix 64 = .ok (.getfield 9, 3) := by decide +kernel
theorem dX9_mix_67 : decode cX9_mix 67 = .ok (.iconst 3, 1) := by decide +kernel
theorem dX9_mix_68 : decode cX9_mix 68 = .ok (.bipush 16, 2) := by decide +kernel
theorem dX9_mix_70 : decode cX9_mix 70 = .ok (.iload_n 3, 1) := by decide +kernel
theorem dX9_mix_71 : decode cX9_mix 71 = .ok (.imul, 1) := by decide +kernel
theorem dX9_mix_72 : decode cX9_mix 72 = .ok (.iadd, 1) := by decide +kernel
theorem dX9_mix_73 : decode cX9_mix 73 = .ok (.iload 5, 2) := by decide +kernel
theorem dX9_mix_75 : decode cX9_mix 75 = .ok (.iadd, 1) := by decide +kernel
theorem dX9_mix_76 : decode cX9_mix 76 = .ok (.iaload, 1) := by decide +kernel
theorem dX9_mix_77 : decode cX9_mix 77 = .ok (.istore 7, 2) := by decide +kernel
theorem dX9_mix_79 : decode cX9_mix 79 = .ok (.aload_n 0, 1) := by decide +kernel
theorem dX9_mix_80 : decode cX9_mix 80 = .ok (.getfield 9, 3) := by decide +kernel
theorem dX9_mix_83 : decode cX9_mix 83 = .ok (.iconst 3, 1) := by decide +kernel
theorem dX9_mix_84 : decode cX9_mix 84 = .ok (.bipush 16, 2) := by decide +kernel
theorem dX9_mix_86 : decode cX9_mix 86 = .ok (.iload_n 1, 1) := by decide +kernel
theorem dX9_mix_87 : decode cX9_mix 87 = .ok (.imul, 1) := by decide +kernel
theorem dX9_mix_88 : decode cX9_mix 88 = .ok (.iadd, 1) := by decide +kernel
theorem dX9_mix_89 : decode cX9_mix 89 = .ok (.iload 5, 2) := by decide +kernel
theorem dX9_mix_91 : decode cX9_mix 91 = .ok (.iadd, 1) := by decide +kernel
theorem dX9_mix_92 : decode cX9_mix 92 = .ok (.iload 4, 2) := by decide +kernel
theorem dX9_mix_94 : decode cX9_mix 94 = .ok (.ifCond .ne 11, 3) := by decide +kernel
theorem dX9_mix_97 : decode cX9_mix 97 = .ok (.iload 6, 2) := by decide +kernel
theorem dX9_mix_99 : decode cX9_mix 99 = .ok (.iload 7, 2) := by decide +kernel
theorem dX9_mix_101 : decode cX9_mix 101 = .ok (.iadd, 1) := by decide +kernel
theorem dX9_mix_102 : decode cX9_mix 102 = .ok (.goto 8, 3) := by decide +kernel
theorem dX9_mix_105 : decode cX9_mix 105 = .ok (.iload 7, 2) := by decide +kernel
theorem dX9_mix_107 : decode cX9_mix 107 = .ok (.iload 6, 2) := by decide +kernel
theorem dX9_mix_109 : decode cX9_mix 109 = .ok (.isub, 1) := by decide +kernel
theorem dX9_mix_110 : decode cX9_mix 110 = .ok (.bipush (-99), 2) := by decide +kernel
theorem dX9_mix_112 : decode cX9_mix 112 = .ok (.bipush 99, 2) := by decide +kernel
theorem dX9_mix_114 : decode cX9_mix 114 = .ok (.invokestatic 115, 3) := by decide +kernel
theorem dX9_mix_117 : decode cX9_mix 117 = .ok (.iastore, 1) := by decide +kernel
theorem dX9_mix_118 : decode cX9_mix 118 = .ok (.iinc 5 1, 3) := by decide +kernel
theorem dX9_mix_121 : decode cX9_mix 121 = .ok (.goto (-81), 3) := by decide +kernel
theorem dX9_mix_124 : decode cX9_mix 124 = .ok (.aload_n 0, 1) := by decide +kernel
theorem dX9_mix_125 : decode cX9_mix 125 = .ok (.iload_n 1, 1) := by decide +kernel
theorem dX9_mix_126 : decode cX9_mix 126 = .ok (.invokevirtual 127, 3) := by decide +kernel
theorem dX9_mix_129 : decode cX9_mix 129 = .ok (.ireturn, 1) := by decide +kernel
theorem dX9_draw_0 : decode cX9_draw 0 = .ok (.aload_n 0, 1) := by decide +kernel
theorem dX9_draw_1 : decode cX9_draw 1 = .ok (.getfield 9, 3) := by decide +kernel
theorem dX9_draw_4 : decode cX9_draw 4 = .ok (.iconst 0, 1) := by decide +kernel
theorem dX9_draw_5 : decode cX9_draw 5 = .ok (.aload_n 0, 1) := by decide +kernel
theorem dX9_draw_6 : decode cX9_draw 6 = .ok (.getfield 9, 3) := by decide +kernel
theorem dX9_draw_9 : decode cX9_draw 9 = .ok (.iconst 0, 1) := by decide +kernel
theorem dX9_draw_10 : decode cX9_draw 10 = .ok (.iaload, 1) := by decide +kernel
theorem dX9_draw_11 : decode cX9_draw 11 = .ok (.ldc 145, 2) := by decide +kernel
theorem dX9_draw_13 : decode cX9_draw 13 = .ok (.imul, 1) := by decide +kernel
theorem dX9_draw_14 : decode cX9_draw 14 = .ok (.sipush 12345, 3) := by decide +kernel
theorem dX9_draw_17 : decode cX9_draw 17 = .ok (.iadd, 1) := by decide +kernel
theorem dX9_draw_18 : decode cX9_draw 18 = .ok (.iastore, 1) := by decide +kernel
theorem dX9_draw_19 : decode cX9_draw 19 = .ok (.aload_n 0, 1) := by decide +kernel
theorem dX9_draw_20 : decode cX9_draw 20 = .ok (.getfield 9, 3) := by decide +kernel
theorem dX9_draw_23 : decode cX9_draw 23 = .ok (.iconst 0, 1) := by decide +kernel
theorem dX9_draw_24 : decode cX9_draw 24 = .ok (.iaload, 1) := by decide +kernel
theorem dX9_draw_25 : decode cX9_draw 25 = .ok (.bipush 8, 2) := by decide +kernel
theorem dX9_draw_27 : decode cX9_draw 27 = .ok (.iushr, 1) := by decide +kernel
theorem dX9_draw_28 : decode cX9_draw 28 = .ok (.ireturn, 1) := by decide +kernel
theorem dX9_deal_0 : decode cX9_deal 0 = .ok (.iload_n 1, 1) := by decide +kernel
theorem dX9_deal_1 : decode cX9_deal 1 = .ok (.iconst 1, 1) := by decide +kernel
theorem dX9_deal_2 : decode cX9_deal 2 = .ok (.bipush 6, 2) := by decide +kernel
theorem dX9_deal_4 : decode cX9_deal 4 = .ok (.invokestatic 88, 3) := by decide +kernel
theorem dX9_deal_7 : decode cX9_deal 7 = .ok (.ifCond .ne 6, 3) := by decide +kernel
theorem dX9_deal_10 : decode cX9_deal 10 = .ok (.ldc 92, 2) := by decide +kernel
theorem dX9_deal_12 : decode cX9_deal 12 = .ok (.ireturn, 1) := by decide +kernel
theorem dX9_deal_13 : decode cX9_deal 13 = .ok (.iconst 0, 1) := by decide +kernel
theorem dX9_deal_14 : decode cX9_deal 14 = .ok (.istore_n 2, 1) := by decide +kernel
theorem dX9_deal_15 : decode cX9_deal 15 = .ok (.iload_n 2, 1) := by decide +kernel
theorem dX9_deal_16 : decode cX9_deal 16 = .ok (.iload_n 1, 1) := by decide +kernel
theorem dX9_deal_17 : decode cX9_deal 17 = .ok (.if_icmp .ge 65, 3) := by decide +kernel
theorem dX9_deal_20 : decode cX9_deal 20 = .ok (.aload_n 0, 1) := by decide +kernel
theorem dX9_deal_21 : decode cX9_deal 21 = .ok (.getfield 9, 3) := by decide +kernel
theorem dX9_deal_24 : decode cX9_deal 24 = .ok (.iconst 1, 1) := by decide +kernel
theorem dX9_deal_25 : decode cX9_deal 25 = .ok (.iaload, 1) := by decide +kernel
theorem dX9_deal_26 : decode cX9_deal 26 = .ok (.bipush 6, 2) := by decide +kernel
theorem dX9_deal_28 : decode cX9_deal 28 = .ok (.if_icmp .ge 54, 3) := by decide +kernel
theorem dX9_deal_31 : decode cX9_deal 31 = .ok (.iconst 3, 1) := by decide +kernel
theorem dX9_deal_32 : decode cX9_deal 32 = .ok (.bipush 16, 2) := by decide +kernel
theorem dX9_deal_34 : decode cX9_deal 34 = .ok (.aload_n 0, 1) := by decide +kernel
theorem dX9_deal_35 : decode cX9_deal 35 = .ok (.iconst 0, 1) := by decide +kernel
theorem dX9_deal_36 : decode cX9_deal 36 = .ok (.invokevirtual 94, 3) := by decide +kernel
theorem dX9_deal_39 : decode cX9_deal 39 = .ok (.imul, 1) := by decide +kernel
theorem dX9_deal_40 : decode cX9_deal 40 = .ok (.iadd, 1) := by decide +kernel
theorem dX9_deal_41 : decode cX9_deal 41 = .ok (.istore_n 3, 1) := by decide +kernel
theorem dX9_deal_42 : decode cX9_deal 42 = .ok (.iconst 1, 1) := by decide +kernel
theorem dX9_deal_43 : decode cX9_deal 43 = .ok (.istore 4, 2) := by decide +kernel
theorem dX9_deal_45 : decode cX9_deal 45 = .ok (.iload 4, 2) := by decide +kernel
theorem dX9_deal_47 : decode cX9_deal 47 = .ok (.bipush 16, 2) := by decide +kernel
theorem dX9_deal_49 : decode cX9_deal 49 = .ok (.if_icmp .ge 27, 3) := by decide +kernel
theorem dX9_deal_52 : decode cX9_deal 52 = .ok (.aload_n 0, 1) := by decide +kernel
theorem dX9_deal_53 : decode cX9_deal 53 = .ok (.getfield 9, 3) := by decide +kernel
theorem dX9_deal_56 : decode cX9_deal 56 = .ok (.iload_n 3, 1) := by decide +kernel
theorem dX9_deal_57 : decode cX9_deal 57 = .ok (.iload 4, 2) := by decide +kernel
theorem dX9_deal_59 : decode cX9_deal 59 = .ok (.iadd, 1) := by decide +kernel
theorem dX9_deal_60 : decode cX9_deal 60 = .ok (.aload_n 0, 1) := by decide +kernel
theorem dX9_deal_61 : decode cX9_deal 61 = .ok (.invokevirtual 146, 3) := by decide +kernel
theorem dX9_deal_64 : decode cX9_deal 64 = .ok (.bipush 7, 2) := by decide +kernel
theorem dX9_deal_66 : decode cX9_deal 66 = .ok (.irem, 1) := by decide +kernel
theorem dX9_deal_67 : decode cX9_deal 67 = .ok (.iconst 3, 1) := by decide +kernel
theorem dX9_deal_68 : decode cX9_deal 68 = .ok (.isub, 1) := by decide +kernel
theorem dX9_deal_69 : decode cX9_deal 69 = .ok (.iastore, 1) := by decide +kernel
theorem dX9_deal_70 : decode cX9_deal 70 = .ok (.iinc 4 1, 3) := by decide +kernel
theorem dX9_deal_73 : decode cX9_deal 73 = .ok (.goto (-28), 3) := by decide +kernel
theorem dX9_deal_76 : decode cX9_deal 76 = .ok (.iinc 2 1, 3) := by decide +kernel
theorem dX9_deal_79 : decode cX9_deal 79 = .ok (.goto (-64), 3) := by decide +kernel
theorem dX9_deal_82 : decode cX9_deal 82 = .ok (.iload_n 2, 1) := by decide +kernel
theorem dX9_deal_83 : decode cX9_deal 83 = .ok (.ireturn, 1) := by decide +kernel
theorem dX9_seed_0 : decode cX9_seed 0 = .ok (.aload_n 0, 1) := by decide +kernel
theorem dX9_seed_1 : decode cX9_seed 1 = .ok (.getfield 9, 3) := by decide +kernel
theorem dX9_seed_4 : decode cX9_seed 4 = .ok (.iconst 0, 1) := by decide +kernel
theorem dX9_seed_5 : decode cX9_seed 5 = .ok (.iaload, 1) := by decide +kernel
theorem dX9_seed_6 : decode cX9_seed 6 = .ok (.istore_n 2, 1) := by decide +kernel
theorem dX9_seed_7 : decode cX9_seed 7 = .ok (.aload_n 0, 1) := by decide +kernel
theorem dX9_seed_8 : decode cX9_seed 8 = .ok (.getfield 9, 3) := by decide +kernel
theorem dX9_seed_11 : decode cX9_seed 11 = .ok (.iconst 0, 1) := by decide +kernel
theorem dX9_seed_12 : decode cX9_seed 12 = .ok (.iload_n 1, 1) := by decide +kernel
theorem dX9_seed_13 : decode cX9_seed 13 = .ok (.iastore, 1) := by decide +kernel
theorem dX9_seed_14 : decode cX9_seed 14 = .ok (.iload_n 2, 1) := by decide +kernel
theorem dX9_seed_15 : decode cX9_seed 15 = .ok (.ireturn, 1) := by decide +kernel
theorem dX9_isPlace_0 : decode cX9_isPlace 0 = .ok (.iload_n 0, 1) := by decide +kernel
theorem dX9_isPlace_1 : decode cX9_isPlace 1 = .ok (.ifCond .lt 25, 3) := by decide +kernel
theorem dX9_isPlace_4 : decode cX9_isPlace 4 = .ok (.iload_n 0, 1) := by decide +kernel
theorem dX9_isPlace_5 : decode cX9_isPlace 5 = .ok (.bipush 100, 2) := by decide +kernel
theorem dX9_isPlace_7 : decode cX9_isPlace 7 = .ok (.idiv, 1) := by decide +kernel
theorem dX9_isPlace_8 : decode cX9_isPlace 8 = .ok (.bipush 10, 2) := by decide +kernel
theorem dX9_isPlace_10 : decode cX9_isPlace 10 = .ok (.if_icmp .gt 16, 3) := by decide +kernel
theorem dX9_isPlace_13 : decode cX9_isPlace 13 = .ok (.iload_n 0, 1) := by decide +kernel
theorem dX9_isPlace_14 : decode cX9_isPlace 14 = .ok (.bipush 100, 2) := by decide +kernel
theorem dX9_isPlace_16 : decode cX9_isPlace 16 = .ok (.irem, 1) := by decide +kernel
theorem dX9_isPlace_17 : decode cX9_isPlace 17 = .ok (.bipush 10, 2) := by decide +kernel
theorem dX9_isPlace_19 : decode cX9_isPlace 19 = .ok (.if_icmp .gt 7, 3) := by decide +kernel
theorem dX9_isPlace_22 : decode cX9_isPlace 22 = .ok (.iconst 1, 1) := by decide +kernel
theorem dX9_isPlace_23 : decode cX9_isPlace 23 = .ok (.goto 4, 3) := by decide +kernel
theorem dX9_isPlace_26 : decode cX9_isPlace 26 = .ok (.iconst 0, 1) := by decide +kernel
theorem dX9_isPlace_27 : decode cX9_isPlace 27 = .ok (.ireturn, 1) := by decide +kernel
theorem dX9_raised_0 : decode cX9_raised 0 = .ok (.lconst 1, 1) := by decide +kernel
theorem dX9_raised_1 : decode cX9_raised 1 = .ok (.lstore_n 3, 1) := by decide +kernel
theorem dX9_raised_2 : decode cX9_raised 2 = .ok (.iconst 0, 1) := by decide +kernel
theorem dX9_raised_3 : decode cX9_raised 3 = .ok (.istore 5, 2) := by decide +kernel
theorem dX9_raised_5 : decode cX9_raised 5 = .ok (.iload 5, 2) := by decide +kernel
theorem dX9_raised_7 : decode cX9_raised 7 = .ok (.iload_n 2, 1) := by decide +kernel
theorem dX9_raised_8 : decode cX9_raised 8 = .ok (.if_icmp .ge 13, 3) := by decide +kernel
theorem dX9_raised_11 : decode cX9_raised 11 = .ok (.lload_n 3, 1) := by decide +kernel
theorem dX9_raised_12 : decode cX9_raised 12 = .ok (.lload_n 0, 1) := by decide +kernel
theorem dX9_raised_13 : decode cX9_raised 13 = .ok (.lmul, 1) := by decide +kernel
theorem dX9_raised_14 : decode cX9_raised 14 = .ok (.lstore_n 3, 1) := by decide +kernel
theorem dX9_raised_15 : decode cX9_raised 15 = .ok (.iinc 5 1, 3) := by decide +kernel
theorem dX9_raised_18 : decode cX9_raised 18 = .ok (.goto (-13), 3) := by decide +kernel
theorem dX9_raised_21 : decode cX9_raised 21 = .ok (.lload_n 3, 1) := by decide +kernel
theorem dX9_raised_22 : decode cX9_raised 22 = .ok (.lreturn, 1) := by decide +kernel
theorem dX9_value_0 : decode cX9_value 0 = .ok (.aload_n 0, 1) := by decide +kernel
theorem dX9_value_1 : decode cX9_value 1 = .ok (.iload_n 1, 1) := by decide +kernel
theorem dX9_value_2 : decode cX9_value 2 = .ok (.invokevirtual 98, 3) := by decide +kernel
theorem dX9_value_5 : decode cX9_value 5 = .ok (.ifCond .eq 25, 3) := by decide +kernel
theorem dX9_value_8 : decode cX9_value 8 = .ok (.iload_n 2, 1) := by decide +kernel
theorem dX9_value_9 : decode cX9_value 9 = .ok (.bipush (-9), 2) := by decide +kernel
theorem dX9_value_11 : decode cX9_value 11 = .ok (.bipush 9, 2) := by decide +kernel
theorem dX9_value_13 : decode cX9_value 13 = .ok (.invokestatic 88, 3) := by decide +kernel
theorem dX9_value_16 : decode cX9_value 16 = .ok (.ifCond .eq 14, 3) := by decide +kernel
theorem dX9_value_19 : decode cX9_value 19 = .ok (.iload_n 3, 1) := by decide +kernel
theorem dX9_value_20 : decode cX9_value 20 = .ok (.bipush (-9), 2) := by decide +kernel
theorem dX9_value_22 : decode cX9_value 22 = .ok (.bipush 9, 2) := by decide +kernel
theorem dX9_value_24 : decode cX9_value 24 = .ok (.invokestatic 88, 3) := by decide +kernel
theorem dX9_value_27 : decode cX9_value 27 = .ok (.ifCond .ne 7, 3) := by decide +kernel
theorem dX9_value_30 : decode cX9_value 30 = .ok (.ldc2_w 149, 3) := by decide +kernel
theorem dX9_value_33 : decode cX9_value 33 = .ok (.lreturn, 1) := by decide +kernel
theorem dX9_value_34 : decode cX9_value 34 = .ok (.aload_n 0, 1) := by decide +kernel
theorem dX9_value_35 : decode cX9_value 35 = .ok (.iload_n 1, 1) := by decide +kernel
theorem dX9_value_36 : decode cX9_value 36 = .ok (.invokevirtual 133, 3) := by decide +kernel
theorem dX9_value_39 : decode cX9_value 39 = .ok (.istore 4, 2) := by decide +kernel
theorem dX9_value_41 : decode cX9_value 41 = .ok (.lconst 0, 1) := by decide +kernel
theorem dX9_value_42 : decode cX9_value 42 = .ok (.lstore 5, 2) := by decide +kernel
theorem dX9_value_44 : decode cX9_value 44 = .ok (.iconst 0, 1) := by decide +kernel
theorem dX9_value_45 : decode cX9_value 45 = .ok (.istore 7, 2) := by decide +kernel
theorem dX9_value_47 : decode cX9_value 47 = .ok (.iload 7, 2) := by decide +kernel
theorem dX9_value_49 : decode cX9_value 49 = .ok (.bipush 25, 2) := by decide +kernel
theorem dX9_value_51 : decode cX9_value 51 = .ok (.if_icmp .ge 42, 3) := by decide +kernel
theorem dX9_value_54 : decode cX9_value 54 = .ok (.lload 5, 2) := by decide +kernel
theorem dX9_value_56 : decode cX9_value 56 = .ok (.aload_n 0, 1) := by decide +kernel
theorem dX9_value_57 : decode cX9_value 57 = .ok (.getfield 19, 3) := by decide +kernel
theorem dX9_value_60 : decode cX9_value 60 = .ok (.iload 7, 2) := by decide +kernel
theorem dX9_value_62 : decode cX9_value 62 = .ok (.iaload, 1) := by decide +kernel
theorem dX9_value_63 : decode cX9_value 63 = .ok (.i2l, 1) := by decide +kernel
theorem dX9_value_64 : decode cX9_value 64 = .ok (.iload_n 2, 1) := by decide +kernel
theorem dX9_value_65 : decode cX9_value 65 = .ok (.i2l, 1) := by decide +kernel
theorem dX9_value_66 : decode cX9_value 66 = .ok (.iload 7, 2) := by decide +kernel
theorem dX9_value_68 : decode cX9_value 68 = .ok (.iconst 5, 1) := by decide +kernel
theorem dX9_value_69 : decode cX9_value 69 = .ok (.idiv, 1) := by decide +kernel
theorem dX9_value_70 : decode cX9_value 70 = .ok (.invokestatic 151, 3) := by decide +kernel
theorem dX9_value_73 : decode cX9_value 73 = .ok (.lmul, 1) := by decide +kernel
theorem dX9_value_74 : decode cX9_value 74 = .ok (.iload_n 3, 1) := by decide +kernel
theorem dX9_value_75 : decode cX9_value 75 = .ok (.i2l, 1) := by decide +kernel
theorem dX9_value_76 : decode cX9_value 76 = .ok (.iload 7, 2) := by decide +kernel
theorem dX9_value_78 : decode cX9_value 78 = .ok (.iconst 5, 1) := by decide +kernel
theorem dX9_value_79 : decode cX9_value 79 = .ok (.irem, 1) := by decide +kernel
theorem dX9_value_80 : decode cX9_value 80 = .ok (.invokestatic 151, 3) := by decide +kernel
theorem dX9_value_83 : decode cX9_value 83 = .ok (.lmul, 1) := by decide +kernel
theorem dX9_value_84 : decode cX9_value 84 = .ok (.ladd, 1) := by decide +kernel
theorem dX9_value_85 : decode cX9_value 85 = .ok (.lstore 5, 2) := by decide +kernel
theorem dX9_value_87 : decode cX9_value 87 = .ok (.iinc 7 1, 3) := by decide +kernel
theorem dX9_value_90 : decode cX9_value 90 = .ok (.goto (-43), 3) := by decide +kernel
theorem dX9_value_93 : decode cX9_value 93 = .ok (.lload 5, 2) := by decide +kernel
theorem dX9_value_95 : decode cX9_value 95 = .ok (.lreturn, 1) := by decide +kernel
theorem dX9_choices_0 : decode cX9_choices 0 = .ok (.lconst 1, 1) := by decide +kernel
theorem dX9_choices_1 : decode cX9_choices 1 = .ok (.lstore_n 2, 1) := by decide +kernel
theorem dX9_choices_2 : decode cX9_choices 2 = .ok (.iconst 1, 1) := by decide +kernel
theorem dX9_choices_3 : decode cX9_choices 3 = .ok (.istore 4, 2) := by decide +kernel
theorem dX9_choices_5 : decode cX9_choices 5 = .ok (.iload 4, 2) := by decide +kernel
theorem dX9_choices_7 : decode cX9_choices 7 = .ok (.iload_n 1, 1) := by decide +kernel
theorem dX9_choices_8 : decode cX9_choices 8 = .ok (.if_icmp .gt 23, 3) := by decide +kernel
theorem dX9_choices_11 : decode cX9_choices 11 = .ok (.lload_n 2, 1) := by decide +kernel
theorem dX9_choices_12 : decode cX9_choices 12 = .ok (.iload_n 0, 1) := by decide +kernel
theorem dX9_choices_13 : decode cX9_choices 13 = .ok (.iload_n 1, 1) := by decide +kernel
theorem dX9_choices_14 : decode cX9_choices 14 = .ok (.isub, 1) := by decide +kernel
theorem dX9_choices_15 : decode cX9_choices 15 = .ok (.iload 4, 2) := by decide +kernel
theorem dX9_choices_17 : decode cX9_choices 17 = .ok (.iadd, 1) := by decide +kernel
theorem dX9_choices_18 : decode cX9_choices 18 = .ok (.i2l, 1) := by decide +kernel
theorem dX9_choices_19 : decode cX9_choices 19 = .ok (.lmul, 1) := by decide +kernel
theorem dX9_choices_20 : decode cX9_choices 20 = .ok (.iload 4, 2) := by decide +kernel
theorem dX9_choices_22 : decode cX9_choices 22 = .ok (.i2l, 1) := by decide +kernel
theorem dX9_choices_23 : decode cX9_choices 23 = .ok (.ldiv, 1) := by decide +kernel
theorem dX9_choices_24 : decode cX9_choices 24 = .ok (.lstore_n 2, 1) := by decide +kernel
theorem dX9_choices_25 : decode cX9_choices 25 = .ok (.iinc 4 1, 3) := by decide +kernel
theorem dX9_choices_28 : decode cX9_choices 28 = .ok (.goto (-23), 3) := by decide +kernel
theorem dX9_choices_31 : decode cX9_choices 31 = .ok (.lload_n 2, 1) := by decide +kernel
theorem dX9_choices_32 : decode cX9_choices 32 = .ok (.lreturn, 1) := by decide +kernel
theorem dX9_findShape_0 : decode cX9_findShape 0 = .ok (.iconst 0, 1) := by decide +kernel
theorem dX9_findShape_1 : decode cX9_findShape 1 = .ok (.istore_n 3, 1) := by decide +kernel
theorem dX9_findShape_2 : decode cX9_findShape 2 = .ok (.iload_n 3, 1) := by decide +kernel
theorem dX9_findShape_3 : decode cX9_findShape 3 = .ok (.bipush 85, 2) := by decide +kernel
theorem dX9_findShape_5 : decode cX9_findShape 5 = .ok (.if_icmp .ge 16, 3) := by decide +kernel
theorem dX9_findShape_8 : decode cX9_findShape 8 = .ok (.aload_n 0, 1) := by decide +kernel
theorem dX9_findShape_9 : decode cX9_findShape 9 = .ok (.getfield 22, 3) := by decide +kernel
theorem dX9_findShape_12 : decode cX9_findShape 12 = .ok (.iload_n 3, 1) := by decide +kernel
theorem dX9_findShape_13 : decode cX9_findShape 13 = .ok (.lconst 0, 1) := by decide +kernel
theorem dX9_findShape_14 : decode cX9_findShape 14 = .ok (.lastore, 1) := by decide +kernel
theorem dX9_findShape_15 : decode cX9_findShape 15 = .ok (.iinc 3 1, 3) := by decide +kernel
theorem dX9_findShape_18 : decode cX9_findShape 18 = .ok (.goto (-16), 3) := by decide +kernel
theorem dX9_findShape_21 : decode cX9_findShape 21 = .ok (.iconst 0, 1) := by decide +kernel
theorem dX9_findShape_22 : decode cX9_findShape 22 = .ok (.istore_n 3, 1) := by decide +kernel
theorem dX9_findShape_23 : decode cX9_findShape 23 = .ok (.iload_n 3, 1) := by decide +kernel
theorem dX9_findShape_24 : decode cX9_findShape 24 = .ok (.bipush 25, 2) := by decide +kernel
theorem dX9_findShape_26 : decode cX9_findShape 26 = .ok (.if_icmp .ge 120, 3) := by decide +kernel
theorem dX9_findShape_29 : decode cX9_findShape 29 = .ok (.aload_n 0, 1) := by decide +kernel
theorem dX9_findShape_30 : decode cX9_findShape 30 = .ok (.getfield 19, 3) := by decide +kernel
theorem dX9_findShape_33 : decode cX9_findShape 33 = .ok (.iload_n 3, 1) := by decide +kernel
theorem dX9_findShape_34 : decode cX9_findShape 34 = .ok (.iaload, 1) := by decide +kernel
theorem dX9_findShape_35 : decode cX9_findShape 35 = .ok (.ifCond .eq 105, 3) := by decide +kernel
theorem dX9_findShape_38 : decode cX9_findShape 38 = .ok (.iconst 0, 1) := by decide +kernel
theorem dX9_findShape_39 : decode cX9_findShape 39 = .ok (.istore 4, 2) := by decide +kernel
theorem dX9_findShape_41 : decode cX9_findShape 41 = .ok (.iload 4, 2) := by decide +kernel
theorem dX9_findShape_43 : decode cX9_findShape 43 = .ok (.iload_n 3, 1) := by decide +kernel
theorem dX9_findShape_44 : decode cX9_findShape 44 = .ok (.iconst 5, 1) := by decide +kernel
theorem dX9_findShape_45 : decode cX9_findShape 45 = .ok (.idiv, 1) := by decide +kernel
theorem dX9_findShape_46 : decode cX9_findShape 46 = .ok (.if_icmp .gt 94, 3) := by decide +kernel
theorem dX9_findShape_49 : decode cX9_findShape 49 = .ok (.iconst 0, 1) := by decide +kernel
theorem dX9_findShape_50 : decode cX9_findShape 50 = .ok (.istore 5, 2) := by decide +kernel
theorem dX9_findShape_52 : decode cX9_findShape 52 = .ok (.iload 5, 2) := by decide +kernel
theorem dX9_findShape_54 : decode cX9_findShape 54 = .ok (.iload_n 3, 1) := by decide +kernel
theorem dX9_findShape_55 : decode cX9_findShape 55 = .ok (.iconst 5, 1) := by decide +kernel
theorem dX9_findShape_56 : decode cX9_findShape 56 = .ok (.irem, 1) := by decide +kernel
theorem dX9_findShape_57 : decode cX9_findShape 57 = .ok (.if_icmp .gt 77, 3) := by decide +kernel
theorem dX9_findShape_60 : decode cX9_findShape 60 = .ok (.iload_n 3, 1) := by decide +kernel
theorem dX9_findShape_61 : decode cX9_findShape 61 = .ok (.iconst 5, 1) := by decide +kernel
theorem dX9_findShape_62 : decode cX9_findShape 62 = .ok (.idiv, 1) := by decide +kernel
theorem dX9_findShape_63 : decode cX9_findShape 63 = .ok (.iload 4, 2) := by decide +kernel
theorem dX9_findShape_65 : decode cX9_findShape 65 = .ok (.invokestatic 155, 3) := by decide +kernel
theorem dX9_findShape_68 : decode cX9_findShape 68 = .ok (.iload_n 3, 1) := by decide +kernel
theorem dX9_findShape_69 : decode cX9_findShape 69 = .ok (.iconst 5, 1) := by decide +kernel
theorem dX9_findShape_70 : decode cX9_findShape 70 = .ok (.irem, 1) := by decide +kernel
theorem dX9_findShape_71 : decode cX9_findShape 71 = .ok (.iload 5, 2) := by decide +kernel
theorem dX9_findShape_73 : decode cX9_findShape 73 = .ok (.invokestatic 155, 3) := by decide +kernel
theorem dX9_findShape_76 : decode cX9_findShape 76 = .ok (.lmul, 1) := by decide +kernel
theorem dX9_findShape_77 : decode cX9_findShape 77 = .ok (.lstore 6, 2) := by decide +kernel
theorem dX9_findShape_79 : decode cX9_findShape 79 = .ok (.aload_n 0, 1) := by decide +kernel
theorem dX9_findShape_80 : decode cX9_findShape 80 = .ok (.getfield 22, 3) := by decide +kernel
theorem dX9_findShape_83 : decode cX9_findShape 83 = .ok (.iconst 5, 1) := by decide +kernel
theorem dX9_findShape_84 : decode cX9_findShape 84 = .ok (.iload 4, 2) := by decide +kernel
theorem dX9_findShape_86 : decode cX9_findShape 86 = .ok (.imul, 1) := by decide +kernel
theorem dX9_findShape_87 : decode cX9_findShape 87 = .ok (.iload 5, 2) := by decide +kernel
theorem dX9_findShape_89 : decode cX9_findShape 89 = .ok (.iadd, 1) := by decide +kernel
theorem dX9_findShape_90 : decode cX9_findShape 90 = .ok (.dup2, 1) := by decide +kernel
theorem dX9_findShape_91 : decode cX9_findShape 91 = .ok (.laload, 1) := by decide +kernel
theorem dX9_findShape_92 : decode cX9_findShape 92 = .ok (.aload_n 0, 1) := by decide +kernel
theorem dX9_findShape_93 : decode cX9_findShape 93 = .ok (.getfield 19, 3) := by decide +kernel
theorem dX9_findShape_96 : decode cX9_findShape 96 = .ok (.iload_n 3, 1) := by decide +kernel
theorem dX9_findShape_97 : decode cX9_findShape 97 = .ok (.iaload, 1) := by decide +kernel
theorem dX9_findShape_98 : decode cX9_findShape 98 = .ok (.i2l, 1) := by decide +kernel
theorem dX9_findShape_99 : decode cX9_findShape 99 = .ok (.lload 6, 2) := by decide +kernel
theorem dX9_findShape_101 : decode cX9_findShape 101 = .ok (.lmul, 1) := by decide +kernel
theorem dX9_findShape_102 : decode cX9_findShape 102 = .ok (.iload_n 1, 1) := by decide +kernel
theorem dX9_findShape_103 : decode cX9_findShape 103 = .ok (.i2l, 1) := by decide +kernel
theorem dX9_findShape_104 : decode cX9_findShape 104 = .ok (.iload_n 3, 1) := by decide +kernel
theorem dX9_findShape_105 : decode cX9_findShape 105 = .ok (.iconst 5, 1) := by decide +kernel
theorem dX9_findShape_106 : decode cX9_findShape 106 = .ok (.idiv, 1) := by decide +kernel
theorem dX9_findShape_107 : decode cX9_findShape 107 = .ok (.iload 4, 2) := by decide +kernel
theorem dX9_findShape_109 : decode cX9_findShape 109 = .ok (.isub, 1) := by decide +kernel
theorem dX9_findShape_110 : decode cX9_findShape 110 = .ok (.invokestatic 151, 3) := by decide +kernel
theorem dX9_findShape_113 : decode cX9_findShape 113 = .ok (.lmul, 1) := by decide +kernel
theorem dX9_findShape_114 : decode cX9_findShape 114 = .ok (.iload_n 2, 1) := by decide +kernel
theorem dX9_findShape_115 : decode cX9_findShape 115 = .ok (.i2l, 1) := by decide +kernel
theorem dX9_findShape_116 : decode cX9_findShape 116 = .ok (.iload_n 3, 1) := by decide +kernel
theorem dX9_findShape_117 : decode cX9_findShape 117 = .ok (.iconst 5, 1) := by decide +kernel
theorem dX9_findShape_118 : decode cX9_findShape 118 = .ok (.irem, 1) := by decide +kernel
theorem dX9_findShape_119 : decode cX9_findShape 119 = .ok (.iload 5, 2) := by decide +kernel
theorem dX9_findShape_121 : decode cX9_findShape 121 = .ok (.isub, 1) := by decide +kernel
theorem dX9_findShape_122 : decode cX9_findShape 122 = .ok (.invokestatic 151, 3) := by decide +kernel
theorem dX9_findShape_125 : decode cX9_findShape 125 = .ok (.lmul, 1) := by decide +kernel
theorem dX9_findShape_126 : decode cX9_findShape 126 = .ok (.ladd, 1) := by decide +kernel
theorem dX9_findShape_127 : decode cX9_findShape 127 = .ok (.lastore, 1) := by decide +kernel
theorem dX9_findShape_128 : decode cX9_findShape 128 = .ok (.iinc 5 1, 3) := by decide +kernel
theorem dX9_findShape_131 : decode cX9_findShape 131 = .ok (.goto (-79), 3) := by decide +kernel
theorem dX9_findShape_134 : decode cX9_findShape 134 = .ok (.iinc 4 1, 3) := by decide +kernel
theorem dX9_findShape_137 : decode cX9_findShape 137 = .ok (.goto (-96), 3) := by decide +kernel
theorem dX9_findShape_140 : decode cX9_findShape 140 = .ok (.iinc 3 1, 3) := by decide +kernel
theorem dX9_findShape_143 : decode cX9_findShape 143 = .ok (.goto (-120), 3) := by decide +kernel
theorem dX9_findShape_146 : decode cX9_findShape 146 = .ok (.return_, 1) := by decide +kernel
theorem dX9_findPlace_0 : decode cX9_findPlace 0 = .ok (.aload_n 0, 1) := by decide +kernel
theorem dX9_findPlace_1 : decode cX9_findPlace 1 = .ok (.iload_n 1, 1) := by decide +kernel
theorem dX9_findPlace_2 : decode cX9_findPlace 2 = .ok (.invokevirtual 133, 3) := by decide +kernel
theorem dX9_findPlace_5 : decode cX9_findPlace 5 = .ok (.istore_n 3, 1) := by decide +kernel
theorem dX9_findPlace_6 : decode cX9_findPlace 6 = .ok (.aload_n 0, 1) := by decide +kernel
theorem dX9_findPlace_7 : decode cX9_findPlace 7 = .ok (.iload_n 2, 1) := by decide +kernel
theorem dX9_findPlace_8 : decode cX9_findPlace 8 = .ok (.bipush 100, 2) := by decide +kernel
theorem dX9_findPlace_10 : decode cX9_findPlace 10 = .ok (.idiv, 1) := by decide +kernel
theorem dX9_findPlace_11 : decode cX9_findPlace 11 = .ok (.iconst 5, 1) := by decide +kernel
theorem dX9_findPlace_12 : decode cX9_findPlace 12 = .ok (.isub, 1) := by decide +kernel
theorem dX9_findPlace_13 : decode cX9_findPlace 13 = .ok (.iload_n 2, 1) := by decide +kernel
theorem dX9_findPlace_14 : decode cX9_findPlace 14 = .ok (.bipush 100, 2) := by decide +kernel
theorem dX9_findPlace_16 : decode cX9_findPlace 16 = .ok (.irem, 1) := by decide +kernel
theorem dX9_findPlace_17 : decode cX9_findPlace 17 = .ok (.iconst 5, 1) := by decide +kernel
theorem dX9_findPlace_18 : decode cX9_findPlace 18 = .ok (.isub, 1) := by decide +kernel
theorem dX9_findPlace_19 : decode cX9_findPlace 19 = .ok (.invokevirtual 159, 3) := by decide +kernel
theorem dX9_findPlace_22 : decode cX9_findPlace 22 = .ok (.return_, 1) := by decide +kernel
theorem dX9_timesOf_0 : decode cX9_timesOf 0 = .ok (.iconst (-1), 1) := by decide +kernel
theorem dX9_timesOf_1 : decode cX9_timesOf 1 = .ok (.istore_n 2, 1) := by decide +kernel
theorem dX9_timesOf_2 : decode cX9_timesOf 2 = .ok (.iconst 0, 1) := by decide +kernel
theorem dX9_timesOf_3 : decode cX9_timesOf 3 = .ok (.istore_n 3, 1) := by decide +kernel
theorem dX9_timesOf_4 : decode cX9_timesOf 4 = .ok (.iload_n 3, 1) := by decide +kernel
theorem dX9_timesOf_5 : decode cX9_timesOf 5 = .ok (.bipush 85, 2) := by decide +kernel
theorem dX9_timesOf_7 : decode cX9_timesOf 7 = .ok (.if_icmp .ge 51, 3) := by decide +kernel
theorem dX9_timesOf_10 : decode cX9_timesOf 10 = .ok (.iload_n 3, 1) := by decide +kernel
theorem dX9_timesOf_11 : decode cX9_timesOf 11 = .ok (.iconst 5, 1) := by decide +kernel
theorem dX9_timesOf_12 : decode cX9_timesOf 12 = .ok (.idiv, 1) := by decide +kernel
theorem dX9_timesOf_13 : decode cX9_timesOf 13 = .ok (.iload_n 3, 1) := by decide +kernel
theorem dX9_timesOf_14 : decode cX9_timesOf 14 = .ok (.iconst 5, 1) := by decide +kernel
theorem dX9_timesOf_15 : decode cX9_timesOf 15 = .ok (.irem, 1) := by decide +kernel
theorem dX9_timesOf_16 : decode cX9_timesOf 16 = .ok (.iadd, 1) := by decide +kernel
theorem dX9_timesOf_17 : decode cX9_timesOf 17 = .ok (.istore 4, 2) := by decide +kernel
theorem dX9_timesOf_19 : decode cX9_timesOf 19 = .ok (.aload_n 0, 1) := by decide +kernel
theorem dX9_timesOf_20 : decode cX9_timesOf 20 = .ok (.getfield 22, 3) := by decide +kernel
theorem dX9_timesOf_23 : decode cX9_timesOf 23 = .ok (.bipush 85, 2) := by decide +kernel
theorem dX9_timesOf_25 : decode cX9_timesOf 25 = .ok (.iload_n 1, 1) := by decide +kernel
theorem dX9_timesOf_26 : decode cX9_timesOf 26 = .ok (.imul, 1) := by decide +kernel
theorem dX9_timesOf_27 : decode cX9_timesOf 27 = .ok (.iload_n 3, 1) := by decide +kernel
theorem dX9_timesOf_28 : decode cX9_timesOf 28 = .ok (.iadd, 1) := by decide +kernel
theorem dX9_timesOf_29 : decode cX9_timesOf 29 = .ok (.laload, 1) := by decide +kernel
theorem dX9_timesOf_30 : decode cX9_timesOf 30 = .ok (.lconst 0, 1) := by decide +kernel
theorem dX9_timesOf_31 : decode cX9_timesOf 31 = .ok (.lcmp, 1) := by decide +kernel
theorem dX9_timesOf_32 : decode cX9_timesOf 32 = .ok (.ifCond .eq 18, 3) := by decide +kernel
theorem dX9_timesOf_35 : decode cX9_timesOf 35 = .ok (.iload_n 2, 1) := by decide +kernel
theorem dX9_timesOf_36 : decode cX9_timesOf 36 = .ok (.ifCond .lt 9, 3) := by decide +kernel
theorem dX9_timesOf_39 : decode cX9_timesOf 39 = .ok (.iload 4, 2) := by decide +kernel
theorem dX9_timesOf_41 : decode cX9_timesOf 41 = .ok (.iload_n 2, 1) := by decide +kernel
theorem dX9_timesOf_42 : decode cX9_timesOf 42 = .ok (.if_icmp .ge 8, 3) := by decide +kernel
theorem dX9_timesOf_45 : decode cX9_timesOf 45 = .ok (.iload 4, 2) := by decide +kernel
theorem dX9_timesOf_47 : decode cX9_timesOf 47 = .ok (.goto 4, 3) := by decide +kernel
theorem dX9_timesOf_50 : decode cX9_timesOf 50 = .ok (.iload_n 2, 1) := by decide +kernel
theorem dX9_timesOf_51 : decode cX9_timesOf 51 = .ok (.istore_n 2, 1) := by decide +kernel
theorem dX9_timesOf_52 : decode cX9_timesOf 52 = .ok (.iinc 3 1, 3) := by decide +kernel
theorem dX9_timesOf_55 : decode cX9_timesOf 55 = .ok (.goto (-51), 3) := by decide +kernel
theorem dX9_timesOf_58 : decode cX9_timesOf 58 = .ok (.iload_n 2, 1) := by decide +kernel
theorem dX9_timesOf_59 : decode cX9_timesOf 59 = .ok (.ifCond .ge 8, 3) := by decide +kernel
theorem dX9_timesOf_62 : decode cX9_timesOf 62 = .ok (.bipush 17, 2) := by decide +kernel
theorem dX9_timesOf_64 : decode cX9_timesOf 64 = .ok (.goto 4, 3) := by decide +kernel
theorem dX9_timesOf_67 : decode cX9_timesOf 67 = .ok (.iload_n 2, 1) := by decide +kernel
theorem dX9_timesOf_68 : decode cX9_timesOf 68 = .ok (.ireturn, 1) := by decide +kernel
theorem dX9_times_0 : decode cX9_times 0 = .ok (.aload_n 0, 1) := by decide +kernel
theorem dX9_times_1 : decode cX9_times 1 = .ok (.iload_n 1, 1) := by decide +kernel
theorem dX9_times_2 : decode cX9_times 2 = .ok (.invokevirtual 98, 3) := by decide +kernel
theorem dX9_times_5 : decode cX9_times 5 = .ok (.ifCond .eq 10, 3) := by decide +kernel
theorem dX9_times_8 : decode cX9_times 8 = .ok (.iload_n 2, 1) := by decide +kernel
theorem dX9_times_9 : decode cX9_times 9 = .ok (.invokestatic 163, 3) := by decide +kernel
theorem dX9_times_12 : decode cX9_times 12 = .ok (.ifCond .ne 6, 3) := by decide +kernel
theorem dX9_times_15 : decode cX9_times 15 = .ok (.ldc 92, 2) := by decide +kernel
theorem dX9_times_17 : decode cX9_times 17 = .ok (.ireturn, 1) := by decide +kernel
theorem dX9_times_18 : decode cX9_times 18 = .ok (.aload_n 0, 1) := by decide +kernel
theorem dX9_times_19 : decode cX9_times 19 = .ok (.iload_n 1, 1) := by decide +kernel
theorem dX9_times_20 : decode cX9_times 20 = .ok (.iload_n 2, 1) := by decide +kernel
theorem dX9_times_21 : decode cX9_times 21 = .ok (.invokevirtual 166, 3) := by decide +kernel
theorem dX9_times_24 : decode cX9_times 24 = .ok (.aload_n 0, 1) := by decide +kernel
theorem dX9_times_25 : decode cX9_times 25 = .ok (.iconst 0, 1) := by decide +kernel
theorem dX9_times_26 : decode cX9_times 26 = .ok (.invokevirtual 169, 3) := by decide +kernel
theorem dX9_times_29 : decode cX9_times 29 = .ok (.ireturn, 1) := by decide +kernel
theorem dX9_shape_0 : decode cX9_shape 0 = .ok (.aload_n 0, 1) := by decide +kernel
theorem dX9_shape_1 : decode cX9_shape 1 = .ok (.iload_n 1, 1) := by decide +kernel
theorem dX9_shape_2 : decode cX9_shape 2 = .ok (.invokevirtual 98, 3) := by decide +kernel
theorem dX9_shape_5 : decode cX9_shape 5 = .ok (.ifCond .eq 31, 3) := by decide +kernel
theorem dX9_shape_8 : decode cX9_shape 8 = .ok (.iload_n 2, 1) := by decide +kernel
theorem dX9_shape_9 : decode cX9_shape 9 = .ok (.invokestatic 163, 3) := by decide +kernel
theorem dX9_shape_12 : decode cX9_shape 12 = .ok (.ifCond .eq 24, 3) := by decide +kernel
theorem dX9_shape_15 : decode cX9_shape 15 = .ok (.iload_n 3, 1) := by decide +kernel
theorem dX9_shape_16 : decode cX9_shape 16 = .ok (.ifCond .lt 20, 3) := by decide +kernel
theorem dX9_shape_19 : decode cX9_shape 19 = .ok (.iload_n 3, 1) := by decide +kernel
theorem dX9_shape_20 : decode cX9_shape 20 = .ok (.bipush 10, 2) := by decide +kernel
theorem dX9_shape_22 : decode cX9_shape 22 = .ok (.idiv, 1) := by decide +kernel
theorem dX9_shape_23 : decode cX9_shape 23 = .ok (.bipush 16, 2) := by decide +kernel
theorem dX9_shape_25 : decode cX9_shape 25 = .ok (.if_icmp .gt 11, 3) := by decide +kernel
theorem dX9_shape_28 : decode cX9_shape 28 = .ok (.iload_n 3, 1) := by decide +kernel
theorem dX9_shape_29 : decode cX9_shape 29 = .ok (.bipush 10, 2) := by decide +kernel
theorem dX9_shape_31 : decode cX9_shape 31 = .ok (.irem, 1) := by decide +kernel
theorem dX9_shape_32 : decode cX9_shape 32 = .ok (.iconst 4, 1) := by decide +kernel
theorem dX9_shape_33 : decode cX9_shape 33 = .ok (.if_icmp .le 7, 3) := by decide +kernel
theorem dX9_shape_36 : decode cX9_shape 36 = .ok (.ldc2_w 149, 3) := by decide +kernel
theorem dX9_shape_39 : decode cX9_shape 39 = .ok (.lreturn, 1) := by decide +kernel
theorem dX9_shape_40 : decode cX9_shape 40 = .ok (.aload_n 0, 1) := by decide +kernel
theorem dX9_shape_41 : decode cX9_shape 41 = .ok (.iload_n 1, 1) := by decide +kernel
theorem dX9_shape_42 : decode cX9_shape 42 = .ok (.iload_n 2, 1) := by decide +kernel
theorem dX9_shape_43 : decode cX9_shape 43 = .ok (.invokevirtual 166, 3) := by decide +kernel
theorem dX9_shape_46 : decode cX9_shape 46 = .ok (.aload_n 0, 1) := by decide +kernel
theorem dX9_shape_47 : decode cX9_shape 47 = .ok (.getfield 22, 3) := by decide +kernel
theorem dX9_shape_50 : decode cX9_shape 50 = .ok (.iconst 5, 1) := by decide +kernel
theorem dX9_shape_51 : decode cX9_shape 51 = .ok (.iload_n 3, 1) := by decide +kernel
theorem dX9_shape_52 : decode cX9_shape 52 = .ok (.bipush 10, 2) := by decide +kernel
theorem dX9_shape_54 : decode cX9_shape 54 = .ok (.idiv, 1) := by decide +kernel
theorem dX9_shape_55 : decode cX9_shape 55 = .ok (.imul, 1) := by decide +kernel
theorem dX9_shape_56 : decode cX9_shape 56 = .ok (.iload_n 3, 1) := by decide +kernel
theorem dX9_shape_57 : decode cX9_shape 57 = .ok (.bipush 10, 2) := by decide +kernel
theorem dX9_shape_59 : decode cX9_shape 59 = .ok (.irem, 1) := by decide +kernel
theorem dX9_shape_60 : decode cX9_shape 60 = .ok (.iadd, 1) := by decide +kernel
theorem dX9_shape_61 : decode cX9_shape 61 = .ok (.laload, 1) := by decide +kernel
theorem dX9_shape_62 : decode cX9_shape 62 = .ok (.lreturn, 1) := by decide +kernel
theorem dX9_isSome_0 : decode cX9_isSome 0 = .ok (.iload_n 0, 1) := by decide +kernel
theorem dX9_isSome_1 : decode cX9_isSome 1 = .ok (.iconst 1, 1) := by decide +kernel
theorem dX9_isSome_2 : decode cX9_isSome 2 = .ok (.bipush 16, 2) := by decide +kernel
theorem dX9_isSome_4 : decode cX9_isSome 4 = .ok (.invokestatic 88, 3) := by decide +kernel
theorem dX9_isSome_7 : decode cX9_isSome 7 = .ok (.ireturn, 1) := by decide +kernel
theorem dX9_lowestOf_0 : decode cX9_lowestOf 0 = .ok (.iload_n 3, 1) := by decide +kernel
theorem dX9_lowestOf_1 : decode cX9_lowestOf 1 = .ok (.iload_n 2, 1) := by decide +kernel
theorem dX9_lowestOf_2 : decode cX9_lowestOf 2 = .ok (.if_icmp .le 7, 3) := by decide +kernel
theorem dX9_lowestOf_5 : decode cX9_lowestOf 5 = .ok (.lconst 0, 1) := by decide +kernel
theorem dX9_lowestOf_6 : decode cX9_lowestOf 6 = .ok (.goto 20, 3) := by decide +kernel
theorem dX9_lowestOf_9 : decode cX9_lowestOf 9 = .ok (.aload_n 0, 1) := by decide +kernel
theorem dX9_lowestOf_10 : decode cX9_lowestOf 10 = .ok (.getfield 22, 3) := by decide +kernel
theorem dX9_lowestOf_13 : decode cX9_lowestOf 13 = .ok (.bipush 85, 2) := by decide +kernel
theorem dX9_lowestOf_15 : decode cX9_lowestOf 15 = .ok (.iload_n 1, 1) := by decide +kernel
theorem dX9_lowestOf_16 : decode cX9_lowestOf 16 = .ok (.imul, 1) := by decide +kernel
theorem dX9_lowestOf_17 : decode cX9_lowestOf 17 = .ok (.iconst 5, 1) := by decide +kernel
theorem dX9_lowestOf_18 : decode cX9_lowestOf 18 = .ok (.iload_n 2, 1) := by decide +kernel
theorem dX9_lowestOf_19 : decode cX9_lowestOf 19 = .ok (.iload_n 3, 1) := by decide +kernel
theorem dX9_lowestOf_20 : decode cX9_lowestOf 20 = .ok (.isub, 1) := by decide +kernel
theorem dX9_lowestOf_21 : decode cX9_lowestOf 21 = .ok (.imul, 1) := by decide +kernel
theorem dX9_lowestOf_22 : decode cX9_lowestOf 22 = .ok (.iadd, 1) := by decide +kernel
theorem dX9_lowestOf_23 : decode cX9_lowestOf 23 = .ok (.iload_n 3, 1) := by decide +kernel
theorem dX9_lowestOf_24 : decode cX9_lowestOf 24 = .ok (.iadd, 1) := by decide +kernel
theorem dX9_lowestOf_25 : decode cX9_lowestOf 25 = .ok (.laload, 1) := by decide +kernel
theorem dX9_lowestOf_26 : decode cX9_lowestOf 26 = .ok (.lreturn, 1) := by decide +kernel
theorem dX9_lowest_0 : decode cX9_lowest 0 = .ok (.aload_n 0, 1) := by decide +kernel
theorem dX9_lowest_1 : decode cX9_lowest 1 = .ok (.iload_n 1, 1) := by decide +kernel
theorem dX9_lowest_2 : decode cX9_lowest 2 = .ok (.invokevirtual 98, 3) := by decide +kernel
theorem dX9_lowest_5 : decode cX9_lowest 5 = .ok (.ifCond .eq 19, 3) := by decide +kernel
theorem dX9_lowest_8 : decode cX9_lowest 8 = .ok (.iload_n 2, 1) := by decide +kernel
theorem dX9_lowest_9 : decode cX9_lowest 9 = .ok (.invokestatic 163, 3) := by decide +kernel
theorem dX9_lowest_12 : decode cX9_lowest 12 = .ok (.ifCond .eq 12, 3) := by decide +kernel
theorem dX9_lowest_15 : decode cX9_lowest 15 = .ok (.iload_n 3, 1) := by decide +kernel
theorem dX9_lowest_16 : decode cX9_lowest 16 = .ok (.iconst 0, 1) := by decide +kernel
theorem dX9_lowest_17 : decode cX9_lowest 17 = .ok (.iconst 4, 1) := by decide +kernel
theorem dX9_lowest_18 : decode cX9_lowest 18 = .ok (.invokestatic 88, 3) := by decide +kernel
theorem dX9_lowest_21 : decode cX9_lowest 21 = .ok (.ifCond .ne 7, 3) := by decide +kernel
theorem dX9_lowest_24 : decode cX9_lowest 24 = .ok (.ldc2_w 149, 3) := by decide +kernel
theorem dX9_lowest_27 : decode cX9_lowest 27 = .ok (.lreturn, 1) := by decide +kernel
theorem dX9_lowest_28 : decode cX9_lowest 28 = .ok (.aload_n 0, 1) := by decide +kernel
theorem dX9_lowest_29 : decode cX9_lowest 29 = .ok (.iload_n 1, 1) := by decide +kernel
theorem dX9_lowest_30 : decode cX9_lowest 30 = .ok (.iload_n 2, 1) := by decide +kernel
theorem dX9_lowest_31 : decode cX9_lowest 31 = .ok (.invokevirtual 166, 3) := by decide +kernel
theorem dX9_lowest_34 : decode cX9_lowest 34 = .ok (.aload_n 0, 1) := by decide +kernel
theorem dX9_lowest_35 : decode cX9_lowest 35 = .ok (.iconst 0, 1) := by decide +kernel
theorem dX9_lowest_36 : decode cX9_lowest 36 = .ok (.invokevirtual 169, 3) := by decide +kernel
theorem dX9_lowest_39 : decode cX9_lowest 39 = .ok (.istore 4, 2) := by decide +kernel
theorem dX9_lowest_41 : decode cX9_lowest 41 = .ok (.iload 4, 2) := by decide +kernel
theorem dX9_lowest_43 : decode cX9_lowest 43 = .ok (.invokestatic 172, 3) := by decide +kernel
theorem dX9_lowest_46 : decode cX9_lowest 46 = .ok (.ifCond .eq 14, 3) := by decide +kernel
theorem dX9_lowest_49 : decode cX9_lowest 49 = .ok (.aload_n 0, 1) := by decide +kernel
theorem dX9_lowest_50 : decode cX9_lowest 50 = .ok (.iconst 0, 1) := by decide +kernel
theorem dX9_lowest_51 : decode cX9_lowest 51 = .ok (.iload 4, 2) := by decide +kernel
theorem dX9_lowest_53 : decode cX9_lowest 53 = .ok (.iload_n 3, 1) := by decide +kernel
theorem dX9_lowest_54 : decode cX9_lowest 54 = .ok (.invokevirtual 175, 3) := by decide +kernel
theorem dX9_lowest_57 : decode cX9_lowest 57 = .ok (.goto 6, 3) := by decide +kernel
theorem dX9_lowest_60 : decode cX9_lowest 60 = .ok (.ldc2_w 179, 3) := by decide +kernel
theorem dX9_lowest_63 : decode cX9_lowest 63 = .ok (.lreturn, 1) := by decide +kernel
theorem dX9_isRoot_0 : decode cX9_isRoot 0 = .ok (.lconst 0, 1) := by decide +kernel
theorem dX9_isRoot_1 : decode cX9_isRoot 1 = .ok (.lstore 4, 2) := by decide +kernel
theorem dX9_isRoot_3 : decode cX9_isRoot 3 = .ok (.iconst 0, 1) := by decide +kernel
theorem dX9_isRoot_4 : decode cX9_isRoot 4 = .ok (.istore 6, 2) := by decide +kernel
theorem dX9_isRoot_6 : decode cX9_isRoot 6 = .ok (.iload 6, 2) := by decide +kernel
theorem dX9_isRoot_8 : decode cX9_isRoot 8 = .ok (.iconst 5, 1) := by decide +kernel
theorem dX9_isRoot_9 : decode cX9_isRoot 9 = .ok (.if_icmp .ge 30, 3) := by decide +kernel
theorem dX9_isRoot_12 : decode cX9_isRoot 12 = .ok (.lload 4, 2) := by decide +kernel
theorem dX9_isRoot_14 : decode cX9_isRoot 14 = .ok (.aload_n 0, 1) := by decide +kernel
theorem dX9_isRoot_15 : decode cX9_isRoot 15 = .ok (.iload_n 1, 1) := by decide +kernel
theorem dX9_isRoot_16 : decode cX9_isRoot 16 = .ok (.iload_n 2, 1) := by decide +kernel
theorem dX9_isRoot_17 : decode cX9_isRoot 17 = .ok (.iload 6, 2) := by decide +kernel
theorem dX9_isRoot_19 : decode cX9_isRoot 19 = .ok (.invokevirtual 175, 3) := by decide +kernel
theorem dX9_isRoot_22 : decode cX9_isRoot 22 = .ok (.iload_n 3, 1) := by decide +kernel
theorem dX9_isRoot_23 : decode cX9_isRoot 23 = .ok (.i2l, 1) := by decide +kernel
theorem dX9_isRoot_24 : decode cX9_isRoot 24 = .ok (.iload 6, 2) := by decide +kernel
theorem dX9_isRoot_26 : decode cX9_isRoot 26 = .ok (.invokestatic 151, 3) := by decide +kernel
theorem dX9_isRoot_29 : decode cX9_isRoot 29 = .ok (.lmul, 1) := by decide +kernel
theorem dX9_isRoot_30 : decode cX9_isRoot 30 = .ok (.ladd, 1) := by decide +kernel
theorem dX9_isRoot_31 : decode cX9_isRoot 31 = .ok (.lstore 4, 2) := by decide +kernel
theorem dX9_isRoot_33 : decode cX9_isRoot 33 = .ok (.iinc 6 1, 3) := by decide +kernel
theorem dX9_isRoot_36 : decode cX9_isRoot 36 = .ok (.goto (-30), 3) := by decide +kernel
theorem dX9_isRoot_39 : decode cX9_isRoot 39 = .ok (.lload 4, 2) := by decide +kernel
theorem dX9_isRoot_41 : decode cX9_isRoot 41 = .ok (.lconst 0, 1) := by decide +kernel
theorem dX9_isRoot_42 : decode cX9_isRoot 42 = .ok (.lcmp, 1) := by decide +kernel
theorem dX9_isRoot_43 : decode cX9_isRoot 43 = .ok (.ifCond .ne 7, 3) := by decide +kernel
theorem dX9_isRoot_46 : decode cX9_isRoot 46 = .ok (.iconst 1, 1) := by decide +kernel
theorem dX9_isRoot_47 : decode cX9_isRoot 47 = .ok (.goto 4, 3) := by decide +kernel
theorem dX9_isRoot_50 : decode cX9_isRoot 50 = .ok (.iconst 0, 1) := by decide +kernel
theorem dX9_isRoot_51 : decode cX9_isRoot 51 = .ok (.ireturn, 1) := by decide +kernel
theorem dX9_isSlope_0 : decode cX9_isSlope 0 = .ok (.aload_n 0, 1) := by decide +kernel
theorem dX9_isSlope_1 : decode cX9_isSlope 1 = .ok (.iload_n 1, 1) := by decide +kernel
theorem dX9_isSlope_2 : decode cX9_isSlope 2 = .ok (.iload_n 2, 1) := by decide +kernel
theorem dX9_isSlope_3 : decode cX9_isSlope 3 = .ok (.iload_n 3, 1) := by decide +kernel
theorem dX9_isSlope_4 : decode cX9_isSlope 4 = .ok (.invokevirtual 181, 3) := by decide +kernel
theorem dX9_isSlope_7 : decode cX9_isSlope 7 = .ok (.ifCond .ne 5, 3) := by decide +kernel
theorem dX9_isSlope_10 : decode cX9_isSlope 10 = .ok (.iconst 0, 1) := by decide +kernel
theorem dX9_isSlope_11 : decode cX9_isSlope 11 = .ok (.ireturn, 1) := by decide +kernel
theorem dX9_isSlope_12 : decode cX9_isSlope 12 = .ok (.aload_n 0, 1) := by decide +kernel
theorem dX9_isSlope_13 : decode cX9_isSlope 13 = .ok (.iconst 1, 1) := by decide +kernel
theorem dX9_isSlope_14 : decode cX9_isSlope 14 = .ok (.invokevirtual 109, 3) := by decide +kernel
theorem dX9_isSlope_17 : decode cX9_isSlope 17 = .ok (.istore 4, 2) := by decide +kernel
theorem dX9_isSlope_19 : decode cX9_isSlope 19 = .ok (.aload_n 0, 1) := by decide +kernel
theorem dX9_isSlope_20 : decode cX9_isSlope 20 = .ok (.getfield 58, 3) := by decide +kernel
theorem dX9_isSlope_23 : decode cX9_isSlope 23 = .ok (.iconst 0, 1) := by decide +kernel
theorem dX9_isSlope_24 : decode cX9_isSlope 24 = .ok (.iload_n 3, 1) := by decide +kernel
theorem dX9_isSlope_25 : decode cX9_isSlope 25 = .ok (.iastore, 1) := by decide +kernel
theorem dX9_isSlope_26 : decode cX9_isSlope 26 = .ok (.aload_n 0, 1) := by decide +kernel
theorem dX9_isSlope_27 : decode cX9_isSlope 27 = .ok (.getfield 58, 3) := by decide +kernel
theorem dX9_isSlope_30 : decode cX9_isSlope 30 = .ok (.iconst 1, 1) := by decide +kernel
theorem dX9_isSlope_31 : decode cX9_isSlope 31 = .ok (.iload_n 2, 1) := by decide +kernel
theorem dX9_isSlope_32 : decode cX9_isSlope 32 = .ok (.iastore, 1) := by decide +kernel
theorem dX9_isSlope_33 : decode cX9_isSlope 33 = .ok (.iload 4, 2) := by decide +kernel
theorem dX9_isSlope_35 : decode cX9_isSlope 35 = .ok (.ifCond .lt 12, 3) := by decide +kernel
theorem dX9_isSlope_38 : decode cX9_isSlope 38 = .ok (.aload_n 0, 1) := by decide +kernel
theorem dX9_isSlope_39 : decode cX9_isSlope 39 = .ok (.iload 4, 2) := by decide +kernel
theorem dX9_isSlope_41 : decode cX9_isSlope 41 = .ok (.invokevirtual 112, 3) := by decide +kernel
theorem dX9_isSlope_44 : decode cX9_isSlope 44 = .ok (.ifCond .eq 7, 3) := by decide +kernel
theorem dX9_isSlope_47 : decode cX9_isSlope 47 = .ok (.iconst 1, 1) := by decide +kernel
theorem dX9_isSlope_48 : decode cX9_isSlope 48 = .ok (.goto 4, 3) := by decide +kernel
theorem dX9_isSlope_51 : decode cX9_isSlope 51 = .ok (.iconst 0, 1) := by decide +kernel
theorem dX9_isSlope_52 : decode cX9_isSlope 52 = .ok (.ireturn, 1) := by decide +kernel
theorem dX9_slopes_0 : decode cX9_slopes 0 = .ok (.aload_n 0, 1) := by decide +kernel
theorem dX9_slopes_1 : decode cX9_slopes 1 = .ok (.iload_n 1, 1) := by decide +kernel
theorem dX9_slopes_2 : decode cX9_slopes 2 = .ok (.invokevirtual 98, 3) := by decide +kernel
theorem dX9_slopes_5 : decode cX9_slopes 5 = .ok (.ifCond .eq 10, 3) := by decide +kernel
theorem dX9_slopes_8 : decode cX9_slopes 8 = .ok (.iload_n 2, 1) := by decide +kernel
theorem dX9_slopes_9 : decode cX9_slopes 9 = .ok (.invokestatic 163, 3) := by decide +kernel
theorem dX9_slopes_12 : decode cX9_slopes 12 = .ok (.ifCond .ne 6, 3) := by decide +kernel
theorem dX9_slopes_15 : decode cX9_slopes 15 = .ok (.ldc 92, 2) := by decide +kernel
theorem dX9_slopes_17 : decode cX9_slopes 17 = .ok (.ireturn, 1) := by decide +kernel
theorem dX9_slopes_18 : decode cX9_slopes 18 = .ok (.aload_n 0, 1) := by decide +kernel
theorem dX9_slopes_19 : decode cX9_slopes 19 = .ok (.iload_n 1, 1) := by decide +kernel
theorem dX9_slopes_20 : decode cX9_slopes 20 = .ok (.iload_n 2, 1) := by decide +kernel
theorem dX9_slopes_21 : decode cX9_slopes 21 = .ok (.invokevirtual 166, 3) := by decide +kernel
theorem dX9_slopes_24 : decode cX9_slopes 24 = .ok (.aload_n 0, 1) := by decide +kernel
theorem dX9_slopes_25 : decode cX9_slopes 25 = .ok (.iconst 0, 1) := by decide +kernel
theorem dX9_slopes_26 : decode cX9_slopes 26 = .ok (.invokevirtual 169, 3) := by decide +kernel
theorem dX9_slopes_29 : decode cX9_slopes 29 = .ok (.istore_n 3, 1) := by decide +kernel
theorem dX9_slopes_30 : decode cX9_slopes 30 = .ok (.iload_n 3, 1) := by decide +kernel
theorem dX9_slopes_31 : decode cX9_slopes 31 = .ok (.invokestatic 172, 3) := by decide +kernel
theorem dX9_slopes_34 : decode cX9_slopes 34 = .ok (.ifCond .ne 6, 3) := by decide +kernel
theorem dX9_slopes_37 : decode cX9_slopes 37 = .ok (.ldc 184, 2) := by decide +kernel
theorem dX9_slopes_39 : decode cX9_slopes 39 = .ok (.ireturn, 1) := by decide +kernel
theorem dX9_slopes_40 : decode cX9_slopes 40 = .ok (.iconst 0, 1) := by decide +kernel
theorem dX9_slopes_41 : decode cX9_slopes 41 = .ok (.istore 4, 2) := by decide +kernel
theorem dX9_slopes_43 : decode cX9_slopes 43 = .ok (.bipush (-5), 2) := by decide +kernel
theorem dX9_slopes_45 : decode cX9_slopes 45 = .ok (.istore 5, 2) := by decide +kernel
theorem dX9_slopes_47 : decode cX9_slopes 47 = .ok (.iload 5, 2) := by decide +kernel
theorem dX9_slopes_49 : decode cX9_slopes 49 = .ok (.bipush 6, 2) := by decide +kernel
theorem dX9_slopes_51 : decode cX9_slopes 51 = .ok (.if_icmp .ge 35, 3) := by decide +kernel
theorem dX9_slopes_54 : decode cX9_slopes 54 = .ok (.iload 4, 2) := by decide +kernel
theorem dX9_slopes_56 : decode cX9_slopes 56 = .ok (.aload_n 0, 1) := by decide +kernel
theorem dX9_slopes_57 : decode cX9_slopes 57 = .ok (.iconst 0, 1) := by decide +kernel
theorem dX9_slopes_58 : decode cX9_slopes 58 = .ok (.iload_n 3, 1) := by decide +kernel
theorem dX9_slopes_59 : decode cX9_slopes 59 = .ok (.iload 5, 2) := by decide +kernel
theorem dX9_slopes_61 : decode cX9_slopes 61 = .ok (.invokevirtual 185, 3) := by decide +kernel
theorem dX9_slopes_64 : decode cX9_slopes 64 = .ok (.ifCond .eq 12, 3) := by decide +kernel
theorem dX9_slopes_67 : decode cX9_slopes 67 = .ok (.iconst 1, 1) := by decide +kernel
theorem dX9_slopes_68 : decode cX9_slopes 68 = .ok (.iload 5, 2) := by decide +kernel
theorem dX9_slopes_70 : decode cX9_slopes 70 = .ok (.iconst 5, 1) := by decide +kernel
theorem dX9_slopes_71 : decode cX9_slopes 71 = .ok (.iadd, 1) := by decide +kernel
theorem dX9_slopes_72 : decode cX9_slopes 72 = .ok (.ishl, 1) := by decide +kernel
theorem dX9_slopes_73 : decode cX9_slopes 73 = .ok (.goto 4, 3) := by decide +kernel
theorem dX9_slopes_76 : decode cX9_slopes 76 = .ok (.iconst 0, 1) := by decide +kernel
theorem dX9_slopes_77 : decode cX9_slopes 77 = .ok (.ior, 1) := by decide +kernel
theorem dX9_slopes_78 : decode cX9_slopes 78 = .ok (.istore 4, 2) := by decide +kernel
theorem dX9_slopes_80 : decode cX9_slopes 80 = .ok (.iinc 5 1, 3) := by decide +kernel
theorem dX9_slopes_83 : decode cX9_slopes 83 = .ok (.goto (-36), 3) := by decide +kernel
theorem dX9_slopes_86 : decode cX9_slopes 86 = .ok (.iload 4, 2) := by decide +kernel
theorem dX9_slopes_88 : decode cX9_slopes 88 = .ok (.ireturn, 1) := by decide +kernel
theorem dX9_parts_0 : decode cX9_parts 0 = .ok (.lconst 0, 1) := by decide +kernel
theorem dX9_parts_1 : decode cX9_parts 1 = .ok (.lstore_n 2, 1) := by decide +kernel
theorem dX9_parts_2 : decode cX9_parts 2 = .ok (.iconst 4, 1) := by decide +kernel
theorem dX9_parts_3 : decode cX9_parts 3 = .ok (.istore 4, 2) := by decide +kernel
theorem dX9_parts_5 : decode cX9_parts 5 = .ok (.iload 4, 2) := by decide +kernel
theorem dX9_parts_7 : decode cX9_parts 7 = .ok (.ifCond .lt 22, 3) := by decide +kernel
theorem dX9_parts_10 : decode cX9_parts 10 = .ok (.lload_n 2, 1) := by decide +kernel
theorem dX9_parts_11 : decode cX9_parts 11 = .ok (.iload_n 1, 1) := by decide +kernel
theorem dX9_parts_12 : decode cX9_parts 12 = .ok (.i2l, 1) := by decide +kernel
theorem dX9_parts_13 : decode cX9_parts 13 = .ok (.lmul, 1) := by decide +kernel
theorem dX9_parts_14 : decode cX9_parts 14 = .ok (.aload_n 0, 1) := by decide +kernel
theorem dX9_parts_15 : decode cX9_parts 15 = .ok (.getfield 26, 3) := by decide +kernel
theorem dX9_parts_18 : decode cX9_parts 18 = .ok (.iload 4, 2) := by decide +kernel
theorem dX9_parts_20 : decode cX9_parts 20 = .ok (.laload, 1) := by decide +kernel
theorem dX9_parts_21 : decode cX9_parts 21 = .ok (.ladd, 1) := by decide +kernel
theorem dX9_parts_22 : decode cX9_parts 22 = .ok (.lstore_n 2, 1) := by decide +kernel
theorem dX9_parts_23 : decode cX9_parts 23 = .ok (.iinc 4 (-1), 3) := by decide +kernel
theorem dX9_parts_26 : decode cX9_parts 26 = .ok (.goto (-21), 3) := by decide +kernel
theorem dX9_parts_29 : decode cX9_parts 29 = .ok (.lload_n 2, 1) := by decide +kernel
theorem dX9_parts_30 : decode cX9_parts 30 = .ok (.lconst 0, 1) := by decide +kernel
theorem dX9_parts_31 : decode cX9_parts 31 = .ok (.lcmp, 1) := by decide +kernel
theorem dX9_parts_32 : decode cX9_parts 32 = .ok (.ifCond .eq 5, 3) := by decide +kernel
theorem dX9_parts_35 : decode cX9_parts 35 = .ok (.iconst 0, 1) := by decide +kernel
theorem dX9_parts_36 : decode cX9_parts 36 = .ok (.ireturn, 1) := by decide +kernel
theorem dX9_parts_37 : decode cX9_parts 37 = .ok (.lconst 0, 1) := by decide +kernel
theorem dX9_parts_38 : decode cX9_parts 38 = .ok (.lstore 4, 2) := by decide +kernel
theorem dX9_parts_40 : decode cX9_parts 40 = .ok (.iconst 4, 1) := by decide +kernel
theorem dX9_parts_41 : decode cX9_parts 41 = .ok (.istore 6, 2) := by decide +kernel
theorem dX9_parts_43 : decode cX9_parts 43 = .ok (.iload 6, 2) := by decide +kernel
theorem dX9_parts_45 : decode cX9_parts 45 = .ok (.ifCond .lt 37, 3) := by decide +kernel
theorem dX9_parts_48 : decode cX9_parts 48 = .ok (.aload_n 0, 1) := by decide +kernel
theorem dX9_parts_49 : decode cX9_parts 49 = .ok (.getfield 26, 3) := by decide +kernel
theorem dX9_parts_52 : decode cX9_parts 52 = .ok (.iload 6, 2) := by decide +kernel
theorem dX9_parts_54 : decode cX9_parts 54 = .ok (.laload, 1) := by decide +kernel
theorem dX9_parts_55 : decode cX9_parts 55 = .ok (.lstore 7, 2) := by decide +kernel
theorem dX9_parts_57 : decode cX9_parts 57 = .ok (.aload_n 0, 1) := by decide +kernel
theorem dX9_parts_58 : decode cX9_parts 58 = .ok (.getfield 26, 3) := by decide +kernel
theorem dX9_parts_61 : decode cX9_parts 61 = .ok (.iload 6, 2) := by decide +kernel
theorem dX9_parts_63 : decode cX9_parts 63 = .ok (.lload 4, 2) := by decide +kernel
theorem dX9_parts_65 : decode cX9_parts 65 = .ok (.lastore, 1) := by decide +kernel
theorem dX9_parts_66 : decode cX9_parts 66 = .ok (.lload 4, 2) := by decide +kernel
theorem dX9_parts_68 : decode cX9_parts 68 = .ok (.iload_n 1, 1) := by decide +kernel
theorem dX9_parts_69 : decode cX9_parts 69 = .ok (.i2l, 1) := by decide +kernel
theorem dX9_parts_70 : decode cX9_parts 70 = .ok (.lmul, 1) := by decide +kernel
theorem dX9_parts_71 : decode cX9_parts 71 = .ok (.lload 7, 2) := by decide +kernel
theorem dX9_parts_73 : decode cX9_parts 73 = .ok (.ladd, 1) := by decide +kernel
theorem dX9_parts_74 : decode cX9_parts 74 = .ok (.lstore 4, 2) := by decide +kernel
theorem dX9_parts_76 : decode cX9_parts 76 = .ok (.iinc 6 (-1), 3) := by decide +kernel
theorem dX9_parts_79 : decode cX9_parts 79 = .ok (.goto (-36), 3) := by decide +kernel
theorem dX9_parts_82 : decode cX9_parts 82 = .ok (.iconst 1, 1) := by decide +kernel
theorem dX9_parts_83 : decode cX9_parts 83 = .ok (.ireturn, 1) := by decide +kernel
theorem dX9_often_0 : decode cX9_often 0 = .ok (.aload_n 0, 1) := by decide +kernel
theorem dX9_often_1 : decode cX9_often 1 = .ok (.iload_n 1, 1) := by decide +kernel
theorem dX9_often_2 : decode cX9_often 2 = .ok (.invokevirtual 98, 3) := by decide +kernel
theorem dX9_often_5 : decode cX9_often 5 = .ok (.ifCond .eq 20, 3) := by decide +kernel
theorem dX9_often_8 : decode cX9_often 8 = .ok (.iload_n 2, 1) := by decide +kernel
theorem dX9_often_9 : decode cX9_often 9 = .ok (.invokestatic 163, 3) := by decide +kernel
theorem dX9_often_12 : decode cX9_often 12 = .ok (.ifCond .eq 13, 3) := by decide +kernel
theorem dX9_often_15 : decode cX9_often 15 = .ok (.iload_n 3, 1) := by decide +kernel
theorem dX9_often_16 : decode cX9_often 16 = .ok (.bipush (-5), 2) := by decide +kernel
theorem dX9_often_18 : decode cX9_often 18 = .ok (.iconst 5, 1) := by decide +kernel
theorem dX9_often_19 : decode cX9_often 19 = .ok (.invokestatic 88, 3) := by decide +kernel
theorem dX9_often_22 : decode cX9_often 22 = .ok (.ifCond .ne 6, 3) := by decide +kernel
theorem dX9_often_25 : decode cX9_often 25 = .ok (.ldc 92, 2) := by decide +kernel
theorem dX9_often_27 : decode cX9_often 27 = .ok (.ireturn, 1) := by decide +kernel
theorem dX9_often_28 : decode cX9_often 28 = .ok (.aload_n 0, 1) := by decide +kernel
theorem dX9_often_29 : decode cX9_often 29 = .ok (.iload_n 1, 1) := by decide +kernel
theorem dX9_often_30 : decode cX9_often 30 = .ok (.iload_n 2, 1) := by decide +kernel
theorem dX9_often_31 : decode cX9_often 31 = .ok (.invokevirtual 166, 3) := by decide +kernel
theorem dX9_often_34 : decode cX9_often 34 = .ok (.aload_n 0, 1) := by decide +kernel
theorem dX9_often_35 : decode cX9_often 35 = .ok (.iconst 0, 1) := by decide +kernel
theorem dX9_often_36 : decode cX9_often 36 = .ok (.invokevirtual 169, 3) := by decide +kernel
theorem dX9_often_39 : decode cX9_often 39 = .ok (.istore 4, 2) := by decide +kernel
theorem dX9_often_41 : decode cX9_often 41 = .ok (.iload 4, 2) := by decide +kernel
theorem dX9_often_43 : decode cX9_often 43 = .ok (.invokestatic 172, 3) := by decide +kernel
theorem dX9_often_46 : decode cX9_often 46 = .ok (.ifCond .ne 6, 3) := by decide +kernel
theorem dX9_often_49 : decode cX9_often 49 = .ok (.ldc 184, 2) := by decide +kernel
theorem dX9_often_51 : decode cX9_often 51 = .ok (.ireturn, 1) := by decide +kernel
theorem dX9_often_52 : decode cX9_often 52 = .ok (.iconst 0, 1) := by decide +kernel
theorem dX9_often_53 : decode cX9_often 53 = .ok (.istore 5, 2) := by decide +kernel
theorem dX9_often_55 : decode cX9_often 55 = .ok (.iload 5, 2) := by decide +kernel
theorem dX9_often_57 : decode cX9_often 57 = .ok (.iconst 5, 1) := by decide +kernel
theorem dX9_often_58 : decode cX9_often 58 = .ok (.if_icmp .ge 25, 3) := by decide +kernel
theorem dX9_often_61 : decode cX9_often 61 = .ok (.aload_n 0, 1) := by decide +kernel
theorem dX9_often_62 : decode cX9_often 62 = .ok (.getfield 26, 3) := by decide +kernel
theorem dX9_often_65 : decode cX9_often 65 = .ok (.iload 5, 2) := by decide +kernel
theorem dX9_often_67 : decode cX9_often 67 = .ok (.aload_n 0, 1) := by decide +kernel
theorem dX9_often_68 : decode cX9_often 68 = .ok (.iconst 0, 1) := by decide +kernel
theorem dX9_often_69 : decode cX9_often 69 = .ok (.iload 4, 2) := by decide +kernel
theorem dX9_often_71 : decode cX9_often 71 = .ok (.iload 5, 2) := by decide +kernel
theorem dX9_often_73 : decode cX9_often 73 = .ok (.invokevirtual 175, 3) := by decide +kernel
theorem dX9_often_76 : decode cX9_often 76 = .ok (.lastore, 1) := by decide +kernel
theorem dX9_often_77 : decode cX9_often 77 = .ok (.iinc 5 1, 3) := by decide +kernel
theorem dX9_often_80 : decode cX9_often 80 = .ok (.goto (-25), 3) := by decide +kernel
theorem dX9_often_83 : decode cX9_often 83 = .ok (.iconst 0, 1) := by decide +kernel
theorem dX9_often_84 : decode cX9_often 84 = .ok (.istore 5, 2) := by decide +kernel
theorem dX9_often_86 : decode cX9_often 86 = .ok (.aload_n 0, 1) := by decide +kernel
theorem dX9_often_87 : decode cX9_often 87 = .ok (.iload_n 3, 1) := by decide +kernel
theorem dX9_often_88 : decode cX9_often 88 = .ok (.invokevirtual 188, 3) := by decide +kernel
theorem dX9_often_91 : decode cX9_often 91 = .ok (.ifCond .eq 9, 3) := by decide +kernel
theorem dX9_often_94 : decode cX9_often 94 = .ok (.iinc 5 1, 3) := by decide +kernel
theorem dX9_often_97 : decode cX9_often 97 = .ok (.goto (-11), 3) := by decide +kernel
theorem dX9_often_100 : decode cX9_often 100 = .ok (.iload 5, 2) := by decide +kernel
theorem dX9_often_102 : decode cX9_often 102 = .ok (.ireturn, 1) := by decide +kernel
theorem dX9_blows_0 : decode cX9_blows 0 = .ok (.iconst 0, 1) := by decide +kernel
theorem dX9_blows_1 : decode cX9_blows 1 = .ok (.istore 5, 2) := by decide +kernel
theorem dX9_blows_3 : decode cX9_blows 3 = .ok (.iload 5, 2) := by decide +kernel
theorem dX9_blows_5 : decode cX9_blows 5 = .ok (.bipush 85, 2) := by decide +kernel
theorem dX9_blows_7 : decode cX9_blows 7 = .ok (.if_icmp .ge 23, 3) := by decide +kernel
theorem dX9_blows_10 : decode cX9_blows 10 = .ok (.aload_n 0, 1) := by decide +kernel
theorem dX9_blows_11 : decode cX9_blows 11 = .ok (.getfield 22, 3) := by decide +kernel
theorem dX9_blows_14 : decode cX9_blows 14 = .ok (.bipush 85, 2) := by decide +kernel
theorem dX9_blows_16 : decode cX9_blows 16 = .ok (.iload 4, 2) := by decide +kernel
theorem dX9_blows_18 : decode cX9_blows 18 = .ok (.imul, 1) := by decide +kernel
theorem dX9_blows_19 : decode cX9_blows 19 = .ok (.iload 5, 2) := by decide +kernel
theorem dX9_blows_21 : decode cX9_blows 21 = .ok (.iadd, 1) := by decide +kernel
theorem dX9_blows_22 : decode cX9_blows 22 = .ok (.lconst 0, 1) := by decide +kernel
theorem dX9_blows_23 : decode cX9_blows 23 = .ok (.lastore, 1) := by decide +kernel
theorem dX9_blows_24 : decode cX9_blows 24 = .ok (.iinc 5 1, 3) := by decide +kernel
theorem dX9_blows_27 : decode cX9_blows 27 = .ok (.goto (-24), 3) := by decide +kernel
theorem dX9_blows_30 : decode cX9_blows 30 = .ok (.iconst 0, 1) := by decide +kernel
theorem dX9_blows_31 : decode cX9_blows 31 = .ok (.istore 5, 2) := by decide +kernel
theorem dX9_blows_33 : decode cX9_blows 33 = .ok (.iload 5, 2) := by decide +kernel
theorem dX9_blows_35 : decode cX9_blows 35 = .ok (.bipush 85, 2) := by decide +kernel
theorem dX9_blows_37 : decode cX9_blows 37 = .ok (.if_icmp .ge 114, 3) := by decide +kernel
theorem dX9_blows_40 : decode cX9_blows 40 = .ok (.aload_n 0, 1) := by decide +kernel
theorem dX9_blows_41 : decode cX9_blows 41 = .ok (.getfield 22, 3) := by decide +kernel
theorem dX9_blows_44 : decode cX9_blows 44 = .ok (.bipush 85, 2) := by decide +kernel
theorem dX9_blows_46 : decode cX9_blows 46 = .ok (.iload_n 1, 1) := by decide +kernel
theorem dX9_blows_47 : decode cX9_blows 47 = .ok (.imul, 1) := by decide +kernel
theorem dX9_blows_48 : decode cX9_blows 48 = .ok (.iload 5, 2) := by decide +kernel
theorem dX9_blows_50 : decode cX9_blows 50 = .ok (.iadd, 1) := by decide +kernel
theorem dX9_blows_51 : decode cX9_blows 51 = .ok (.laload, 1) := by decide +kernel
theorem dX9_blows_52 : decode cX9_blows 52 = .ok (.lstore 6, 2) := by decide +kernel
theorem dX9_blows_54 : decode cX9_blows 54 = .ok (.iload 5, 2) := by decide +kernel
theorem dX9_blows_56 : decode cX9_blows 56 = .ok (.iconst 5, 1) := by decide +kernel
theorem dX9_blows_57 : decode cX9_blows 57 = .ok (.idiv, 1) := by decide +kernel
theorem dX9_blows_58 : decode cX9_blows 58 = .ok (.iload 5, 2) := by decide +kernel
theorem dX9_blows_60 : decode cX9_blows 60 = .ok (.iconst 5, 1) := by decide +kernel
theorem dX9_blows_61 : decode cX9_blows 61 = .ok (.irem, 1) := by decide +kernel
theorem dX9_blows_62 : decode cX9_blows 62 = .ok (.iadd, 1) := by decide +kernel
theorem dX9_blows_63 : decode cX9_blows 63 = .ok (.iload_n 2, 1) := by decide +kernel
theorem dX9_blows_64 : decode cX9_blows 64 = .ok (.isub, 1) := by decide +kernel
theorem dX9_blows_65 : decode cX9_blows 65 = .ok (.istore 8, 2) := by decide +kernel
theorem dX9_blows_67 : decode cX9_blows 67 = .ok (.lload 6, 2) := by decide +kernel
theorem dX9_blows_69 : decode cX9_blows 69 = .ok (.lconst 0, 1) := by decide +kernel
theorem dX9_blows_70 : decode cX9_blows 70 = .ok (.lcmp, 1) := by decide +kernel
theorem dX9_blows_71 : decode cX9_blows 71 = .ok (.ifCond .eq 74, 3) := by decide +kernel
theorem dX9_blows_74 : decode cX9_blows 74 = .ok (.iload 8, 2) := by decide +kernel
theorem dX9_blows_76 : decode cX9_blows 76 = .ok (.bipush 16, 2) := by decide +kernel
theorem dX9_blows_78 : decode cX9_blows 78 = .ok (.if_icmp .gt 67, 3) := by decide +kernel
theorem dX9_blows_81 : decode cX9_blows 81 = .ok (.iconst 0, 1) := by decide +kernel
theorem dX9_blows_82 : decode cX9_blows 82 = .ok (.istore 9, 2) := by decide +kernel
theorem dX9_blows_84 : decode cX9_blows 84 = .ok (.iload 9, 2) := by decide +kernel
theorem dX9_blows_86 : decode cX9_blows 86 = .ok (.iload 5, 2) := by decide +kernel
theorem dX9_blows_88 : decode cX9_blows 88 = .ok (.iconst 5, 1) := by decide +kernel
theorem dX9_blows_89 : decode cX9_blows 89 = .ok (.irem, 1) := by decide +kernel
theorem dX9_blows_90 : decode cX9_blows 90 = .ok (.if_icmp .gt 55, 3) := by decide +kernel
theorem dX9_blows_93 : decode cX9_blows 93 = .ok (.aload_n 0, 1) := by decide +kernel
theorem dX9_blows_94 : decode cX9_blows 94 = .ok (.getfield 22, 3) := by decide +kernel
theorem dX9_blows_97 : decode cX9_blows 97 = .ok (.bipush 85, 2) := by decide +kernel
theorem dX9_blows_99 : decode cX9_blows 99 = .ok (.iload 4, 2) := by decide +kernel
theorem dX9_blows_101 : decode cX9_blows 101 = .ok (.imul, 1) := by decide +kernel
theorem dX9_blows_102 : decode cX9_blows 102 = .ok (.iconst 5, 1) := by decide +kernel
theorem dX9_blows_103 : decode cX9_blows 103 = .ok (.iload 8, 2) := by decide +kernel
theorem dX9_blows_105 : decode cX9_blows 105 = .ok (.imul, 1) := by decide +kernel
theorem dX9_blows_106 : decode cX9_blows 106 = .ok (.iadd, 1) := by decide +kernel
theorem dX9_blows_107 : decode cX9_blows 107 = .ok (.iload 9, 2) := by decide +kernel
theorem dX9_blows_109 : decode cX9_blows 109 = .ok (.iadd, 1) := by decide +kernel
theorem dX9_blows_110 : decode cX9_blows 110 = .ok (.dup2, 1) := by decide +kernel
theorem dX9_blows_111 : decode cX9_blows 111 = .ok (.laload, 1) := by decide +kernel
theorem dX9_blows_112 : decode cX9_blows 112 = .ok (.lload 6, 2) := by decide +kernel
theorem dX9_blows_114 : decode cX9_blows 114 = .ok (.iload 5, 2) := by decide +kernel
theorem dX9_blows_116 : decode cX9_blows 116 = .ok (.iconst 5, 1) := by decide +kernel
theorem dX9_blows_117 : decode cX9_blows 117 = .ok (.irem, 1) := by decide +kernel
theorem dX9_blows_118 : decode cX9_blows 118 = .ok (.iload 9, 2) := by decide +kernel
theorem dX9_blows_120 : decode cX9_blows 120 = .ok (.invokestatic 155, 3) := by decide +kernel
theorem dX9_blows_123 : decode cX9_blows 123 = .ok (.lmul, 1) := by decide +kernel
theorem dX9_blows_124 : decode cX9_blows 124 = .ok (.iload_n 3, 1) := by decide +kernel
theorem dX9_blows_125 : decode cX9_blows 125 = .ok (.i2l, 1) := by decide +kernel
theorem dX9_blows_126 : decode cX9_blows 126 = .ok (.iload 5, 2) := by decide +kernel
theorem dX9_blows_128 : decode cX9_blows 128 = .ok (.iconst 5, 1) := by decide +kernel
theorem dX9_blows_129 : decode cX9_blows 129 = .ok (.irem, 1) := by decide +kernel
theorem dX9_blows_130 : decode cX9_blows 130 = .ok (.iload 9, 2) := by decide +kernel
theorem dX9_blows_132 : decode cX9_blows 132 = .ok (.isub, 1) := by decide +kernel
theorem dX9_blows_133 : decode cX9_blows 133 = .ok (.invokestatic 151, 3) := by decide +kernel
theorem dX9_blows_136 : decode cX9_blows 136 = .ok (.lmul, 1) := by decide +kernel
theorem dX9_blows_137 : decode cX9_blows 137 = .ok (.ladd, 1) := by decide +kernel
theorem dX9_blows_138 : decode cX9_blows 138 = .ok (.lastore, 1) := by decide +kernel
theorem dX9_blows_139 : decode cX9_blows 139 = .ok (.iinc 9 1, 3) := by decide +kernel
theorem dX9_blows_142 : decode cX9_blows 142 = .ok (.goto (-58), 3) := by decide +kernel
theorem dX9_blows_145 : decode cX9_blows 145 = .ok (.iinc 5 1, 3) := by decide +kernel
theorem dX9_blows_148 : decode cX9_blows 148 = .ok (.goto (-115), 3) := by decide +kernel
theorem dX9_blows_151 : decode cX9_blows 151 = .ok (.return_, 1) := by decide +kernel
theorem dX9_blown_0 : decode cX9_blown 0 = .ok (.aload_n 0, 1) := by decide +kernel
theorem dX9_blown_1 : decode cX9_blown 1 = .ok (.iload_n 1, 1) := by decide +kernel
theorem dX9_blown_2 : decode cX9_blown 2 = .ok (.invokevirtual 98, 3) := by decide +kernel
theorem dX9_blown_5 : decode cX9_blown 5 = .ok (.ifCond .eq 32, 3) := by decide +kernel
theorem dX9_blown_8 : decode cX9_blown 8 = .ok (.iload_n 2, 1) := by decide +kernel
theorem dX9_blown_9 : decode cX9_blown 9 = .ok (.invokestatic 163, 3) := by decide +kernel
theorem dX9_blown_12 : decode cX9_blown 12 = .ok (.ifCond .eq 25, 3) := by decide +kernel
theorem dX9_blown_15 : decode cX9_blown 15 = .ok (.iload_n 3, 1) := by decide +kernel
theorem dX9_blown_16 : decode cX9_blown 16 = .ok (.bipush (-5), 2) := by decide +kernel
theorem dX9_blown_18 : decode cX9_blown 18 = .ok (.iconst 5, 1) := by decide +kernel
theorem dX9_blown_19 : decode cX9_blown 19 = .ok (.invokestatic 88, 3) := by decide +kernel
theorem dX9_blown_22 : decode cX9_blown 22 = .ok (.ifCond .eq 15, 3) := by decide +kernel
theorem dX9_blown_25 : decode cX9_blown 25 = .ok (.iload 4, 2) := by decide +kernel
theorem dX9_blown_27 : decode cX9_blown 27 = .ok (.bipush (-5), 2) := by decide +kernel
theorem dX9_blown_29 : decode cX9_blown 29 = .ok (.bipush 6, 2) := by decide +kernel
theorem dX9_blown_31 : decode cX9_blown 31 = .ok (.invokestatic 88, 3) := by decide +kernel
theorem dX9_blown_34 : decode cX9_blown 34 = .ok (.ifCond .ne 6, 3) := by decide +kernel
theorem dX9_blown_37 : decode cX9_blown 37 = .ok (.ldc 92, 2) := by decide +kernel
theorem dX9_blown_39 : decode cX9_blown 39 = .ok (.ireturn, 1) := by decide +kernel
theorem dX9_blown_40 : decode cX9_blown 40 = .ok (.aload_n 0, 1) := by decide +kernel
theorem dX9_blown_41 : decode cX9_blown 41 = .ok (.iload_n 1, 1) := by decide +kernel
theorem dX9_blown_42 : decode cX9_blown 42 = .ok (.iload_n 2, 1) := by decide +kernel
theorem dX9_blown_43 : decode cX9_blown 43 = .ok (.invokevirtual 166, 3) := by decide +kernel
theorem dX9_blown_46 : decode cX9_blown 46 = .ok (.aload_n 0, 1) := by decide +kernel
theorem dX9_blown_47 : decode cX9_blown 47 = .ok (.iconst 0, 1) := by decide +kernel
theorem dX9_blown_48 : decode cX9_blown 48 = .ok (.invokevirtual 169, 3) := by decide +kernel
theorem dX9_blown_51 : decode cX9_blown 51 = .ok (.istore 5, 2) := by decide +kernel
theorem dX9_blown_53 : decode cX9_blown 53 = .ok (.iload 5, 2) := by decide +kernel
theorem dX9_blown_55 : decode cX9_blown 55 = .ok (.invokestatic 172, 3) := by decide +kernel
theorem dX9_blown_58 : decode cX9_blown 58 = .ok (.ifCond .ne 6, 3) := by decide +kernel
theorem dX9_blown_61 : decode cX9_blown 61 = .ok (.ldc 184, 2) := by decide +kernel
theorem dX9_blown_63 : decode cX9_blown 63 = .ok (.ireturn, 1) := by decide +kernel
theorem dX9_blown_64 : decode cX9_blown 64 = .ok (.aload_n 0, 1) := by decide +kernel
theorem dX9_blown_65 : decode cX9_blown 65 = .ok (.iconst 0, 1) := by decide +kernel
theorem dX9_blown_66 : decode cX9_blown 66 = .ok (.iload 5, 2) := by decide +kernel
theorem dX9_blown_68 : decode cX9_blown 68 = .ok (.iload_n 3, 1) := by decide +kernel
theorem dX9_blown_69 : decode cX9_blown 69 = .ok (.iconst 1, 1) := by decide +kernel
theorem dX9_blown_70 : decode cX9_blown 70 = .ok (.invokevirtual 191, 3) := by decide +kernel
theorem dX9_blown_73 : decode cX9_blown 73 = .ok (.aload_n 0, 1) := by decide +kernel
theorem dX9_blown_74 : decode cX9_blown 74 = .ok (.iconst 1, 1) := by decide +kernel
theorem dX9_blown_75 : decode cX9_blown 75 = .ok (.invokevirtual 169, 3) := by decide +kernel
theorem dX9_blown_78 : decode cX9_blown 78 = .ok (.istore 6, 2) := by decide +kernel
theorem dX9_blown_80 : decode cX9_blown 80 = .ok (.iload 4, 2) := by decide +kernel
theorem dX9_blown_82 : decode cX9_blown 82 = .ok (.bipush 6, 2) := by decide +kernel
theorem dX9_blown_84 : decode cX9_blown 84 = .ok (.if_icmp .ne 6, 3) := by decide +kernel
theorem dX9_blown_87 : decode cX9_blown 87 = .ok (.iload 6, 2) := by decide +kernel
theorem dX9_blown_89 : decode cX9_blown 89 = .ok (.ireturn, 1) := by decide +kernel
theorem dX9_blown_90 : decode cX9_blown 90 = .ok (.iload 6, 2) := by decide +kernel
theorem dX9_blown_92 : decode cX9_blown 92 = .ok (.invokestatic 172, 3) := by decide +kernel
theorem dX9_blown_95 : decode cX9_blown 95 = .ok (.ifCond .ne 6, 3) := by decide +kernel
theorem dX9_blown_98 : decode cX9_blown 98 = .ok (.ldc 184, 2) := by decide +kernel
theorem dX9_blown_100 : decode cX9_blown 100 = .ok (.ireturn, 1) := by decide +kernel
theorem dX9_blown_101 : decode cX9_blown 101 = .ok (.aload_n 0, 1) := by decide +kernel
theorem dX9_blown_102 : decode cX9_blown 102 = .ok (.iconst 1, 1) := by decide +kernel
theorem dX9_blown_103 : decode cX9_blown 103 = .ok (.iload 6, 2) := by decide +kernel
theorem dX9_blown_105 : decode cX9_blown 105 = .ok (.iload 4, 2) := by decide +kernel
theorem dX9_blown_107 : decode cX9_blown 107 = .ok (.iconst 2, 1) := by decide +kernel
theorem dX9_blown_108 : decode cX9_blown 108 = .ok (.invokevirtual 191, 3) := by decide +kernel
theorem dX9_blown_111 : decode cX9_blown 111 = .ok (.aload_n 0, 1) := by decide +kernel
theorem dX9_blown_112 : decode cX9_blown 112 = .ok (.iconst 2, 1) := by decide +kernel
theorem dX9_blown_113 : decode cX9_blown 113 = .ok (.invokevirtual 169, 3) := by decide +kernel
theorem dX9_blown_116 : decode cX9_blown 116 = .ok (.ireturn, 1) := by decide +kernel
theorem dX9_findTree_0 : decode cX9_findTree 0 = .ok (.aload_n 0, 1) := by decide +kernel
theorem dX9_findTree_1 : decode cX9_findTree 1 = .ok (.aload_n 0, 1) := by decide +kernel
theorem dX9_findTree_2 : decode cX9_findTree 2 = .ok (.iconst 0, 1) := by decide +kernel
theorem dX9_findTree_3 : decode cX9_findTree 3 = .ok (.invokevirtual 169, 3) := by decide +kernel
theorem dX9_findTree_6 : decode cX9_findTree 6 = .ok (.invokestatic 172, 3) := by decide +kernel
theorem dX9_findTree_9 : decode cX9_findTree 9 = .ok (.ifCond .eq 7, 3) := by decide +kernel
theorem dX9_findTree_12 : decode cX9_findTree 12 = .ok (.iconst 1, 1) := by decide +kernel
theorem dX9_findTree_13 : decode cX9_findTree 13 = .ok (.goto 4, 3) := by decide +kernel
theorem dX9_findTree_16 : decode cX9_findTree 16 = .ok (.iconst 0, 1) := by decide +kernel
theorem dX9_findTree_17 : decode cX9_findTree 17 = .ok (.putfield 195, 3) := by decide +kernel
theorem dX9_findTree_20 : decode cX9_findTree 20 = .ok (.aload_n 0, 1) := by decide +kernel
theorem dX9_findTree_21 : decode cX9_findTree 21 = .ok (.iconst 0, 1) := by decide +kernel
theorem dX9_findTree_22 : decode cX9_findTree 22 = .ok (.putfield 199, 3) := by decide +kernel
theorem dX9_findTree_25 : decode cX9_findTree 25 = .ok (.aload_n 0, 1) := by decide +kernel
theorem dX9_findTree_26 : decode cX9_findTree 26 = .ok (.iconst 0, 1) := by decide +kernel
theorem dX9_findTree_27 : decode cX9_findTree 27 = .ok (.putfield 202, 3) := by decide +kernel
theorem dX9_findTree_30 : decode cX9_findTree 30 = .ok (.aload_n 0, 1) := by decide +kernel
theorem dX9_findTree_31 : decode cX9_findTree 31 = .ok (.getfield 29, 3) := by decide +kernel
theorem dX9_findTree_34 : decode cX9_findTree 34 = .ok (.iconst 0, 1) := by decide +kernel
theorem dX9_findTree_35 : decode cX9_findTree 35 = .ok (.iconst 1, 1) := by decide +kernel
theorem dX9_findTree_36 : decode cX9_findTree 36 = .ok (.iastore, 1) := by decide +kernel
theorem dX9_findTree_37 : decode cX9_findTree 37 = .ok (.iconst 0, 1) := by decide +kernel
theorem dX9_findTree_38 : decode cX9_findTree 38 = .ok (.istore_n 2, 1) := by decide +kernel
theorem dX9_findTree_39 : decode cX9_findTree 39 = .ok (.iload_n 2, 1) := by decide +kernel
theorem dX9_findTree_40 : decode cX9_findTree 40 = .ok (.aload_n 0, 1) := by decide +kernel
theorem dX9_findTree_41 : decode cX9_findTree 41 = .ok (.getfield 195, 3) := by decide +kernel
theorem dX9_findTree_44 : decode cX9_findTree 44 = .ok (.if_icmp .ge 190, 3) := by decide +kernel
theorem dX9_findTree_47 : decode cX9_findTree 47 = .ok (.aload_n 0, 1) := by decide +kernel
theorem dX9_findTree_48 : decode cX9_findTree 48 = .ok (.iload_n 2, 1) := by decide +kernel
theorem dX9_findTree_49 : decode cX9_findTree 49 = .ok (.invokevirtual 169, 3) := by decide +kernel
theorem dX9_findTree_52 : decode cX9_findTree 52 = .ok (.istore_n 3, 1) := by decide +kernel
theorem dX9_findTree_53 : decode cX9_findTree 53 = .ok (.aload_n 0, 1) := by decide +kernel
theorem dX9_findTree_54 : decode cX9_findTree 54 = .ok (.dup, 1) := by decide +kernel
theorem dX9_findTree_55 : decode cX9_findTree 55 = .ok (.getfield 199, 3) := by decide +kernel
theorem dX9_findTree_58 : decode cX9_findTree 58 = .ok (.iload_n 3, 1) := by decide +kernel
theorem dX9_findTree_59 : decode cX9_findTree 59 = .ok (.iload_n 3, 1) := by decide +kernel
theorem dX9_findTree_60 : decode cX9_findTree 60 = .ok (.iconst 1, 1) := by decide +kernel
theorem dX9_findTree_61 : decode cX9_findTree 61 = .ok (.isub, 1) := by decide +kernel
theorem dX9_findTree_62 : decode cX9_findTree 62 = .ok (.imul, 1) := by decide +kernel
theorem dX9_findTree_63 : decode cX9_findTree 63 = .ok (.iconst 2, 1) := by decide +kernel
theorem dX9_findTree_64 : decode cX9_findTree 64 = .ok (.idiv, 1) := by decide +kernel
theorem dX9_findTree_65 : decode cX9_findTree 65 = .ok (.iadd, 1) := by decide +kernel
theorem dX9_findTree_66 : decode cX9_findTree 66 = .ok (.putfield 199, 3) := by decide +kernel
theorem dX9_findTree_69 : decode cX9_findTree 69 = .ok (.aload_n 0, 1) := by decide +kernel
theorem dX9_findTree_70 : decode cX9_findTree 70 = .ok (.getfield 195, 3) := by decide +kernel
theorem dX9_findTree_73 : decode cX9_findTree 73 = .ok (.istore 4, 2) := by decide +kernel
theorem dX9_findTree_75 : decode cX9_findTree 75 = .ok (.bipush (-5), 2) := by decide +kernel
theorem dX9_findTree_77 : decode cX9_findTree 77 = .ok (.istore 5, 2) := by decide +kernel
theorem dX9_findTree_79 : decode cX9_findTree 79 = .ok (.iload 5, 2) := by decide +kernel
theorem dX9_findTree_81 : decode cX9_findTree 81 = .ok (.bipush 6, 2) := by decide +kernel
theorem dX9_findTree_83 : decode cX9_findTree 83 = .ok (.if_icmp .ge 87, 3) := by decide +kernel
theorem dX9_findTree_86 : decode cX9_findTree 86 = .ok (.aload_n 0, 1) := by decide +kernel
theorem dX9_findTree_87 : decode cX9_findTree 87 = .ok (.getfield 29, 3) := by decide +kernel
theorem dX9_findTree_90 : decode cX9_findTree 90 = .ok (.iload_n 2, 1) := by decide +kernel
theorem dX9_findTree_91 : decode cX9_findTree 91 = .ok (.iaload, 1) := by decide +kernel
theorem dX9_findTree_92 : decode cX9_findTree 92 = .ok (.iload_n 1, 1) := by decide +kernel
theorem dX9_findTree_93 : decode cX9_findTree 93 = .ok (.if_icmp .ge 77, 3) := by decide +kernel
theorem dX9_findTree_96 : decode cX9_findTree 96 = .ok (.aload_n 0, 1) := by decide +kernel
theorem dX9_findTree_97 : decode cX9_findTree 97 = .ok (.iload_n 2, 1) := by decide +kernel
theorem dX9_findTree_98 : decode cX9_findTree 98 = .ok (.iload_n 3, 1) := by decide +kernel
theorem dX9_findTree_99 : decode cX9_findTree 99 = .ok (.iload 5, 2) := by decide +kernel
theorem dX9_findTree_101 : decode cX9_findTree 101 = .ok (.invokevirtual 185, 3) := by decide +kernel
theorem dX9_findTree_104 : decode cX9_findTree 104 = .ok (.ifCond .eq 60, 3) := by decide +kernel
theorem dX9_findTree_107 : decode cX9_findTree 107 = .ok (.aload_n 0, 1) := by decide +kernel
theorem dX9_findTree_108 : decode cX9_findTree 108 = .ok (.iload_n 2, 1) := by decide +kernel
theorem dX9_findTree_109 : decode cX9_findTree 109 = .ok (.iload_n 3, 1) := by decide +kernel
theorem dX9_findTree_110 : decode cX9_findTree 110 = .ok (.iload 5, 2) := by decide +kernel
theorem dX9_findTree_112 : decode cX9_findTree 112 = .ok (.aload_n 0, 1) := by decide +kernel
theorem dX9_findTree_113 : decode cX9_findTree 113 = .ok (.getfield 195, 3) := by decide +kernel
theorem dX9_findTree_116 : decode cX9_findTree 116 = .ok (.invokevirtual 191, 3) := by decide +kernel
theorem dX9_findTree_119 : decode cX9_findTree 119 = .ok (.aload_n 0, 1) := by decide +kernel
theorem dX9_findTree_120 : decode cX9_findTree 120 = .ok (.getfield 29, 3) := by decide +kernel
theorem dX9_findTree_123 : decode cX9_findTree 123 = .ok (.aload_n 0, 1) := by decide +kernel
theorem dX9_findTree_124 : decode cX9_findTree 124 = .ok (.getfield 195, 3) := by decide +kernel
theorem dX9_findTree_127 : decode cX9_findTree 127 = .ok (.aload_n 0, 1) := by decide +kernel
theorem dX9_findTree_128 : decode cX9_findTree 128 = .ok (.getfield 29, 3) := by decide +kernel
theorem dX9_findTree_131 : decode cX9_findTree 131 = .ok (.iload_n 2, 1) := by decide +kernel
theorem dX9_findTree_132 : decode cX9_findTree 132 = .ok (.iaload, 1) := by decide +kernel
theorem dX9_findTree_133 : decode cX9_findTree 133 = .ok (.iconst 1, 1) := by decide +kernel
theorem dX9_findTree_134 : decode cX9_findTree 134 = .ok (.iadd, 1) := by decide +kernel
theorem dX9_findTree_135 : decode cX9_findTree 135 = .ok (.iastore, 1) := by decide +kernel
theorem dX9_findTree_136 : decode cX9_findTree 136 = .ok (.aload_n 0, 1) := by decide +kernel
theorem dX9_findTree_137 : decode cX9_findTree 137 = .ok (.dup, 1) := by decide +kernel
theorem dX9_findTree_138 : decode cX9_findTree 138 = .ok (.getfield 195, 3) := by decide +kernel
theorem dX9_findTree_141 : decode cX9_findTree 141 = .ok (.aload_n 0, 1) := by decide +kernel
theorem dX9_findTree_142 : decode cX9_findTree 142 = .ok (.aload_n 0, 1) := by decide +kernel
theorem dX9_findTree_143 : decode cX9_findTree 143 = .ok (.getfield 195, 3) := by decide +kernel
theorem dX9_findTree_146 : decode cX9_findTree 146 = .ok (.invokevirtual 169, 3) := by decide +kernel
theorem dX9_findTree_149 : decode cX9_findTree 149 = .ok (.invokestatic 172, 3) := by decide +kernel
theorem dX9_findTree_152 : decode cX9_findTree 152 = .ok (.ifCond .eq 7, 3) := by decide +kernel
theorem dX9_findTree_155 : decode cX9_findTree 155 = .ok (.iconst 1, 1) := by decide +kernel
theorem dX9_findTree_156 : decode cX9_findTree 156 = .ok (.goto 4, 3) := by decide +kernel
theorem dX9_findTree_159 : decode cX9_findTree 159 = .ok (.iconst 0, 1) := by decide +kernel
theorem dX9_findTree_160 : decode cX9_findTree 160 = .ok (.iadd, 1) := by decide +kernel
theorem dX9_findTree_161 : decode cX9_findTree 161 = .ok (.putfield 195, 3) := by decide +kernel
theorem dX9_findTree_164 : decode cX9_findTree 164 = .ok (.iinc 5 1, 3) := by decide +kernel
theorem dX9_findTree_167 : decode cX9_findTree 167 = .ok (.goto (-88), 3) := by decide +kernel
theorem dX9_findTree_170 : decode cX9_findTree 170 = .ok (.aload_n 0, 1) := by decide +kernel
theorem dX9_findTree_171 : decode cX9_findTree 171 = .ok (.getfield 29, 3) := by decide +kernel
theorem dX9_findTree_174 : decode cX9_findTree 174 = .ok (.iload_n 2, 1) := by decide +kernel
theorem dX9_findTree_175 : decode cX9_findTree 175 = .ok (.iaload, 1) := by decide +kernel
theorem dX9_findTree_176 : decode cX9_findTree 176 = .ok (.iload_n 1, 1) := by decide +kernel
theorem dX9_findTree_177 : decode cX9_findTree 177 = .ok (.if_icmp .ne 16, 3) := by decide +kernel
theorem dX9_findTree_180 : decode cX9_findTree 180 = .ok (.iload_n 3, 1) := by decide +kernel
theorem dX9_findTree_181 : decode cX9_findTree 181 = .ok (.iconst 1, 1) := by decide +kernel
theorem dX9_findTree_182 : decode cX9_findTree 182 = .ok (.if_icmp .ne 7, 3) := by decide +kernel
theorem dX9_findTree_185 : decode cX9_findTree 185 = .ok (.iconst 1, 1) := by decide +kernel
theorem dX9_findTree_186 : decode cX9_findTree 186 = .ok (.goto 21, 3) := by decide +kernel
theorem dX9_findTree_189 : decode cX9_findTree 189 = .ok (.iconst 0, 1) := by decide +kernel
theorem dX9_findTree_190 : decode cX9_findTree 190 = .ok (.goto 17, 3) := by decide +kernel
theorem dX9_findTree_193 : decode cX9_findTree 193 = .ok (.aload_n 0, 1) := by decide +kernel
theorem dX9_findTree_194 : decode cX9_findTree 194 = .ok (.getfield 195, 3) := by decide +kernel
theorem dX9_findTree_197 : decode cX9_findTree 197 = .ok (.iload 4, 2) := by decide +kernel
theorem dX9_findTree_199 : decode cX9_findTree 199 = .ok (.if_icmp .ne 7, 3) := by decide +kernel
theorem dX9_findTree_202 : decode cX9_findTree 202 = .ok (.iconst 1, 1) := by decide +kernel
theorem dX9_findTree_203 : decode cX9_findTree 203 = .ok (.goto 4, 3) := by decide +kernel
theorem dX9_findTree_206 : decode cX9_findTree 206 = .ok (.iconst 0, 1) := by decide +kernel
theorem dX9_findTree_207 : decode cX9_findTree 207 = .ok (.istore 5, 2) := by decide +kernel
theorem dX9_findTree_209 : decode cX9_findTree 209 = .ok (.aload_n 0, 1) := by decide +kernel
theorem dX9_findTree_210 : decode cX9_findTree 210 = .ok (.dup, 1) := by decide +kernel
theorem dX9_findTree_211 : decode cX9_findTree 211 = .ok (.getfield 202, 3) := by decide +kernel
theorem dX9_findTree_214 : decode cX9_findTree 214 = .ok (.iload 5, 2) := by decide +kernel
theorem dX9_findTree_216 : decode cX9_findTree 216 = .ok (.ifCond .eq 7, 3) := by decide +kernel
theorem dX9_findTree_219 : decode cX9_findTree 219 = .ok (.iconst 1, 1) := by decide +kernel
theorem dX9_findTree_220 : decode cX9_findTree 220 = .ok (.goto 4, 3) := by decide +kernel
theorem dX9_findTree_223 : decode cX9_findTree 223 = .ok (.iconst 0, 1) := by decide +kernel
theorem dX9_findTree_224 : decode cX9_findTree 224 = .ok (.iadd, 1) := by decide +kernel
theorem dX9_findTree_225 : decode cX9_findTree 225 = .ok (.putfield 202, 3) := by decide +kernel
theorem dX9_findTree_228 : decode cX9_findTree 228 = .ok (.iinc 2 1, 3) := by decide +kernel
theorem dX9_findTree_231 : decode cX9_findTree 231 = .ok (.goto (-192), 3) := by decide +kernel
theorem dX9_findTree_234 : decode cX9_findTree 234 = .ok (.return_, 1) := by decide +kernel
theorem dX9_tree_0 : decode cX9_tree 0 = .ok (.aload_n 0, 1) := by decide +kernel
theorem dX9_tree_1 : decode cX9_tree 1 = .ok (.iload_n 1, 1) := by decide +kernel
theorem dX9_tree_2 : decode cX9_tree 2 = .ok (.invokevirtual 98, 3) := by decide +kernel
theorem dX9_tree_5 : decode cX9_tree 5 = .ok (.ifCond .eq 29, 3) := by decide +kernel
theorem dX9_tree_8 : decode cX9_tree 8 = .ok (.iload_n 2, 1) := by decide +kernel
theorem dX9_tree_9 : decode cX9_tree 9 = .ok (.invokestatic 163, 3) := by decide +kernel
theorem dX9_tree_12 : decode cX9_tree 12 = .ok (.ifCond .eq 22, 3) := by decide +kernel
theorem dX9_tree_15 : decode cX9_tree 15 = .ok (.iload_n 3, 1) := by decide +kernel
theorem dX9_tree_16 : decode cX9_tree 16 = .ok (.iconst 1, 1) := by decide +kernel
theorem dX9_tree_17 : decode cX9_tree 17 = .ok (.iconst 3, 1) := by decide +kernel
theorem dX9_tree_18 : decode cX9_tree 18 = .ok (.invokestatic 88, 3) := by decide +kernel
theorem dX9_tree_21 : decode cX9_tree 21 = .ok (.ifCond .eq 13, 3) := by decide +kernel
theorem dX9_tree_24 : decode cX9_tree 24 = .ok (.iload 4, 2) := by decide +kernel
theorem dX9_tree_26 : decode cX9_tree 26 = .ok (.iconst 0, 1) := by decide +kernel
theorem dX9_tree_27 : decode cX9_tree 27 = .ok (.iconst 2, 1) := by decide +kernel
theorem dX9_tree_28 : decode cX9_tree 28 = .ok (.invokestatic 88, 3) := by decide +kernel
theorem dX9_tree_31 : decode cX9_tree 31 = .ok (.ifCond .ne 6, 3) := by decide +kernel
theorem dX9_tree_34 : decode cX9_tree 34 = .ok (.ldc 92, 2) := by decide +kernel
theorem dX9_tree_36 : decode cX9_tree 36 = .ok (.ireturn, 1) := by decide +kernel
theorem dX9_tree_37 : decode cX9_tree 37 = .ok (.aload_n 0, 1) := by decide +kernel
theorem dX9_tree_38 : decode cX9_tree 38 = .ok (.iload_n 1, 1) := by decide +kernel
theorem dX9_tree_39 : decode cX9_tree 39 = .ok (.iload_n 2, 1) := by decide +kernel
theorem dX9_tree_40 : decode cX9_tree 40 = .ok (.invokevirtual 166, 3) := by decide +kernel
theorem dX9_tree_43 : decode cX9_tree 43 = .ok (.aload_n 0, 1) := by decide +kernel
theorem dX9_tree_44 : decode cX9_tree 44 = .ok (.iload_n 3, 1) := by decide +kernel
theorem dX9_tree_45 : decode cX9_tree 45 = .ok (.invokevirtual 205, 3) := by decide +kernel
theorem dX9_tree_48 : decode cX9_tree 48 = .ok (.iload 4, 2) := by decide +kernel
theorem dX9_tree_50 : decode cX9_tree 50 = .ok (.ifCond .ne 10, 3) := by decide +kernel
theorem dX9_tree_53 : decode cX9_tree 53 = .ok (.aload_n 0, 1) := by decide +kernel
theorem dX9_tree_54 : decode cX9_tree 54 = .ok (.getfield 195, 3) := by decide +kernel
theorem dX9_tree_57 : decode cX9_tree 57 = .ok (.goto 20, 3) := by decide +kernel
theorem dX9_tree_60 : decode cX9_tree 60 = .ok (.iload 4, 2) := by decide +kernel
theorem dX9_tree_62 : decode cX9_tree 62 = .ok (.iconst 1, 1) := by decide +kernel
theorem dX9_tree_63 : decode cX9_tree 63 = .ok (.if_icmp .ne 10, 3) := by decide +kernel
theorem dX9_tree_66 : decode cX9_tree 66 = .ok (.aload_n 0, 1) := by decide +kernel
theorem dX9_tree_67 : decode cX9_tree 67 = .ok (.getfield 199, 3) := by decide +kernel
theorem dX9_tree_70 : decode cX9_tree 70 = .ok (.goto 7, 3) := by decide +kernel
theorem dX9_tree_73 : decode cX9_tree 73 = .ok (.aload_n 0, 1) := by decide +kernel
theorem dX9_tree_74 : decode cX9_tree 74 = .ok (.getfield 202, 3) := by decide +kernel
theorem dX9_tree_77 : decode cX9_tree 77 = .ok (.ireturn, 1) := by decide +kernel
theorem dX9_cornerOf_0 : decode cX9_cornerOf 0 = .ok (.iconst 0, 1) := by decide +kernel
theorem dX9_cornerOf_1 : decode cX9_cornerOf 1 = .ok (.istore_n 2, 1) := by decide +kernel
theorem dX9_cornerOf_2 : decode cX9_cornerOf 2 = .ok (.iload_n 2, 1) := by decide +kernel
theorem dX9_cornerOf_3 : decode cX9_cornerOf 3 = .ok (.bipush 17, 2) := by decide +kernel
theorem dX9_cornerOf_5 : decode cX9_cornerOf 5 = .ok (.if_icmp .ge 24, 3) := by decide +kernel
theorem dX9_cornerOf_8 : decode cX9_cornerOf 8 = .ok (.aload_n 0, 1) := by decide +kernel
theorem dX9_cornerOf_9 : decode cX9_cornerOf 9 = .ok (.getfield 22, 3) := by decide +kernel
theorem dX9_cornerOf_12 : decode cX9_cornerOf 12 = .ok (.iconst 5, 1) := by decide +kernel
theorem dX9_cornerOf_13 : decode cX9_cornerOf 13 = .ok (.iload_n 2, 1) := by decide +kernel
theorem dX9_cornerOf_14 : decode cX9_cornerOf 14 = .ok (.imul, 1) := by decide +kernel
theorem dX9_cornerOf_15 : decode cX9_cornerOf 15 = .ok (.iload_n 1, 1) := by decide +kernel
theorem dX9_cornerOf_16 : decode cX9_cornerOf 16 = .ok (.iadd, 1) := by decide +kernel
theorem dX9_cornerOf_17 : decode cX9_cornerOf 17 = .ok (.laload, 1) := by decide +kernel
theorem dX9_cornerOf_18 : decode cX9_cornerOf 18 = .ok (.lconst 0, 1) := by decide +kernel
theorem dX9_cornerOf_19 : decode cX9_cornerOf 19 = .ok (.lcmp, 1) := by decide +kernel
theorem dX9_cornerOf_20 : decode cX9_cornerOf 20 = .ok (.ifCond .ne 9, 3) := by decide +kernel
theorem dX9_cornerOf_23 : decode cX9_cornerOf 23 = .ok (.iinc 2 1, 3) := by decide +kernel
theorem dX9_cornerOf_26 : decode cX9_cornerOf 26 = .ok (.goto (-24), 3) := by decide +kernel
theorem dX9_cornerOf_29 : decode cX9_cornerOf 29 = .ok (.iload_n 2, 1) := by decide +kernel
theorem dX9_cornerOf_30 : decode cX9_cornerOf 30 = .ok (.ireturn, 1) := by decide +kernel
theorem dX9_corner_0 : decode cX9_corner 0 = .ok (.aload_n 0, 1) := by decide +kernel
theorem dX9_corner_1 : decode cX9_corner 1 = .ok (.iload_n 1, 1) := by decide +kernel
theorem dX9_corner_2 : decode cX9_corner 2 = .ok (.invokevirtual 98, 3) := by decide +kernel
theorem dX9_corner_5 : decode cX9_corner 5 = .ok (.ifCond .eq 19, 3) := by decide +kernel
theorem dX9_corner_8 : decode cX9_corner 8 = .ok (.iload_n 2, 1) := by decide +kernel
theorem dX9_corner_9 : decode cX9_corner 9 = .ok (.invokestatic 163, 3) := by decide +kernel
theorem dX9_corner_12 : decode cX9_corner 12 = .ok (.ifCond .eq 12, 3) := by decide +kernel
theorem dX9_corner_15 : decode cX9_corner 15 = .ok (.iload_n 3, 1) := by decide +kernel
theorem dX9_corner_16 : decode cX9_corner 16 = .ok (.iconst 0, 1) := by decide +kernel
theorem dX9_corner_17 : decode cX9_corner 17 = .ok (.iconst 4, 1) := by decide +kernel
theorem dX9_corner_18 : decode cX9_corner 18 = .ok (.invokestatic 88, 3) := by decide +kernel
theorem dX9_corner_21 : decode cX9_corner 21 = .ok (.ifCond .ne 6, 3) := by decide +kernel
theorem dX9_corner_24 : decode cX9_corner 24 = .ok (.ldc 92, 2) := by decide +kernel
theorem dX9_corner_26 : decode cX9_corner 26 = .ok (.ireturn, 1) := by decide +kernel
theorem dX9_corner_27 : decode cX9_corner 27 = .ok (.aload_n 0, 1) := by decide +kernel
theorem dX9_corner_28 : decode cX9_corner 28 = .ok (.iload_n 1, 1) := by decide +kernel
theorem dX9_corner_29 : decode cX9_corner 29 = .ok (.iload_n 2, 1) := by decide +kernel
theorem dX9_corner_30 : decode cX9_corner 30 = .ok (.invokevirtual 166, 3) := by decide +kernel
theorem dX9_corner_33 : decode cX9_corner 33 = .ok (.aload_n 0, 1) := by decide +kernel
theorem dX9_corner_34 : decode cX9_corner 34 = .ok (.iload_n 3, 1) := by decide +kernel
theorem dX9_corner_35 : decode cX9_corner 35 = .ok (.invokevirtual 209, 3) := by decide +kernel
theorem dX9_corner_38 : decode cX9_corner 38 = .ok (.istore 4, 2) := by decide +kernel
theorem dX9_corner_40 : decode cX9_corner 40 = .ok (.iload 4, 2) := by decide +kernel
theorem dX9_corner_42 : decode cX9_corner 42 = .ok (.bipush 17, 2) := by decide +kernel
theorem dX9_corner_44 : decode cX9_corner 44 = .ok (.if_icmp .ne 8, 3) := by decide +kernel
theorem dX9_corner_47 : decode cX9_corner 47 = .ok (.ldc 212, 2) := by decide +kernel
theorem dX9_corner_49 : decode cX9_corner 49 = .ok (.goto 5, 3) := by decide +kernel
theorem dX9_corner_52 : decode cX9_corner 52 = .ok (.iload 4, 2) := by decide +kernel
theorem dX9_corner_54 : decode cX9_corner 54 = .ok (.ireturn, 1) := by decide +kernel
theorem dX9_divisor_0 : decode cX9_divisor 0 = .ok (.iload_n 0, 1) := by decide +kernel
theorem dX9_divisor_1 : decode cX9_divisor 1 = .ok (.ifCond .ge 8, 3) := by decide +kernel
theorem dX9_divisor_4 : decode cX9_divisor 4 = .ok (.iload_n 0, 1) := by decide +kernel
theorem dX9_divisor_5 : decode cX9_divisor 5 = .ok (.ineg, 1) := by decide +kernel
theorem dX9_divisor_6 : decode cX9_divisor 6 = .ok (.goto 4, 3) := by decide +kernel
theorem dX9_divisor_9 : decode cX9_divisor 9 = .ok (.iload_n 0, 1) := by decide +kernel
theorem dX9_divisor_10 : decode cX9_divisor 10 = .ok (.istore_n 2, 1) := by decide +kernel
theorem dX9_divisor_11 : decode cX9_divisor 11 = .ok (.iload_n 1, 1) := by decide +kernel
theorem dX9_divisor_12 : decode cX9_divisor 12 = .ok (.istore_n 3, 1) := by decide +kernel
theorem dX9_divisor_13 : decode cX9_divisor 13 = .ok (.iload_n 3, 1) := by decide +kernel
theorem dX9_divisor_14 : decode cX9_divisor 14 = .ok (.ifCond .le 16, 3) := by decide +kernel
theorem dX9_divisor_17 : decode cX9_divisor 17 = .ok (.iload_n 2, 1) := by decide +kernel
theorem dX9_divisor_18 : decode cX9_divisor 18 = .ok (.iload_n 3, 1) := by decide +kernel
theorem dX9_divisor_19 : decode cX9_divisor 19 = .ok (.irem, 1) := by decide +kernel
theorem dX9_divisor_20 : decode cX9_divisor 20 = .ok (.istore 4, 2) := by decide +kernel
theorem dX9_divisor_22 : decode cX9_divisor 22 = .ok (.iload_n 3, 1) := by decide +kernel
theorem dX9_divisor_23 : decode cX9_divisor 23 = .ok (.istore_n 2, 1) := by decide +kernel
theorem dX9_divisor_24 : decode cX9_divisor 24 = .ok (.iload 4, 2) := by decide +kernel
theorem dX9_divisor_26 : decode cX9_divisor 26 = .ok (.istore_n 3, 1) := by decide +kernel
theorem dX9_divisor_27 : decode cX9_divisor 27 = .ok (.goto (-14), 3) := by decide +kernel
theorem dX9_divisor_30 : decode cX9_divisor 30 = .ok (.iload_n 2, 1) := by decide +kernel
theorem dX9_divisor_31 : decode cX9_divisor 31 = .ok (.ireturn, 1) := by decide +kernel
theorem dX9_power_0 : decode cX9_power 0 = .ok (.aload_n 0, 1) := by decide +kernel
theorem dX9_power_1 : decode cX9_power 1 = .ok (.iload_n 1, 1) := by decide +kernel
theorem dX9_power_2 : decode cX9_power 2 = .ok (.invokevirtual 98, 3) := by decide +kernel
theorem dX9_power_5 : decode cX9_power 5 = .ok (.ifCond .eq 19, 3) := by decide +kernel
theorem dX9_power_8 : decode cX9_power 8 = .ok (.iload_n 2, 1) := by decide +kernel
theorem dX9_power_9 : decode cX9_power 9 = .ok (.invokestatic 163, 3) := by decide +kernel
theorem dX9_power_12 : decode cX9_power 12 = .ok (.ifCond .eq 12, 3) := by decide +kernel
theorem dX9_power_15 : decode cX9_power 15 = .ok (.iload_n 3, 1) := by decide +kernel
theorem dX9_power_16 : decode cX9_power 16 = .ok (.iconst 0, 1) := by decide +kernel
theorem dX9_power_17 : decode cX9_power 17 = .ok (.iconst 1, 1) := by decide +kernel
theorem dX9_power_18 : decode cX9_power 18 = .ok (.invokestatic 88, 3) := by decide +kernel
theorem dX9_power_21 : decode cX9_power 21 = .ok (.ifCond .ne 6, 3) := by decide +kernel
theorem dX9_power_24 : decode cX9_power 24 = .ok (.ldc 92, 2) := by decide +kernel
theorem dX9_power_26 : decode cX9_power 26 = .ok (.ireturn, 1) := by decide +kernel
theorem dX9_power_27 : decode cX9_power 27 = .ok (.aload_n 0, 1) := by decide +kernel
theorem dX9_power_28 : decode cX9_power 28 = .ok (.iload_n 1, 1) := by decide +kernel
theorem dX9_power_29 : decode cX9_power 29 = .ok (.iload_n 2, 1) := by decide +kernel
theorem dX9_power_30 : decode cX9_power 30 = .ok (.invokevirtual 166, 3) := by decide +kernel
theorem dX9_power_33 : decode cX9_power 33 = .ok (.iconst 0, 1) := by decide +kernel
theorem dX9_power_34 : decode cX9_power 34 = .ok (.istore 4, 2) := by decide +kernel
theorem dX9_power_36 : decode cX9_power 36 = .ok (.iload 4, 2) := by decide +kernel
theorem dX9_power_38 : decode cX9_power 38 = .ok (.iconst 5, 1) := by decide +kernel
theorem dX9_power_39 : decode cX9_power 39 = .ok (.if_icmp .ge 20, 3) := by decide +kernel
theorem dX9_power_42 : decode cX9_power 42 = .ok (.aload_n 0, 1) := by decide +kernel
theorem dX9_power_43 : decode cX9_power 43 = .ok (.iload 4, 2) := by decide +kernel
theorem dX9_power_45 : decode cX9_power 45 = .ok (.invokevirtual 209, 3) := by decide +kernel
theorem dX9_power_48 : decode cX9_power 48 = .ok (.bipush 17, 2) := by decide +kernel
theorem dX9_power_50 : decode cX9_power 50 = .ok (.if_icmp .ne 9, 3) := by decide +kernel
theorem dX9_power_53 : decode cX9_power 53 = .ok (.iinc 4 1, 3) := by decide +kernel
theorem dX9_power_56 : decode cX9_power 56 = .ok (.goto (-20), 3) := by decide +kernel
theorem dX9_power_59 : decode cX9_power 59 = .ok (.iconst 0, 1) := by decide +kernel
theorem dX9_power_60 : decode cX9_power 60 = .ok (.istore 5, 2) := by decide +kernel
theorem dX9_power_62 : decode cX9_power 62 = .ok (.iconst 0, 1) := by decide +kernel
theorem dX9_power_63 : decode cX9_power 63 = .ok (.istore 6, 2) := by decide +kernel
theorem dX9_power_65 : decode cX9_power 65 = .ok (.iload 4, 2) := by decide +kernel
theorem dX9_power_67 : decode cX9_power 67 = .ok (.iconst 1, 1) := by decide +kernel
theorem dX9_power_68 : decode cX9_power 68 = .ok (.iadd, 1) := by decide +kernel
theorem dX9_power_69 : decode cX9_power 69 = .ok (.istore 7, 2) := by decide +kernel
theorem dX9_power_71 : decode cX9_power 71 = .ok (.iload 7, 2) := by decide +kernel
theorem dX9_power_73 : decode cX9_power 73 = .ok (.iconst 5, 1) := by decide +kernel
theorem dX9_power_74 : decode cX9_power 74 = .ok (.if_icmp .ge 95, 3) := by decide +kernel
theorem dX9_power_77 : decode cX9_power 77 = .ok (.aload_n 0, 1) := by decide +kernel
theorem dX9_power_78 : decode cX9_power 78 = .ok (.iload 7, 2) := by decide +kernel
theorem dX9_power_80 : decode cX9_power 80 = .ok (.invokevirtual 209, 3) := by decide +kernel
theorem dX9_power_83 : decode cX9_power 83 = .ok (.bipush 17, 2) := by decide +kernel
theorem dX9_power_85 : decode cX9_power 85 = .ok (.if_icmp .ge 78, 3) := by decide +kernel
theorem dX9_power_88 : decode cX9_power 88 = .ok (.aload_n 0, 1) := by decide +kernel
theorem dX9_power_89 : decode cX9_power 89 = .ok (.iload 4, 2) := by decide +kernel
theorem dX9_power_91 : decode cX9_power 91 = .ok (.invokevirtual 209, 3) := by decide +kernel
theorem dX9_power_94 : decode cX9_power 94 = .ok (.aload_n 0, 1) := by decide +kernel
theorem dX9_power_95 : decode cX9_power 95 = .ok (.iload 7, 2) := by decide +kernel
theorem dX9_power_97 : decode cX9_power 97 = .ok (.invokevirtual 209, 3) := by decide +kernel
theorem dX9_power_100 : decode cX9_power 100 = .ok (.isub, 1) := by decide +kernel
theorem dX9_power_101 : decode cX9_power 101 = .ok (.istore 8, 2) := by decide +kernel
theorem dX9_power_103 : decode cX9_power 103 = .ok (.iload 7, 2) := by decide +kernel
theorem dX9_power_105 : decode cX9_power 105 = .ok (.iload 4, 2) := by decide +kernel
theorem dX9_power_107 : decode cX9_power 107 = .ok (.isub, 1) := by decide +kernel
theorem dX9_power_108 : decode cX9_power 108 = .ok (.istore 9, 2) := by decide +kernel
theorem dX9_power_110 : decode cX9_power 110 = .ok (.iload 6, 2) := by decide +kernel
theorem dX9_power_112 : decode cX9_power 112 = .ok (.ifCond .eq 16, 3) := by decide +kernel
theorem dX9_power_115 : decode cX9_power 115 = .ok (.iload 8, 2) := by decide +kernel
theorem dX9_power_117 : decode cX9_power 117 = .ok (.iload 6, 2) := by decide +kernel
theorem dX9_power_119 : decode cX9_power 119 = .ok (.imul, 1) := by decide +kernel
theorem dX9_power_120 : decode cX9_power 120 = .ok (.iload 5, 2) := by decide +kernel
theorem dX9_power_122 : decode cX9_power 122 = .ok (.iload 9, 2) := by decide +kernel
theorem dX9_power_124 : decode cX9_power 124 = .ok (.imul, 1) := by decide +kernel
theorem dX9_power_125 : decode cX9_power 125 = .ok (.if_icmp .lt 7, 3) := by decide +kernel
theorem dX9_power_128 : decode cX9_power 128 = .ok (.iconst 1, 1) := by decide +kernel
theorem dX9_power_129 : decode cX9_power 129 = .ok (.goto 4, 3) := by decide +kernel
theorem dX9_power_132 : decode cX9_power 132 = .ok (.iconst 0, 1) := by decide +kernel
theorem dX9_power_133 : decode cX9_power 133 = .ok (.istore 10, 2) := by decide +kernel
theorem dX9_power_135 : decode cX9_power 135 = .ok (.iload 10, 2) := by decide +kernel
theorem dX9_power_137 : decode cX9_power 137 = .ok (.ifCond .eq 8, 3) := by decide +kernel
theorem dX9_power_140 : decode cX9_power 140 = .ok (.iload 8, 2) := by decide +kernel
theorem dX9_power_142 : decode cX9_power 142 = .ok (.goto 5, 3) := by decide +kernel
theorem dX9_power_145 : decode cX9_power 145 = .ok (.iload 5, 2) := by decide +kernel
theorem dX9_power_147 : decode cX9_power 147 = .ok (.istore 5, 2) := by decide +kernel
theorem dX9_power_149 : decode cX9_power 149 = .ok (.iload 10, 2) := by decide +kernel
theorem dX9_power_151 : decode cX9_power 151 = .ok (.ifCond .eq 8, 3) := by decide +kernel
theorem dX9_power_154 : decode cX9_power 154 = .ok (.iload 9, 2) := by decide +kernel
theorem dX9_power_156 : decode cX9_power 156 = .ok (.goto 5, 3) := by decide +kernel
theorem dX9_power_159 : decode cX9_power 159 = .ok (.iload 6, 2) := by decide +kernel
theorem dX9_power_161 : decode cX9_power 161 = .ok (.istore 6, 2) := by decide +kernel
theorem dX9_power_163 : decode cX9_power 163 = .ok (.iinc 7 1, 3) := by decide +kernel
theorem dX9_power_166 : decode cX9_power 166 = .ok (.goto (-95), 3) := by decide +kernel
theorem dX9_power_169 : decode cX9_power 169 = .ok (.iload 6, 2) := by decide +kernel
theorem dX9_power_171 : decode cX9_power 171 = .ok (.ifCond .ne 6, 3) := by decide +kernel
theorem dX9_power_174 : decode cX9_power 174 = .ok (.ldc 212, 2) := by decide +kernel
theorem dX9_power_176 : decode cX9_power 176 = .ok (.ireturn, 1) := by decide +kernel
theorem dX9_power_177 : decode cX9_power 177 = .ok (.iload 5, 2) := by decide +kernel
theorem dX9_power_179 : decode cX9_power 179 = .ok (.iload 6, 2) := by decide +kernel
theorem dX9_power_181 : decode cX9_power 181 = .ok (.invokestatic 213, 3) := by decide +kernel
theorem dX9_power_184 : decode cX9_power 184 = .ok (.istore 7, 2) := by decide +kernel
theorem dX9_power_186 : decode cX9_power 186 = .ok (.iload_n 3, 1) := by decide +kernel
theorem dX9_power_187 : decode cX9_power 187 = .ok (.ifCond .ne 11, 3) := by decide +kernel
theorem dX9_power_190 : decode cX9_power 190 = .ok (.iload 5, 2) := by decide +kernel
theorem dX9_power_192 : decode cX9_power 192 = .ok (.iload 7, 2) := by decide +kernel
theorem dX9_power_194 : decode cX9_power 194 = .ok (.idiv, 1) := by decide +kernel
theorem dX9_power_195 : decode cX9_power 195 = .ok (.goto 8, 3) := by decide +kernel
theorem dX9_power_198 : decode cX9_power 198 = .ok (.iload 6, 2) := by decide +kernel
theorem dX9_power_200 : decode cX9_power 200 = .ok (.iload 7, 2) := by decide +kernel
theorem dX9_power_202 : decode cX9_power 202 = .ok (.idiv, 1) := by decide +kernel
theorem dX9_power_203 : decode cX9_power 203 = .ok (.ireturn, 1) := by decide +kernel
theorem dX9_line_0 : decode cX9_line 0 = .ok (.aload_n 0, 1) := by decide +kernel
theorem dX9_line_1 : decode cX9_line 1 = .ok (.iload_n 1, 1) := by decide +kernel
theorem dX9_line_2 : decode cX9_line 2 = .ok (.invokevirtual 98, 3) := by decide +kernel
theorem dX9_line_5 : decode cX9_line 5 = .ok (.ifCond .eq 21, 3) := by decide +kernel
theorem dX9_line_8 : decode cX9_line 8 = .ok (.iload_n 2, 1) := by decide +kernel
theorem dX9_line_9 : decode cX9_line 9 = .ok (.invokestatic 163, 3) := by decide +kernel
theorem dX9_line_12 : decode cX9_line 12 = .ok (.ifCond .eq 14, 3) := by decide +kernel
theorem dX9_line_15 : decode cX9_line 15 = .ok (.iload_n 3, 1) := by decide +kernel
theorem dX9_line_16 : decode cX9_line 16 = .ok (.bipush (-5), 2) := by decide +kernel
theorem dX9_line_18 : decode cX9_line 18 = .ok (.bipush 6, 2) := by decide +kernel
theorem dX9_line_20 : decode cX9_line 20 = .ok (.invokestatic 88, 3) := by decide +kernel
theorem dX9_line_23 : decode cX9_line 23 = .ok (.ifCond .ne 6, 3) := by decide +kernel
theorem dX9_line_26 : decode cX9_line 26 = .ok (.ldc 92, 2) := by decide +kernel
theorem dX9_line_28 : decode cX9_line 28 = .ok (.ireturn, 1) := by decide +kernel
theorem dX9_line_29 : decode cX9_line 29 = .ok (.aload_n 0, 1) := by decide +kernel
theorem dX9_line_30 : decode cX9_line 30 = .ok (.iload_n 1, 1) := by decide +kernel
theorem dX9_line_31 : decode cX9_line 31 = .ok (.iload_n 2, 1) := by decide +kernel
theorem dX9_line_32 : decode cX9_line 32 = .ok (.invokevirtual 166, 3) := by decide +kernel
theorem dX9_line_35 : decode cX9_line 35 = .ok (.iconst 0, 1) := by decide +kernel
theorem dX9_line_36 : decode cX9_line 36 = .ok (.istore 4, 2) := by decide +kernel
theorem dX9_line_38 : decode cX9_line 38 = .ok (.iload 4, 2) := by decide +kernel
theorem dX9_line_40 : decode cX9_line 40 = .ok (.bipush 21, 2) := by decide +kernel
theorem dX9_line_42 : decode cX9_line 42 = .ok (.if_icmp .ge 111, 3) := by decide +kernel
theorem dX9_line_45 : decode cX9_line 45 = .ok (.iload_n 3, 1) := by decide +kernel
theorem dX9_line_46 : decode cX9_line 46 = .ok (.bipush 6, 2) := by decide +kernel
theorem dX9_line_48 : decode cX9_line 48 = .ok (.if_icmp .ne 19, 3) := by decide +kernel
theorem dX9_line_51 : decode cX9_line 51 = .ok (.iload 4, 2) := by decide +kernel
theorem dX9_line_53 : decode cX9_line 53 = .ok (.iconst 5, 1) := by decide +kernel
theorem dX9_line_54 : decode cX9_line 54 = .ok (.if_icmp .ge 13, 3) := by decide +kernel
theorem dX9_line_57 : decode cX9_line 57 = .ok (.aload_n 0, 1) := by decide +kernel
theorem dX9_line_58 : decode cX9_line 58 = .ok (.getfield 22, 3) := by decide +kernel
theorem dX9_line_61 : decode cX9_line 61 = .ok (.iload 4, 2) := by decide +kernel
theorem dX9_line_63 : decode cX9_line 63 = .ok (.laload, 1) := by decide +kernel
theorem dX9_line_64 : decode cX9_line 64 = .ok (.goto 4, 3) := by decide +kernel
theorem dX9_line_67 : decode cX9_line 67 = .ok (.lconst 0, 1) := by decide +kernel
theorem dX9_line_68 : decode cX9_line 68 = .ok (.lstore 5, 2) := by decide +kernel
theorem dX9_line_70 : decode cX9_line 70 = .ok (.iconst 0, 1) := by decide +kernel
theorem dX9_line_71 : decode cX9_line 71 = .ok (.istore 7, 2) := by decide +kernel
theorem dX9_line_73 : decode cX9_line 73 = .ok (.iload 7, 2) := by decide +kernel
theorem dX9_line_75 : decode cX9_line 75 = .ok (.iconst 5, 1) := by decide +kernel
theorem dX9_line_76 : decode cX9_line 76 = .ok (.if_icmp .ge 61, 3) := by decide +kernel
theorem dX9_line_79 : decode cX9_line 79 = .ok (.iload_n 3, 1) := by decide +kernel
theorem dX9_line_80 : decode cX9_line 80 = .ok (.bipush 6, 2) := by decide +kernel
theorem dX9_line_82 : decode cX9_line 82 = .ok (.if_icmp .ge 55, 3) := by decide +kernel
theorem dX9_line_85 : decode cX9_line 85 = .ok (.lload 5, 2) := by decide +kernel
theorem dX9_line_87 : decode cX9_line 87 = .ok (.iload 4, 2) := by decide +kernel
theorem dX9_line_89 : decode cX9_line 89 = .ok (.iload 7, 2) := by decide +kernel
theorem dX9_line_91 : decode cX9_line 91 = .ok (.isub, 1) := by decide +kernel
theorem dX9_line_92 : decode cX9_line 92 = .ok (.iconst 0, 1) := by decide +kernel
theorem dX9_line_93 : decode cX9_line 93 = .ok (.bipush 16, 2) := by decide +kernel
theorem dX9_line_95 : decode cX9_line 95 = .ok (.invokestatic 88, 3) := by decide +kernel
theorem dX9_line_98 : decode cX9_line 98 = .ok (.ifCond .eq 29, 3) := by decide +kernel
theorem dX9_line_101 : decode cX9_line 101 = .ok (.aload_n 0, 1) := by decide +kernel
theorem dX9_line_102 : decode cX9_line 102 = .ok (.getfield 22, 3) := by decide +kernel
theorem dX9_line_105 : decode cX9_line 105 = .ok (.iconst 5, 1) := by decide +kernel
theorem dX9_line_106 : decode cX9_line 106 = .ok (.iload 4, 2) := by decide +kernel
theorem dX9_line_108 : decode cX9_line 108 = .ok (.iload 7, 2) := by decide +kernel
theorem dX9_line_110 : decode cX9_line 110 = .ok (.isub, 1) := by decide +kernel
theorem dX9_line_111 : decode cX9_line 111 = .ok (.imul, 1) := by decide +kernel
theorem dX9_line_112 : decode cX9_line 112 = .ok (.iload 7, 2) := by decide +kernel
theorem dX9_line_114 : decode cX9_line 114 = .ok (.iadd, 1) := by decide +kernel
theorem dX9_line_115 : decode cX9_line 115 = .ok (.laload, 1) := by decide +kernel
theorem dX9_line_116 : decode cX9_line 116 = .ok (.iload_n 3, 1) := by decide +kernel
theorem dX9_line_117 : decode cX9_line 117 = .ok (.i2l, 1) := by decide +kernel
theorem dX9_line_118 : decode cX9_line 118 = .ok (.iload 7, 2) := by decide +kernel
theorem dX9_line_120 : decode cX9_line 120 = .ok (.invokestatic 151, 3) := by decide +kernel
theorem dX9_line_123 : decode cX9_line 123 = .ok (.lmul, 1) := by decide +kernel
theorem dX9_line_124 : decode cX9_line 124 = .ok (.goto 4, 3) := by decide +kernel
theorem dX9_line_127 : decode cX9_line 127 = .ok (.lconst 0, 1) := by decide +kernel
theorem dX9_line_128 : decode cX9_line 128 = .ok (.ladd, 1) := by decide +kernel
theorem dX9_line_129 : decode cX9_line 129 = .ok (.lstore 5, 2) := by decide +kernel
theorem dX9_line_131 : decode cX9_line 131 = .ok (.iinc 7 1, 3) := by decide +kernel
theorem dX9_line_134 : decode cX9_line 134 = .ok (.goto (-61), 3) := by decide +kernel
theorem dX9_line_137 : decode cX9_line 137 = .ok (.lload 5, 2) := by decide +kernel
theorem dX9_line_139 : decode cX9_line 139 = .ok (.lconst 0, 1) := by decide +kernel
theorem dX9_line_140 : decode cX9_line 140 = .ok (.lcmp, 1) := by decide +kernel
theorem dX9_line_141 : decode cX9_line 141 = .ok (.ifCond .eq 6, 3) := by decide +kernel
theorem dX9_line_144 : decode cX9_line 144 = .ok (.iload 4, 2) := by decide +kernel
theorem dX9_line_146 : decode cX9_line 146 = .ok (.ireturn, 1) := by decide +kernel
theorem dX9_line_147 : decode cX9_line 147 = .ok (.iinc 4 1, 3) := by decide +kernel
theorem dX9_line_150 : decode cX9_line 150 = .ok (.goto (-112), 3) := by decide +kernel
theorem dX9_line_153 : decode cX9_line 153 = .ok (.iconst (-1), 1) := by decide +kernel
theorem dX9_line_154 : decode cX9_line 154 = .ok (.ireturn, 1) := by decide +kernel
theorem dX9_all_0 : decode cX9_all 0 = .ok (.aload_n 0, 1) := by decide +kernel
theorem dX9_all_1 : decode cX9_all 1 = .ok (.iload_n 1, 1) := by decide +kernel
theorem dX9_all_2 : decode cX9_all 2 = .ok (.invokevirtual 98, 3) := by decide +kernel
theorem dX9_all_5 : decode cX9_all 5 = .ok (.ifCond .eq 12, 3) := by decide +kernel
theorem dX9_all_8 : decode cX9_all 8 = .ok (.iload_n 2, 1) := by decide +kernel
theorem dX9_all_9 : decode cX9_all 9 = .ok (.iconst 0, 1) := by decide +kernel
theorem dX9_all_10 : decode cX9_all 10 = .ok (.iconst 2, 1) := by decide +kernel
theorem dX9_all_11 : decode cX9_all 11 = .ok (.invokestatic 88, 3) := by decide +kernel
theorem dX9_all_14 : decode cX9_all 14 = .ok (.ifCond .ne 6, 3) := by decide +kernel
theorem dX9_all_17 : decode cX9_all 17 = .ok (.ldc 92, 2) := by decide +kernel
theorem dX9_all_19 : decode cX9_all 19 = .ok (.ireturn, 1) := by decide +kernel
theorem dX9_all_20 : decode cX9_all 20 = .ok (.aload_n 0, 1) := by decide +kernel
theorem dX9_all_21 : decode cX9_all 21 = .ok (.iload_n 1, 1) := by decide +kernel
theorem dX9_all_22 : decode cX9_all 22 = .ok (.invokevirtual 133, 3) := by decide +kernel
theorem dX9_all_25 : decode cX9_all 25 = .ok (.istore_n 3, 1) := by decide +kernel
theorem dX9_all_26 : decode cX9_all 26 = .ok (.aload_n 0, 1) := by decide +kernel
theorem dX9_all_27 : decode cX9_all 27 = .ok (.iconst 2, 1) := by decide +kernel
theorem dX9_all_28 : decode cX9_all 28 = .ok (.invokevirtual 109, 3) := by decide +kernel
theorem dX9_all_31 : decode cX9_all 31 = .ok (.istore 4, 2) := by decide +kernel
theorem dX9_all_33 : decode cX9_all 33 = .ok (.iconst 0, 1) := by decide +kernel
theorem dX9_all_34 : decode cX9_all 34 = .ok (.istore 5, 2) := by decide +kernel
theorem dX9_all_36 : decode cX9_all 36 = .ok (.iconst 0, 1) := by decide +kernel
theorem dX9_all_37 : decode cX9_all 37 = .ok (.istore 6, 2) := by decide +kernel
theorem dX9_all_39 : decode cX9_all 39 = .ok (.iload 6, 2) := by decide +kernel
theorem dX9_all_41 : decode cX9_all 41 = .ok (.bipush 121, 2) := by decide +kernel
theorem dX9_all_43 : decode cX9_all 43 = .ok (.if_icmp .ge 128, 3) := by decide +kernel
theorem dX9_all_46 : decode cX9_all 46 = .ok (.aload_n 0, 1) := by decide +kernel
theorem dX9_all_47 : decode cX9_all 47 = .ok (.iload 6, 2) := by decide +kernel
theorem dX9_all_49 : decode cX9_all 49 = .ok (.bipush 11, 2) := by decide +kernel
theorem dX9_all_51 : decode cX9_all 51 = .ok (.idiv, 1) := by decide +kernel
theorem dX9_all_52 : decode cX9_all 52 = .ok (.iconst 5, 1) := by decide +kernel
theorem dX9_all_53 : decode cX9_all 53 = .ok (.isub, 1) := by decide +kernel
theorem dX9_all_54 : decode cX9_all 54 = .ok (.iload 6, 2) := by decide +kernel
theorem dX9_all_56 : decode cX9_all 56 = .ok (.bipush 11, 2) := by decide +kernel
theorem dX9_all_58 : decode cX9_all 58 = .ok (.irem, 1) := by decide +kernel
theorem dX9_all_59 : decode cX9_all 59 = .ok (.iconst 5, 1) := by decide +kernel
theorem dX9_all_60 : decode cX9_all 60 = .ok (.isub, 1) := by decide +kernel
theorem dX9_all_61 : decode cX9_all 61 = .ok (.invokevirtual 159, 3) := by decide +kernel
theorem dX9_all_64 : decode cX9_all 64 = .ok (.aload_n 0, 1) := by decide +kernel
theorem dX9_all_65 : decode cX9_all 65 = .ok (.iconst 0, 1) := by decide +kernel
theorem dX9_all_66 : decode cX9_all 66 = .ok (.invokevirtual 169, 3) := by decide +kernel
theorem dX9_all_69 : decode cX9_all 69 = .ok (.istore 7, 2) := by decide +kernel
theorem dX9_all_71 : decode cX9_all 71 = .ok (.aload_n 0, 1) := by decide +kernel
theorem dX9_all_72 : decode cX9_all 72 = .ok (.getfield 58, 3) := by decide +kernel
theorem dX9_all_75 : decode cX9_all 75 = .ok (.iconst 0, 1) := by decide +kernel
theorem dX9_all_76 : decode cX9_all 76 = .ok (.iload 6, 2) := by decide +kernel
theorem dX9_all_78 : decode cX9_all 78 = .ok (.bipush 11, 2) := by decide +kernel
theorem dX9_all_80 : decode cX9_all 80 = .ok (.idiv, 1) := by decide +kernel
theorem dX9_all_81 : decode cX9_all 81 = .ok (.iconst 5, 1) := by decide +kernel
theorem dX9_all_82 : decode cX9_all 82 = .ok (.isub, 1) := by decide +kernel
theorem dX9_all_83 : decode cX9_all 83 = .ok (.iastore, 1) := by decide +kernel
theorem dX9_all_84 : decode cX9_all 84 = .ok (.aload_n 0, 1) := by decide +kernel
theorem dX9_all_85 : decode cX9_all 85 = .ok (.getfield 58, 3) := by decide +kernel
theorem dX9_all_88 : decode cX9_all 88 = .ok (.iconst 1, 1) := by decide +kernel
theorem dX9_all_89 : decode cX9_all 89 = .ok (.iload 6, 2) := by decide +kernel
theorem dX9_all_91 : decode cX9_all 91 = .ok (.bipush 11, 2) := by decide +kernel
theorem dX9_all_93 : decode cX9_all 93 = .ok (.irem, 1) := by decide +kernel
theorem dX9_all_94 : decode cX9_all 94 = .ok (.iconst 5, 1) := by decide +kernel
theorem dX9_all_95 : decode cX9_all 95 = .ok (.isub, 1) := by decide +kernel
theorem dX9_all_96 : decode cX9_all 96 = .ok (.iastore, 1) := by decide +kernel
theorem dX9_all_97 : decode cX9_all 97 = .ok (.aload_n 0, 1) := by decide +kernel
theorem dX9_all_98 : decode cX9_all 98 = .ok (.getfield 58, 3) := by decide +kernel
theorem dX9_all_101 : decode cX9_all 101 = .ok (.iconst 2, 1) := by decide +kernel
theorem dX9_all_102 : decode cX9_all 102 = .ok (.iload 7, 2) := by decide +kernel
theorem dX9_all_104 : decode cX9_all 104 = .ok (.iastore, 1) := by decide +kernel
theorem dX9_all_105 : decode cX9_all 105 = .ok (.iload_n 2, 1) := by decide +kernel
theorem dX9_all_106 : decode cX9_all 106 = .ok (.iconst 2, 1) := by decide +kernel
theorem dX9_all_107 : decode cX9_all 107 = .ok (.if_icmp .ge 17, 3) := by decide +kernel
theorem dX9_all_110 : decode cX9_all 110 = .ok (.iload 7, 2) := by decide +kernel
theorem dX9_all_112 : decode cX9_all 112 = .ok (.iload_n 2, 1) := by decide +kernel
theorem dX9_all_113 : decode cX9_all 113 = .ok (.if_icmp .le 7, 3) := by decide +kernel
theorem dX9_all_116 : decode cX9_all 116 = .ok (.iconst 1, 1) := by decide +kernel
theorem dX9_all_117 : decode cX9_all 117 = .ok (.goto 30, 3) := by decide +kernel
theorem dX9_all_120 : decode cX9_all 120 = .ok (.iconst 0, 1) := by decide +kernel
theorem dX9_all_121 : decode cX9_all 121 = .ok (.goto 26, 3) := by decide +kernel
theorem dX9_all_124 : decode cX9_all 124 = .ok (.iload 4, 2) := by decide +kernel
theorem dX9_all_126 : decode cX9_all 126 = .ok (.ifCond .ge 8, 3) := by decide +kernel
theorem dX9_all_129 : decode cX9_all 129 = .ok (.iload 7, 2) := by decide +kernel
theorem dX9_all_131 : decode cX9_all 131 = .ok (.goto 16, 3) := by decide +kernel
theorem dX9_all_134 : decode cX9_all 134 = .ok (.aload_n 0, 1) := by decide +kernel
theorem dX9_all_135 : decode cX9_all 135 = .ok (.iload 4, 2) := by decide +kernel
theorem dX9_all_137 : decode cX9_all 137 = .ok (.invokevirtual 112, 3) := by decide +kernel
theorem dX9_all_140 : decode cX9_all 140 = .ok (.bipush (-99), 2) := by decide +kernel
theorem dX9_all_142 : decode cX9_all 142 = .ok (.bipush 99, 2) := by decide +kernel
theorem dX9_all_144 : decode cX9_all 144 = .ok (.invokestatic 115, 3) := by decide +kernel
theorem dX9_all_147 : decode cX9_all 147 = .ok (.istore 8, 2) := by decide +kernel
theorem dX9_all_149 : decode cX9_all 149 = .ok (.iload 5, 2) := by decide +kernel
theorem dX9_all_151 : decode cX9_all 151 = .ok (.iload 7, 2) := by decide +kernel
theorem dX9_all_153 : decode cX9_all 153 = .ok (.ifCond .le 8, 3) := by decide +kernel
theorem dX9_all_156 : decode cX9_all 156 = .ok (.iload 8, 2) := by decide +kernel
theorem dX9_all_158 : decode cX9_all 158 = .ok (.goto 4, 3) := by decide +kernel
theorem dX9_all_161 : decode cX9_all 161 = .ok (.iconst 0, 1) := by decide +kernel
theorem dX9_all_162 : decode cX9_all 162 = .ok (.iadd, 1) := by decide +kernel
theorem dX9_all_163 : decode cX9_all 163 = .ok (.istore 5, 2) := by decide +kernel
theorem dX9_all_165 : decode cX9_all 165 = .ok (.iinc 6 1, 3) := by decide +kernel
theorem dX9_all_168 : decode cX9_all 168 = .ok (.goto (-129), 3) := by decide +kernel
theorem dX9_all_171 : decode cX9_all 171 = .ok (.iload 5, 2) := by decide +kernel
theorem dX9_all_173 : decode cX9_all 173 = .ok (.ireturn, 1) := by decide +kernel
theorem dX9_on_0 : decode cX9_on 0 = .ok (.aload_n 0, 1) := by decide +kernel
theorem dX9_on_1 : decode cX9_on 1 = .ok (.iload_n 1, 1) := by decide +kernel
theorem dX9_on_2 : decode cX9_on 2 = .ok (.invokevirtual 98, 3) := by decide +kernel
theorem dX9_on_5 : decode cX9_on 5 = .ok (.ifCond .eq 7, 3) := by decide +kernel
theorem dX9_on_8 : decode cX9_on 8 = .ok (.iload_n 2, 1) := by decide +kernel
theorem dX9_on_9 : decode cX9_on 9 = .ok (.ifCond .ge 6, 3) := by decide +kernel
theorem dX9_on_12 : decode cX9_on 12 = .ok (.ldc 92, 2) := by decide +kernel
theorem dX9_on_14 : decode cX9_on 14 = .ok (.ireturn, 1) := by decide +kernel
theorem dX9_on_15 : decode cX9_on 15 = .ok (.aload_n 0, 1) := by decide +kernel
theorem dX9_on_16 : decode cX9_on 16 = .ok (.iload_n 1, 1) := by decide +kernel
theorem dX9_on_17 : decode cX9_on 17 = .ok (.invokevirtual 133, 3) := by decide +kernel
theorem dX9_on_20 : decode cX9_on 20 = .ok (.istore_n 3, 1) := by decide +kernel
theorem dX9_on_21 : decode cX9_on 21 = .ok (.iconst (-1), 1) := by decide +kernel
theorem dX9_on_22 : decode cX9_on 22 = .ok (.istore 4, 2) := by decide +kernel
theorem dX9_on_24 : decode cX9_on 24 = .ok (.iconst 0, 1) := by decide +kernel
theorem dX9_on_25 : decode cX9_on 25 = .ok (.istore 5, 2) := by decide +kernel
theorem dX9_on_27 : decode cX9_on 27 = .ok (.iload 5, 2) := by decide +kernel
theorem dX9_on_29 : decode cX9_on 29 = .ok (.bipush 121, 2) := by decide +kernel
theorem dX9_on_31 : decode cX9_on 31 = .ok (.if_icmp .ge 66, 3) := by decide +kernel
theorem dX9_on_34 : decode cX9_on 34 = .ok (.aload_n 0, 1) := by decide +kernel
theorem dX9_on_35 : decode cX9_on 35 = .ok (.iload 5, 2) := by decide +kernel
theorem dX9_on_37 : decode cX9_on 37 = .ok (.bipush 11, 2) := by decide +kernel
theorem dX9_on_39 : decode cX9_on 39 = .ok (.idiv, 1) := by decide +kernel
theorem dX9_on_40 : decode cX9_on 40 = .ok (.iconst 5, 1) := by decide +kernel
theorem dX9_on_41 : decode cX9_on 41 = .ok (.isub, 1) := by decide +kernel
theorem dX9_on_42 : decode cX9_on 42 = .ok (.iload 5, 2) := by decide +kernel
theorem dX9_on_44 : decode cX9_on 44 = .ok (.bipush 11, 2) := by decide +kernel
theorem dX9_on_46 : decode cX9_on 46 = .ok (.irem, 1) := by decide +kernel
theorem dX9_on_47 : decode cX9_on 47 = .ok (.iconst 5, 1) := by decide +kernel
theorem dX9_on_48 : decode cX9_on 48 = .ok (.isub, 1) := by decide +kernel
theorem dX9_on_49 : decode cX9_on 49 = .ok (.invokevirtual 159, 3) := by decide +kernel
theorem dX9_on_52 : decode cX9_on 52 = .ok (.iload 4, 2) := by decide +kernel
theorem dX9_on_54 : decode cX9_on 54 = .ok (.aload_n 0, 1) := by decide +kernel
theorem dX9_on_55 : decode cX9_on 55 = .ok (.iconst 0, 1) := by decide +kernel
theorem dX9_on_56 : decode cX9_on 56 = .ok (.invokevirtual 169, 3) := by decide +kernel
theorem dX9_on_59 : decode cX9_on 59 = .ok (.ifCond .le 7, 3) := by decide +kernel
theorem dX9_on_62 : decode cX9_on 62 = .ok (.iconst 1, 1) := by decide +kernel
theorem dX9_on_63 : decode cX9_on 63 = .ok (.goto 4, 3) := by decide +kernel
theorem dX9_on_66 : decode cX9_on 66 = .ok (.iconst 0, 1) := by decide +kernel
theorem dX9_on_67 : decode cX9_on 67 = .ok (.iadd, 1) := by decide +kernel
theorem dX9_on_68 : decode cX9_on 68 = .ok (.istore 4, 2) := by decide +kernel
theorem dX9_on_70 : decode cX9_on 70 = .ok (.iload 4, 2) := by decide +kernel
theorem dX9_on_72 : decode cX9_on 72 = .ok (.iload_n 2, 1) := by decide +kernel
theorem dX9_on_73 : decode cX9_on 73 = .ok (.if_icmp .ne 18, 3) := by decide +kernel
theorem dX9_on_76 : decode cX9_on 76 = .ok (.bipush 100, 2) := by decide +kernel
theorem dX9_on_78 : decode cX9_on 78 = .ok (.iload 5, 2) := by decide +kernel
theorem dX9_on_80 : decode cX9_on 80 = .ok (.bipush 11, 2) := by decide +kernel
theorem dX9_on_82 : decode cX9_on 82 = .ok (.idiv, 1) := by decide +kernel
theorem dX9_on_83 : decode cX9_on 83 = .ok (.imul, 1) := by decide +kernel
theorem dX9_on_84 : decode cX9_on 84 = .ok (.iload 5, 2) := by decide +kernel
theorem dX9_on_86 : decode cX9_on 86 = .ok (.bipush 11, 2) := by decide +kernel
theorem dX9_on_88 : decode cX9_on 88 = .ok (.irem, 1) := by decide +kernel
theorem dX9_on_89 : decode cX9_on 89 = .ok (.iadd, 1) := by decide +kernel
theorem dX9_on_90 : decode cX9_on 90 = .ok (.ireturn, 1) := by decide +kernel
theorem dX9_on_91 : decode cX9_on 91 = .ok (.iinc 5 1, 3) := by decide +kernel
theorem dX9_on_94 : decode cX9_on 94 = .ok (.goto (-67), 3) := by decide +kernel
theorem dX9_on_97 : decode cX9_on 97 = .ok (.ldc 212, 2) := by decide +kernel
theorem dX9_on_99 : decode cX9_on 99 = .ok (.ireturn, 1) := by decide +kernel
theorem dX9_genus_0 : decode cX9_genus 0 = .ok (.aload_n 0, 1) := by decide +kernel
theorem dX9_genus_1 : decode cX9_genus 1 = .ok (.iload_n 1, 1) := by decide +kernel
theorem dX9_genus_2 : decode cX9_genus 2 = .ok (.invokevirtual 98, 3) := by decide +kernel
theorem dX9_genus_5 : decode cX9_genus 5 = .ok (.ifCond .ne 6, 3) := by decide +kernel
theorem dX9_genus_8 : decode cX9_genus 8 = .ok (.ldc 92, 2) := by decide +kernel
theorem dX9_genus_10 : decode cX9_genus 10 = .ok (.ireturn, 1) := by decide +kernel
theorem dX9_genus_11 : decode cX9_genus 11 = .ok (.aload_n 0, 1) := by decide +kernel
theorem dX9_genus_12 : decode cX9_genus 12 = .ok (.iload_n 1, 1) := by decide +kernel
theorem dX9_genus_13 : decode cX9_genus 13 = .ok (.invokevirtual 133, 3) := by decide +kernel
theorem dX9_genus_16 : decode cX9_genus 16 = .ok (.istore_n 2, 1) := by decide +kernel
theorem dX9_genus_17 : decode cX9_genus 17 = .ok (.aload_n 0, 1) := by decide +kernel
theorem dX9_genus_18 : decode cX9_genus 18 = .ok (.invokevirtual 136, 3) := by decide +kernel
theorem dX9_genus_21 : decode cX9_genus 21 = .ok (.istore_n 3, 1) := by decide +kernel
theorem dX9_genus_22 : decode cX9_genus 22 = .ok (.iload_n 3, 1) := by decide +kernel
theorem dX9_genus_23 : decode cX9_genus 23 = .ok (.ifCond .ge 6, 3) := by decide +kernel
theorem dX9_genus_26 : decode cX9_genus 26 = .ok (.ldc 184, 2) := by decide +kernel
theorem dX9_genus_28 : decode cX9_genus 28 = .ok (.ireturn, 1) := by decide +kernel
theorem dX9_genus_29 : decode cX9_genus 29 = .ok (.iload_n 3, 1) := by decide +kernel
theorem dX9_genus_30 : decode cX9_genus 30 = .ok (.iconst 1, 1) := by decide +kernel
theorem dX9_genus_31 : decode cX9_genus 31 = .ok (.isub, 1) := by decide +kernel
theorem dX9_genus_32 : decode cX9_genus 32 = .ok (.iload_n 3, 1) := by decide +kernel
theorem dX9_genus_33 : decode cX9_genus 33 = .ok (.iconst 2, 1) := by decide +kernel
theorem dX9_genus_34 : decode cX9_genus 34 = .ok (.isub, 1) := by decide +kernel
theorem dX9_genus_35 : decode cX9_genus 35 = .ok (.imul, 1) := by decide +kernel
theorem dX9_genus_36 : decode cX9_genus 36 = .ok (.iconst 2, 1) := by decide +kernel
theorem dX9_genus_37 : decode cX9_genus 37 = .ok (.idiv, 1) := by decide +kernel
theorem dX9_genus_38 : decode cX9_genus 38 = .ok (.istore 4, 2) := by decide +kernel
theorem dX9_genus_40 : decode cX9_genus 40 = .ok (.iconst 0, 1) := by decide +kernel
theorem dX9_genus_41 : decode cX9_genus 41 = .ok (.istore 5, 2) := by decide +kernel
theorem dX9_genus_43 : decode cX9_genus 43 = .ok (.iload 5, 2) := by decide +kernel
theorem dX9_genus_45 : decode cX9_genus 45 = .ok (.bipush 121, 2) := by decide +kernel
theorem dX9_genus_47 : decode cX9_genus 47 = .ok (.if_icmp .ge 50, 3) := by decide +kernel
theorem dX9_genus_50 : decode cX9_genus 50 = .ok (.aload_n 0, 1) := by decide +kernel
theorem dX9_genus_51 : decode cX9_genus 51 = .ok (.iload 5, 2) := by decide +kernel
theorem dX9_genus_53 : decode cX9_genus 53 = .ok (.bipush 11, 2) := by decide +kernel
theorem dX9_genus_55 : decode cX9_genus 55 = .ok (.idiv, 1) := by decide +kernel
theorem dX9_genus_56 : decode cX9_genus 56 = .ok (.iconst 5, 1) := by decide +kernel
theorem dX9_genus_57 : decode cX9_genus 57 = .ok (.isub, 1) := by decide +kernel
theorem dX9_genus_58 : decode cX9_genus 58 = .ok (.iload 5, 2) := by decide +kernel
theorem dX9_genus_60 : decode cX9_genus 60 = .ok (.bipush 11, 2) := by decide +kernel
theorem dX9_genus_62 : decode cX9_genus 62 = .ok (.irem, 1) := by decide +kernel
theorem dX9_genus_63 : decode cX9_genus 63 = .ok (.iconst 5, 1) := by decide +kernel
theorem dX9_genus_64 : decode cX9_genus 64 = .ok (.isub, 1) := by decide +kernel
theorem dX9_genus_65 : decode cX9_genus 65 = .ok (.invokevirtual 159, 3) := by decide +kernel
theorem dX9_genus_68 : decode cX9_genus 68 = .ok (.aload_n 0, 1) := by decide +kernel
theorem dX9_genus_69 : decode cX9_genus 69 = .ok (.iconst 0, 1) := by decide +kernel
theorem dX9_genus_70 : decode cX9_genus 70 = .ok (.invokevirtual 169, 3) := by decide +kernel
theorem dX9_genus_73 : decode cX9_genus 73 = .ok (.iconst 1, 1) := by decide +kernel
theorem dX9_genus_74 : decode cX9_genus 74 = .ok (.if_icmp .le 17, 3) := by decide +kernel
theorem dX9_genus_77 : decode cX9_genus 77 = .ok (.aload_n 0, 1) := by decide +kernel
theorem dX9_genus_78 : decode cX9_genus 78 = .ok (.iconst 3, 1) := by decide +kernel
theorem dX9_genus_79 : decode cX9_genus 79 = .ok (.invokevirtual 205, 3) := by decide +kernel
theorem dX9_genus_82 : decode cX9_genus 82 = .ok (.iload 4, 2) := by decide +kernel
theorem dX9_genus_84 : decode cX9_genus 84 = .ok (.aload_n 0, 1) := by decide +kernel
theorem dX9_genus_85 : decode cX9_genus 85 = .ok (.getfield 199, 3) := by decide +kernel
theorem dX9_genus_88 : decode cX9_genus 88 = .ok (.isub, 1) := by decide +kernel
theorem dX9_genus_89 : decode cX9_genus 89 = .ok (.istore 4, 2) := by decide +kernel
theorem dX9_genus_91 : decode cX9_genus 91 = .ok (.iinc 5 1, 3) := by decide +kernel
theorem dX9_genus_94 : decode cX9_genus 94 = .ok (.goto (-51), 3) := by decide +kernel
theorem dX9_genus_97 : decode cX9_genus 97 = .ok (.iload 4, 2) := by decide +kernel
theorem dX9_genus_99 : decode cX9_genus 99 = .ok (.ireturn, 1) := by decide +kernel
theorem dX9_both_0 : decode cX9_both 0 = .ok (.aload_n 0, 1) := by decide +kernel
theorem dX9_both_1 : decode cX9_both 1 = .ok (.iload_n 1, 1) := by decide +kernel
theorem dX9_both_2 : decode cX9_both 2 = .ok (.invokevirtual 98, 3) := by decide +kernel
theorem dX9_both_5 : decode cX9_both 5 = .ok (.ifCond .eq 11, 3) := by decide +kernel
theorem dX9_both_8 : decode cX9_both 8 = .ok (.aload_n 0, 1) := by decide +kernel
theorem dX9_both_9 : decode cX9_both 9 = .ok (.iload_n 2, 1) := by decide +kernel
theorem dX9_both_10 : decode cX9_both 10 = .ok (.invokevirtual 98, 3) := by decide +kernel
theorem dX9_both_13 : decode cX9_both 13 = .ok (.ifCond .ne 6, 3) := by decide +kernel
theorem dX9_both_16 : decode cX9_both 16 = .ok (.ldc 92, 2) := by decide +kernel
theorem dX9_both_18 : decode cX9_both 18 = .ok (.ireturn, 1) := by decide +kernel
theorem dX9_both_19 : decode cX9_both 19 = .ok (.aload_n 0, 1) := by decide +kernel
theorem dX9_both_20 : decode cX9_both 20 = .ok (.iload_n 1, 1) := by decide +kernel
theorem dX9_both_21 : decode cX9_both 21 = .ok (.invokevirtual 133, 3) := by decide +kernel
theorem dX9_both_24 : decode cX9_both 24 = .ok (.istore_n 3, 1) := by decide +kernel
theorem dX9_both_25 : decode cX9_both 25 = .ok (.iconst 0, 1) := by decide +kernel
theorem dX9_both_26 : decode cX9_both 26 = .ok (.istore 4, 2) := by decide +kernel
theorem dX9_both_28 : decode cX9_both 28 = .ok (.iload 4, 2) := by decide +kernel
theorem dX9_both_30 : decode cX9_both 30 = .ok (.bipush 121, 2) := by decide +kernel
theorem dX9_both_32 : decode cX9_both 32 = .ok (.if_icmp .ge 47, 3) := by decide +kernel
theorem dX9_both_35 : decode cX9_both 35 = .ok (.aload_n 0, 1) := by decide +kernel
theorem dX9_both_36 : decode cX9_both 36 = .ok (.iload 4, 2) := by decide +kernel
theorem dX9_both_38 : decode cX9_both 38 = .ok (.bipush 11, 2) := by decide +kernel
theorem dX9_both_40 : decode cX9_both 40 = .ok (.idiv, 1) := by decide +kernel
theorem dX9_both_41 : decode cX9_both 41 = .ok (.iconst 5, 1) := by decide +kernel
theorem dX9_both_42 : decode cX9_both 42 = .ok (.isub, 1) := by decide +kernel
theorem dX9_both_43 : decode cX9_both 43 = .ok (.iload 4, 2) := by decide +kernel
theorem dX9_both_45 : decode cX9_both 45 = .ok (.bipush 11, 2) := by decide +kernel
theorem dX9_both_47 : decode cX9_both 47 = .ok (.irem, 1) := by decide +kernel
theorem dX9_both_48 : decode cX9_both 48 = .ok (.iconst 5, 1) := by decide +kernel
theorem dX9_both_49 : decode cX9_both 49 = .ok (.isub, 1) := by decide +kernel
theorem dX9_both_50 : decode cX9_both 50 = .ok (.invokevirtual 159, 3) := by decide +kernel
theorem dX9_both_53 : decode cX9_both 53 = .ok (.aload_n 0, 1) := by decide +kernel
theorem dX9_both_54 : decode cX9_both 54 = .ok (.getfield 32, 3) := by decide +kernel
theorem dX9_both_57 : decode cX9_both 57 = .ok (.iload 4, 2) := by decide +kernel
theorem dX9_both_59 : decode cX9_both 59 = .ok (.aload_n 0, 1) := by decide +kernel
theorem dX9_both_60 : decode cX9_both 60 = .ok (.iconst 0, 1) := by decide +kernel
theorem dX9_both_61 : decode cX9_both 61 = .ok (.invokevirtual 169, 3) := by decide +kernel
theorem dX9_both_64 : decode cX9_both 64 = .ok (.ifCond .le 7, 3) := by decide +kernel
theorem dX9_both_67 : decode cX9_both 67 = .ok (.iconst 1, 1) := by decide +kernel
theorem dX9_both_68 : decode cX9_both 68 = .ok (.goto 4, 3) := by decide +kernel
theorem dX9_both_71 : decode cX9_both 71 = .ok (.iconst 0, 1) := by decide +kernel
theorem dX9_both_72 : decode cX9_both 72 = .ok (.bastore, 1) := by decide +kernel
theorem dX9_both_73 : decode cX9_both 73 = .ok (.iinc 4 1, 3) := by decide +kernel
theorem dX9_both_76 : decode cX9_both 76 = .ok (.goto (-48), 3) := by decide +kernel
theorem dX9_both_79 : decode cX9_both 79 = .ok (.aload_n 0, 1) := by decide +kernel
theorem dX9_both_80 : decode cX9_both 80 = .ok (.iload_n 2, 1) := by decide +kernel
theorem dX9_both_81 : decode cX9_both 81 = .ok (.invokevirtual 133, 3) := by decide +kernel
theorem dX9_both_84 : decode cX9_both 84 = .ok (.istore_n 3, 1) := by decide +kernel
theorem dX9_both_85 : decode cX9_both 85 = .ok (.iconst 0, 1) := by decide +kernel
theorem dX9_both_86 : decode cX9_both 86 = .ok (.istore 4, 2) := by decide +kernel
theorem dX9_both_88 : decode cX9_both 88 = .ok (.iconst 0, 1) := by decide +kernel
theorem dX9_both_89 : decode cX9_both 89 = .ok (.istore 5, 2) := by decide +kernel
theorem dX9_both_91 : decode cX9_both 91 = .ok (.iload 5, 2) := by decide +kernel
theorem dX9_both_93 : decode cX9_both 93 = .ok (.bipush 121, 2) := by decide +kernel
theorem dX9_both_95 : decode cX9_both 95 = .ok (.if_icmp .ge 55, 3) := by decide +kernel
theorem dX9_both_98 : decode cX9_both 98 = .ok (.aload_n 0, 1) := by decide +kernel
theorem dX9_both_99 : decode cX9_both 99 = .ok (.iload 5, 2) := by decide +kernel
theorem dX9_both_101 : decode cX9_both 101 = .ok (.bipush 11, 2) := by decide +kernel
theorem dX9_both_103 : decode cX9_both 103 = .ok (.idiv, 1) := by decide +kernel
theorem dX9_both_104 : decode cX9_both 104 = .ok (.iconst 5, 1) := by decide +kernel
theorem dX9_both_105 : decode cX9_both 105 = .ok (.isub, 1) := by decide +kernel
theorem dX9_both_106 : decode cX9_both 106 = .ok (.iload 5, 2) := by decide +kernel
theorem dX9_both_108 : decode cX9_both 108 = .ok (.bipush 11, 2) := by decide +kernel
theorem dX9_both_110 : decode cX9_both 110 = .ok (.irem, 1) := by decide +kernel
theorem dX9_both_111 : decode cX9_both 111 = .ok (.iconst 5, 1) := by decide +kernel
theorem dX9_both_112 : decode cX9_both 112 = .ok (.isub, 1) := by decide +kernel
theorem dX9_both_113 : decode cX9_both 113 = .ok (.invokevirtual 159, 3) := by decide +kernel
theorem dX9_both_116 : decode cX9_both 116 = .ok (.iload 4, 2) := by decide +kernel
theorem dX9_both_118 : decode cX9_both 118 = .ok (.aload_n 0, 1) := by decide +kernel
theorem dX9_both_119 : decode cX9_both 119 = .ok (.getfield 32, 3) := by decide +kernel
theorem dX9_both_122 : decode cX9_both 122 = .ok (.iload 5, 2) := by decide +kernel
theorem dX9_both_124 : decode cX9_both 124 = .ok (.baload, 1) := by decide +kernel
theorem dX9_both_125 : decode cX9_both 125 = .ok (.ifCond .eq 15, 3) := by decide +kernel
theorem dX9_both_128 : decode cX9_both 128 = .ok (.aload_n 0, 1) := by decide +kernel
theorem dX9_both_129 : decode cX9_both 129 = .ok (.iconst 0, 1) := by decide +kernel
theorem dX9_both_130 : decode cX9_both 130 = .ok (.invokevirtual 169, 3) := by decide +kernel
theorem dX9_both_133 : decode cX9_both 133 = .ok (.ifCond .le 7, 3) := by decide +kernel
theorem dX9_both_136 : decode cX9_both 136 = .ok (.iconst 1, 1) := by decide +kernel
theorem dX9_both_137 : decode cX9_both 137 = .ok (.goto 4, 3) := by decide +kernel
theorem dX9_both_140 : decode cX9_both 140 = .ok (.iconst 0, 1) := by decide +kernel
theorem dX9_both_141 : decode cX9_both 141 = .ok (.iadd, 1) := by decide +kernel
theorem dX9_both_142 : decode cX9_both 142 = .ok (.istore 4, 2) := by decide +kernel
theorem dX9_both_144 : decode cX9_both 144 = .ok (.iinc 5 1, 3) := by decide +kernel
theorem dX9_both_147 : decode cX9_both 147 = .ok (.goto (-56), 3) := by decide +kernel
theorem dX9_both_150 : decode cX9_both 150 = .ok (.iload 4, 2) := by decide +kernel
theorem dX9_both_152 : decode cX9_both 152 = .ok (.ireturn, 1) := by decide +kernel
theorem dX9_feed_0 : decode cX9_feed 0 = .ok (.aload_n 0, 1) := by decide +kernel
theorem dX9_feed_1 : decode cX9_feed 1 = .ok (.getfield 217, 3) := by decide +kernel
theorem dX9_feed_4 : decode cX9_feed 4 = .ok (.bipush 12, 2) := by decide +kernel
theorem dX9_feed_6 : decode cX9_feed 6 = .ok (.iadd, 1) := by decide +kernel
theorem dX9_feed_7 : decode cX9_feed 7 = .ok (.bipush 96, 2) := by decide +kernel
theorem dX9_feed_9 : decode cX9_feed 9 = .ok (.if_icmp .le 6, 3) := by decide +kernel
theorem dX9_feed_12 : decode cX9_feed 12 = .ok (.ldc 93, 2) := by decide +kernel
theorem dX9_feed_14 : decode cX9_feed 14 = .ok (.ireturn, 1) := by decide +kernel
theorem dX9_feed_15 : decode cX9_feed 15 = .ok (.iconst 0, 1) := by decide +kernel
theorem dX9_feed_16 : decode cX9_feed 16 = .ok (.istore 4, 2) := by decide +kernel
theorem dX9_feed_18 : decode cX9_feed 18 = .ok (.iload 4, 2) := by decide +kernel
theorem dX9_feed_20 : decode cX9_feed 20 = .ok (.bipush 12, 2) := by decide +kernel
theorem dX9_feed_22 : decode cX9_feed 22 = .ok (.if_icmp .ge 62, 3) := by decide +kernel
theorem dX9_feed_25 : decode cX9_feed 25 = .ok (.iload 4, 2) := by decide +kernel
theorem dX9_feed_27 : decode cX9_feed 27 = .ok (.iconst 4, 1) := by decide +kernel
theorem dX9_feed_28 : decode cX9_feed 28 = .ok (.if_icmp .ge 7, 3) := by decide +kernel
theorem dX9_feed_31 : decode cX9_feed 31 = .ok (.iload_n 1, 1) := by decide +kernel
theorem dX9_feed_32 : decode cX9_feed 32 = .ok (.goto 15, 3) := by decide +kernel
theorem dX9_feed_35 : decode cX9_feed 35 = .ok (.iload 4, 2) := by decide +kernel
theorem dX9_feed_37 : decode cX9_feed 37 = .ok (.bipush 8, 2) := by decide +kernel
theorem dX9_feed_39 : decode cX9_feed 39 = .ok (.if_icmp .ge 7, 3) := by decide +kernel
theorem dX9_feed_42 : decode cX9_feed 42 = .ok (.iload_n 2, 1) := by decide +kernel
theorem dX9_feed_43 : decode cX9_feed 43 = .ok (.goto 4, 3) := by decide +kernel
theorem dX9_feed_46 : decode cX9_feed 46 = .ok (.iload_n 3, 1) := by decide +kernel
theorem dX9_feed_47 : decode cX9_feed 47 = .ok (.istore 5, 2) := by decide +kernel
theorem dX9_feed_49 : decode cX9_feed 49 = .ok (.aload_n 0, 1) := by decide +kernel
theorem dX9_feed_50 : decode cX9_feed 50 = .ok (.getfield 36, 3) := by decide +kernel
theorem dX9_feed_53 : decode cX9_feed 53 = .ok (.aload_n 0, 1) := by decide +kernel
theorem dX9_feed_54 : decode cX9_feed 54 = .ok (.getfield 217, 3) := by decide +kernel
theorem dX9_feed_57 : decode cX9_feed 57 = .ok (.iload 4, 2) := by decide +kernel
theorem dX9_feed_59 : decode cX9_feed 59 = .ok (.iadd, 1) := by decide +kernel
theorem dX9_feed_60 : decode cX9_feed 60 = .ok (.iload 5, 2) := by decide +kernel
theorem dX9_feed_62 : decode cX9_feed 62 = .ok (.bipush 24, 2) := by decide +kernel
theorem dX9_feed_64 : decode cX9_feed 64 = .ok (.bipush 8, 2) := by decide +kernel
theorem dX9_feed_66 : decode cX9_feed 66 = .ok (.iload 4, 2) := by decide +kernel
theorem dX9_feed_68 : decode cX9_feed 68 = .ok (.iconst 4, 1) := by decide +kernel
theorem dX9_feed_69 : decode cX9_feed 69 = .ok (.irem, 1) := by decide +kernel
theorem dX9_feed_70 : decode cX9_feed 70 = .ok (.imul, 1) := by decide +kernel
theorem dX9_feed_71 : decode cX9_feed 71 = .ok (.isub, 1) := by decide +kernel
theorem dX9_feed_72 : decode cX9_feed 72 = .ok (.ishr, 1) := by decide +kernel
theorem dX9_feed_73 : decode cX9_feed 73 = .ok (.sipush 255, 3) := by decide +kernel
theorem dX9_feed_76 : decode cX9_feed 76 = .ok (.iand, 1) := by decide +kernel
theorem dX9_feed_77 : decode cX9_feed 77 = .ok (.iastore, 1) := by decide +kernel
theorem dX9_feed_78 : decode cX9_feed 78 = .ok (.iinc 4 1, 3) := by decide +kernel
theorem dX9_feed_81 : decode cX9_feed 81 = .ok (.goto (-63), 3) := by decide +kernel
theorem dX9_feed_84 : decode cX9_feed 84 = .ok (.aload_n 0, 1) := by decide +kernel
theorem dX9_feed_85 : decode cX9_feed 85 = .ok (.dup, 1) := by decide +kernel
theorem dX9_feed_86 : decode cX9_feed 86 = .ok (.getfield 217, 3) := by decide +kernel
theorem dX9_feed_89 : decode cX9_feed 89 = .ok (.bipush 12, 2) := by decide +kernel
theorem dX9_feed_91 : decode cX9_feed 91 = .ok (.iadd, 1) := by decide +kernel
theorem dX9_feed_92 : decode cX9_feed 92 = .ok (.putfield 217, 3) := by decide +kernel
theorem dX9_feed_95 : decode cX9_feed 95 = .ok (.aload_n 0, 1) := by decide +kernel
theorem dX9_feed_96 : decode cX9_feed 96 = .ok (.getfield 217, 3) := by decide +kernel
theorem dX9_feed_99 : decode cX9_feed 99 = .ok (.ireturn, 1) := by decide +kernel
theorem dX9_trim_0 : decode cX9_trim 0 = .ok (.iload_n 1, 1) := by decide +kernel
theorem dX9_trim_1 : decode cX9_trim 1 = .ok (.iconst 0, 1) := by decide +kernel
theorem dX9_trim_2 : decode cX9_trim 2 = .ok (.aload_n 0, 1) := by decide +kernel
theorem dX9_trim_3 : decode cX9_trim 3 = .ok (.getfield 217, 3) := by decide +kernel
theorem dX9_trim_6 : decode cX9_trim 6 = .ok (.invokestatic 88, 3) := by decide +kernel
theorem dX9_trim_9 : decode cX9_trim 9 = .ok (.ifCond .ne 6, 3) := by decide +kernel
theorem dX9_trim_12 : decode cX9_trim 12 = .ok (.ldc 92, 2) := by decide +kernel
theorem dX9_trim_14 : decode cX9_trim 14 = .ok (.ireturn, 1) := by decide +kernel
theorem dX9_trim_15 : decode cX9_trim 15 = .ok (.aload_n 0, 1) := by decide +kernel
theorem dX9_trim_16 : decode cX9_trim 16 = .ok (.iload_n 1, 1) := by decide +kernel
theorem dX9_trim_17 : decode cX9_trim 17 = .ok (.putfield 217, 3) := by decide +kernel
theorem dX9_trim_20 : decode cX9_trim 20 = .ok (.iload_n 1, 1) := by decide +kernel
theorem dX9_trim_21 : decode cX9_trim 21 = .ok (.ireturn, 1) := by decide +kernel
theorem dX9_isLetter_0 : decode cX9_isLetter 0 = .ok (.iload_n 1, 1) := by decide +kernel
theorem dX9_isLetter_1 : decode cX9_isLetter 1 = .ok (.aload_n 0, 1) := by decide +kernel
theorem dX9_isLetter_2 : decode cX9_isLetter 2 = .ok (.getfield 217, 3) := by decide +kernel
theorem dX9_isLetter_5 : decode cX9_isLetter 5 = .ok (.if_icmp .ge 29, 3) := by decide +kernel
theorem dX9_isLetter_8 : decode cX9_isLetter 8 = .ok (.aload_n 0, 1) := by decide +kernel
theorem dX9_isLetter_9 : decode cX9_isLetter 9 = .ok (.getfield 36, 3) := by decide +kernel
theorem dX9_isLetter_12 : decode cX9_isLetter 12 = .ok (.iload_n 1, 1) := by decide +kernel
theorem dX9_isLetter_13 : decode cX9_isLetter 13 = .ok (.iaload, 1) := by decide +kernel
theorem dX9_isLetter_14 : decode cX9_isLetter 14 = .ok (.bipush 97, 2) := by decide +kernel
theorem dX9_isLetter_16 : decode cX9_isLetter 16 = .ok (.if_icmp .lt 18, 3) := by decide +kernel
theorem dX9_isLetter_19 : decode cX9_isLetter 19 = .ok (.aload_n 0, 1) := by decide +kernel
theorem dX9_isLetter_20 : decode cX9_isLetter 20 = .ok (.getfield 36, 3) := by decide +kernel
theorem dX9_isLetter_23 : decode cX9_isLetter 23 = .ok (.iload_n 1, 1) := by decide +kernel
theorem dX9_isLetter_24 : decode cX9_isLetter 24 = .ok (.iaload, 1) := by decide +kernel
theorem dX9_isLetter_25 : decode cX9_isLetter 25 = .ok (.bipush 122, 2) := by decide +kernel
theorem dX9_isLetter_27 : decode cX9_isLetter 27 = .ok (.if_icmp .gt 7, 3) := by decide +kernel
theorem dX9_isLetter_30 : decode cX9_isLetter 30 = .ok (.iconst 1, 1) := by decide +kernel
theorem dX9_isLetter_31 : decode cX9_isLetter 31 = .ok (.goto 4, 3) := by decide +kernel
theorem dX9_isLetter_34 : decode cX9_isLetter 34 = .ok (.iconst 0, 1) := by decide +kernel
theorem dX9_isLetter_35 : decode cX9_isLetter 35 = .ok (.ireturn, 1) := by decide +kernel
theorem dX9_isFigure_0 : decode cX9_isFigure 0 = .ok (.iload_n 1, 1) := by decide +kernel
theorem dX9_isFigure_1 : decode cX9_isFigure 1 = .ok (.aload_n 0, 1) := by decide +kernel
theorem dX9_isFigure_2 : decode cX9_isFigure 2 = .ok (.getfield 217, 3) := by decide +kernel
theorem dX9_isFigure_5 : decode cX9_isFigure 5 = .ok (.if_icmp .ge 29, 3) := by decide +kernel
theorem dX9_isFigure_8 : decode cX9_isFigure 8 = .ok (.aload_n 0, 1) := by decide +kernel
theorem dX9_isFigure_9 : decode cX9_isFigure 9 = .ok (.getfield 36, 3) := by decide +kernel
theorem dX9_isFigure_12 : decode cX9_isFigure 12 = .ok (.iload_n 1, 1) := by decide +kernel
theorem dX9_isFigure_13 : decode cX9_isFigure 13 = .ok (.iaload, 1) := by decide +kernel
theorem dX9_isFigure_14 : decode cX9_isFigure 14 = .ok (.bipush 48, 2) := by decide +kernel
theorem dX9_isFigure_16 : decode cX9_isFigure 16 = .ok (.if_icmp .lt 18, 3) := by decide +kernel
theorem dX9_isFigure_19 : decode cX9_isFigure 19 = .ok (.aload_n 0, 1) := by decide +kernel
theorem dX9_isFigure_20 : decode cX9_isFigure 20 = .ok (.getfield 36, 3) := by decide +kernel
theorem dX9_isFigure_23 : decode cX9_isFigure 23 = .ok (.iload_n 1, 1) := by decide +kernel
theorem dX9_isFigure_24 : decode cX9_isFigure 24 = .ok (.iaload, 1) := by decide +kernel
theorem dX9_isFigure_25 : decode cX9_isFigure 25 = .ok (.bipush 57, 2) := by decide +kernel
theorem dX9_isFigure_27 : decode cX9_isFigure 27 = .ok (.if_icmp .gt 7, 3) := by decide +kernel
theorem dX9_isFigure_30 : decode cX9_isFigure 30 = .ok (.iconst 1, 1) := by decide +kernel
theorem dX9_isFigure_31 : decode cX9_isFigure 31 = .ok (.goto 4, 3) := by decide +kernel
theorem dX9_isFigure_34 : decode cX9_isFigure 34 = .ok (.iconst 0, 1) := by decide +kernel
theorem dX9_isFigure_35 : decode cX9_isFigure 35 = .ok (.ireturn, 1) := by decide +kernel
theorem dX9_go_0 : decode cX9_go 0 = .ok (.aload_n 0, 1) := by decide +kernel
theorem dX9_go_1 : decode cX9_go 1 = .ok (.getfield 220, 3) := by decide +kernel
theorem dX9_go_4 : decode cX9_go 4 = .ok (.aload_n 0, 1) := by decide +kernel
theorem dX9_go_5 : decode cX9_go 5 = .ok (.getfield 217, 3) := by decide +kernel
theorem dX9_go_8 : decode cX9_go 8 = .ok (.if_icmp .ge 30, 3) := by decide +kernel
theorem dX9_go_11 : decode cX9_go 11 = .ok (.aload_n 0, 1) := by decide +kernel
theorem dX9_go_12 : decode cX9_go 12 = .ok (.getfield 36, 3) := by decide +kernel
theorem dX9_go_15 : decode cX9_go 15 = .ok (.aload_n 0, 1) := by decide +kernel
theorem dX9_go_16 : decode cX9_go 16 = .ok (.getfield 220, 3) := by decide +kernel
theorem dX9_go_19 : decode cX9_go 19 = .ok (.iaload, 1) := by decide +kernel
theorem dX9_go_20 : decode cX9_go 20 = .ok (.bipush 32, 2) := by decide +kernel
theorem dX9_go_22 : decode cX9_go 22 = .ok (.if_icmp .ne 16, 3) := by decide +kernel
theorem dX9_go_25 : decode cX9_go 25 = .ok (.aload_n 0, 1) := by decide +kernel
theorem dX9_go_26 : decode cX9_go 26 = .ok (.dup, 1) := by decide +kernel
theorem dX9_go_27 : decode cX9_go 27 = .ok (.getfield 220, 3) := by decide +kernel
theorem dX9_go_30 : decode cX9_go 30 = .ok (.iconst 1, 1) := by decide +kernel
theorem dX9_go_31 : decode cX9_go 31 = .ok (.iadd, 1) := by decide +kernel
theorem dX9_go_32 : decode cX9_go 32 = .ok (.putfield 220, 3) := by decide +kernel
theorem dX9_go_35 : decode cX9_go 35 = .ok (.goto (-35), 3) := by decide +kernel
theorem dX9_go_38 : decode cX9_go 38 = .ok (.aload_n 0, 1) := by decide +kernel
theorem dX9_go_39 : decode cX9_go 39 = .ok (.aload_n 0, 1) := by decide +kernel
theorem dX9_go_40 : decode cX9_go 40 = .ok (.getfield 220, 3) := by decide +kernel
theorem dX9_go_43 : decode cX9_go 43 = .ok (.putfield 223, 3) := by decide +kernel
theorem dX9_go_46 : decode cX9_go 46 = .ok (.aload_n 0, 1) := by decide +kernel
theorem dX9_go_47 : decode cX9_go 47 = .ok (.getfield 223, 3) := by decide +kernel
theorem dX9_go_50 : decode cX9_go 50 = .ok (.aload_n 0, 1) := by decide +kernel
theorem dX9_go_51 : decode cX9_go 51 = .ok (.getfield 226, 3) := by decide +kernel
theorem dX9_go_54 : decode cX9_go 54 = .ok (.if_icmp .ne 7, 3) := by decide +kernel
theorem dX9_go_57 : decode cX9_go 57 = .ok (.iconst 1, 1) := by decide +kernel
theorem dX9_go_58 : decode cX9_go 58 = .ok (.goto 4, 3) := by decide +kernel
theorem dX9_go_61 : decode cX9_go 61 = .ok (.iconst 0, 1) := by decide +kernel
theorem dX9_go_62 : decode cX9_go 62 = .ok (.istore_n 1, 1) := by decide +kernel
theorem dX9_go_63 : decode cX9_go 63 = .ok (.aload_n 0, 1) := by decide +kernel
theorem dX9_go_64 : decode cX9_go 64 = .ok (.getfield 223, 3) := by decide +kernel
theorem dX9_go_67 : decode cX9_go 67 = .ok (.aload_n 0, 1) := by decide +kernel
theorem dX9_go_68 : decode cX9_go 68 = .ok (.getfield 217, 3) := by decide +kernel
theorem dX9_go_71 : decode cX9_go 71 = .ok (.if_icmp .ne 11, 3) := by decide +kernel
theorem dX9_go_74 : decode cX9_go 74 = .ok (.aload_n 0, 1) := by decide +kernel
theorem dX9_go_75 : decode cX9_go 75 = .ok (.iconst 0, 1) := by decide +kernel
theorem dX9_go_76 : decode cX9_go 76 = .ok (.putfield 229, 3) := by decide +kernel
theorem dX9_go_79 : decode cX9_go 79 = .ok (.goto 224, 3) := by decide +kernel
theorem dX9_go_82 : decode cX9_go 82 = .ok (.aload_n 0, 1) := by decide +kernel
theorem dX9_go_83 : decode cX9_go 83 = .ok (.aload_n 0, 1) := by decide +kernel
theorem dX9_go_84 : decode cX9_go 84 = .ok (.getfield 223, 3) := by decide +kernel
theorem dX9_go_87 : decode cX9_go 87 = .ok (.invokevirtual 232, 3) := by decide +kernel
theorem dX9_go_90 : decode cX9_go 90 = .ok (.ifCond .eq 64, 3) := by decide +kernel
theorem dX9_go_93 : decode cX9_go 93 = .ok (.aload_n 0, 1) := by decide +kernel
theorem dX9_go_94 : decode cX9_go 94 = .ok (.aload_n 0, 1) := by decide +kernel
theorem dX9_go_95 : decode cX9_go 95 = .ok (.getfield 220, 3) := by decide +kernel
theorem dX9_go_98 : decode cX9_go 98 = .ok (.invokevirtual 232, 3) := by decide +kernel
theorem dX9_go_101 : decode cX9_go 101 = .ok (.ifCond .eq 16, 3) := by decide +kernel
theorem dX9_go_104 : decode cX9_go 104 = .ok (.aload_n 0, 1) := by decide +kernel
theorem dX9_go_105 : decode cX9_go 105 = .ok (.dup, 1) := by decide +kernel
theorem dX9_go_106 : decode cX9_go 106 = .ok (.getfield 220, 3) := by decide +kernel
theorem dX9_go_109 : decode cX9_go 109 = .ok (.iconst 1, 1) := by decide +kernel
theorem dX9_go_110 : decode cX9_go 110 = .ok (.iadd, 1) := by decide +kernel
theorem dX9_go_111 : decode cX9_go 111 = .ok (.putfield 220, 3) := by decide +kernel
theorem dX9_go_114 : decode cX9_go 114 = .ok (.goto (-21), 3) := by decide +kernel
theorem dX9_go_117 : decode cX9_go 117 = .ok (.aload_n 0, 1) := by decide +kernel
theorem dX9_go_118 : decode cX9_go 118 = .ok (.iload_n 1, 1) := by decide +kernel
theorem dX9_go_119 : decode cX9_go 119 = .ok (.ifCond .eq 7, 3) := by decide +kernel
theorem dX9_go_122 : decode cX9_go 122 = .ok (.iconst 4, 1) := by decide +kernel
theorem dX9_go_123 : decode cX9_go 123 = .ok (.goto 4, 3) := by decide +kernel
theorem dX9_go_126 : decode cX9_go 126 = .ok (.iconst 1, 1) := by decide +kernel
theorem dX9_go_127 : decode cX9_go 127 = .ok (.putfield 229, 3) := by decide +kernel
theorem dX9_go_130 : decode cX9_go 130 = .ok (.aload_n 0, 1) := by decide +kernel
theorem dX9_go_131 : decode cX9_go 131 = .ok (.aload_n 0, 1) := by decide +kernel
theorem dX9_go_132 : decode cX9_go 132 = .ok (.getfield 36, 3) := by decide +kernel
theorem dX9_go_135 : decode cX9_go 135 = .ok (.aload_n 0, 1) := by decide +kernel
theorem dX9_go_136 : decode cX9_go 136 = .ok (.getfield 223, 3) := by decide +kernel
theorem dX9_go_139 : decode cX9_go 139 = .ok (.iaload, 1) := by decide +kernel
theorem dX9_go_140 : decode cX9_go 140 = .ok (.putfield 235, 3) := by decide +kernel
theorem dX9_go_143 : decode cX9_go 143 = .ok (.aload_n 0, 1) := by decide +kernel
theorem dX9_go_144 : decode cX9_go 144 = .ok (.aload_n 0, 1) := by decide +kernel
theorem dX9_go_145 : decode cX9_go 145 = .ok (.getfield 220, 3) := by decide +kernel
theorem dX9_go_148 : decode cX9_go 148 = .ok (.putfield 226, 3) := by decide +kernel
theorem dX9_go_151 : decode cX9_go 151 = .ok (.goto 152, 3) := by decide +kernel
theorem dX9_go_154 : decode cX9_go 154 = .ok (.aload_n 0, 1) := by decide +kernel
theorem dX9_go_155 : decode cX9_go 155 = .ok (.aload_n 0, 1) := by decide +kernel
theorem dX9_go_156 : decode cX9_go 156 = .ok (.getfield 223, 3) := by decide +kernel
theorem dX9_go_159 : decode cX9_go 159 = .ok (.invokevirtual 238, 3) := by decide +kernel
theorem dX9_go_162 : decode cX9_go 162 = .ok (.ifCond .eq 113, 3) := by decide +kernel
theorem dX9_go_165 : decode cX9_go 165 = .ok (.aload_n 0, 1) := by decide +kernel
theorem dX9_go_166 : decode cX9_go 166 = .ok (.iconst 0, 1) := by decide +kernel
theorem dX9_go_167 : decode cX9_go 167 = .ok (.putfield 235, 3) := by decide +kernel
theorem dX9_go_170 : decode cX9_go 170 = .ok (.aload_n 0, 1) := by decide +kernel
theorem dX9_go_171 : decode cX9_go 171 = .ok (.aload_n 0, 1) := by decide +kernel
theorem dX9_go_172 : decode cX9_go 172 = .ok (.getfield 220, 3) := by decide +kernel
theorem dX9_go_175 : decode cX9_go 175 = .ok (.invokevirtual 238, 3) := by decide +kernel
theorem dX9_go_178 : decode cX9_go 178 = .ok (.ifCond .eq 60, 3) := by decide +kernel
theorem dX9_go_181 : decode cX9_go 181 = .ok (.aload_n 0, 1) := by decide +kernel
theorem dX9_go_182 : decode cX9_go 182 = .ok (.aload_n 0, 1) := by decide +kernel
theorem dX9_go_183 : decode cX9_go 183 = .ok (.getfield 220, 3) := by decide +kernel
theorem dX9_go_186 : decode cX9_go 186 = .ok (.aload_n 0, 1) := by decide +kernel
theorem dX9_go_187 : decode cX9_go 187 = .ok (.getfield 223, 3) := by decide +kernel
theorem dX9_go_190 : decode cX9_go 190 = .ok (.isub, 1) := by decide +kernel
theorem dX9_go_191 : decode cX9_go 191 = .ok (.iconst 4, 1) := by decide +kernel
theorem dX9_go_192 : decode cX9_go 192 = .ok (.if_icmp .ge 26, 3) := by decide +kernel
theorem dX9_go_195 : decode cX9_go 195 = .ok (.bipush 10, 2) := by decide +kernel
theorem dX9_go_197 : decode cX9_go 197 = .ok (.aload_n 0, 1) := by decide +kernel
theorem dX9_go_198 : decode cX9_go 198 = .ok (.getfield 235, 3) := by decide +kernel
theorem dX9_go_201 : decode cX9_go 201 = .ok (.imul, 1) := by decide +kernel
theorem dX9_go_202 : decode cX9_go 202 = .ok (.aload_n 0, 1) := by decide +kernel
theorem dX9_go_203 : decode cX9_go 203 = .ok (.getfield 36, 3) := by decide +kernel
theorem dX9_go_206 : decode cX9_go 206 = .ok (.aload_n 0, 1) := by decide +kernel
theorem dX9_go_207 : decode cX9_go 207 = .ok (.getfield 220, 3) := by decide +kernel
theorem dX9_go_210 : decode cX9_go 210 = .ok (.iaload, 1) := by decide +kernel
theorem dX9_go_211 : decode cX9_go 211 = .ok (.iadd, 1) := by decide +kernel
theorem dX9_go_212 : decode cX9_go 212 = .ok (.bipush 48, 2) := by decide +kernel
theorem dX9_go_214 : decode cX9_go 214 = .ok (.isub, 1) := by decide +kernel
theorem dX9_go_215 : decode cX9_go 215 = .ok (.goto 7, 3) := by decide +kernel
theorem dX9_go_218 : decode cX9_go 218 = .ok (.aload_n 0, 1) := by decide +kernel
theorem dX9_go_219 : decode cX9_go 219 = .ok (.getfield 235, 3) := by decide +kernel
theorem dX9_go_222 : decode cX9_go 222 = .ok (.putfield 235, 3) := by decide +kernel
theorem dX9_go_225 : decode cX9_go 225 = .ok (.aload_n 0, 1) := by decide +kernel
theorem dX9_go_226 : decode cX9_go 226 = .ok (.dup, 1) := by decide +kernel
theorem dX9_go_227 : decode cX9_go 227 = .ok (.getfield 220, 3) := by decide +kernel
theorem dX9_go_230 : decode cX9_go 230 = .ok (.iconst 1, 1) := by decide +kernel
theorem dX9_go_231 : decode cX9_go 231 = .ok (.iadd, 1) := by decide +kernel
theorem dX9_go_232 : decode cX9_go 232 = .ok (.putfield 220, 3) := by decide +kernel
theorem dX9_go_235 : decode cX9_go 235 = .ok (.goto (-65), 3) := by decide +kernel
theorem dX9_go_238 : decode cX9_go 238 = .ok (.aload_n 0, 1) := by decide +kernel
theorem dX9_go_239 : decode cX9_go 239 = .ok (.iload_n 1, 1) := by decide +kernel
theorem dX9_go_240 : decode cX9_go 240 = .ok (.ifCond .ne 16, 3) := by decide +kernel
theorem dX9_go_243 : decode cX9_go 243 = .ok (.aload_n 0, 1) := by decide +kernel
theorem dX9_go_244 : decode cX9_go 244 = .ok (.getfield 220, 3) := by decide +kernel
theorem dX9_go_247 : decode cX9_go 247 = .ok (.aload_n 0, 1) := by decide +kernel
theorem dX9_go_248 : decode cX9_go 248 = .ok (.getfield 223, 3) := by decide +kernel
theorem dX9_go_251 : decode cX9_go 251 = .ok (.isub, 1) := by decide +kernel
theorem dX9_go_252 : decode cX9_go 252 = .ok (.iconst 4, 1) := by decide +kernel
theorem dX9_go_253 : decode cX9_go 253 = .ok (.if_icmp .le 7, 3) := by decide +kernel
theorem dX9_go_256 : decode cX9_go 256 = .ok (.iconst 4, 1) := by decide +kernel
theorem dX9_go_257 : decode cX9_go 257 = .ok (.goto 4, 3) := by decide +kernel
theorem dX9_go_260 : decode cX9_go 260 = .ok (.iconst 2, 1) := by decide +kernel
theorem dX9_go_261 : decode cX9_go 261 = .ok (.putfield 229, 3) := by decide +kernel
theorem dX9_go_264 : decode cX9_go 264 = .ok (.aload_n 0, 1) := by decide +kernel
theorem dX9_go_265 : decode cX9_go 265 = .ok (.aload_n 0, 1) := by decide +kernel
theorem dX9_go_266 : decode cX9_go 266 = .ok (.getfield 220, 3) := by decide +kernel
theorem dX9_go_269 : decode cX9_go 269 = .ok (.putfield 226, 3) := by decide +kernel
theorem dX9_go_272 : decode cX9_go 272 = .ok (.goto 31, 3) := by decide +kernel
theorem dX9_go_275 : decode cX9_go 275 = .ok (.aload_n 0, 1) := by decide +kernel
theorem dX9_go_276 : decode cX9_go 276 = .ok (.iconst 3, 1) := by decide +kernel
theorem dX9_go_277 : decode cX9_go 277 = .ok (.putfield 229, 3) := by decide +kernel
theorem dX9_go_280 : decode cX9_go 280 = .ok (.aload_n 0, 1) := by decide +kernel
theorem dX9_go_281 : decode cX9_go 281 = .ok (.aload_n 0, 1) := by decide +kernel
theorem dX9_go_282 : decode cX9_go 282 = .ok (.getfield 36, 3) := by decide +kernel
theorem dX9_go_285 : decode cX9_go 285 = .ok (.aload_n 0, 1) := by decide +kernel
theorem dX9_go_286 : decode cX9_go 286 = .ok (.getfield 223, 3) := by decide +kernel
theorem dX9_go_289 : decode cX9_go 289 = .ok (.iaload, 1) := by decide +kernel
theorem dX9_go_290 : decode cX9_go 290 = .ok (.putfield 235, 3) := by decide +kernel
theorem dX9_go_293 : decode cX9_go 293 = .ok (.aload_n 0, 1) := by decide +kernel
theorem dX9_go_294 : decode cX9_go 294 = .ok (.dup, 1) := by decide +kernel
theorem dX9_go_295 : decode cX9_go 295 = .ok (.getfield 220, 3) := by decide +kernel
theorem dX9_go_298 : decode cX9_go 298 = .ok (.iconst 1, 1) := by decide +kernel
theorem dX9_go_299 : decode cX9_go 299 = .ok (.iadd, 1) := by decide +kernel
theorem dX9_go_300 : decode cX9_go 300 = .ok (.putfield 220, 3) := by decide +kernel
theorem dX9_go_303 : decode cX9_go 303 = .ok (.return_, 1) := by decide +kernel
theorem dX9_takesKey_0 : decode cX9_takesKey 0 = .ok (.aload_n 0, 1) := by decide +kernel
theorem dX9_takesKey_1 : decode cX9_takesKey 1 = .ok (.getfield 229, 3) := by decide +kernel
theorem dX9_takesKey_4 : decode cX9_takesKey 4 = .ok (.iconst 1, 1) := by decide +kernel
theorem dX9_takesKey_5 : decode cX9_takesKey 5 = .ok (.if_icmp .eq 5, 3) := by decide +kernel
theorem dX9_takesKey_8 : decode cX9_takesKey 8 = .ok (.iconst 0, 1) := by decide +kernel
theorem dX9_takesKey_9 : decode cX9_takesKey 9 = .ok (.ireturn, 1) := by decide +kernel
theorem dX9_takesKey_10 : decode cX9_takesKey 10 = .ok (.iconst 0, 1) := by decide +kernel
theorem dX9_takesKey_11 : decode cX9_takesKey 11 = .ok (.istore_n 1, 1) := by decide +kernel
theorem dX9_takesKey_12 : decode cX9_takesKey 12 = .ok (.iload_n 1, 1) := by decide +kernel
theorem dX9_takesKey_13 : decode cX9_takesKey 13 = .ok (.iconst 3, 1) := by decide +kernel
theorem dX9_takesKey_14 : decode cX9_takesKey 14 = .ok (.if_icmp .ge 113, 3) := by decide +kernel
theorem dX9_takesKey_17 : decode cX9_takesKey 17 = .ok (.aload_n 0, 1) := by decide +kernel
theorem dX9_takesKey_18 : decode cX9_takesKey 18 = .ok (.getfield 43, 3) := by decide +kernel
theorem dX9_takesKey_21 : decode cX9_takesKey 21 = .ok (.iload_n 1, 1) := by decide +kernel
theorem dX9_takesKey_22 : decode cX9_takesKey 22 = .ok (.iconst 1, 1) := by decide +kernel
theorem dX9_takesKey_23 : decode cX9_takesKey 23 = .ok (.iadd, 1) := by decide +kernel
theorem dX9_takesKey_24 : decode cX9_takesKey 24 = .ok (.iaload, 1) := by decide +kernel
theorem dX9_takesKey_25 : decode cX9_takesKey 25 = .ok (.aload_n 0, 1) := by decide +kernel
theorem dX9_takesKey_26 : decode cX9_takesKey 26 = .ok (.getfield 43, 3) := by decide +kernel
theorem dX9_takesKey_29 : decode cX9_takesKey 29 = .ok (.iload_n 1, 1) := by decide +kernel
theorem dX9_takesKey_30 : decode cX9_takesKey 30 = .ok (.iaload, 1) := by decide +kernel
theorem dX9_takesKey_31 : decode cX9_takesKey 31 = .ok (.isub, 1) := by decide +kernel
theorem dX9_takesKey_32 : decode cX9_takesKey 32 = .ok (.istore_n 2, 1) := by decide +kernel
theorem dX9_takesKey_33 : decode cX9_takesKey 33 = .ok (.iload_n 2, 1) := by decide +kernel
theorem dX9_takesKey_34 : decode cX9_takesKey 34 = .ok (.aload_n 0, 1) := by decide +kernel
theorem dX9_takesKey_35 : decode cX9_takesKey 35 = .ok (.getfield 220, 3) := by decide +kernel
theorem dX9_takesKey_38 : decode cX9_takesKey 38 = .ok (.aload_n 0, 1) := by decide +kernel
theorem dX9_takesKey_39 : decode cX9_takesKey 39 = .ok (.getfield 223, 3) := by decide +kernel
theorem dX9_takesKey_42 : decode cX9_takesKey 42 = .ok (.isub, 1) := by decide +kernel
theorem dX9_takesKey_43 : decode cX9_takesKey 43 = .ok (.if_icmp .ne 7, 3) := by decide +kernel
theorem dX9_takesKey_46 : decode cX9_takesKey 46 = .ok (.iconst 1, 1) := by decide +kernel
theorem dX9_takesKey_47 : decode cX9_takesKey 47 = .ok (.goto 4, 3) := by decide +kernel
theorem dX9_takesKey_50 : decode cX9_takesKey 50 = .ok (.iconst 0, 1) := by decide +kernel
theorem dX9_takesKey_51 : decode cX9_takesKey 51 = .ok (.istore_n 3, 1) := by decide +kernel
theorem dX9_takesKey_52 : decode cX9_takesKey 52 = .ok (.iconst 0, 1) := by decide +kernel
theorem dX9_takesKey_53 : decode cX9_takesKey 53 = .ok (.istore 4, 2) := by decide +kernel
theorem dX9_takesKey_55 : decode cX9_takesKey 55 = .ok (.iload 4, 2) := by decide +kernel
theorem dX9_takesKey_57 : decode cX9_takesKey 57 = .ok (.iload_n 2, 1) := by decide +kernel
theorem dX9_takesKey_58 : decode cX9_takesKey 58 = .ok (.if_icmp .ge 48, 3) := by decide +kernel
theorem dX9_takesKey_61 : decode cX9_takesKey 61 = .ok (.iload_n 3, 1) := by decide +kernel
theorem dX9_takesKey_62 : decode cX9_takesKey 62 = .ok (.ifCond .eq 44, 3) := by decide +kernel
theorem dX9_takesKey_65 : decode cX9_takesKey 65 = .ok (.aload_n 0, 1) := by decide +kernel
theorem dX9_takesKey_66 : decode cX9_takesKey 66 = .ok (.getfield 36, 3) := by decide +kernel
theorem dX9_takesKey_69 : decode cX9_takesKey 69 = .ok (.aload_n 0, 1) := by decide +kernel
theorem dX9_takesKey_70 : decode cX9_takesKey 70 = .ok (.getfield 223, 3) := by decide +kernel
theorem dX9_takesKey_73 : decode cX9_takesKey 73 = .ok (.iload 4, 2) := by decide +kernel
theorem dX9_takesKey_75 : decode cX9_takesKey 75 = .ok (.iadd, 1) := by decide +kernel
theorem dX9_takesKey_76 : decode cX9_takesKey 76 = .ok (.iaload, 1) := by decide +kernel
theorem dX9_takesKey_77 : decode cX9_takesKey 77 = .ok (.aload_n 0, 1) := by decide +kernel
theorem dX9_takesKey_78 : decode cX9_takesKey 78 = .ok (.getfield 39, 3) := by decide +kernel
theorem dX9_takesKey_81 : decode cX9_takesKey 81 = .ok (.aload_n 0, 1) := by decide +kernel
theorem dX9_takesKey_82 : decode cX9_takesKey 82 = .ok (.getfield 43, 3) := by decide +kernel
theorem dX9_takesKey_85 : decode cX9_takesKey 85 = .ok (.iload_n 1, 1) := by decide +kernel
theorem dX9_takesKey_86 : decode cX9_takesKey 86 = .ok (.iaload, 1) := by decide +kernel
theorem dX9_takesKey_87 : decode cX9_takesKey 87 = .ok (.iload 4, 2) := by decide +kernel
theorem dX9_takesKey_89 : decode cX9_takesKey 89 = .ok (.iadd, 1) := by decide +kernel
theorem dX9_takesKey_90 : decode cX9_takesKey 90 = .ok (.caload, 1) := by decide +kernel
theorem dX9_takesKey_91 : decode cX9_takesKey 91 = .ok (.if_icmp .ne 7, 3) := by decide +kernel
theorem dX9_takesKey_94 : decode cX9_takesKey 94 = .ok (.iconst 1, 1) := by decide +kernel
theorem dX9_takesKey_95 : decode cX9_takesKey 95 = .ok (.goto 4, 3) := by decide +kernel
theorem dX9_takesKey_98 : decode cX9_takesKey 98 = .ok (.iconst 0, 1) := by decide +kernel
theorem dX9_takesKey_99 : decode cX9_takesKey 99 = .ok (.istore_n 3, 1) := by decide +kernel
theorem dX9_takesKey_100 : decode cX9_takesKey 100 = .ok (.iinc 4 1, 3) := by decide +kernel
theorem dX9_takesKey_103 : decode cX9_takesKey 103 = .ok (.goto (-48), 3) := by decide +kernel
theorem dX9_takesKey_106 : decode cX9_takesKey 106 = .ok (.iload_n 3, 1) := by decide +kernel
theorem dX9_takesKey_107 : decode cX9_takesKey 107 = .ok (.ifCond .eq 14, 3) := by decide +kernel
theorem dX9_takesKey_110 : decode cX9_takesKey 110 = .ok (.aload_n 0, 1) := by decide +kernel
theorem dX9_takesKey_111 : decode cX9_takesKey 111 = .ok (.iload_n 1, 1) := by decide +kernel
theorem dX9_takesKey_112 : decode cX9_takesKey 112 = .ok (.putfield 241, 3) := by decide +kernel
theorem dX9_takesKey_115 : decode cX9_takesKey 115 = .ok (.aload_n 0, 1) := by decide +kernel
theorem dX9_takesKey_116 : decode cX9_takesKey 116 = .ok (.invokevirtual 244, 3) := by decide +kernel
theorem dX9_takesKey_119 : decode cX9_takesKey 119 = .ok (.iconst 1, 1) := by decide +kernel
theorem dX9_takesKey_120 : decode cX9_takesKey 120 = .ok (.ireturn, 1) := by decide +kernel
theorem dX9_takesKey_121 : decode cX9_takesKey 121 = .ok (.iinc 1 1, 3) := by decide +kernel
theorem dX9_takesKey_124 : decode cX9_takesKey 124 = .ok (.goto (-112), 3) := by decide +kernel
theorem dX9_takesKey_127 : decode cX9_takesKey 127 = .ok (.iconst 0, 1) := by decide +kernel
theorem dX9_takesKey_128 : decode cX9_takesKey 128 = .ok (.ireturn, 1) := by decide +kernel
theorem dX9_nameOf_0 : decode cX9_nameOf 0 = .ok (.aload_n 0, 1) := by decide +kernel
theorem dX9_nameOf_1 : decode cX9_nameOf 1 = .ok (.getfield 241, 3) := by decide +kernel
theorem dX9_nameOf_4 : decode cX9_nameOf 4 = .ok (.lookupswitch 82 #[(0, 28), (1, 60)], 28) := by decide +kernel
theorem dX9_nameOf_32 : decode cX9_nameOf 32 = .ok (.iload_n 1, 1) := by decide +kernel
theorem dX9_nameOf_33 : decode cX9_nameOf 33 = .ok (.bipush 105, 2) := by decide +kernel
theorem dX9_nameOf_35 : decode cX9_nameOf 35 = .ok (.if_icmp .ne 7, 3) := by decide +kernel
theorem dX9_nameOf_38 : decode cX9_nameOf 38 = .ok (.iconst 0, 1) := by decide +kernel
theorem dX9_nameOf_39 : decode cX9_nameOf 39 = .ok (.goto 24, 3) := by decide +kernel
theorem dX9_nameOf_42 : decode cX9_nameOf 42 = .ok (.iload_n 1, 1) := by decide +kernel
theorem dX9_nameOf_43 : decode cX9_nameOf 43 = .ok (.bipush 106, 2) := by decide +kernel
theorem dX9_nameOf_45 : decode cX9_nameOf 45 = .ok (.if_icmp .ne 7, 3) := by decide +kernel
theorem dX9_nameOf_48 : decode cX9_nameOf 48 = .ok (.iconst 1, 1) := by decide +kernel
theorem dX9_nameOf_49 : decode cX9_nameOf 49 = .ok (.goto 14, 3) := by decide +kernel
theorem dX9_nameOf_52 : decode cX9_nameOf 52 = .ok (.iload_n 1, 1) := by decide +kernel
theorem dX9_nameOf_53 : decode cX9_nameOf 53 = .ok (.bipush 99, 2) := by decide +kernel
theorem dX9_nameOf_55 : decode cX9_nameOf 55 = .ok (.if_icmp .ne 7, 3) := by decide +kernel
theorem dX9_nameOf_58 : decode cX9_nameOf 58 = .ok (.iconst 2, 1) := by decide +kernel
theorem dX9_nameOf_59 : decode cX9_nameOf 59 = .ok (.goto 4, 3) := by decide +kernel
theorem dX9_nameOf_62 : decode cX9_nameOf 62 = .ok (.iconst (-1), 1) := by decide +kernel
theorem dX9_nameOf_63 : decode cX9_nameOf 63 = .ok (.ireturn, 1) := by decide +kernel
theorem dX9_nameOf_64 : decode cX9_nameOf 64 = .ok (.iload_n 1, 1) := by decide +kernel
theorem dX9_nameOf_65 : decode cX9_nameOf 65 = .ok (.bipush 116, 2) := by decide +kernel
theorem dX9_nameOf_67 : decode cX9_nameOf 67 = .ok (.if_icmp .ne 7, 3) := by decide +kernel
theorem dX9_nameOf_70 : decode cX9_nameOf 70 = .ok (.iconst 0, 1) := by decide +kernel
theorem dX9_nameOf_71 : decode cX9_nameOf 71 = .ok (.goto 14, 3) := by decide +kernel
theorem dX9_nameOf_74 : decode cX9_nameOf 74 = .ok (.iload_n 1, 1) := by decide +kernel
theorem dX9_nameOf_75 : decode cX9_nameOf 75 = .ok (.bipush 109, 2) := by decide +kernel
theorem dX9_nameOf_77 : decode cX9_nameOf 77 = .ok (.if_icmp .ne 7, 3) := by decide +kernel
theorem dX9_nameOf_80 : decode cX9_nameOf 80 = .ok (.iconst 1, 1) := by decide +kernel
theorem dX9_nameOf_81 : decode cX9_nameOf 81 = .ok (.goto 4, 3) := by decide +kernel
theorem dX9_nameOf_84 : decode cX9_nameOf 84 = .ok (.iconst (-1), 1) := by decide +kernel
theorem dX9_nameOf_85 : decode cX9_nameOf 85 = .ok (.ireturn, 1) := by decide +kernel
theorem dX9_nameOf_86 : decode cX9_nameOf 86 = .ok (.iload_n 1, 1) := by decide +kernel
theorem dX9_nameOf_87 : decode cX9_nameOf 87 = .ok (.bipush 120, 2) := by decide +kernel
theorem dX9_nameOf_89 : decode cX9_nameOf 89 = .ok (.if_icmp .ne 7, 3) := by decide +kernel
theorem dX9_nameOf_92 : decode cX9_nameOf 92 = .ok (.iconst 0, 1) := by decide +kernel
theorem dX9_nameOf_93 : decode cX9_nameOf 93 = .ok (.goto 24, 3) := by decide +kernel
theorem dX9_nameOf_96 : decode cX9_nameOf 96 = .ok (.iload_n 1, 1) := by decide +kernel
theorem dX9_nameOf_97 : decode cX9_nameOf 97 = .ok (.bipush 121, 2) := by decide +kernel
theorem dX9_nameOf_99 : decode cX9_nameOf 99 = .ok (.if_icmp .ne 7, 3) := by decide +kernel
theorem dX9_nameOf_102 : decode cX9_nameOf 102 = .ok (.iconst 1, 1) := by decide +kernel
theorem dX9_nameOf_103 : decode cX9_nameOf 103 = .ok (.goto 14, 3) := by decide +kernel
theorem dX9_nameOf_106 : decode cX9_nameOf 106 = .ok (.iload_n 1, 1) := by decide +kernel
theorem dX9_nameOf_107 : decode cX9_nameOf 107 = .ok (.bipush 109, 2) := by decide +kernel
theorem dX9_nameOf_109 : decode cX9_nameOf 109 = .ok (.if_icmp .ne 7, 3) := by decide +kernel
theorem dX9_nameOf_112 : decode cX9_nameOf 112 = .ok (.iconst 2, 1) := by decide +kernel
theorem dX9_nameOf_113 : decode cX9_nameOf 113 = .ok (.goto 4, 3) := by decide +kernel
theorem dX9_nameOf_116 : decode cX9_nameOf 116 = .ok (.iconst (-1), 1) := by decide +kernel
theorem dX9_nameOf_117 : decode cX9_nameOf 117 = .ok (.ireturn, 1) := by decide +kernel
theorem dX9_rank_0 : decode cX9_rank 0 = .ok (.iload_n 0, 1) := by decide +kernel
theorem dX9_rank_1 : decode cX9_rank 1 = .ok (.iconst (-1), 1) := by decide +kernel
theorem dX9_rank_2 : decode cX9_rank 2 = .ok (.if_icmp .ne 7, 3) := by decide +kernel
theorem dX9_rank_5 : decode cX9_rank 5 = .ok (.iconst 1, 1) := by decide +kernel
theorem dX9_rank_6 : decode cX9_rank 6 = .ok (.goto 45, 3) := by decide +kernel
theorem dX9_rank_9 : decode cX9_rank 9 = .ok (.iload_n 0, 1) := by decide +kernel
theorem dX9_rank_10 : decode cX9_rank 10 = .ok (.bipush (-2), 2) := by decide +kernel
theorem dX9_rank_12 : decode cX9_rank 12 = .ok (.if_icmp .ne 7, 3) := by decide +kernel
theorem dX9_rank_15 : decode cX9_rank 15 = .ok (.iconst 2, 1) := by decide +kernel
theorem dX9_rank_16 : decode cX9_rank 16 = .ok (.goto 35, 3) := by decide +kernel
theorem dX9_rank_19 : decode cX9_rank 19 = .ok (.iload_n 0, 1) := by decide +kernel
theorem dX9_rank_20 : decode cX9_rank 20 = .ok (.bipush (-5), 2) := by decide +kernel
theorem dX9_rank_22 : decode cX9_rank 22 = .ok (.if_icmp .lt 7, 3) := by decide +kernel
theorem dX9_rank_25 : decode cX9_rank 25 = .ok (.iconst 3, 1) := by decide +kernel
theorem dX9_rank_26 : decode cX9_rank 26 = .ok (.goto 25, 3) := by decide +kernel
theorem dX9_rank_29 : decode cX9_rank 29 = .ok (.iload_n 0, 1) := by decide +kernel
theorem dX9_rank_30 : decode cX9_rank 30 = .ok (.bipush (-7), 2) := by decide +kernel
theorem dX9_rank_32 : decode cX9_rank 32 = .ok (.if_icmp .lt 7, 3) := by decide +kernel
theorem dX9_rank_35 : decode cX9_rank 35 = .ok (.iconst 4, 1) := by decide +kernel
theorem dX9_rank_36 : decode cX9_rank 36 = .ok (.goto 15, 3) := by decide +kernel
theorem dX9_rank_39 : decode cX9_rank 39 = .ok (.iload_n 0, 1) := by decide +kernel
theorem dX9_rank_40 : decode cX9_rank 40 = .ok (.bipush (-9), 2) := by decide +kernel
theorem dX9_rank_42 : decode cX9_rank 42 = .ok (.if_icmp .lt 7, 3) := by decide +kernel
theorem dX9_rank_45 : decode cX9_rank 45 = .ok (.iconst 5, 1) := by decide +kernel
theorem dX9_rank_46 : decode cX9_rank 46 = .ok (.goto 5, 3) := by decide +kernel
theorem dX9_rank_49 : decode cX9_rank 49 = .ok (.bipush 6, 2) := by decide +kernel
theorem dX9_rank_51 : decode cX9_rank 51 = .ok (.ireturn, 1) := by decide +kernel
theorem dX9_settle_0 : decode cX9_settle 0 = .ok (.aload_n 0, 1) := by decide +kernel
theorem dX9_settle_1 : decode cX9_settle 1 = .ok (.getfield 247, 3) := by decide +kernel
theorem dX9_settle_4 : decode cX9_settle 4 = .ok (.ifCond .le 78, 3) := by decide +kernel
theorem dX9_settle_7 : decode cX9_settle 7 = .ok (.aload_n 0, 1) := by decide +kernel
theorem dX9_settle_8 : decode cX9_settle 8 = .ok (.getfield 49, 3) := by decide +kernel
theorem dX9_settle_11 : decode cX9_settle 11 = .ok (.aload_n 0, 1) := by decide +kernel
theorem dX9_settle_12 : decode cX9_settle 12 = .ok (.getfield 247, 3) := by decide +kernel
theorem dX9_settle_15 : decode cX9_settle 15 = .ok (.iconst 1, 1) := by decide +kernel
theorem dX9_settle_16 : decode cX9_settle 16 = .ok (.isub, 1) := by decide +kernel
theorem dX9_settle_17 : decode cX9_settle 17 = .ok (.iaload, 1) := by decide +kernel
theorem dX9_settle_18 : decode cX9_settle 18 = .ok (.bipush (-11), 2) := by decide +kernel
theorem dX9_settle_20 : decode cX9_settle 20 = .ok (.if_icmp .eq 62, 3) := by decide +kernel
theorem dX9_settle_23 : decode cX9_settle 23 = .ok (.aload_n 0, 1) := by decide +kernel
theorem dX9_settle_24 : decode cX9_settle 24 = .ok (.getfield 49, 3) := by decide +kernel
theorem dX9_settle_27 : decode cX9_settle 27 = .ok (.aload_n 0, 1) := by decide +kernel
theorem dX9_settle_28 : decode cX9_settle 28 = .ok (.getfield 247, 3) := by decide +kernel
theorem dX9_settle_31 : decode cX9_settle 31 = .ok (.iconst 1, 1) := by decide +kernel
theorem dX9_settle_32 : decode cX9_settle 32 = .ok (.isub, 1) := by decide +kernel
theorem dX9_settle_33 : decode cX9_settle 33 = .ok (.iaload, 1) := by decide +kernel
theorem dX9_settle_34 : decode cX9_settle 34 = .ok (.invokestatic 250, 3) := by decide +kernel
theorem dX9_settle_37 : decode cX9_settle 37 = .ok (.iload_n 1, 1) := by decide +kernel
theorem dX9_settle_38 : decode cX9_settle 38 = .ok (.if_icmp .lt 44, 3) := by decide +kernel
theorem dX9_settle_41 : decode cX9_settle 41 = .ok (.aload_n 0, 1) := by decide +kernel
theorem dX9_settle_42 : decode cX9_settle 42 = .ok (.dup, 1) := by decide +kernel
theorem dX9_settle_43 : decode cX9_settle 43 = .ok (.getfield 247, 3) := by decide +kernel
theorem dX9_settle_46 : decode cX9_settle 46 = .ok (.iconst 1, 1) := by decide +kernel
theorem dX9_settle_47 : decode cX9_settle 47 = .ok (.isub, 1) := by decide +kernel
theorem dX9_settle_48 : decode cX9_settle 48 = .ok (.putfield 247, 3) := by decide +kernel
theorem dX9_settle_51 : decode cX9_settle 51 = .ok (.aload_n 0, 1) := by decide +kernel
theorem dX9_settle_52 : decode cX9_settle 52 = .ok (.getfield 46, 3) := by decide +kernel
theorem dX9_settle_55 : decode cX9_settle 55 = .ok (.aload_n 0, 1) := by decide +kernel
theorem dX9_settle_56 : decode cX9_settle 56 = .ok (.getfield 253, 3) := by decide +kernel
theorem dX9_settle_59 : decode cX9_settle 59 = .ok (.aload_n 0, 1) := by decide +kernel
theorem dX9_settle_60 : decode cX9_settle 60 = .ok (.getfield 49, 3) := by decide +kernel
theorem dX9_settle_63 : decode cX9_settle 63 = .ok (.aload_n 0, 1) := by decide +kernel
theorem dX9_settle_64 : decode cX9_settle 64 = .ok (.getfield 247, 3) := by decide +kernel
theorem dX9_settle_67 : decode cX9_settle 67 = .ok (.iaload, 1) := by decide +kernel
theorem dX9_settle_68 : decode cX9_settle 68 = .ok (.iastore, 1) := by decide +kernel
theorem dX9_settle_69 : decode cX9_settle 69 = .ok (.aload_n 0, 1) := by decide +kernel
theorem dX9_settle_70 : decode cX9_settle 70 = .ok (.dup, 1) := by decide +kernel
theorem dX9_settle_71 : decode cX9_settle 71 = .ok (.getfield 253, 3) := by decide +kernel
theorem dX9_settle_74 : decode cX9_settle 74 = .ok (.iconst 1, 1) := by decide +kernel
theorem dX9_settle_75 : decode cX9_settle 75 = .ok (.iadd, 1) := by decide +kernel
theorem dX9_settle_76 : decode cX9_settle 76 = .ok (.putfield 253, 3) := by decide +kernel
theorem dX9_settle_79 : decode cX9_settle 79 = .ok (.goto (-79), 3) := by decide +kernel
theorem dX9_settle_82 : decode cX9_settle 82 = .ok (.return_, 1) := by decide +kernel
theorem dX9_signHere_0 : decode cX9_signHere 0 = .ok (.aload_n 0, 1) := by decide +kernel
theorem dX9_signHere_1 : decode cX9_signHere 1 = .ok (.getfield 229, 3) := by decide +kernel
theorem dX9_signHere_4 : decode cX9_signHere 4 = .ok (.iconst 3, 1) := by decide +kernel
theorem dX9_signHere_5 : decode cX9_signHere 5 = .ok (.if_icmp .eq 5, 3) := by decide +kernel
theorem dX9_signHere_8 : decode cX9_signHere 8 = .ok (.iconst 0, 1) := by decide +kernel
theorem dX9_signHere_9 : decode cX9_signHere 9 = .ok (.ireturn, 1) := by decide +kernel
theorem dX9_signHere_10 : decode cX9_signHere 10 = .ok (.aload_n 0, 1) := by decide +kernel
theorem dX9_signHere_11 : decode cX9_signHere 11 = .ok (.getfield 235, 3) := by decide +kernel
theorem dX9_signHere_14 : decode cX9_signHere 14 = .ok (.lookupswitch 108 #[(38, 84), (42, 102), (43, 96), (45, 99), (47, 105), (60, 87), (61, 90), (62, 93), (124, 82)], 82) := by decide +kernel
theorem dX9_signHere_96 : decode cX9_signHere 96 = .ok (.iconst (-1), 1) := by decide +kernel
theorem dX9_signHere_97 : decode cX9_signHere 97 = .ok (.ireturn, 1) := by decide +kernel
theorem dX9_signHere_98 : decode cX9_signHere 98 = .ok (.bipush (-2), 2) := by decide +kernel
theorem dX9_signHere_100 : decode cX9_signHere 100 = .ok (.ireturn, 1) := by decide +kernel
theorem dX9_signHere_101 : decode cX9_signHere 101 = .ok (.bipush (-3), 2) := by decide +kernel
theorem dX9_signHere_103 : decode cX9_signHere 103 = .ok (.ireturn, 1) := by decide +kernel
theorem dX9_signHere_104 : decode cX9_signHere 104 = .ok (.bipush (-4), 2) := by decide +kernel
theorem dX9_signHere_106 : decode cX9_signHere 106 = .ok (.ireturn, 1) := by decide +kernel
theorem dX9_signHere_107 : decode cX9_signHere 107 = .ok (.bipush (-5), 2) := by decide +kernel
theorem dX9_signHere_109 : decode cX9_signHere 109 = .ok (.ireturn, 1) := by decide +kernel
theorem dX9_signHere_110 : decode cX9_signHere 110 = .ok (.bipush (-6), 2) := by decide +kernel
theorem dX9_signHere_112 : decode cX9_signHere 112 = .ok (.ireturn, 1) := by decide +kernel
theorem dX9_signHere_113 : decode cX9_signHere 113 = .ok (.bipush (-7), 2) := by decide +kernel
theorem dX9_signHere_115 : decode cX9_signHere 115 = .ok (.ireturn, 1) := by decide +kernel
theorem dX9_signHere_116 : decode cX9_signHere 116 = .ok (.bipush (-8), 2) := by decide +kernel
theorem dX9_signHere_118 : decode cX9_signHere 118 = .ok (.ireturn, 1) := by decide +kernel
theorem dX9_signHere_119 : decode cX9_signHere 119 = .ok (.bipush (-9), 2) := by decide +kernel
theorem dX9_signHere_121 : decode cX9_signHere 121 = .ok (.ireturn, 1) := by decide +kernel
theorem dX9_signHere_122 : decode cX9_signHere 122 = .ok (.iconst 0, 1) := by decide +kernel
theorem dX9_signHere_123 : decode cX9_signHere 123 = .ok (.ireturn, 1) := by decide +kernel
theorem dX9_takesPart_0 : decode cX9_takesPart 0 = .ok (.aload_n 0, 1) := by decide +kernel
theorem dX9_takesPart_1 : decode cX9_takesPart 1 = .ok (.getfield 229, 3) := by decide +kernel
theorem dX9_takesPart_4 : decode cX9_takesPart 4 = .ok (.iconst 1, 1) := by decide +kernel
theorem dX9_takesPart_5 : decode cX9_takesPart 5 = .ok (.if_icmp .ne 31, 3) := by decide +kernel
theorem dX9_takesPart_8 : decode cX9_takesPart 8 = .ok (.aload_n 0, 1) := by decide +kernel
theorem dX9_takesPart_9 : decode cX9_takesPart 9 = .ok (.getfield 220, 3) := by decide +kernel
theorem dX9_takesPart_12 : decode cX9_takesPart 12 = .ok (.aload_n 0, 1) := by decide +kernel
theorem dX9_takesPart_13 : decode cX9_takesPart 13 = .ok (.getfield 223, 3) := by decide +kernel
theorem dX9_takesPart_16 : decode cX9_takesPart 16 = .ok (.isub, 1) := by decide +kernel
theorem dX9_takesPart_17 : decode cX9_takesPart 17 = .ok (.iconst 1, 1) := by decide +kernel
theorem dX9_takesPart_18 : decode cX9_takesPart 18 = .ok (.if_icmp .ne 18, 3) := by decide +kernel
theorem dX9_takesPart_21 : decode cX9_takesPart 21 = .ok (.aload_n 0, 1) := by decide +kernel
theorem dX9_takesPart_22 : decode cX9_takesPart 22 = .ok (.aload_n 0, 1) := by decide +kernel
theorem dX9_takesPart_23 : decode cX9_takesPart 23 = .ok (.getfield 235, 3) := by decide +kernel
theorem dX9_takesPart_26 : decode cX9_takesPart 26 = .ok (.invokevirtual 256, 3) := by decide +kernel
theorem dX9_takesPart_29 : decode cX9_takesPart 29 = .ok (.ifCond .lt 7, 3) := by decide +kernel
theorem dX9_takesPart_32 : decode cX9_takesPart 32 = .ok (.iconst 1, 1) := by decide +kernel
theorem dX9_takesPart_33 : decode cX9_takesPart 33 = .ok (.goto 4, 3) := by decide +kernel
theorem dX9_takesPart_36 : decode cX9_takesPart 36 = .ok (.iconst 0, 1) := by decide +kernel
theorem dX9_takesPart_37 : decode cX9_takesPart 37 = .ok (.istore_n 1, 1) := by decide +kernel
theorem dX9_takesPart_38 : decode cX9_takesPart 38 = .ok (.aload_n 0, 1) := by decide +kernel
theorem dX9_takesPart_39 : decode cX9_takesPart 39 = .ok (.getfield 229, 3) := by decide +kernel
theorem dX9_takesPart_42 : decode cX9_takesPart 42 = .ok (.iconst 2, 1) := by decide +kernel
theorem dX9_takesPart_43 : decode cX9_takesPart 43 = .ok (.if_icmp .eq 9, 3) := by decide +kernel
theorem dX9_takesPart_46 : decode cX9_takesPart 46 = .ok (.iload_n 1, 1) := by decide +kernel
theorem dX9_takesPart_47 : decode cX9_takesPart 47 = .ok (.ifCond .ne 5, 3) := by decide +kernel
theorem dX9_takesPart_50 : decode cX9_takesPart 50 = .ok (.iconst 0, 1) := by decide +kernel
theorem dX9_takesPart_51 : decode cX9_takesPart 51 = .ok (.ireturn, 1) := by decide +kernel
theorem dX9_takesPart_52 : decode cX9_takesPart 52 = .ok (.aload_n 0, 1) := by decide +kernel
theorem dX9_takesPart_53 : decode cX9_takesPart 53 = .ok (.getfield 46, 3) := by decide +kernel
theorem dX9_takesPart_56 : decode cX9_takesPart 56 = .ok (.aload_n 0, 1) := by decide +kernel
theorem dX9_takesPart_57 : decode cX9_takesPart 57 = .ok (.getfield 253, 3) := by decide +kernel
theorem dX9_takesPart_60 : decode cX9_takesPart 60 = .ok (.aload_n 0, 1) := by decide +kernel
theorem dX9_takesPart_61 : decode cX9_takesPart 61 = .ok (.getfield 229, 3) := by decide +kernel
theorem dX9_takesPart_64 : decode cX9_takesPart 64 = .ok (.iconst 2, 1) := by decide +kernel
theorem dX9_takesPart_65 : decode cX9_takesPart 65 = .ok (.if_icmp .ne 10, 3) := by decide +kernel
theorem dX9_takesPart_68 : decode cX9_takesPart 68 = .ok (.aload_n 0, 1) := by decide +kernel
theorem dX9_takesPart_69 : decode cX9_takesPart 69 = .ok (.getfield 235, 3) := by decide +kernel
theorem dX9_takesPart_72 : decode cX9_takesPart 72 = .ok (.goto 15, 3) := by decide +kernel
theorem dX9_takesPart_75 : decode cX9_takesPart 75 = .ok (.sipush 10000, 3) := by decide +kernel
theorem dX9_takesPart_78 : decode cX9_takesPart 78 = .ok (.aload_n 0, 1) := by decide +kernel
theorem dX9_takesPart_79 : decode cX9_takesPart 79 = .ok (.aload_n 0, 1) := by decide +kernel
theorem dX9_takesPart_80 : decode cX9_takesPart 80 = .ok (.getfield 235, 3) := by decide +kernel
theorem dX9_takesPart_83 : decode cX9_takesPart 83 = .ok (.invokevirtual 256, 3) := by decide +kernel
theorem dX9_takesPart_86 : decode cX9_takesPart 86 = .ok (.iadd, 1) := by decide +kernel
theorem dX9_takesPart_87 : decode cX9_takesPart 87 = .ok (.iastore, 1) := by decide +kernel
theorem dX9_takesPart_88 : decode cX9_takesPart 88 = .ok (.aload_n 0, 1) := by decide +kernel
theorem dX9_takesPart_89 : decode cX9_takesPart 89 = .ok (.dup, 1) := by decide +kernel
theorem dX9_takesPart_90 : decode cX9_takesPart 90 = .ok (.getfield 253, 3) := by decide +kernel
theorem dX9_takesPart_93 : decode cX9_takesPart 93 = .ok (.iconst 1, 1) := by decide +kernel
theorem dX9_takesPart_94 : decode cX9_takesPart 94 = .ok (.iadd, 1) := by decide +kernel
theorem dX9_takesPart_95 : decode cX9_takesPart 95 = .ok (.putfield 253, 3) := by decide +kernel
theorem dX9_takesPart_98 : decode cX9_takesPart 98 = .ok (.aload_n 0, 1) := by decide +kernel
theorem dX9_takesPart_99 : decode cX9_takesPart 99 = .ok (.dup, 1) := by decide +kernel
theorem dX9_takesPart_100 : decode cX9_takesPart 100 = .ok (.getfield 259, 3) := by decide +kernel
theorem dX9_takesPart_103 : decode cX9_takesPart 103 = .ok (.iconst 1, 1) := by decide +kernel
theorem dX9_takesPart_104 : decode cX9_takesPart 104 = .ok (.iadd, 1) := by decide +kernel
theorem dX9_takesPart_105 : decode cX9_takesPart 105 = .ok (.putfield 259, 3) := by decide +kernel
theorem dX9_takesPart_108 : decode cX9_takesPart 108 = .ok (.aload_n 0, 1) := by decide +kernel
theorem dX9_takesPart_109 : decode cX9_takesPart 109 = .ok (.bipush 6, 2) := by decide +kernel
theorem dX9_takesPart_111 : decode cX9_takesPart 111 = .ok (.invokevirtual 262, 3) := by decide +kernel
theorem dX9_takesPart_114 : decode cX9_takesPart 114 = .ok (.aload_n 0, 1) := by decide +kernel
theorem dX9_takesPart_115 : decode cX9_takesPart 115 = .ok (.invokevirtual 244, 3) := by decide +kernel
theorem dX9_takesPart_118 : decode cX9_takesPart 118 = .ok (.iconst 1, 1) := by decide +kernel
theorem dX9_takesPart_119 : decode cX9_takesPart 119 = .ok (.ireturn, 1) := by decide +kernel
theorem dX9_takesE_0 : decode cX9_takesE 0 = .ok (.iconst 0, 1) := by decide +kernel
theorem dX9_takesE_1 : decode cX9_takesE 1 = .ok (.istore_n 1, 1) := by decide +kernel
theorem dX9_takesE_2 : decode cX9_takesE 2 = .ok (.iconst 0, 1) := by decide +kernel
theorem dX9_takesE_3 : decode cX9_takesE 3 = .ok (.istore_n 2, 1) := by decide +kernel
theorem dX9_takesE_4 : decode cX9_takesE 4 = .ok (.iconst 1, 1) := by decide +kernel
theorem dX9_takesE_5 : decode cX9_takesE 5 = .ok (.istore_n 3, 1) := by decide +kernel
theorem dX9_takesE_6 : decode cX9_takesE 6 = .ok (.aload_n 0, 1) := by decide +kernel
theorem dX9_takesE_7 : decode cX9_takesE 7 = .ok (.iconst 0, 1) := by decide +kernel
theorem dX9_takesE_8 : decode cX9_takesE 8 = .ok (.putfield 253, 3) := by decide +kernel
theorem dX9_takesE_11 : decode cX9_takesE 11 = .ok (.aload_n 0, 1) := by decide +kernel
theorem dX9_takesE_12 : decode cX9_takesE 12 = .ok (.iconst 0, 1) := by decide +kernel
theorem dX9_takesE_13 : decode cX9_takesE 13 = .ok (.putfield 259, 3) := by decide +kernel
theorem dX9_takesE_16 : decode cX9_takesE 16 = .ok (.aload_n 0, 1) := by decide +kernel
theorem dX9_takesE_17 : decode cX9_takesE 17 = .ok (.iconst 0, 1) := by decide +kernel
theorem dX9_takesE_18 : decode cX9_takesE 18 = .ok (.putfield 247, 3) := by decide +kernel
theorem dX9_takesE_21 : decode cX9_takesE 21 = .ok (.aload_n 0, 1) := by decide +kernel
theorem dX9_takesE_22 : decode cX9_takesE 22 = .ok (.getfield 52, 3) := by decide +kernel
theorem dX9_takesE_25 : decode cX9_takesE 25 = .ok (.iconst 0, 1) := by decide +kernel
theorem dX9_takesE_26 : decode cX9_takesE 26 = .ok (.iconst 0, 1) := by decide +kernel
theorem dX9_takesE_27 : decode cX9_takesE 27 = .ok (.bastore, 1) := by decide +kernel
theorem dX9_takesE_28 : decode cX9_takesE 28 = .ok (.iload_n 3, 1) := by decide +kernel
theorem dX9_takesE_29 : decode cX9_takesE 29 = .ok (.ifCond .ne 10, 3) := by decide +kernel
theorem dX9_takesE_32 : decode cX9_takesE 32 = .ok (.aload_n 0, 1) := by decide +kernel
theorem dX9_takesE_33 : decode cX9_takesE 33 = .ok (.getfield 229, 3) := by decide +kernel
theorem dX9_takesE_36 : decode cX9_takesE 36 = .ok (.ifCond .eq 309, 3) := by decide +kernel
theorem dX9_takesE_39 : decode cX9_takesE 39 = .ok (.iload_n 3, 1) := by decide +kernel
theorem dX9_takesE_40 : decode cX9_takesE 40 = .ok (.ifCond .eq 140, 3) := by decide +kernel
theorem dX9_takesE_43 : decode cX9_takesE 43 = .ok (.aload_n 0, 1) := by decide +kernel
theorem dX9_takesE_44 : decode cX9_takesE 44 = .ok (.getfield 229, 3) := by decide +kernel
theorem dX9_takesE_47 : decode cX9_takesE 47 = .ok (.iconst 3, 1) := by decide +kernel
theorem dX9_takesE_48 : decode cX9_takesE 48 = .ok (.if_icmp .ne 49, 3) := by decide +kernel
theorem dX9_takesE_51 : decode cX9_takesE 51 = .ok (.aload_n 0, 1) := by decide +kernel
theorem dX9_takesE_52 : decode cX9_takesE 52 = .ok (.getfield 235, 3) := by decide +kernel
theorem dX9_takesE_55 : decode cX9_takesE 55 = .ok (.bipush 33, 2) := by decide +kernel
theorem dX9_takesE_57 : decode cX9_takesE 57 = .ok (.if_icmp .ne 40, 3) := by decide +kernel
theorem dX9_takesE_60 : decode cX9_takesE 60 = .ok (.iload_n 2, 1) := by decide +kernel
theorem dX9_takesE_61 : decode cX9_takesE 61 = .ok (.bipush 8, 2) := by decide +kernel
theorem dX9_takesE_63 : decode cX9_takesE 63 = .ok (.if_icmp .ge 34, 3) := by decide +kernel
theorem dX9_takesE_66 : decode cX9_takesE 66 = .ok (.aload_n 0, 1) := by decide +kernel
theorem dX9_takesE_67 : decode cX9_takesE 67 = .ok (.getfield 49, 3) := by decide +kernel
theorem dX9_takesE_70 : decode cX9_takesE 70 = .ok (.aload_n 0, 1) := by decide +kernel
theorem dX9_takesE_71 : decode cX9_takesE 71 = .ok (.getfield 247, 3) := by decide +kernel
theorem dX9_takesE_74 : decode cX9_takesE 74 = .ok (.bipush (-10), 2) := by decide +kernel
theorem dX9_takesE_76 : decode cX9_takesE 76 = .ok (.iastore, 1) := by decide +kernel
theorem dX9_takesE_77 : decode cX9_takesE 77 = .ok (.aload_n 0, 1) := by decide +kernel
theorem dX9_takesE_78 : decode cX9_takesE 78 = .ok (.dup, 1) := by decide +kernel
theorem dX9_takesE_79 : decode cX9_takesE 79 = .ok (.getfield 247, 3) := by decide +kernel
theorem dX9_takesE_82 : decode cX9_takesE 82 = .ok (.iconst 1, 1) := by decide +kernel
theorem dX9_takesE_83 : decode cX9_takesE 83 = .ok (.iadd, 1) := by decide +kernel
theorem dX9_takesE_84 : decode cX9_takesE 84 = .ok (.putfield 247, 3) := by decide +kernel
theorem dX9_takesE_87 : decode cX9_takesE 87 = .ok (.iinc 2 1, 3) := by decide +kernel
theorem dX9_takesE_90 : decode cX9_takesE 90 = .ok (.aload_n 0, 1) := by decide +kernel
theorem dX9_takesE_91 : decode cX9_takesE 91 = .ok (.invokevirtual 244, 3) := by decide +kernel
theorem dX9_takesE_94 : decode cX9_takesE 94 = .ok (.goto 78, 3) := by decide +kernel
theorem dX9_takesE_97 : decode cX9_takesE 97 = .ok (.aload_n 0, 1) := by decide +kernel
theorem dX9_takesE_98 : decode cX9_takesE 98 = .ok (.getfield 229, 3) := by decide +kernel
theorem dX9_takesE_101 : decode cX9_takesE 101 = .ok (.iconst 3, 1) := by decide +kernel
theorem dX9_takesE_102 : decode cX9_takesE 102 = .ok (.if_icmp .ne 56, 3) := by decide +kernel
theorem dX9_takesE_105 : decode cX9_takesE 105 = .ok (.aload_n 0, 1) := by decide +kernel
theorem dX9_takesE_106 : decode cX9_takesE 106 = .ok (.getfield 235, 3) := by decide +kernel
theorem dX9_takesE_109 : decode cX9_takesE 109 = .ok (.bipush 40, 2) := by decide +kernel
theorem dX9_takesE_111 : decode cX9_takesE 111 = .ok (.if_icmp .ne 47, 3) := by decide +kernel
theorem dX9_takesE_114 : decode cX9_takesE 114 = .ok (.iload_n 1, 1) := by decide +kernel
theorem dX9_takesE_115 : decode cX9_takesE 115 = .ok (.bipush 8, 2) := by decide +kernel
theorem dX9_takesE_117 : decode cX9_takesE 117 = .ok (.if_icmp .ge 41, 3) := by decide +kernel
theorem dX9_takesE_120 : decode cX9_takesE 120 = .ok (.aload_n 0, 1) := by decide +kernel
theorem dX9_takesE_121 : decode cX9_takesE 121 = .ok (.getfield 49, 3) := by decide +kernel
theorem dX9_takesE_124 : decode cX9_takesE 124 = .ok (.aload_n 0, 1) := by decide +kernel
theorem dX9_takesE_125 : decode cX9_takesE 125 = .ok (.getfield 247, 3) := by decide +kernel
theorem dX9_takesE_128 : decode cX9_takesE 128 = .ok (.bipush (-11), 2) := by decide +kernel
theorem dX9_takesE_130 : decode cX9_takesE 130 = .ok (.iastore, 1) := by decide +kernel
theorem dX9_takesE_131 : decode cX9_takesE 131 = .ok (.aload_n 0, 1) := by decide +kernel
theorem dX9_takesE_132 : decode cX9_takesE 132 = .ok (.dup, 1) := by decide +kernel
theorem dX9_takesE_133 : decode cX9_takesE 133 = .ok (.getfield 247, 3) := by decide +kernel
theorem dX9_takesE_136 : decode cX9_takesE 136 = .ok (.iconst 1, 1) := by decide +kernel
theorem dX9_takesE_137 : decode cX9_takesE 137 = .ok (.iadd, 1) := by decide +kernel
theorem dX9_takesE_138 : decode cX9_takesE 138 = .ok (.putfield 247, 3) := by decide +kernel
theorem dX9_takesE_141 : decode cX9_takesE 141 = .ok (.iinc 1 1, 3) := by decide +kernel
theorem dX9_takesE_144 : decode cX9_takesE 144 = .ok (.aload_n 0, 1) := by decide +kernel
theorem dX9_takesE_145 : decode cX9_takesE 145 = .ok (.getfield 52, 3) := by decide +kernel
theorem dX9_takesE_148 : decode cX9_takesE 148 = .ok (.iload_n 1, 1) := by decide +kernel
theorem dX9_takesE_149 : decode cX9_takesE 149 = .ok (.iconst 0, 1) := by decide +kernel
theorem dX9_takesE_150 : decode cX9_takesE 150 = .ok (.bastore, 1) := by decide +kernel
theorem dX9_takesE_151 : decode cX9_takesE 151 = .ok (.aload_n 0, 1) := by decide +kernel
theorem dX9_takesE_152 : decode cX9_takesE 152 = .ok (.invokevirtual 244, 3) := by decide +kernel
theorem dX9_takesE_155 : decode cX9_takesE 155 = .ok (.goto 17, 3) := by decide +kernel
theorem dX9_takesE_158 : decode cX9_takesE 158 = .ok (.aload_n 0, 1) := by decide +kernel
theorem dX9_takesE_159 : decode cX9_takesE 159 = .ok (.invokevirtual 265, 3) := by decide +kernel
theorem dX9_takesE_162 : decode cX9_takesE 162 = .ok (.ifCond .eq 8, 3) := by decide +kernel
theorem dX9_takesE_165 : decode cX9_takesE 165 = .ok (.iconst 0, 1) := by decide +kernel
theorem dX9_takesE_166 : decode cX9_takesE 166 = .ok (.istore_n 3, 1) := by decide +kernel
theorem dX9_takesE_167 : decode cX9_takesE 167 = .ok (.goto 5, 3) := by decide +kernel
theorem dX9_takesE_170 : decode cX9_takesE 170 = .ok (.iconst 0, 1) := by decide +kernel
theorem dX9_takesE_171 : decode cX9_takesE 171 = .ok (.ireturn, 1) := by decide +kernel
theorem dX9_takesE_172 : decode cX9_takesE 172 = .ok (.aload_n 0, 1) := by decide +kernel
theorem dX9_takesE_173 : decode cX9_takesE 173 = .ok (.invokevirtual 269, 3) := by decide +kernel
theorem dX9_takesE_176 : decode cX9_takesE 176 = .ok (.istore_n 2, 1) := by decide +kernel
theorem dX9_takesE_177 : decode cX9_takesE 177 = .ok (.goto (-149), 3) := by decide +kernel
theorem dX9_takesE_180 : decode cX9_takesE 180 = .ok (.aload_n 0, 1) := by decide +kernel
theorem dX9_takesE_181 : decode cX9_takesE 181 = .ok (.getfield 229, 3) := by decide +kernel
theorem dX9_takesE_184 : decode cX9_takesE 184 = .ok (.iconst 3, 1) := by decide +kernel
theorem dX9_takesE_185 : decode cX9_takesE 185 = .ok (.if_icmp .ne 52, 3) := by decide +kernel
theorem dX9_takesE_188 : decode cX9_takesE 188 = .ok (.aload_n 0, 1) := by decide +kernel
theorem dX9_takesE_189 : decode cX9_takesE 189 = .ok (.getfield 235, 3) := by decide +kernel
theorem dX9_takesE_192 : decode cX9_takesE 192 = .ok (.bipush 41, 2) := by decide +kernel
theorem dX9_takesE_194 : decode cX9_takesE 194 = .ok (.if_icmp .ne 43, 3) := by decide +kernel
theorem dX9_takesE_197 : decode cX9_takesE 197 = .ok (.iload_n 1, 1) := by decide +kernel
theorem dX9_takesE_198 : decode cX9_takesE 198 = .ok (.ifCond .le 39, 3) := by decide +kernel
theorem dX9_takesE_201 : decode cX9_takesE 201 = .ok (.aload_n 0, 1) := by decide +kernel
theorem dX9_takesE_202 : decode cX9_takesE 202 = .ok (.iconst 0, 1) := by decide +kernel
theorem dX9_takesE_203 : decode cX9_takesE 203 = .ok (.invokevirtual 262, 3) := by decide +kernel
theorem dX9_takesE_206 : decode cX9_takesE 206 = .ok (.aload_n 0, 1) := by decide +kernel
theorem dX9_takesE_207 : decode cX9_takesE 207 = .ok (.dup, 1) := by decide +kernel
theorem dX9_takesE_208 : decode cX9_takesE 208 = .ok (.getfield 247, 3) := by decide +kernel
theorem dX9_takesE_211 : decode cX9_takesE 211 = .ok (.iconst 1, 1) := by decide +kernel
theorem dX9_takesE_212 : decode cX9_takesE 212 = .ok (.isub, 1) := by decide +kernel
theorem dX9_takesE_213 : decode cX9_takesE 213 = .ok (.putfield 247, 3) := by decide +kernel
theorem dX9_takesE_216 : decode cX9_takesE 216 = .ok (.iinc 1 (-1), 3) := by decide +kernel
theorem dX9_takesE_219 : decode cX9_takesE 219 = .ok (.aload_n 0, 1) := by decide +kernel
theorem dX9_takesE_220 : decode cX9_takesE 220 = .ok (.bipush 6, 2) := by decide +kernel
theorem dX9_takesE_222 : decode cX9_takesE 222 = .ok (.invokevirtual 262, 3) := by decide +kernel
theorem dX9_takesE_225 : decode cX9_takesE 225 = .ok (.aload_n 0, 1) := by decide +kernel
theorem dX9_takesE_226 : decode cX9_takesE 226 = .ok (.invokevirtual 269, 3) := by decide +kernel
theorem dX9_takesE_229 : decode cX9_takesE 229 = .ok (.istore_n 2, 1) := by decide +kernel
theorem dX9_takesE_230 : decode cX9_takesE 230 = .ok (.aload_n 0, 1) := by decide +kernel
theorem dX9_takesE_231 : decode cX9_takesE 231 = .ok (.invokevirtual 244, 3) := by decide +kernel
theorem dX9_takesE_234 : decode cX9_takesE 234 = .ok (.goto (-206), 3) := by decide +kernel
theorem dX9_takesE_237 : decode cX9_takesE 237 = .ok (.aload_n 0, 1) := by decide +kernel
theorem dX9_takesE_238 : decode cX9_takesE 238 = .ok (.invokevirtual 272, 3) := by decide +kernel
theorem dX9_takesE_241 : decode cX9_takesE 241 = .ok (.istore 4, 2) := by decide +kernel
theorem dX9_takesE_243 : decode cX9_takesE 243 = .ok (.iload 4, 2) := by decide +kernel
theorem dX9_takesE_245 : decode cX9_takesE 245 = .ok (.ifCond .eq 21, 3) := by decide +kernel
theorem dX9_takesE_248 : decode cX9_takesE 248 = .ok (.iload 4, 2) := by decide +kernel
theorem dX9_takesE_250 : decode cX9_takesE 250 = .ok (.invokestatic 250, 3) := by decide +kernel
theorem dX9_takesE_253 : decode cX9_takesE 253 = .ok (.iconst 3, 1) := by decide +kernel
theorem dX9_takesE_254 : decode cX9_takesE 254 = .ok (.if_icmp .ne 14, 3) := by decide +kernel
theorem dX9_takesE_257 : decode cX9_takesE 257 = .ok (.aload_n 0, 1) := by decide +kernel
theorem dX9_takesE_258 : decode cX9_takesE 258 = .ok (.getfield 52, 3) := by decide +kernel
theorem dX9_takesE_261 : decode cX9_takesE 261 = .ok (.iload_n 1, 1) := by decide +kernel
theorem dX9_takesE_262 : decode cX9_takesE 262 = .ok (.baload, 1) := by decide +kernel
theorem dX9_takesE_263 : decode cX9_takesE 263 = .ok (.ifCond .eq 5, 3) := by decide +kernel
theorem dX9_takesE_266 : decode cX9_takesE 266 = .ok (.iconst 0, 1) := by decide +kernel
theorem dX9_takesE_267 : decode cX9_takesE 267 = .ok (.ireturn, 1) := by decide +kernel
theorem dX9_takesE_268 : decode cX9_takesE 268 = .ok (.aload_n 0, 1) := by decide +kernel
theorem dX9_takesE_269 : decode cX9_takesE 269 = .ok (.getfield 52, 3) := by decide +kernel
theorem dX9_takesE_272 : decode cX9_takesE 272 = .ok (.iload_n 1, 1) := by decide +kernel
theorem dX9_takesE_273 : decode cX9_takesE 273 = .ok (.iload 4, 2) := by decide +kernel
theorem dX9_takesE_275 : decode cX9_takesE 275 = .ok (.invokestatic 250, 3) := by decide +kernel
theorem dX9_takesE_278 : decode cX9_takesE 278 = .ok (.iconst 3, 1) := by decide +kernel
theorem dX9_takesE_279 : decode cX9_takesE 279 = .ok (.if_icmp .eq 21, 3) := by decide +kernel
theorem dX9_takesE_282 : decode cX9_takesE 282 = .ok (.iload 4, 2) := by decide +kernel
theorem dX9_takesE_284 : decode cX9_takesE 284 = .ok (.invokestatic 250, 3) := by decide +kernel
theorem dX9_takesE_287 : decode cX9_takesE 287 = .ok (.iconst 3, 1) := by decide +kernel
theorem dX9_takesE_288 : decode cX9_takesE 288 = .ok (.if_icmp .le 16, 3) := by decide +kernel
theorem dX9_takesE_291 : decode cX9_takesE 291 = .ok (.aload_n 0, 1) := by decide +kernel
theorem dX9_takesE_292 : decode cX9_takesE 292 = .ok (.getfield 52, 3) := by decide +kernel
theorem dX9_takesE_295 : decode cX9_takesE 295 = .ok (.iload_n 1, 1) := by decide +kernel
theorem dX9_takesE_296 : decode cX9_takesE 296 = .ok (.baload, 1) := by decide +kernel
theorem dX9_takesE_297 : decode cX9_takesE 297 = .ok (.ifCond .eq 7, 3) := by decide +kernel
theorem dX9_takesE_300 : decode cX9_takesE 300 = .ok (.iconst 1, 1) := by decide +kernel
theorem dX9_takesE_301 : decode cX9_takesE 301 = .ok (.goto 4, 3) := by decide +kernel
theorem dX9_takesE_304 : decode cX9_takesE 304 = .ok (.iconst 0, 1) := by decide +kernel
theorem dX9_takesE_305 : decode cX9_takesE 305 = .ok (.bastore, 1) := by decide +kernel
theorem dX9_takesE_306 : decode cX9_takesE 306 = .ok (.aload_n 0, 1) := by decide +kernel
theorem dX9_takesE_307 : decode cX9_takesE 307 = .ok (.iload 4, 2) := by decide +kernel
theorem dX9_takesE_309 : decode cX9_takesE 309 = .ok (.invokestatic 250, 3) := by decide +kernel
theorem dX9_takesE_312 : decode cX9_takesE 312 = .ok (.invokevirtual 262, 3) := by decide +kernel
theorem dX9_takesE_315 : decode cX9_takesE 315 = .ok (.aload_n 0, 1) := by decide +kernel
theorem dX9_takesE_316 : decode cX9_takesE 316 = .ok (.getfield 49, 3) := by decide +kernel
theorem dX9_takesE_319 : decode cX9_takesE 319 = .ok (.aload_n 0, 1) := by decide +kernel
theorem dX9_takesE_320 : decode cX9_takesE 320 = .ok (.getfield 247, 3) := by decide +kernel
theorem dX9_takesE_323 : decode cX9_takesE 323 = .ok (.iload 4, 2) := by decide +kernel
theorem dX9_takesE_325 : decode cX9_takesE 325 = .ok (.iastore, 1) := by decide +kernel
theorem dX9_takesE_326 : decode cX9_takesE 326 = .ok (.aload_n 0, 1) := by decide +kernel
theorem dX9_takesE_327 : decode cX9_takesE 327 = .ok (.dup, 1) := by decide +kernel
theorem dX9_takesE_328 : decode cX9_takesE 328 = .ok (.getfield 247, 3) := by decide +kernel
theorem dX9_takesE_331 : decode cX9_takesE 331 = .ok (.iconst 1, 1) := by decide +kernel
theorem dX9_takesE_332 : decode cX9_takesE 332 = .ok (.iadd, 1) := by decide +kernel
theorem dX9_takesE_333 : decode cX9_takesE 333 = .ok (.putfield 247, 3) := by decide +kernel
theorem dX9_takesE_336 : decode cX9_takesE 336 = .ok (.iconst 1, 1) := by decide +kernel
theorem dX9_takesE_337 : decode cX9_takesE 337 = .ok (.istore_n 3, 1) := by decide +kernel
theorem dX9_takesE_338 : decode cX9_takesE 338 = .ok (.aload_n 0, 1) := by decide +kernel
theorem dX9_takesE_339 : decode cX9_takesE 339 = .ok (.invokevirtual 244, 3) := by decide +kernel
theorem dX9_takesE_342 : decode cX9_takesE 342 = .ok (.goto (-314), 3) := by decide +kernel
theorem dX9_takesE_345 : decode cX9_takesE 345 = .ok (.aload_n 0, 1) := by decide +kernel
theorem dX9_takesE_346 : decode cX9_takesE 346 = .ok (.iconst 0, 1) := by decide +kernel
theorem dX9_takesE_347 : decode cX9_takesE 347 = .ok (.invokevirtual 262, 3) := by decide +kernel
theorem dX9_takesE_350 : decode cX9_takesE 350 = .ok (.iload_n 1, 1) := by decide +kernel
theorem dX9_takesE_351 : decode cX9_takesE 351 = .ok (.ifCond .ne 7, 3) := by decide +kernel
theorem dX9_takesE_354 : decode cX9_takesE 354 = .ok (.iconst 1, 1) := by decide +kernel
theorem dX9_takesE_355 : decode cX9_takesE 355 = .ok (.goto 4, 3) := by decide +kernel
theorem dX9_takesE_358 : decode cX9_takesE 358 = .ok (.iconst 0, 1) := by decide +kernel
theorem dX9_takesE_359 : decode cX9_takesE 359 = .ok (.ireturn, 1) := by decide +kernel
theorem dX9_notsOpen_0 : decode cX9_notsOpen 0 = .ok (.iconst 0, 1) := by decide +kernel
theorem dX9_notsOpen_1 : decode cX9_notsOpen 1 = .ok (.istore_n 1, 1) := by decide +kernel
theorem dX9_notsOpen_2 : decode cX9_notsOpen 2 = .ok (.iconst 0, 1) := by decide +kernel
theorem dX9_notsOpen_3 : decode cX9_notsOpen 3 = .ok (.istore_n 2, 1) := by decide +kernel
theorem dX9_notsOpen_4 : decode cX9_notsOpen 4 = .ok (.iload_n 2, 1) := by decide +kernel
theorem dX9_notsOpen_5 : decode cX9_notsOpen 5 = .ok (.aload_n 0, 1) := by decide +kernel
theorem dX9_notsOpen_6 : decode cX9_notsOpen 6 = .ok (.getfield 247, 3) := by decide +kernel
theorem dX9_notsOpen_9 : decode cX9_notsOpen 9 = .ok (.if_icmp .ge 28, 3) := by decide +kernel
theorem dX9_notsOpen_12 : decode cX9_notsOpen 12 = .ok (.iload_n 1, 1) := by decide +kernel
theorem dX9_notsOpen_13 : decode cX9_notsOpen 13 = .ok (.aload_n 0, 1) := by decide +kernel
theorem dX9_notsOpen_14 : decode cX9_notsOpen 14 = .ok (.getfield 49, 3) := by decide +kernel
theorem dX9_notsOpen_17 : decode cX9_notsOpen 17 = .ok (.iload_n 2, 1) := by decide +kernel
theorem dX9_notsOpen_18 : decode cX9_notsOpen 18 = .ok (.iaload, 1) := by decide +kernel
theorem dX9_notsOpen_19 : decode cX9_notsOpen 19 = .ok (.bipush (-10), 2) := by decide +kernel
theorem dX9_notsOpen_21 : decode cX9_notsOpen 21 = .ok (.if_icmp .ne 7, 3) := by decide +kernel
theorem dX9_notsOpen_24 : decode cX9_notsOpen 24 = .ok (.iconst 1, 1) := by decide +kernel
theorem dX9_notsOpen_25 : decode cX9_notsOpen 25 = .ok (.goto 4, 3) := by decide +kernel
theorem dX9_notsOpen_28 : decode cX9_notsOpen 28 = .ok (.iconst 0, 1) := by decide +kernel
theorem dX9_notsOpen_29 : decode cX9_notsOpen 29 = .ok (.iadd, 1) := by decide +kernel
theorem dX9_notsOpen_30 : decode cX9_notsOpen 30 = .ok (.istore_n 1, 1) := by decide +kernel
theorem dX9_notsOpen_31 : decode cX9_notsOpen 31 = .ok (.iinc 2 1, 3) := by decide +kernel
theorem dX9_notsOpen_34 : decode cX9_notsOpen 34 = .ok (.goto (-30), 3) := by decide +kernel
theorem dX9_notsOpen_37 : decode cX9_notsOpen 37 = .ok (.iload_n 1, 1) := by decide +kernel
theorem dX9_notsOpen_38 : decode cX9_notsOpen 38 = .ok (.ireturn, 1) := by decide +kernel
theorem dX9_text_0 : decode cX9_text 0 = .ok (.aload_n 0, 1) := by decide +kernel
theorem dX9_text_1 : decode cX9_text 1 = .ok (.iconst 0, 1) := by decide +kernel
theorem dX9_text_2 : decode cX9_text 2 = .ok (.putfield 220, 3) := by decide +kernel
theorem dX9_text_5 : decode cX9_text 5 = .ok (.aload_n 0, 1) := by decide +kernel
theorem dX9_text_6 : decode cX9_text 6 = .ok (.iconst (-1), 1) := by decide +kernel
theorem dX9_text_7 : decode cX9_text 7 = .ok (.putfield 226, 3) := by decide +kernel
theorem dX9_text_10 : decode cX9_text 10 = .ok (.aload_n 0, 1) := by decide +kernel
theorem dX9_text_11 : decode cX9_text 11 = .ok (.invokevirtual 244, 3) := by decide +kernel
theorem dX9_text_14 : decode cX9_text 14 = .ok (.aload_n 0, 1) := by decide +kernel
theorem dX9_text_15 : decode cX9_text 15 = .ok (.invokevirtual 275, 3) := by decide +kernel
theorem dX9_text_18 : decode cX9_text 18 = .ok (.ifCond .eq 14, 3) := by decide +kernel
theorem dX9_text_21 : decode cX9_text 21 = .ok (.aload_n 0, 1) := by decide +kernel
theorem dX9_text_22 : decode cX9_text 22 = .ok (.invokevirtual 278, 3) := by decide +kernel
theorem dX9_text_25 : decode cX9_text 25 = .ok (.ifCond .eq 7, 3) := by decide +kernel
theorem dX9_text_28 : decode cX9_text 28 = .ok (.iconst 1, 1) := by decide +kernel
theorem dX9_text_29 : decode cX9_text 29 = .ok (.goto 4, 3) := by decide +kernel
theorem dX9_text_32 : decode cX9_text 32 = .ok (.iconst 0, 1) := by decide +kernel
theorem dX9_text_33 : decode cX9_text 33 = .ok (.istore_n 1, 1) := by decide +kernel
theorem dX9_text_34 : decode cX9_text 34 = .ok (.aload_n 0, 1) := by decide +kernel
theorem dX9_text_35 : decode cX9_text 35 = .ok (.iconst 0, 1) := by decide +kernel
theorem dX9_text_36 : decode cX9_text 36 = .ok (.putfield 217, 3) := by decide +kernel
theorem dX9_text_39 : decode cX9_text 39 = .ok (.iload_n 1, 1) := by decide +kernel
theorem dX9_text_40 : decode cX9_text 40 = .ok (.ifCond .ne 11, 3) := by decide +kernel
theorem dX9_text_43 : decode cX9_text 43 = .ok (.bipush (-100), 2) := by decide +kernel
theorem dX9_text_45 : decode cX9_text 45 = .ok (.aload_n 0, 1) := by decide +kernel
theorem dX9_text_46 : decode cX9_text 46 = .ok (.getfield 223, 3) := by decide +kernel
theorem dX9_text_49 : decode cX9_text 49 = .ok (.isub, 1) := by decide +kernel
theorem dX9_text_50 : decode cX9_text 50 = .ok (.ireturn, 1) := by decide +kernel
theorem dX9_text_51 : decode cX9_text 51 = .ok (.aload_n 0, 1) := by decide +kernel
theorem dX9_text_52 : decode cX9_text 52 = .ok (.getfield 9, 3) := by decide +kernel
theorem dX9_text_55 : decode cX9_text 55 = .ok (.iconst 2, 1) := by decide +kernel
theorem dX9_text_56 : decode cX9_text 56 = .ok (.iaload, 1) := by decide +kernel
theorem dX9_text_57 : decode cX9_text 57 = .ok (.bipush 14, 2) := by decide +kernel
theorem dX9_text_59 : decode cX9_text 59 = .ok (.if_icmp .ne 6, 3) := by decide +kernel
theorem dX9_text_62 : decode cX9_text 62 = .ok (.ldc 93, 2) := by decide +kernel
theorem dX9_text_64 : decode cX9_text 64 = .ok (.ireturn, 1) := by decide +kernel
theorem dX9_text_65 : decode cX9_text 65 = .ok (.aload_n 0, 1) := by decide +kernel
theorem dX9_text_66 : decode cX9_text 66 = .ok (.getfield 9, 3) := by decide +kernel
theorem dX9_text_69 : decode cX9_text 69 = .ok (.iconst 2, 1) := by decide +kernel
theorem dX9_text_70 : decode cX9_text 70 = .ok (.iaload, 1) := by decide +kernel
theorem dX9_text_71 : decode cX9_text 71 = .ok (.istore_n 2, 1) := by decide +kernel
theorem dX9_text_72 : decode cX9_text 72 = .ok (.aload_n 0, 1) := by decide +kernel
theorem dX9_text_73 : decode cX9_text 73 = .ok (.getfield 9, 3) := by decide +kernel
theorem dX9_text_76 : decode cX9_text 76 = .ok (.bipush 99, 2) := by decide +kernel
theorem dX9_text_78 : decode cX9_text 78 = .ok (.iconst 2, 1) := by decide +kernel
theorem dX9_text_79 : decode cX9_text 79 = .ok (.iload_n 2, 1) := by decide +kernel
theorem dX9_text_80 : decode cX9_text 80 = .ok (.imul, 1) := by decide +kernel
theorem dX9_text_81 : decode cX9_text 81 = .ok (.iadd, 1) := by decide +kernel
theorem dX9_text_82 : decode cX9_text 82 = .ok (.sipush 1000, 3) := by decide +kernel
theorem dX9_text_85 : decode cX9_text 85 = .ok (.aload_n 0, 1) := by decide +kernel
theorem dX9_text_86 : decode cX9_text 86 = .ok (.getfield 241, 3) := by decide +kernel
theorem dX9_text_89 : decode cX9_text 89 = .ok (.imul, 1) := by decide +kernel
theorem dX9_text_90 : decode cX9_text 90 = .ok (.aload_n 0, 1) := by decide +kernel
theorem dX9_text_91 : decode cX9_text 91 = .ok (.getfield 253, 3) := by decide +kernel
theorem dX9_text_94 : decode cX9_text 94 = .ok (.iadd, 1) := by decide +kernel
theorem dX9_text_95 : decode cX9_text 95 = .ok (.iastore, 1) := by decide +kernel
theorem dX9_text_96 : decode cX9_text 96 = .ok (.aload_n 0, 1) := by decide +kernel
theorem dX9_text_97 : decode cX9_text 97 = .ok (.getfield 9, 3) := by decide +kernel
theorem dX9_text_100 : decode cX9_text 100 = .ok (.bipush 99, 2) := by decide +kernel
theorem dX9_text_102 : decode cX9_text 102 = .ok (.iconst 2, 1) := by decide +kernel
theorem dX9_text_103 : decode cX9_text 103 = .ok (.iload_n 2, 1) := by decide +kernel
theorem dX9_text_104 : decode cX9_text 104 = .ok (.imul, 1) := by decide +kernel
theorem dX9_text_105 : decode cX9_text 105 = .ok (.iadd, 1) := by decide +kernel
theorem dX9_text_106 : decode cX9_text 106 = .ok (.iconst 1, 1) := by decide +kernel
theorem dX9_text_107 : decode cX9_text 107 = .ok (.iadd, 1) := by decide +kernel
theorem dX9_text_108 : decode cX9_text 108 = .ok (.aload_n 0, 1) := by decide +kernel
theorem dX9_text_109 : decode cX9_text 109 = .ok (.getfield 259, 3) := by decide +kernel
theorem dX9_text_112 : decode cX9_text 112 = .ok (.iastore, 1) := by decide +kernel
theorem dX9_text_113 : decode cX9_text 113 = .ok (.iconst 0, 1) := by decide +kernel
theorem dX9_text_114 : decode cX9_text 114 = .ok (.istore_n 3, 1) := by decide +kernel
theorem dX9_text_115 : decode cX9_text 115 = .ok (.iload_n 3, 1) := by decide +kernel
theorem dX9_text_116 : decode cX9_text 116 = .ok (.aload_n 0, 1) := by decide +kernel
theorem dX9_text_117 : decode cX9_text 117 = .ok (.getfield 253, 3) := by decide +kernel
theorem dX9_text_120 : decode cX9_text 120 = .ok (.if_icmp .ge 29, 3) := by decide +kernel
theorem dX9_text_123 : decode cX9_text 123 = .ok (.aload_n 0, 1) := by decide +kernel
theorem dX9_text_124 : decode cX9_text 124 = .ok (.getfield 9, 3) := by decide +kernel
theorem dX9_text_127 : decode cX9_text 127 = .ok (.bipush 127, 2) := by decide +kernel
theorem dX9_text_129 : decode cX9_text 129 = .ok (.bipush 96, 2) := by decide +kernel
theorem dX9_text_131 : decode cX9_text 131 = .ok (.iload_n 2, 1) := by decide +kernel
theorem dX9_text_132 : decode cX9_text 132 = .ok (.imul, 1) := by decide +kernel
theorem dX9_text_133 : decode cX9_text 133 = .ok (.iadd, 1) := by decide +kernel
theorem dX9_text_134 : decode cX9_text 134 = .ok (.iload_n 3, 1) := by decide +kernel
theorem dX9_text_135 : decode cX9_text 135 = .ok (.iadd, 1) := by decide +kernel
theorem dX9_text_136 : decode cX9_text 136 = .ok (.aload_n 0, 1) := by decide +kernel
theorem dX9_text_137 : decode cX9_text 137 = .ok (.getfield 46, 3) := by decide +kernel
theorem dX9_text_140 : decode cX9_text 140 = .ok (.iload_n 3, 1) := by decide +kernel
theorem dX9_text_141 : decode cX9_text 141 = .ok (.iaload, 1) := by decide +kernel
theorem dX9_text_142 : decode cX9_text 142 = .ok (.iastore, 1) := by decide +kernel
theorem dX9_text_143 : decode cX9_text 143 = .ok (.iinc 3 1, 3) := by decide +kernel
theorem dX9_text_146 : decode cX9_text 146 = .ok (.goto (-31), 3) := by decide +kernel
theorem dX9_text_149 : decode cX9_text 149 = .ok (.aload_n 0, 1) := by decide +kernel
theorem dX9_text_150 : decode cX9_text 150 = .ok (.getfield 9, 3) := by decide +kernel
theorem dX9_text_153 : decode cX9_text 153 = .ok (.iconst 2, 1) := by decide +kernel
theorem dX9_text_154 : decode cX9_text 154 = .ok (.dup2, 1) := by decide +kernel
theorem dX9_text_155 : decode cX9_text 155 = .ok (.iaload, 1) := by decide +kernel
theorem dX9_text_156 : decode cX9_text 156 = .ok (.iconst 1, 1) := by decide +kernel
theorem dX9_text_157 : decode cX9_text 157 = .ok (.iadd, 1) := by decide +kernel
theorem dX9_text_158 : decode cX9_text 158 = .ok (.iastore, 1) := by decide +kernel
theorem dX9_text_159 : decode cX9_text 159 = .ok (.iload_n 2, 1) := by decide +kernel
theorem dX9_text_160 : decode cX9_text 160 = .ok (.ireturn, 1) := by decide +kernel
theorem dX9_textTold_0 : decode cX9_textTold 0 = .ok (.iload_n 1, 1) := by decide +kernel
theorem dX9_textTold_1 : decode cX9_textTold 1 = .ok (.iconst 0, 1) := by decide +kernel
theorem dX9_textTold_2 : decode cX9_textTold 2 = .ok (.aload_n 0, 1) := by decide +kernel
theorem dX9_textTold_3 : decode cX9_textTold 3 = .ok (.getfield 9, 3) := by decide +kernel
theorem dX9_textTold_6 : decode cX9_textTold 6 = .ok (.iconst 2, 1) := by decide +kernel
theorem dX9_textTold_7 : decode cX9_textTold 7 = .ok (.iaload, 1) := by decide +kernel
theorem dX9_textTold_8 : decode cX9_textTold 8 = .ok (.iconst 1, 1) := by decide +kernel
theorem dX9_textTold_9 : decode cX9_textTold 9 = .ok (.isub, 1) := by decide +kernel
theorem dX9_textTold_10 : decode cX9_textTold 10 = .ok (.invokestatic 88, 3) := by decide +kernel
theorem dX9_textTold_13 : decode cX9_textTold 13 = .ok (.ifCond .eq 12, 3) := by decide +kernel
theorem dX9_textTold_16 : decode cX9_textTold 16 = .ok (.iload_n 2, 1) := by decide +kernel
theorem dX9_textTold_17 : decode cX9_textTold 17 = .ok (.iconst 0, 1) := by decide +kernel
theorem dX9_textTold_18 : decode cX9_textTold 18 = .ok (.iconst 1, 1) := by decide +kernel
theorem dX9_textTold_19 : decode cX9_textTold 19 = .ok (.invokestatic 88, 3) := by decide +kernel
theorem dX9_textTold_22 : decode cX9_textTold 22 = .ok (.ifCond .ne 6, 3) := by decide +kernel
theorem dX9_textTold_25 : decode cX9_textTold 25 = .ok (.ldc 92, 2) := by decide +kernel
theorem dX9_textTold_27 : decode cX9_textTold 27 = .ok (.ireturn, 1) := by decide +kernel
theorem dX9_textTold_28 : decode cX9_textTold 28 = .ok (.iload_n 2, 1) := by decide +kernel
theorem dX9_textTold_29 : decode cX9_textTold 29 = .ok (.ifCond .ne 21, 3) := by decide +kernel
theorem dX9_textTold_32 : decode cX9_textTold 32 = .ok (.aload_n 0, 1) := by decide +kernel
theorem dX9_textTold_33 : decode cX9_textTold 33 = .ok (.getfield 9, 3) := by decide +kernel
theorem dX9_textTold_36 : decode cX9_textTold 36 = .ok (.bipush 99, 2) := by decide +kernel
theorem dX9_textTold_38 : decode cX9_textTold 38 = .ok (.iconst 2, 1) := by decide +kernel
theorem dX9_textTold_39 : decode cX9_textTold 39 = .ok (.iload_n 1, 1) := by decide +kernel
theorem dX9_textTold_40 : decode cX9_textTold 40 = .ok (.imul, 1) := by decide +kernel
theorem dX9_textTold_41 : decode cX9_textTold 41 = .ok (.iadd, 1) := by decide +kernel
theorem dX9_textTold_42 : decode cX9_textTold 42 = .ok (.iaload, 1) := by decide +kernel
theorem dX9_textTold_43 : decode cX9_textTold 43 = .ok (.sipush 1000, 3) := by decide +kernel
theorem dX9_textTold_46 : decode cX9_textTold 46 = .ok (.idiv, 1) := by decide +kernel
theorem dX9_textTold_47 : decode cX9_textTold 47 = .ok (.goto 16, 3) := by decide +kernel
theorem dX9_textTold_50 : decode cX9_textTold 50 = .ok (.aload_n 0, 1) := by decide +kernel
theorem dX9_textTold_51 : decode cX9_textTold 51 = .ok (.getfield 9, 3) := by decide +kernel
theorem dX9_textTold_54 : decode cX9_textTold 54 = .ok (.bipush 99, 2) := by decide +kernel
theorem dX9_textTold_56 : decode cX9_textTold 56 = .ok (.iconst 2, 1) := by decide +kernel
theorem dX9_textTold_57 : decode cX9_textTold 57 = .ok (.iload_n 1, 1) := by decide +kernel
theorem dX9_textTold_58 : decode cX9_textTold 58 = .ok (.imul, 1) := by decide +kernel
theorem dX9_textTold_59 : decode cX9_textTold 59 = .ok (.iadd, 1) := by decide +kernel
theorem dX9_textTold_60 : decode cX9_textTold 60 = .ok (.iconst 1, 1) := by decide +kernel
theorem dX9_textTold_61 : decode cX9_textTold 61 = .ok (.iadd, 1) := by decide +kernel
theorem dX9_textTold_62 : decode cX9_textTold 62 = .ok (.iaload, 1) := by decide +kernel
theorem dX9_textTold_63 : decode cX9_textTold 63 = .ok (.ireturn, 1) := by decide +kernel
theorem dX9_counts_0 : decode cX9_counts 0 = .ok (.aload_n 0, 1) := by decide +kernel
theorem dX9_counts_1 : decode cX9_counts 1 = .ok (.getfield 9, 3) := by decide +kernel
theorem dX9_counts_4 : decode cX9_counts 4 = .ok (.iconst 2, 1) := by decide +kernel
theorem dX9_counts_5 : decode cX9_counts 5 = .ok (.iaload, 1) := by decide +kernel
theorem dX9_counts_6 : decode cX9_counts 6 = .ok (.iconst 1, 1) := by decide +kernel
theorem dX9_counts_7 : decode cX9_counts 7 = .ok (.isub, 1) := by decide +kernel
theorem dX9_counts_8 : decode cX9_counts 8 = .ok (.istore_n 2, 1) := by decide +kernel
theorem dX9_counts_9 : decode cX9_counts 9 = .ok (.iload_n 2, 1) := by decide +kernel
theorem dX9_counts_10 : decode cX9_counts 10 = .ok (.ifCond .lt 30, 3) := by decide +kernel
theorem dX9_counts_13 : decode cX9_counts 13 = .ok (.aload_n 0, 1) := by decide +kernel
theorem dX9_counts_14 : decode cX9_counts 14 = .ok (.getfield 9, 3) := by decide +kernel
theorem dX9_counts_17 : decode cX9_counts 17 = .ok (.bipush 99, 2) := by decide +kernel
theorem dX9_counts_19 : decode cX9_counts 19 = .ok (.iconst 2, 1) := by decide +kernel
theorem dX9_counts_20 : decode cX9_counts 20 = .ok (.iload_n 2, 1) := by decide +kernel
theorem dX9_counts_21 : decode cX9_counts 21 = .ok (.imul, 1) := by decide +kernel
theorem dX9_counts_22 : decode cX9_counts 22 = .ok (.iadd, 1) := by decide +kernel
theorem dX9_counts_23 : decode cX9_counts 23 = .ok (.iaload, 1) := by decide +kernel
theorem dX9_counts_24 : decode cX9_counts 24 = .ok (.sipush 1000, 3) := by decide +kernel
theorem dX9_counts_27 : decode cX9_counts 27 = .ok (.idiv, 1) := by decide +kernel
theorem dX9_counts_28 : decode cX9_counts 28 = .ok (.iload_n 1, 1) := by decide +kernel
theorem dX9_counts_29 : decode cX9_counts 29 = .ok (.if_icmp .ne 5, 3) := by decide +kernel
theorem dX9_counts_32 : decode cX9_counts 32 = .ok (.iload_n 2, 1) := by decide +kernel
theorem dX9_counts_33 : decode cX9_counts 33 = .ok (.ireturn, 1) := by decide +kernel
theorem dX9_counts_34 : decode cX9_counts 34 = .ok (.iinc 2 (-1), 3) := by decide +kernel
theorem dX9_counts_37 : decode cX9_counts 37 = .ok (.goto (-28), 3) := by decide +kernel
theorem dX9_counts_40 : decode cX9_counts 40 = .ok (.iconst (-1), 1) := by decide +kernel
theorem dX9_counts_41 : decode cX9_counts 41 = .ok (.ireturn, 1) := by decide +kernel
theorem dX9_why_0 : decode cX9_why 0 = .ok (.iload_n 1, 1) := by decide +kernel
theorem dX9_why_1 : decode cX9_why 1 = .ok (.iconst 0, 1) := by decide +kernel
theorem dX9_why_2 : decode cX9_why 2 = .ok (.iconst 2, 1) := by decide +kernel
theorem dX9_why_3 : decode cX9_why 3 = .ok (.invokestatic 88, 3) := by decide +kernel
theorem dX9_why_6 : decode cX9_why 6 = .ok (.ifCond .ne 6, 3) := by decide +kernel
theorem dX9_why_9 : decode cX9_why 9 = .ok (.ldc 92, 2) := by decide +kernel
theorem dX9_why_11 : decode cX9_why 11 = .ok (.ireturn, 1) := by decide +kernel
theorem dX9_why_12 : decode cX9_why 12 = .ok (.aload_n 0, 1) := by decide +kernel
theorem dX9_why_13 : decode cX9_why 13 = .ok (.iload_n 1, 1) := by decide +kernel
theorem dX9_why_14 : decode cX9_why 14 = .ok (.invokevirtual 109, 3) := by decide +kernel
theorem dX9_why_17 : decode cX9_why 17 = .ok (.istore_n 2, 1) := by decide +kernel
theorem dX9_why_18 : decode cX9_why 18 = .ok (.iload_n 2, 1) := by decide +kernel
theorem dX9_why_19 : decode cX9_why 19 = .ok (.ifCond .ge 8, 3) := by decide +kernel
theorem dX9_why_22 : decode cX9_why 22 = .ok (.ldc 212, 2) := by decide +kernel
theorem dX9_why_24 : decode cX9_why 24 = .ok (.goto 4, 3) := by decide +kernel
theorem dX9_why_27 : decode cX9_why 27 = .ok (.iload_n 2, 1) := by decide +kernel
theorem dX9_why_28 : decode cX9_why 28 = .ok (.ireturn, 1) := by decide +kernel
theorem dX9_two_0 : decode cX9_two 0 = .ok (.iload_n 0, 1) := by decide +kernel
theorem dX9_two_1 : decode cX9_two 1 = .ok (.tableswitch 120 (-8) (-1) #[116, 112, 108, 97, 86, 75, 61, 47], 47) := by decide +kernel
theorem dX9_two_48 : decode cX9_two 48 = .ok (.iload_n 1, 1) := by decide +kernel
theorem dX9_two_49 : decode cX9_two 49 = .ok (.ifCond .ne 7, 3) := by decide +kernel
theorem dX9_two_52 : decode cX9_two 52 = .ok (.iload_n 2, 1) := by decide +kernel
theorem dX9_two_53 : decode cX9_two 53 = .ok (.ifCond .eq 7, 3) := by decide +kernel
theorem dX9_two_56 : decode cX9_two 56 = .ok (.iconst 1, 1) := by decide +kernel
theorem dX9_two_57 : decode cX9_two 57 = .ok (.goto 4, 3) := by decide +kernel
theorem dX9_two_60 : decode cX9_two 60 = .ok (.iconst 0, 1) := by decide +kernel
theorem dX9_two_61 : decode cX9_two 61 = .ok (.ireturn, 1) := by decide +kernel
theorem dX9_two_62 : decode cX9_two 62 = .ok (.iload_n 1, 1) := by decide +kernel
theorem dX9_two_63 : decode cX9_two 63 = .ok (.ifCond .eq 11, 3) := by decide +kernel
theorem dX9_two_66 : decode cX9_two 66 = .ok (.iload_n 2, 1) := by decide +kernel
theorem dX9_two_67 : decode cX9_two 67 = .ok (.ifCond .eq 7, 3) := by decide +kernel
theorem dX9_two_70 : decode cX9_two 70 = .ok (.iconst 1, 1) := by decide +kernel
theorem dX9_two_71 : decode cX9_two 71 = .ok (.goto 4, 3) := by decide +kernel
theorem dX9_two_74 : decode cX9_two 74 = .ok (.iconst 0, 1) := by decide +kernel
theorem dX9_two_75 : decode cX9_two 75 = .ok (.ireturn, 1) := by decide +kernel
theorem dX9_two_76 : decode cX9_two 76 = .ok (.iload_n 1, 1) := by decide +kernel
theorem dX9_two_77 : decode cX9_two 77 = .ok (.iload_n 2, 1) := by decide +kernel
theorem dX9_two_78 : decode cX9_two 78 = .ok (.if_icmp .ge 7, 3) := by decide +kernel
theorem dX9_two_81 : decode cX9_two 81 = .ok (.iconst 1, 1) := by decide +kernel
theorem dX9_two_82 : decode cX9_two 82 = .ok (.goto 4, 3) := by decide +kernel
theorem dX9_two_85 : decode cX9_two 85 = .ok (.iconst 0, 1) := by decide +kernel
theorem dX9_two_86 : decode cX9_two 86 = .ok (.ireturn, 1) := by decide +kernel
theorem dX9_two_87 : decode cX9_two 87 = .ok (.iload_n 1, 1) := by decide +kernel
theorem dX9_two_88 : decode cX9_two 88 = .ok (.iload_n 2, 1) := by decide +kernel
theorem dX9_two_89 : decode cX9_two 89 = .ok (.if_icmp .ne 7, 3) := by decide +kernel
theorem dX9_two_92 : decode cX9_two 92 = .ok (.iconst 1, 1) := by decide +kernel
theorem dX9_two_93 : decode cX9_two 93 = .ok (.goto 4, 3) := by decide +kernel
theorem dX9_two_96 : decode cX9_two 96 = .ok (.iconst 0, 1) := by decide +kernel
theorem dX9_two_97 : decode cX9_two 97 = .ok (.ireturn, 1) := by decide +kernel
theorem dX9_two_98 : decode cX9_two 98 = .ok (.iload_n 1, 1) := by decide +kernel
theorem dX9_two_99 : decode cX9_two 99 = .ok (.iload_n 2, 1) := by decide +kernel
theorem dX9_two_100 : decode cX9_two 100 = .ok (.if_icmp .le 7, 3) := by decide +kernel
theorem dX9_two_103 : decode cX9_two 103 = .ok (.iconst 1, 1) := by decide +kernel
theorem dX9_two_104 : decode cX9_two 104 = .ok (.goto 4, 3) := by decide +kernel
theorem dX9_two_107 : decode cX9_two 107 = .ok (.iconst 0, 1) := by decide +kernel
theorem dX9_two_108 : decode cX9_two 108 = .ok (.ireturn, 1) := by decide +kernel
theorem dX9_two_109 : decode cX9_two 109 = .ok (.iload_n 1, 1) := by decide +kernel
theorem dX9_two_110 : decode cX9_two 110 = .ok (.iload_n 2, 1) := by decide +kernel
theorem dX9_two_111 : decode cX9_two 111 = .ok (.iadd, 1) := by decide +kernel
theorem dX9_two_112 : decode cX9_two 112 = .ok (.ireturn, 1) := by decide +kernel
theorem dX9_two_113 : decode cX9_two 113 = .ok (.iload_n 1, 1) := by decide +kernel
theorem dX9_two_114 : decode cX9_two 114 = .ok (.iload_n 2, 1) := by decide +kernel
theorem dX9_two_115 : decode cX9_two 115 = .ok (.isub, 1) := by decide +kernel
theorem dX9_two_116 : decode cX9_two 116 = .ok (.ireturn, 1) := by decide +kernel
theorem dX9_two_117 : decode cX9_two 117 = .ok (.iload_n 1, 1) := by decide +kernel
theorem dX9_two_118 : decode cX9_two 118 = .ok (.iload_n 2, 1) := by decide +kernel
theorem dX9_two_119 : decode cX9_two 119 = .ok (.imul, 1) := by decide +kernel
theorem dX9_two_120 : decode cX9_two 120 = .ok (.ireturn, 1) := by decide +kernel
theorem dX9_two_121 : decode cX9_two 121 = .ok (.iload_n 2, 1) := by decide +kernel
theorem dX9_two_122 : decode cX9_two 122 = .ok (.ifCond .ne 7, 3) := by decide +kernel
theorem dX9_two_125 : decode cX9_two 125 = .ok (.iconst 0, 1) := by decide +kernel
theorem dX9_two_126 : decode cX9_two 126 = .ok (.goto 6, 3) := by decide +kernel
theorem dX9_two_129 : decode cX9_two 129 = .ok (.iload_n 1, 1) := by decide +kernel
theorem dX9_two_130 : decode cX9_two 130 = .ok (.iload_n 2, 1) := by decide +kernel
theorem dX9_two_131 : decode cX9_two 131 = .ok (.idiv, 1) := by decide +kernel
theorem dX9_two_132 : decode cX9_two 132 = .ok (.ireturn, 1) := by decide +kernel
theorem dX9_worksOut_0 : decode cX9_worksOut 0 = .ok (.iconst 0, 1) := by decide +kernel
theorem dX9_worksOut_1 : decode cX9_worksOut 1 = .ok (.istore_n 2, 1) := by decide +kernel
theorem dX9_worksOut_2 : decode cX9_worksOut 2 = .ok (.aload_n 0, 1) := by decide +kernel
theorem dX9_worksOut_3 : decode cX9_worksOut 3 = .ok (.getfield 9, 3) := by decide +kernel
theorem dX9_worksOut_6 : decode cX9_worksOut 6 = .ok (.bipush 99, 2) := by decide +kernel
theorem dX9_worksOut_8 : decode cX9_worksOut 8 = .ok (.iconst 2, 1) := by decide +kernel
theorem dX9_worksOut_9 : decode cX9_worksOut 9 = .ok (.iload_n 1, 1) := by decide +kernel
theorem dX9_worksOut_10 : decode cX9_worksOut 10 = .ok (.imul, 1) := by decide +kernel
theorem dX9_worksOut_11 : decode cX9_worksOut 11 = .ok (.iadd, 1) := by decide +kernel
theorem dX9_worksOut_12 : decode cX9_worksOut 12 = .ok (.iaload, 1) := by decide +kernel
theorem dX9_worksOut_13 : decode cX9_worksOut 13 = .ok (.sipush 1000, 3) := by decide +kernel
theorem dX9_worksOut_16 : decode cX9_worksOut 16 = .ok (.irem, 1) := by decide +kernel
theorem dX9_worksOut_17 : decode cX9_worksOut 17 = .ok (.istore_n 3, 1) := by decide +kernel
theorem dX9_worksOut_18 : decode cX9_worksOut 18 = .ok (.iconst 0, 1) := by decide +kernel
theorem dX9_worksOut_19 : decode cX9_worksOut 19 = .ok (.istore 4, 2) := by decide +kernel
theorem dX9_worksOut_21 : decode cX9_worksOut 21 = .ok (.iload 4, 2) := by decide +kernel
theorem dX9_worksOut_23 : decode cX9_worksOut 23 = .ok (.iload_n 3, 1) := by decide +kernel
theorem dX9_worksOut_24 : decode cX9_worksOut 24 = .ok (.if_icmp .ge 131, 3) := by decide +kernel
theorem dX9_worksOut_27 : decode cX9_worksOut 27 = .ok (.aload_n 0, 1) := by decide +kernel
theorem dX9_worksOut_28 : decode cX9_worksOut 28 = .ok (.getfield 9, 3) := by decide +kernel
theorem dX9_worksOut_31 : decode cX9_worksOut 31 = .ok (.bipush 127, 2) := by decide +kernel
theorem dX9_worksOut_33 : decode cX9_worksOut 33 = .ok (.bipush 96, 2) := by decide +kernel
theorem dX9_worksOut_35 : decode cX9_worksOut 35 = .ok (.iload_n 1, 1) := by decide +kernel
theorem dX9_worksOut_36 : decode cX9_worksOut 36 = .ok (.imul, 1) := by decide +kernel
theorem dX9_worksOut_37 : decode cX9_worksOut 37 = .ok (.iadd, 1) := by decide +kernel
theorem dX9_worksOut_38 : decode cX9_worksOut 38 = .ok (.iload 4, 2) := by decide +kernel
theorem dX9_worksOut_40 : decode cX9_worksOut 40 = .ok (.iadd, 1) := by decide +kernel
theorem dX9_worksOut_41 : decode cX9_worksOut 41 = .ok (.iaload, 1) := by decide +kernel
theorem dX9_worksOut_42 : decode cX9_worksOut 42 = .ok (.istore 5, 2) := by decide +kernel
theorem dX9_worksOut_44 : decode cX9_worksOut 44 = .ok (.iload 5, 2) := by decide +kernel
theorem dX9_worksOut_46 : decode cX9_worksOut 46 = .ok (.ifCond .lt 39, 3) := by decide +kernel
theorem dX9_worksOut_49 : decode cX9_worksOut 49 = .ok (.aload_n 0, 1) := by decide +kernel
theorem dX9_worksOut_50 : decode cX9_worksOut 50 = .ok (.getfield 55, 3) := by decide +kernel
theorem dX9_worksOut_53 : decode cX9_worksOut 53 = .ok (.iload_n 2, 1) := by decide +kernel
theorem dX9_worksOut_54 : decode cX9_worksOut 54 = .ok (.iload 5, 2) := by decide +kernel
theorem dX9_worksOut_56 : decode cX9_worksOut 56 = .ok (.sipush 10000, 3) := by decide +kernel
theorem dX9_worksOut_59 : decode cX9_worksOut 59 = .ok (.if_icmp .ge 8, 3) := by decide +kernel
theorem dX9_worksOut_62 : decode cX9_worksOut 62 = .ok (.iload 5, 2) := by decide +kernel
theorem dX9_worksOut_64 : decode cX9_worksOut 64 = .ok (.goto 14, 3) := by decide +kernel
theorem dX9_worksOut_67 : decode cX9_worksOut 67 = .ok (.aload_n 0, 1) := by decide +kernel
theorem dX9_worksOut_68 : decode cX9_worksOut 68 = .ok (.getfield 58, 3) := by decide +kernel
theorem dX9_worksOut_71 : decode cX9_worksOut 71 = .ok (.iload 5, 2) := by decide +kernel
theorem dX9_worksOut_73 : decode cX9_worksOut 73 = .ok (.sipush 10000, 3) := by decide +kernel
theorem dX9_worksOut_76 : decode cX9_worksOut 76 = .ok (.isub, 1) := by decide +kernel
theorem dX9_worksOut_77 : decode cX9_worksOut 77 = .ok (.iaload, 1) := by decide +kernel
theorem dX9_worksOut_78 : decode cX9_worksOut 78 = .ok (.iastore, 1) := by decide +kernel
theorem dX9_worksOut_79 : decode cX9_worksOut 79 = .ok (.iinc 2 1, 3) := by decide +kernel
theorem dX9_worksOut_82 : decode cX9_worksOut 82 = .ok (.goto 67, 3) := by decide +kernel
theorem dX9_worksOut_85 : decode cX9_worksOut 85 = .ok (.iload 5, 2) := by decide +kernel
theorem dX9_worksOut_87 : decode cX9_worksOut 87 = .ok (.bipush (-10), 2) := by decide +kernel
theorem dX9_worksOut_89 : decode cX9_worksOut 89 = .ok (.if_icmp .ne 30, 3) := by decide +kernel
theorem dX9_worksOut_92 : decode cX9_worksOut 92 = .ok (.aload_n 0, 1) := by decide +kernel
theorem dX9_worksOut_93 : decode cX9_worksOut 93 = .ok (.getfield 55, 3) := by decide +kernel
theorem dX9_worksOut_96 : decode cX9_worksOut 96 = .ok (.iload_n 2, 1) := by decide +kernel
theorem dX9_worksOut_97 : decode cX9_worksOut 97 = .ok (.iconst 1, 1) := by decide +kernel
theorem dX9_worksOut_98 : decode cX9_worksOut 98 = .ok (.isub, 1) := by decide +kernel
theorem dX9_worksOut_99 : decode cX9_worksOut 99 = .ok (.aload_n 0, 1) := by decide +kernel
theorem dX9_worksOut_100 : decode cX9_worksOut 100 = .ok (.getfield 55, 3) := by decide +kernel
theorem dX9_worksOut_103 : decode cX9_worksOut 103 = .ok (.iload_n 2, 1) := by decide +kernel
theorem dX9_worksOut_104 : decode cX9_worksOut 104 = .ok (.iconst 1, 1) := by decide +kernel
theorem dX9_worksOut_105 : decode cX9_worksOut 105 = .ok (.isub, 1) := by decide +kernel
theorem dX9_worksOut_106 : decode cX9_worksOut 106 = .ok (.iaload, 1) := by decide +kernel
theorem dX9_worksOut_107 : decode cX9_worksOut 107 = .ok (.ifCond .ne 7, 3) := by decide +kernel
theorem dX9_worksOut_110 : decode cX9_worksOut 110 = .ok (.iconst 1, 1) := by decide +kernel
theorem dX9_worksOut_111 : decode cX9_worksOut 111 = .ok (.goto 4, 3) := by decide +kernel
theorem dX9_worksOut_114 : decode cX9_worksOut 114 = .ok (.iconst 0, 1) := by decide +kernel
theorem dX9_worksOut_115 : decode cX9_worksOut 115 = .ok (.iastore, 1) := by decide +kernel
theorem dX9_worksOut_116 : decode cX9_worksOut 116 = .ok (.goto 33, 3) := by decide +kernel
theorem dX9_worksOut_119 : decode cX9_worksOut 119 = .ok (.iinc 2 (-1), 3) := by decide +kernel
theorem dX9_worksOut_122 : decode cX9_worksOut 122 = .ok (.aload_n 0, 1) := by decide +kernel
theorem dX9_worksOut_123 : decode cX9_worksOut 123 = .ok (.getfield 55, 3) := by decide +kernel
theorem dX9_worksOut_126 : decode cX9_worksOut 126 = .ok (.iload_n 2, 1) := by decide +kernel
theorem dX9_worksOut_127 : decode cX9_worksOut 127 = .ok (.iconst 1, 1) := by decide +kernel
theorem dX9_worksOut_128 : decode cX9_worksOut 128 = .ok (.isub, 1) := by decide +kernel
theorem dX9_worksOut_129 : decode cX9_worksOut 129 = .ok (.iload 5, 2) := by decide +kernel
theorem dX9_worksOut_131 : decode cX9_worksOut 131 = .ok (.aload_n 0, 1) := by decide +kernel
theorem dX9_worksOut_132 : decode cX9_worksOut 132 = .ok (.getfield 55, 3) := by decide +kernel
theorem dX9_worksOut_135 : decode cX9_worksOut 135 = .ok (.iload_n 2, 1) := by decide +kernel
theorem dX9_worksOut_136 : decode cX9_worksOut 136 = .ok (.iconst 1, 1) := by decide +kernel
theorem dX9_worksOut_137 : decode cX9_worksOut 137 = .ok (.isub, 1) := by decide +kernel
theorem dX9_worksOut_138 : decode cX9_worksOut 138 = .ok (.iaload, 1) := by decide +kernel
theorem dX9_worksOut_139 : decode cX9_worksOut 139 = .ok (.aload_n 0, 1) := by decide +kernel
theorem dX9_worksOut_140 : decode cX9_worksOut 140 = .ok (.getfield 55, 3) := by decide +kernel
theorem dX9_worksOut_143 : decode cX9_worksOut 143 = .ok (.iload_n 2, 1) := by decide +kernel
theorem dX9_worksOut_144 : decode cX9_worksOut 144 = .ok (.iaload, 1) := by decide +kernel
theorem dX9_worksOut_145 : decode cX9_worksOut 145 = .ok (.invokestatic 281, 3) := by decide +kernel
theorem dX9_worksOut_148 : decode cX9_worksOut 148 = .ok (.iastore, 1) := by decide +kernel
theorem dX9_worksOut_149 : decode cX9_worksOut 149 = .ok (.iinc 4 1, 3) := by decide +kernel
theorem dX9_worksOut_152 : decode cX9_worksOut 152 = .ok (.goto (-131), 3) := by decide +kernel
theorem dX9_worksOut_155 : decode cX9_worksOut 155 = .ok (.aload_n 0, 1) := by decide +kernel
theorem dX9_worksOut_156 : decode cX9_worksOut 156 = .ok (.getfield 55, 3) := by decide +kernel
theorem dX9_worksOut_159 : decode cX9_worksOut 159 = .ok (.iconst 0, 1) := by decide +kernel
theorem dX9_worksOut_160 : decode cX9_worksOut 160 = .ok (.iaload, 1) := by decide +kernel
theorem dX9_worksOut_161 : decode cX9_worksOut 161 = .ok (.ireturn, 1) := by decide +kernel
theorem dX9_isSheet_0 : decode cX9_isSheet 0 = .ok (.iload_n 0, 1) := by decide +kernel
theorem dX9_isSheet_1 : decode cX9_isSheet 1 = .ok (.iconst 0, 1) := by decide +kernel
theorem dX9_isSheet_2 : decode cX9_isSheet 2 = .ok (.iconst 3, 1) := by decide +kernel
theorem dX9_isSheet_3 : decode cX9_isSheet 3 = .ok (.invokestatic 88, 3) := by decide +kernel
theorem dX9_isSheet_6 : decode cX9_isSheet 6 = .ok (.ireturn, 1) := by decide +kernel
theorem dX9_isSlot_0 : decode cX9_isSlot 0 = .ok (.iload_n 0, 1) := by decide +kernel
theorem dX9_isSlot_1 : decode cX9_isSlot 1 = .ok (.iconst 0, 1) := by decide +kernel
theorem dX9_isSlot_2 : decode cX9_isSlot 2 = .ok (.iconst 4, 1) := by decide +kernel
theorem dX9_isSlot_3 : decode cX9_isSlot 3 = .ok (.invokestatic 88, 3) := by decide +kernel
theorem dX9_isSlot_6 : decode cX9_isSlot 6 = .ok (.ireturn, 1) := by decide +kernel
theorem dX9_sheet_0 : decode cX9_sheet 0 = .ok (.iload_n 1, 1) := by decide +kernel
theorem dX9_sheet_1 : decode cX9_sheet 1 = .ok (.invokestatic 284, 3) := by decide +kernel
theorem dX9_sheet_4 : decode cX9_sheet 4 = .ok (.ifCond .eq 22, 3) := by decide +kernel
theorem dX9_sheet_7 : decode cX9_sheet 7 = .ok (.iload_n 2, 1) := by decide +kernel
theorem dX9_sheet_8 : decode cX9_sheet 8 = .ok (.iconst (-1), 1) := by decide +kernel
theorem dX9_sheet_9 : decode cX9_sheet 9 = .ok (.iconst 1, 1) := by decide +kernel
theorem dX9_sheet_10 : decode cX9_sheet 10 = .ok (.invokestatic 88, 3) := by decide +kernel
theorem dX9_sheet_13 : decode cX9_sheet 13 = .ok (.ifCond .eq 13, 3) := by decide +kernel
theorem dX9_sheet_16 : decode cX9_sheet 16 = .ok (.iload_n 2, 1) := by decide +kernel
theorem dX9_sheet_17 : decode cX9_sheet 17 = .ok (.ifCond .lt 12, 3) := by decide +kernel
theorem dX9_sheet_20 : decode cX9_sheet 20 = .ok (.iload_n 3, 1) := by decide +kernel
theorem dX9_sheet_21 : decode cX9_sheet 21 = .ok (.bipush 24, 2) := by decide +kernel
theorem dX9_sheet_23 : decode cX9_sheet 23 = .ok (.if_icmp .le 6, 3) := by decide +kernel
theorem dX9_sheet_26 : decode cX9_sheet 26 = .ok (.ldc 92, 2) := by decide +kernel
theorem dX9_sheet_28 : decode cX9_sheet 28 = .ok (.ireturn, 1) := by decide +kernel
theorem dX9_sheet_29 : decode cX9_sheet 29 = .ok (.iload_n 2, 1) := by decide +kernel
theorem dX9_sheet_30 : decode cX9_sheet 30 = .ok (.ifCond .lt 11, 3) := by decide +kernel
theorem dX9_sheet_33 : decode cX9_sheet 33 = .ok (.iload_n 3, 1) := by decide +kernel
theorem dX9_sheet_34 : decode cX9_sheet 34 = .ok (.ifCond .ge 7, 3) := by decide +kernel
theorem dX9_sheet_37 : decode cX9_sheet 37 = .ok (.ldc_w 287, 3) := by decide +kernel
theorem dX9_sheet_40 : decode cX9_sheet 40 = .ok (.ireturn, 1) := by decide +kernel
theorem dX9_sheet_41 : decode cX9_sheet 41 = .ok (.aload_n 0, 1) := by decide +kernel
theorem dX9_sheet_42 : decode cX9_sheet 42 = .ok (.getfield 61, 3) := by decide +kernel
theorem dX9_sheet_45 : decode cX9_sheet 45 = .ok (.iload_n 1, 1) := by decide +kernel
theorem dX9_sheet_46 : decode cX9_sheet 46 = .ok (.iload_n 2, 1) := by decide +kernel
theorem dX9_sheet_47 : decode cX9_sheet 47 = .ok (.iastore, 1) := by decide +kernel
theorem dX9_sheet_48 : decode cX9_sheet 48 = .ok (.aload_n 0, 1) := by decide +kernel
theorem dX9_sheet_49 : decode cX9_sheet 49 = .ok (.getfield 64, 3) := by decide +kernel
theorem dX9_sheet_52 : decode cX9_sheet 52 = .ok (.iload_n 1, 1) := by decide +kernel
theorem dX9_sheet_53 : decode cX9_sheet 53 = .ok (.iload_n 2, 1) := by decide +kernel
theorem dX9_sheet_54 : decode cX9_sheet 54 = .ok (.ifCond .ge 7, 3) := by decide +kernel
theorem dX9_sheet_57 : decode cX9_sheet 57 = .ok (.iconst 0, 1) := by decide +kernel
theorem dX9_sheet_58 : decode cX9_sheet 58 = .ok (.goto 4, 3) := by decide +kernel
theorem dX9_sheet_61 : decode cX9_sheet 61 = .ok (.iload_n 3, 1) := by decide +kernel
theorem dX9_sheet_62 : decode cX9_sheet 62 = .ok (.iastore, 1) := by decide +kernel
theorem dX9_sheet_63 : decode cX9_sheet 63 = .ok (.iconst 0, 1) := by decide +kernel
theorem dX9_sheet_64 : decode cX9_sheet 64 = .ok (.istore 4, 2) := by decide +kernel
theorem dX9_sheet_66 : decode cX9_sheet 66 = .ok (.iload 4, 2) := by decide +kernel
theorem dX9_sheet_68 : decode cX9_sheet 68 = .ok (.bipush 24, 2) := by decide +kernel
theorem dX9_sheet_70 : decode cX9_sheet 70 = .ok (.if_icmp .ge 22, 3) := by decide +kernel
theorem dX9_sheet_73 : decode cX9_sheet 73 = .ok (.aload_n 0, 1) := by decide +kernel
theorem dX9_sheet_74 : decode cX9_sheet 74 = .ok (.getfield 67, 3) := by decide +kernel
theorem dX9_sheet_77 : decode cX9_sheet 77 = .ok (.bipush 24, 2) := by decide +kernel
theorem dX9_sheet_79 : decode cX9_sheet 79 = .ok (.iload_n 1, 1) := by decide +kernel
theorem dX9_sheet_80 : decode cX9_sheet 80 = .ok (.imul, 1) := by decide +kernel
theorem dX9_sheet_81 : decode cX9_sheet 81 = .ok (.iload 4, 2) := by decide +kernel
theorem dX9_sheet_83 : decode cX9_sheet 83 = .ok (.iadd, 1) := by decide +kernel
theorem dX9_sheet_84 : decode cX9_sheet 84 = .ok (.iconst 0, 1) := by decide +kernel
theorem dX9_sheet_85 : decode cX9_sheet 85 = .ok (.iastore, 1) := by decide +kernel
theorem dX9_sheet_86 : decode cX9_sheet 86 = .ok (.iinc 4 1, 3) := by decide +kernel
theorem dX9_sheet_89 : decode cX9_sheet 89 = .ok (.goto (-23), 3) := by decide +kernel
theorem dX9_sheet_92 : decode cX9_sheet 92 = .ok (.aload_n 0, 1) := by decide +kernel
theorem dX9_sheet_93 : decode cX9_sheet 93 = .ok (.getfield 64, 3) := by decide +kernel
theorem dX9_sheet_96 : decode cX9_sheet 96 = .ok (.iload_n 1, 1) := by decide +kernel
theorem dX9_sheet_97 : decode cX9_sheet 97 = .ok (.iaload, 1) := by decide +kernel
theorem dX9_sheet_98 : decode cX9_sheet 98 = .ok (.ireturn, 1) := by decide +kernel
theorem dX9_mark_0 : decode cX9_mark 0 = .ok (.iload_n 1, 1) := by decide +kernel
theorem dX9_mark_1 : decode cX9_mark 1 = .ok (.invokestatic 284, 3) := by decide +kernel
theorem dX9_mark_4 : decode cX9_mark 4 = .ok (.ifCond .ne 6, 3) := by decide +kernel
theorem dX9_mark_7 : decode cX9_mark 7 = .ok (.ldc 92, 2) := by decide +kernel
theorem dX9_mark_9 : decode cX9_mark 9 = .ok (.ireturn, 1) := by decide +kernel
theorem dX9_mark_10 : decode cX9_mark 10 = .ok (.aload_n 0, 1) := by decide +kernel
theorem dX9_mark_11 : decode cX9_mark 11 = .ok (.getfield 61, 3) := by decide +kernel
theorem dX9_mark_14 : decode cX9_mark 14 = .ok (.iload_n 1, 1) := by decide +kernel
theorem dX9_mark_15 : decode cX9_mark 15 = .ok (.iaload, 1) := by decide +kernel
theorem dX9_mark_16 : decode cX9_mark 16 = .ok (.ifCond .ge 7, 3) := by decide +kernel
theorem dX9_mark_19 : decode cX9_mark 19 = .ok (.ldc_w 288, 3) := by decide +kernel
theorem dX9_mark_22 : decode cX9_mark 22 = .ok (.ireturn, 1) := by decide +kernel
theorem dX9_mark_23 : decode cX9_mark 23 = .ok (.iload_n 2, 1) := by decide +kernel
theorem dX9_mark_24 : decode cX9_mark 24 = .ok (.iconst 0, 1) := by decide +kernel
theorem dX9_mark_25 : decode cX9_mark 25 = .ok (.aload_n 0, 1) := by decide +kernel
theorem dX9_mark_26 : decode cX9_mark 26 = .ok (.getfield 64, 3) := by decide +kernel
theorem dX9_mark_29 : decode cX9_mark 29 = .ok (.iload_n 1, 1) := by decide +kernel
theorem dX9_mark_30 : decode cX9_mark 30 = .ok (.iaload, 1) := by decide +kernel
theorem dX9_mark_31 : decode cX9_mark 31 = .ok (.iconst 1, 1) := by decide +kernel
theorem dX9_mark_32 : decode cX9_mark 32 = .ok (.isub, 1) := by decide +kernel
theorem dX9_mark_33 : decode cX9_mark 33 = .ok (.invokestatic 88, 3) := by decide +kernel
theorem dX9_mark_36 : decode cX9_mark 36 = .ok (.ifCond .ne 7, 3) := by decide +kernel
theorem dX9_mark_39 : decode cX9_mark 39 = .ok (.ldc_w 289, 3) := by decide +kernel
theorem dX9_mark_42 : decode cX9_mark 42 = .ok (.ireturn, 1) := by decide +kernel
theorem dX9_mark_43 : decode cX9_mark 43 = .ok (.aload_n 0, 1) := by decide +kernel
theorem dX9_mark_44 : decode cX9_mark 44 = .ok (.getfield 61, 3) := by decide +kernel
theorem dX9_mark_47 : decode cX9_mark 47 = .ok (.iload_n 1, 1) := by decide +kernel
theorem dX9_mark_48 : decode cX9_mark 48 = .ok (.iaload, 1) := by decide +kernel
theorem dX9_mark_49 : decode cX9_mark 49 = .ok (.ifCond .ne 12, 3) := by decide +kernel
theorem dX9_mark_52 : decode cX9_mark 52 = .ok (.iload_n 3, 1) := by decide +kernel
theorem dX9_mark_53 : decode cX9_mark 53 = .ok (.ldc 212, 2) := by decide +kernel
theorem dX9_mark_55 : decode cX9_mark 55 = .ok (.if_icmp .ne 6, 3) := by decide +kernel
theorem dX9_mark_58 : decode cX9_mark 58 = .ok (.ldc 144, 2) := by decide +kernel
theorem dX9_mark_60 : decode cX9_mark 60 = .ok (.ireturn, 1) := by decide +kernel
theorem dX9_mark_61 : decode cX9_mark 61 = .ok (.aload_n 0, 1) := by decide +kernel
theorem dX9_mark_62 : decode cX9_mark 62 = .ok (.getfield 61, 3) := by decide +kernel
theorem dX9_mark_65 : decode cX9_mark 65 = .ok (.iload_n 1, 1) := by decide +kernel
theorem dX9_mark_66 : decode cX9_mark 66 = .ok (.iaload, 1) := by decide +kernel
theorem dX9_mark_67 : decode cX9_mark 67 = .ok (.iconst 1, 1) := by decide +kernel
theorem dX9_mark_68 : decode cX9_mark 68 = .ok (.if_icmp .ne 25, 3) := by decide +kernel
theorem dX9_mark_71 : decode cX9_mark 71 = .ok (.iload_n 3, 1) := by decide +kernel
theorem dX9_mark_72 : decode cX9_mark 72 = .ok (.ldc 212, 2) := by decide +kernel
theorem dX9_mark_74 : decode cX9_mark 74 = .ok (.if_icmp .eq 19, 3) := by decide +kernel
theorem dX9_mark_77 : decode cX9_mark 77 = .ok (.iload_n 3, 1) := by decide +kernel
theorem dX9_mark_78 : decode cX9_mark 78 = .ok (.ldc_w 290, 3) := by decide +kernel
theorem dX9_mark_81 : decode cX9_mark 81 = .ok (.ldc_w 291, 3) := by decide +kernel
theorem dX9_mark_84 : decode cX9_mark 84 = .ok (.invokestatic 88, 3) := by decide +kernel
theorem dX9_mark_87 : decode cX9_mark 87 = .ok (.ifCond .ne 6, 3) := by decide +kernel
theorem dX9_mark_90 : decode cX9_mark 90 = .ok (.ldc 92, 2) := by decide +kernel
theorem dX9_mark_92 : decode cX9_mark 92 = .ok (.ireturn, 1) := by decide +kernel
theorem dX9_mark_93 : decode cX9_mark 93 = .ok (.aload_n 0, 1) := by decide +kernel
theorem dX9_mark_94 : decode cX9_mark 94 = .ok (.getfield 67, 3) := by decide +kernel
theorem dX9_mark_97 : decode cX9_mark 97 = .ok (.bipush 24, 2) := by decide +kernel
theorem dX9_mark_99 : decode cX9_mark 99 = .ok (.iload_n 1, 1) := by decide +kernel
theorem dX9_mark_100 : decode cX9_mark 100 = .ok (.imul, 1) := by decide +kernel
theorem dX9_mark_101 : decode cX9_mark 101 = .ok (.iload_n 2, 1) := by decide +kernel
theorem dX9_mark_102 : decode cX9_mark 102 = .ok (.iadd, 1) := by decide +kernel
theorem dX9_mark_103 : decode cX9_mark 103 = .ok (.aload_n 0, 1) := by decide +kernel
theorem dX9_mark_104 : decode cX9_mark 104 = .ok (.getfield 61, 3) := by decide +kernel
theorem dX9_mark_107 : decode cX9_mark 107 = .ok (.iload_n 1, 1) := by decide +kernel
theorem dX9_mark_108 : decode cX9_mark 108 = .ok (.iaload, 1) := by decide +kernel
theorem dX9_mark_109 : decode cX9_mark 109 = .ok (.ifCond .ne 8, 3) := by decide +kernel
theorem dX9_mark_112 : decode cX9_mark 112 = .ok (.iload_n 3, 1) := by decide +kernel
theorem dX9_mark_113 : decode cX9_mark 113 = .ok (.i2s, 1) := by decide +kernel
theorem dX9_mark_114 : decode cX9_mark 114 = .ok (.goto 4, 3) := by decide +kernel
theorem dX9_mark_117 : decode cX9_mark 117 = .ok (.iload_n 3, 1) := by decide +kernel
theorem dX9_mark_118 : decode cX9_mark 118 = .ok (.iastore, 1) := by decide +kernel
theorem dX9_mark_119 : decode cX9_mark 119 = .ok (.iconst 1, 1) := by decide +kernel
theorem dX9_mark_120 : decode cX9_mark 120 = .ok (.ireturn, 1) := by decide +kernel
theorem dX9_pour_0 : decode cX9_pour 0 = .ok (.iload_n 1, 1) := by decide +kernel
theorem dX9_pour_1 : decode cX9_pour 1 = .ok (.invokestatic 284, 3) := by decide +kernel
theorem dX9_pour_4 : decode cX9_pour 4 = .ok (.ifCond .eq 11, 3) := by decide +kernel
theorem dX9_pour_7 : decode cX9_pour 7 = .ok (.aload_n 0, 1) := by decide +kernel
theorem dX9_pour_8 : decode cX9_pour 8 = .ok (.iload_n 2, 1) := by decide +kernel
theorem dX9_pour_9 : decode cX9_pour 9 = .ok (.invokevirtual 98, 3) := by decide +kernel
theorem dX9_pour_12 : decode cX9_pour 12 = .ok (.ifCond .ne 6, 3) := by decide +kernel
theorem dX9_pour_15 : decode cX9_pour 15 = .ok (.ldc 92, 2) := by decide +kernel
theorem dX9_pour_17 : decode cX9_pour 17 = .ok (.ireturn, 1) := by decide +kernel
theorem dX9_pour_18 : decode cX9_pour 18 = .ok (.aload_n 0, 1) := by decide +kernel
theorem dX9_pour_19 : decode cX9_pour 19 = .ok (.getfield 61, 3) := by decide +kernel
theorem dX9_pour_22 : decode cX9_pour 22 = .ok (.iload_n 1, 1) := by decide +kernel
theorem dX9_pour_23 : decode cX9_pour 23 = .ok (.iaload, 1) := by decide +kernel
theorem dX9_pour_24 : decode cX9_pour 24 = .ok (.ifCond .ge 7, 3) := by decide +kernel
theorem dX9_pour_27 : decode cX9_pour 27 = .ok (.ldc_w 288, 3) := by decide +kernel
theorem dX9_pour_30 : decode cX9_pour 30 = .ok (.ireturn, 1) := by decide +kernel
theorem dX9_pour_31 : decode cX9_pour 31 = .ok (.iconst 0, 1) := by decide +kernel
theorem dX9_pour_32 : decode cX9_pour 32 = .ok (.istore_n 3, 1) := by decide +kernel
theorem dX9_pour_33 : decode cX9_pour 33 = .ok (.iconst 0, 1) := by decide +kernel
theorem dX9_pour_34 : decode cX9_pour 34 = .ok (.istore 4, 2) := by decide +kernel
theorem dX9_pour_36 : decode cX9_pour 36 = .ok (.iload 4, 2) := by decide +kernel
theorem dX9_pour_38 : decode cX9_pour 38 = .ok (.bipush 15, 2) := by decide +kernel
theorem dX9_pour_40 : decode cX9_pour 40 = .ok (.if_icmp .ge 104, 3) := by decide +kernel
theorem dX9_pour_43 : decode cX9_pour 43 = .ok (.iload 4, 2) := by decide +kernel
theorem dX9_pour_45 : decode cX9_pour 45 = .ok (.aload_n 0, 1) := by decide +kernel
theorem dX9_pour_46 : decode cX9_pour 46 = .ok (.getfield 64, 3) := by decide +kernel
theorem dX9_pour_49 : decode cX9_pour 49 = .ok (.iload_n 1, 1) := by decide +kernel
theorem dX9_pour_50 : decode cX9_pour 50 = .ok (.iaload, 1) := by decide +kernel
theorem dX9_pour_51 : decode cX9_pour 51 = .ok (.if_icmp .ge 93, 3) := by decide +kernel
theorem dX9_pour_54 : decode cX9_pour 54 = .ok (.aload_n 0, 1) := by decide +kernel
theorem dX9_pour_55 : decode cX9_pour 55 = .ok (.getfield 67, 3) := by decide +kernel
theorem dX9_pour_58 : decode cX9_pour 58 = .ok (.bipush 24, 2) := by decide +kernel
theorem dX9_pour_60 : decode cX9_pour 60 = .ok (.iload_n 1, 1) := by decide +kernel
theorem dX9_pour_61 : decode cX9_pour 61 = .ok (.imul, 1) := by decide +kernel
theorem dX9_pour_62 : decode cX9_pour 62 = .ok (.iload 4, 2) := by decide +kernel
theorem dX9_pour_64 : decode cX9_pour 64 = .ok (.iadd, 1) := by decide +kernel
theorem dX9_pour_65 : decode cX9_pour 65 = .ok (.iaload, 1) := by decide +kernel
theorem dX9_pour_66 : decode cX9_pour 66 = .ok (.istore 5, 2) := by decide +kernel
theorem dX9_pour_68 : decode cX9_pour 68 = .ok (.iconst 3, 1) := by decide +kernel
theorem dX9_pour_69 : decode cX9_pour 69 = .ok (.bipush 16, 2) := by decide +kernel
theorem dX9_pour_71 : decode cX9_pour 71 = .ok (.iload_n 2, 1) := by decide +kernel
theorem dX9_pour_72 : decode cX9_pour 72 = .ok (.imul, 1) := by decide +kernel
theorem dX9_pour_73 : decode cX9_pour 73 = .ok (.iadd, 1) := by decide +kernel
theorem dX9_pour_74 : decode cX9_pour 74 = .ok (.iconst 1, 1) := by decide +kernel
theorem dX9_pour_75 : decode cX9_pour 75 = .ok (.iadd, 1) := by decide +kernel
theorem dX9_pour_76 : decode cX9_pour 76 = .ok (.iload 4, 2) := by decide +kernel
theorem dX9_pour_78 : decode cX9_pour 78 = .ok (.iadd, 1) := by decide +kernel
theorem dX9_pour_79 : decode cX9_pour 79 = .ok (.istore 6, 2) := by decide +kernel
theorem dX9_pour_81 : decode cX9_pour 81 = .ok (.iload 5, 2) := by decide +kernel
theorem dX9_pour_83 : decode cX9_pour 83 = .ok (.ldc 212, 2) := by decide +kernel
theorem dX9_pour_85 : decode cX9_pour 85 = .ok (.if_icmp .ne 13, 3) := by decide +kernel
theorem dX9_pour_88 : decode cX9_pour 88 = .ok (.aload_n 0, 1) := by decide +kernel
theorem dX9_pour_89 : decode cX9_pour 89 = .ok (.getfield 9, 3) := by decide +kernel
theorem dX9_pour_92 : decode cX9_pour 92 = .ok (.iload 6, 2) := by decide +kernel
theorem dX9_pour_94 : decode cX9_pour 94 = .ok (.iaload, 1) := by decide +kernel
theorem dX9_pour_95 : decode cX9_pour 95 = .ok (.goto 12, 3) := by decide +kernel
theorem dX9_pour_98 : decode cX9_pour 98 = .ok (.iload 5, 2) := by decide +kernel
theorem dX9_pour_100 : decode cX9_pour 100 = .ok (.bipush (-99), 2) := by decide +kernel
theorem dX9_pour_102 : decode cX9_pour 102 = .ok (.bipush 99, 2) := by decide +kernel
theorem dX9_pour_104 : decode cX9_pour 104 = .ok (.invokestatic 115, 3) := by decide +kernel
theorem dX9_pour_107 : decode cX9_pour 107 = .ok (.istore 7, 2) := by decide +kernel
theorem dX9_pour_109 : decode cX9_pour 109 = .ok (.iload_n 3, 1) := by decide +kernel
theorem dX9_pour_110 : decode cX9_pour 110 = .ok (.aload_n 0, 1) := by decide +kernel
theorem dX9_pour_111 : decode cX9_pour 111 = .ok (.getfield 9, 3) := by decide +kernel
theorem dX9_pour_114 : decode cX9_pour 114 = .ok (.iload 6, 2) := by decide +kernel
theorem dX9_pour_116 : decode cX9_pour 116 = .ok (.iaload, 1) := by decide +kernel
theorem dX9_pour_117 : decode cX9_pour 117 = .ok (.iload 7, 2) := by decide +kernel
theorem dX9_pour_119 : decode cX9_pour 119 = .ok (.if_icmp .ne 7, 3) := by decide +kernel
theorem dX9_pour_122 : decode cX9_pour 122 = .ok (.iconst 0, 1) := by decide +kernel
theorem dX9_pour_123 : decode cX9_pour 123 = .ok (.goto 4, 3) := by decide +kernel
theorem dX9_pour_126 : decode cX9_pour 126 = .ok (.iconst 1, 1) := by decide +kernel
theorem dX9_pour_127 : decode cX9_pour 127 = .ok (.iadd, 1) := by decide +kernel
theorem dX9_pour_128 : decode cX9_pour 128 = .ok (.istore_n 3, 1) := by decide +kernel
theorem dX9_pour_129 : decode cX9_pour 129 = .ok (.aload_n 0, 1) := by decide +kernel
theorem dX9_pour_130 : decode cX9_pour 130 = .ok (.getfield 9, 3) := by decide +kernel
theorem dX9_pour_133 : decode cX9_pour 133 = .ok (.iload 6, 2) := by decide +kernel
theorem dX9_pour_135 : decode cX9_pour 135 = .ok (.iload 7, 2) := by decide +kernel
theorem dX9_pour_137 : decode cX9_pour 137 = .ok (.iastore, 1) := by decide +kernel
theorem dX9_pour_138 : decode cX9_pour 138 = .ok (.iinc 4 1, 3) := by decide +kernel
theorem dX9_pour_141 : decode cX9_pour 141 = .ok (.goto (-105), 3) := by decide +kernel
theorem dX9_pour_144 : decode cX9_pour 144 = .ok (.iload_n 3, 1) := by decide +kernel
theorem dX9_pour_145 : decode cX9_pour 145 = .ok (.ireturn, 1) := by decide +kernel
theorem dX9_copy_0 : decode cX9_copy 0 = .ok (.iload_n 1, 1) := by decide +kernel
theorem dX9_copy_1 : decode cX9_copy 1 = .ok (.invokestatic 284, 3) := by decide +kernel
theorem dX9_copy_4 : decode cX9_copy 4 = .ok (.ifCond .eq 10, 3) := by decide +kernel
theorem dX9_copy_7 : decode cX9_copy 7 = .ok (.iload_n 3, 1) := by decide +kernel
theorem dX9_copy_8 : decode cX9_copy 8 = .ok (.invokestatic 284, 3) := by decide +kernel
theorem dX9_copy_11 : decode cX9_copy 11 = .ok (.ifCond .ne 6, 3) := by decide +kernel
theorem dX9_copy_14 : decode cX9_copy 14 = .ok (.ldc 92, 2) := by decide +kernel
theorem dX9_copy_16 : decode cX9_copy 16 = .ok (.ireturn, 1) := by decide +kernel
theorem dX9_copy_17 : decode cX9_copy 17 = .ok (.aload_n 0, 1) := by decide +kernel
theorem dX9_copy_18 : decode cX9_copy 18 = .ok (.getfield 61, 3) := by decide +kernel
theorem dX9_copy_21 : decode cX9_copy 21 = .ok (.iload_n 1, 1) := by decide +kernel
theorem dX9_copy_22 : decode cX9_copy 22 = .ok (.iaload, 1) := by decide +kernel
theorem dX9_copy_23 : decode cX9_copy 23 = .ok (.ifCond .lt 12, 3) := by decide +kernel
theorem dX9_copy_26 : decode cX9_copy 26 = .ok (.aload_n 0, 1) := by decide +kernel
theorem dX9_copy_27 : decode cX9_copy 27 = .ok (.getfield 61, 3) := by decide +kernel
theorem dX9_copy_30 : decode cX9_copy 30 = .ok (.iload_n 3, 1) := by decide +kernel
theorem dX9_copy_31 : decode cX9_copy 31 = .ok (.iaload, 1) := by decide +kernel
theorem dX9_copy_32 : decode cX9_copy 32 = .ok (.ifCond .ge 7, 3) := by decide +kernel
theorem dX9_copy_35 : decode cX9_copy 35 = .ok (.ldc_w 288, 3) := by decide +kernel
theorem dX9_copy_38 : decode cX9_copy 38 = .ok (.ireturn, 1) := by decide +kernel
theorem dX9_copy_39 : decode cX9_copy 39 = .ok (.aload_n 0, 1) := by decide +kernel
theorem dX9_copy_40 : decode cX9_copy 40 = .ok (.getfield 61, 3) := by decide +kernel
theorem dX9_copy_43 : decode cX9_copy 43 = .ok (.iload_n 1, 1) := by decide +kernel
theorem dX9_copy_44 : decode cX9_copy 44 = .ok (.iaload, 1) := by decide +kernel
theorem dX9_copy_45 : decode cX9_copy 45 = .ok (.aload_n 0, 1) := by decide +kernel
theorem dX9_copy_46 : decode cX9_copy 46 = .ok (.getfield 61, 3) := by decide +kernel
theorem dX9_copy_49 : decode cX9_copy 49 = .ok (.iload_n 3, 1) := by decide +kernel
theorem dX9_copy_50 : decode cX9_copy 50 = .ok (.iaload, 1) := by decide +kernel
theorem dX9_copy_51 : decode cX9_copy 51 = .ok (.if_icmp .eq 6, 3) := by decide +kernel
theorem dX9_copy_54 : decode cX9_copy 54 = .ok (.ldc 144, 2) := by decide +kernel
theorem dX9_copy_56 : decode cX9_copy 56 = .ok (.ireturn, 1) := by decide +kernel
theorem dX9_copy_57 : decode cX9_copy 57 = .ok (.iload_n 2, 1) := by decide +kernel
theorem dX9_copy_58 : decode cX9_copy 58 = .ok (.ifCond .lt 40, 3) := by decide +kernel
theorem dX9_copy_61 : decode cX9_copy 61 = .ok (.iload 4, 2) := by decide +kernel
theorem dX9_copy_63 : decode cX9_copy 63 = .ok (.ifCond .lt 35, 3) := by decide +kernel
theorem dX9_copy_66 : decode cX9_copy 66 = .ok (.iload 5, 2) := by decide +kernel
theorem dX9_copy_68 : decode cX9_copy 68 = .ok (.ifCond .lt 30, 3) := by decide +kernel
theorem dX9_copy_71 : decode cX9_copy 71 = .ok (.iload_n 2, 1) := by decide +kernel
theorem dX9_copy_72 : decode cX9_copy 72 = .ok (.aload_n 0, 1) := by decide +kernel
theorem dX9_copy_73 : decode cX9_copy 73 = .ok (.getfield 64, 3) := by decide +kernel
theorem dX9_copy_76 : decode cX9_copy 76 = .ok (.iload_n 1, 1) := by decide +kernel
theorem dX9_copy_77 : decode cX9_copy 77 = .ok (.iaload, 1) := by decide +kernel
theorem dX9_copy_78 : decode cX9_copy 78 = .ok (.iload 5, 2) := by decide +kernel
theorem dX9_copy_80 : decode cX9_copy 80 = .ok (.isub, 1) := by decide +kernel
theorem dX9_copy_81 : decode cX9_copy 81 = .ok (.if_icmp .gt 17, 3) := by decide +kernel
theorem dX9_copy_84 : decode cX9_copy 84 = .ok (.iload 4, 2) := by decide +kernel
theorem dX9_copy_86 : decode cX9_copy 86 = .ok (.aload_n 0, 1) := by decide +kernel
theorem dX9_copy_87 : decode cX9_copy 87 = .ok (.getfield 64, 3) := by decide +kernel
theorem dX9_copy_90 : decode cX9_copy 90 = .ok (.iload_n 3, 1) := by decide +kernel
theorem dX9_copy_91 : decode cX9_copy 91 = .ok (.iaload, 1) := by decide +kernel
theorem dX9_copy_92 : decode cX9_copy 92 = .ok (.iload 5, 2) := by decide +kernel
theorem dX9_copy_94 : decode cX9_copy 94 = .ok (.isub, 1) := by decide +kernel
theorem dX9_copy_95 : decode cX9_copy 95 = .ok (.if_icmp .le 7, 3) := by decide +kernel
theorem dX9_copy_98 : decode cX9_copy 98 = .ok (.ldc_w 289, 3) := by decide +kernel
theorem dX9_copy_101 : decode cX9_copy 101 = .ok (.ireturn, 1) := by decide +kernel
theorem dX9_copy_102 : decode cX9_copy 102 = .ok (.iconst 0, 1) := by decide +kernel
theorem dX9_copy_103 : decode cX9_copy 103 = .ok (.istore 6, 2) := by decide +kernel
theorem dX9_copy_105 : decode cX9_copy 105 = .ok (.iload 6, 2) := by decide +kernel
theorem dX9_copy_107 : decode cX9_copy 107 = .ok (.iload 5, 2) := by decide +kernel
theorem dX9_copy_109 : decode cX9_copy 109 = .ok (.if_icmp .ge 30, 3) := by decide +kernel
theorem dX9_copy_112 : decode cX9_copy 112 = .ok (.aload_n 0, 1) := by decide +kernel
theorem dX9_copy_113 : decode cX9_copy 113 = .ok (.getfield 82, 3) := by decide +kernel
theorem dX9_copy_116 : decode cX9_copy 116 = .ok (.iload 6, 2) := by decide +kernel
theorem dX9_copy_118 : decode cX9_copy 118 = .ok (.aload_n 0, 1) := by decide +kernel
theorem dX9_copy_119 : decode cX9_copy 119 = .ok (.getfield 67, 3) := by decide +kernel
theorem dX9_copy_122 : decode cX9_copy 122 = .ok (.bipush 24, 2) := by decide +kernel
theorem dX9_copy_124 : decode cX9_copy 124 = .ok (.iload_n 1, 1) := by decide +kernel
theorem dX9_copy_125 : decode cX9_copy 125 = .ok (.imul, 1) := by decide +kernel
theorem dX9_copy_126 : decode cX9_copy 126 = .ok (.iload_n 2, 1) := by decide +kernel
theorem dX9_copy_127 : decode cX9_copy 127 = .ok (.iadd, 1) := by decide +kernel
theorem dX9_copy_128 : decode cX9_copy 128 = .ok (.iload 6, 2) := by decide +kernel
theorem dX9_copy_130 : decode cX9_copy 130 = .ok (.iadd, 1) := by decide +kernel
theorem dX9_copy_131 : decode cX9_copy 131 = .ok (.iaload, 1) := by decide +kernel
theorem dX9_copy_132 : decode cX9_copy 132 = .ok (.iastore, 1) := by decide +kernel
theorem dX9_copy_133 : decode cX9_copy 133 = .ok (.iinc 6 1, 3) := by decide +kernel
theorem dX9_copy_136 : decode cX9_copy 136 = .ok (.goto (-31), 3) := by decide +kernel
theorem dX9_copy_139 : decode cX9_copy 139 = .ok (.iconst 0, 1) := by decide +kernel
theorem dX9_copy_140 : decode cX9_copy 140 = .ok (.istore 6, 2) := by decide +kernel
theorem dX9_copy_142 : decode cX9_copy 142 = .ok (.iload 6, 2) := by decide +kernel
theorem dX9_copy_144 : decode cX9_copy 144 = .ok (.iload 5, 2) := by decide +kernel
theorem dX9_copy_146 : decode cX9_copy 146 = .ok (.if_icmp .ge 31, 3) := by decide +kernel
theorem dX9_copy_149 : decode cX9_copy 149 = .ok (.aload_n 0, 1) := by decide +kernel
theorem dX9_copy_150 : decode cX9_copy 150 = .ok (.getfield 67, 3) := by decide +kernel
theorem dX9_copy_153 : decode cX9_copy 153 = .ok (.bipush 24, 2) := by decide +kernel
theorem dX9_copy_155 : decode cX9_copy 155 = .ok (.iload_n 3, 1) := by decide +kernel
theorem dX9_copy_156 : decode cX9_copy 156 = .ok (.imul, 1) := by decide +kernel
theorem dX9_copy_157 : decode cX9_copy 157 = .ok (.iload 4, 2) := by decide +kernel
theorem dX9_copy_159 : decode cX9_copy 159 = .ok (.iadd, 1) := by decide +kernel
theorem dX9_copy_160 : decode cX9_copy 160 = .ok (.iload 6, 2) := by decide +kernel
theorem dX9_copy_162 : decode cX9_copy 162 = .ok (.iadd, 1) := by decide +kernel
theorem dX9_copy_163 : decode cX9_copy 163 = .ok (.aload_n 0, 1) := by decide +kernel
theorem dX9_copy_164 : decode cX9_copy 164 = .ok (.getfield 82, 3) := by decide +kernel
theorem dX9_copy_167 : decode cX9_copy 167 = .ok (.iload 6, 2) := by decide +kernel
theorem dX9_copy_169 : decode cX9_copy 169 = .ok (.iaload, 1) := by decide +kernel
theorem dX9_copy_170 : decode cX9_copy 170 = .ok (.iastore, 1) := by decide +kernel
theorem dX9_copy_171 : decode cX9_copy 171 = .ok (.iinc 6 1, 3) := by decide +kernel
theorem dX9_copy_174 : decode cX9_copy 174 = .ok (.goto (-32), 3) := by decide +kernel
theorem dX9_copy_177 : decode cX9_copy 177 = .ok (.iload 5, 2) := by decide +kernel
theorem dX9_copy_179 : decode cX9_copy 179 = .ok (.ireturn, 1) := by decide +kernel
theorem dX9_lay_0 : decode cX9_lay 0 = .ok (.iload_n 1, 1) := by decide +kernel
theorem dX9_lay_1 : decode cX9_lay 1 = .ok (.invokestatic 292, 3) := by decide +kernel
theorem dX9_lay_4 : decode cX9_lay 4 = .ok (.ifCond .eq 37, 3) := by decide +kernel
theorem dX9_lay_7 : decode cX9_lay 7 = .ok (.iload_n 2, 1) := by decide +kernel
theorem dX9_lay_8 : decode cX9_lay 8 = .ok (.iconst 0, 1) := by decide +kernel
theorem dX9_lay_9 : decode cX9_lay 9 = .ok (.iconst 3, 1) := by decide +kernel
theorem dX9_lay_10 : decode cX9_lay 10 = .ok (.invokestatic 88, 3) := by decide +kernel
theorem dX9_lay_13 : decode cX9_lay 13 = .ok (.ifCond .eq 28, 3) := by decide +kernel
theorem dX9_lay_16 : decode cX9_lay 16 = .ok (.iload_n 2, 1) := by decide +kernel
theorem dX9_lay_17 : decode cX9_lay 17 = .ok (.iconst 1, 1) := by decide +kernel
theorem dX9_lay_18 : decode cX9_lay 18 = .ok (.if_icmp .ne 11, 3) := by decide +kernel
theorem dX9_lay_21 : decode cX9_lay 21 = .ok (.aload_n 0, 1) := by decide +kernel
theorem dX9_lay_22 : decode cX9_lay 22 = .ok (.iload_n 3, 1) := by decide +kernel
theorem dX9_lay_23 : decode cX9_lay 23 = .ok (.invokevirtual 98, 3) := by decide +kernel
theorem dX9_lay_26 : decode cX9_lay 26 = .ok (.ifCond .eq 15, 3) := by decide +kernel
theorem dX9_lay_29 : decode cX9_lay 29 = .ok (.iload_n 2, 1) := by decide +kernel
theorem dX9_lay_30 : decode cX9_lay 30 = .ok (.iconst 2, 1) := by decide +kernel
theorem dX9_lay_31 : decode cX9_lay 31 = .ok (.if_icmp .ne 13, 3) := by decide +kernel
theorem dX9_lay_34 : decode cX9_lay 34 = .ok (.iload_n 3, 1) := by decide +kernel
theorem dX9_lay_35 : decode cX9_lay 35 = .ok (.invokestatic 284, 3) := by decide +kernel
theorem dX9_lay_38 : decode cX9_lay 38 = .ok (.ifCond .ne 6, 3) := by decide +kernel
theorem dX9_lay_41 : decode cX9_lay 41 = .ok (.ldc 92, 2) := by decide +kernel
theorem dX9_lay_43 : decode cX9_lay 43 = .ok (.ireturn, 1) := by decide +kernel
theorem dX9_lay_44 : decode cX9_lay 44 = .ok (.iload_n 2, 1) := by decide +kernel
theorem dX9_lay_45 : decode cX9_lay 45 = .ok (.iconst 2, 1) := by decide +kernel
theorem dX9_lay_46 : decode cX9_lay 46 = .ok (.if_icmp .ne 16, 3) := by decide +kernel
theorem dX9_lay_49 : decode cX9_lay 49 = .ok (.aload_n 0, 1) := by decide +kernel
theorem dX9_lay_50 : decode cX9_lay 50 = .ok (.getfield 61, 3) := by decide +kernel
theorem dX9_lay_53 : decode cX9_lay 53 = .ok (.iload_n 3, 1) := by decide +kernel
theorem dX9_lay_54 : decode cX9_lay 54 = .ok (.iaload, 1) := by decide +kernel
theorem dX9_lay_55 : decode cX9_lay 55 = .ok (.ifCond .ge 7, 3) := by decide +kernel
theorem dX9_lay_58 : decode cX9_lay 58 = .ok (.ldc_w 288, 3) := by decide +kernel
theorem dX9_lay_61 : decode cX9_lay 61 = .ok (.ireturn, 1) := by decide +kernel
theorem dX9_lay_62 : decode cX9_lay 62 = .ok (.aload_n 0, 1) := by decide +kernel
theorem dX9_lay_63 : decode cX9_lay 63 = .ok (.getfield 70, 3) := by decide +kernel
theorem dX9_lay_66 : decode cX9_lay 66 = .ok (.iload_n 1, 1) := by decide +kernel
theorem dX9_lay_67 : decode cX9_lay 67 = .ok (.iaload, 1) := by decide +kernel
theorem dX9_lay_68 : decode cX9_lay 68 = .ok (.istore 4, 2) := by decide +kernel
theorem dX9_lay_70 : decode cX9_lay 70 = .ok (.aload_n 0, 1) := by decide +kernel
theorem dX9_lay_71 : decode cX9_lay 71 = .ok (.getfield 70, 3) := by decide +kernel
theorem dX9_lay_74 : decode cX9_lay 74 = .ok (.iload_n 1, 1) := by decide +kernel
theorem dX9_lay_75 : decode cX9_lay 75 = .ok (.iload_n 2, 1) := by decide +kernel
theorem dX9_lay_76 : decode cX9_lay 76 = .ok (.iastore, 1) := by decide +kernel
theorem dX9_lay_77 : decode cX9_lay 77 = .ok (.aload_n 0, 1) := by decide +kernel
theorem dX9_lay_78 : decode cX9_lay 78 = .ok (.getfield 73, 3) := by decide +kernel
theorem dX9_lay_81 : decode cX9_lay 81 = .ok (.iload_n 1, 1) := by decide +kernel
theorem dX9_lay_82 : decode cX9_lay 82 = .ok (.iload_n 2, 1) := by decide +kernel
theorem dX9_lay_83 : decode cX9_lay 83 = .ok (.iconst 1, 1) := by decide +kernel
theorem dX9_lay_84 : decode cX9_lay 84 = .ok (.if_icmp .ne 11, 3) := by decide +kernel
theorem dX9_lay_87 : decode cX9_lay 87 = .ok (.aload_n 0, 1) := by decide +kernel
theorem dX9_lay_88 : decode cX9_lay 88 = .ok (.iload_n 3, 1) := by decide +kernel
theorem dX9_lay_89 : decode cX9_lay 89 = .ok (.invokevirtual 118, 3) := by decide +kernel
theorem dX9_lay_92 : decode cX9_lay 92 = .ok (.goto 18, 3) := by decide +kernel
theorem dX9_lay_95 : decode cX9_lay 95 = .ok (.iload_n 2, 1) := by decide +kernel
theorem dX9_lay_96 : decode cX9_lay 96 = .ok (.iconst 2, 1) := by decide +kernel
theorem dX9_lay_97 : decode cX9_lay 97 = .ok (.if_icmp .ne 12, 3) := by decide +kernel
theorem dX9_lay_100 : decode cX9_lay 100 = .ok (.aload_n 0, 1) := by decide +kernel
theorem dX9_lay_101 : decode cX9_lay 101 = .ok (.getfield 64, 3) := by decide +kernel
theorem dX9_lay_104 : decode cX9_lay 104 = .ok (.iload_n 3, 1) := by decide +kernel
theorem dX9_lay_105 : decode cX9_lay 105 = .ok (.iaload, 1) := by decide +kernel
theorem dX9_lay_106 : decode cX9_lay 106 = .ok (.goto 4, 3) := by decide +kernel
theorem dX9_lay_109 : decode cX9_lay 109 = .ok (.iload_n 3, 1) := by decide +kernel
theorem dX9_lay_110 : decode cX9_lay 110 = .ok (.iastore, 1) := by decide +kernel
theorem dX9_lay_111 : decode cX9_lay 111 = .ok (.aload_n 0, 1) := by decide +kernel
theorem dX9_lay_112 : decode cX9_lay 112 = .ok (.getfield 76, 3) := by decide +kernel
theorem dX9_lay_115 : decode cX9_lay 115 = .ok (.iload_n 1, 1) := by decide +kernel
theorem dX9_lay_116 : decode cX9_lay 116 = .ok (.iload_n 2, 1) := by decide +kernel
theorem dX9_lay_117 : decode cX9_lay 117 = .ok (.iconst 1, 1) := by decide +kernel
theorem dX9_lay_118 : decode cX9_lay 118 = .ok (.if_icmp .ne 11, 3) := by decide +kernel
theorem dX9_lay_121 : decode cX9_lay 121 = .ok (.aload_n 0, 1) := by decide +kernel
theorem dX9_lay_122 : decode cX9_lay 122 = .ok (.iload_n 3, 1) := by decide +kernel
theorem dX9_lay_123 : decode cX9_lay 123 = .ok (.invokevirtual 130, 3) := by decide +kernel
theorem dX9_lay_126 : decode cX9_lay 126 = .ok (.goto 4, 3) := by decide +kernel
theorem dX9_lay_129 : decode cX9_lay 129 = .ok (.iconst 0, 1) := by decide +kernel
theorem dX9_lay_130 : decode cX9_lay 130 = .ok (.iastore, 1) := by decide +kernel
theorem dX9_lay_131 : decode cX9_lay 131 = .ok (.iconst 0, 1) := by decide +kernel
theorem dX9_lay_132 : decode cX9_lay 132 = .ok (.istore 5, 2) := by decide +kernel
theorem dX9_lay_134 : decode cX9_lay 134 = .ok (.iload 5, 2) := by decide +kernel
theorem dX9_lay_136 : decode cX9_lay 136 = .ok (.bipush 24, 2) := by decide +kernel
theorem dX9_lay_138 : decode cX9_lay 138 = .ok (.if_icmp .ge 38, 3) := by decide +kernel
theorem dX9_lay_141 : decode cX9_lay 141 = .ok (.iload_n 2, 1) := by decide +kernel
theorem dX9_lay_142 : decode cX9_lay 142 = .ok (.iconst 2, 1) := by decide +kernel
theorem dX9_lay_143 : decode cX9_lay 143 = .ok (.if_icmp .ne 33, 3) := by decide +kernel
theorem dX9_lay_146 : decode cX9_lay 146 = .ok (.aload_n 0, 1) := by decide +kernel
theorem dX9_lay_147 : decode cX9_lay 147 = .ok (.getfield 79, 3) := by decide +kernel
theorem dX9_lay_150 : decode cX9_lay 150 = .ok (.bipush 24, 2) := by decide +kernel
theorem dX9_lay_152 : decode cX9_lay 152 = .ok (.iload_n 1, 1) := by decide +kernel
theorem dX9_lay_153 : decode cX9_lay 153 = .ok (.imul, 1) := by decide +kernel
theorem dX9_lay_154 : decode cX9_lay 154 = .ok (.iload 5, 2) := by decide +kernel
theorem dX9_lay_156 : decode cX9_lay 156 = .ok (.iadd, 1) := by decide +kernel
theorem dX9_lay_157 : decode cX9_lay 157 = .ok (.aload_n 0, 1) := by decide +kernel
theorem dX9_lay_158 : decode cX9_lay 158 = .ok (.getfield 67, 3) := by decide +kernel
theorem dX9_lay_161 : decode cX9_lay 161 = .ok (.bipush 24, 2) := by decide +kernel
theorem dX9_lay_163 : decode cX9_lay 163 = .ok (.iload_n 3, 1) := by decide +kernel
theorem dX9_lay_164 : decode cX9_lay 164 = .ok (.imul, 1) := by decide +kernel
theorem dX9_lay_165 : decode cX9_lay 165 = .ok (.iload 5, 2) := by decide +kernel
theorem dX9_lay_167 : decode cX9_lay 167 = .ok (.iadd, 1) := by decide +kernel
theorem dX9_lay_168 : decode cX9_lay 168 = .ok (.iaload, 1) := by decide +kernel
theorem dX9_lay_169 : decode cX9_lay 169 = .ok (.iastore, 1) := by decide +kernel
theorem dX9_lay_170 : decode cX9_lay 170 = .ok (.iinc 5 1, 3) := by decide +kernel
theorem dX9_lay_173 : decode cX9_lay 173 = .ok (.goto (-39), 3) := by decide +kernel
theorem dX9_lay_176 : decode cX9_lay 176 = .ok (.iload 4, 2) := by decide +kernel
theorem dX9_lay_178 : decode cX9_lay 178 = .ok (.ireturn, 1) := by decide +kernel
theorem dX9_ask_0 : decode cX9_ask 0 = .ok (.iload_n 1, 1) := by decide +kernel
theorem dX9_ask_1 : decode cX9_ask 1 = .ok (.invokestatic 292, 3) := by decide +kernel
theorem dX9_ask_4 : decode cX9_ask 4 = .ok (.ifCond .eq 12, 3) := by decide +kernel
theorem dX9_ask_7 : decode cX9_ask 7 = .ok (.iload_n 2, 1) := by decide +kernel
theorem dX9_ask_8 : decode cX9_ask 8 = .ok (.iconst 0, 1) := by decide +kernel
theorem dX9_ask_9 : decode cX9_ask 9 = .ok (.iconst 5, 1) := by decide +kernel
theorem dX9_ask_10 : decode cX9_ask 10 = .ok (.invokestatic 88, 3) := by decide +kernel
theorem dX9_ask_13 : decode cX9_ask 13 = .ok (.ifCond .ne 6, 3) := by decide +kernel
theorem dX9_ask_16 : decode cX9_ask 16 = .ok (.ldc 92, 2) := by decide +kernel
theorem dX9_ask_18 : decode cX9_ask 18 = .ok (.ireturn, 1) := by decide +kernel
theorem dX9_ask_19 : decode cX9_ask 19 = .ok (.aload_n 0, 1) := by decide +kernel
theorem dX9_ask_20 : decode cX9_ask 20 = .ok (.getfield 70, 3) := by decide +kernel
theorem dX9_ask_23 : decode cX9_ask 23 = .ok (.iload_n 1, 1) := by decide +kernel
theorem dX9_ask_24 : decode cX9_ask 24 = .ok (.iaload, 1) := by decide +kernel
theorem dX9_ask_25 : decode cX9_ask 25 = .ok (.ifCond .ne 7, 3) := by decide +kernel
theorem dX9_ask_28 : decode cX9_ask 28 = .ok (.ldc_w 288, 3) := by decide +kernel
theorem dX9_ask_31 : decode cX9_ask 31 = .ok (.ireturn, 1) := by decide +kernel
theorem dX9_ask_32 : decode cX9_ask 32 = .ok (.aload_n 0, 1) := by decide +kernel
theorem dX9_ask_33 : decode cX9_ask 33 = .ok (.getfield 70, 3) := by decide +kernel
theorem dX9_ask_36 : decode cX9_ask 36 = .ok (.iload_n 1, 1) := by decide +kernel
theorem dX9_ask_37 : decode cX9_ask 37 = .ok (.iaload, 1) := by decide +kernel
theorem dX9_ask_38 : decode cX9_ask 38 = .ok (.iconst 1, 1) := by decide +kernel
theorem dX9_ask_39 : decode cX9_ask 39 = .ok (.if_icmp .ne 25, 3) := by decide +kernel
theorem dX9_ask_42 : decode cX9_ask 42 = .ok (.aload_n 0, 1) := by decide +kernel
theorem dX9_ask_43 : decode cX9_ask 43 = .ok (.getfield 73, 3) := by decide +kernel
theorem dX9_ask_46 : decode cX9_ask 46 = .ok (.iload_n 1, 1) := by decide +kernel
theorem dX9_ask_47 : decode cX9_ask 47 = .ok (.iaload, 1) := by decide +kernel
theorem dX9_ask_48 : decode cX9_ask 48 = .ok (.iload_n 2, 1) := by decide +kernel
theorem dX9_ask_49 : decode cX9_ask 49 = .ok (.invokestatic 140, 3) := by decide +kernel
theorem dX9_ask_52 : decode cX9_ask 52 = .ok (.ifCond .eq 12, 3) := by decide +kernel
theorem dX9_ask_55 : decode cX9_ask 55 = .ok (.aload_n 0, 1) := by decide +kernel
theorem dX9_ask_56 : decode cX9_ask 56 = .ok (.getfield 76, 3) := by decide +kernel
theorem dX9_ask_59 : decode cX9_ask 59 = .ok (.iload_n 1, 1) := by decide +kernel
theorem dX9_ask_60 : decode cX9_ask 60 = .ok (.iaload, 1) := by decide +kernel
theorem dX9_ask_61 : decode cX9_ask 61 = .ok (.goto 5, 3) := by decide +kernel
theorem dX9_ask_64 : decode cX9_ask 64 = .ok (.ldc 144, 2) := by decide +kernel
theorem dX9_ask_66 : decode cX9_ask 66 = .ok (.ireturn, 1) := by decide +kernel
theorem dX9_item_0 : decode cX9_item 0 = .ok (.iload_n 1, 1) := by decide +kernel
theorem dX9_item_1 : decode cX9_item 1 = .ok (.invokestatic 292, 3) := by decide +kernel
theorem dX9_item_4 : decode cX9_item 4 = .ok (.ifCond .ne 6, 3) := by decide +kernel
theorem dX9_item_7 : decode cX9_item 7 = .ok (.ldc 92, 2) := by decide +kernel
theorem dX9_item_9 : decode cX9_item 9 = .ok (.ireturn, 1) := by decide +kernel
theorem dX9_item_10 : decode cX9_item 10 = .ok (.aload_n 0, 1) := by decide +kernel
theorem dX9_item_11 : decode cX9_item 11 = .ok (.getfield 70, 3) := by decide +kernel
theorem dX9_item_14 : decode cX9_item 14 = .ok (.iload_n 1, 1) := by decide +kernel
theorem dX9_item_15 : decode cX9_item 15 = .ok (.iaload, 1) := by decide +kernel
theorem dX9_item_16 : decode cX9_item 16 = .ok (.ifCond .ne 7, 3) := by decide +kernel
theorem dX9_item_19 : decode cX9_item 19 = .ok (.ldc_w 288, 3) := by decide +kernel
theorem dX9_item_22 : decode cX9_item 22 = .ok (.ireturn, 1) := by decide +kernel
theorem dX9_item_23 : decode cX9_item 23 = .ok (.aload_n 0, 1) := by decide +kernel
theorem dX9_item_24 : decode cX9_item 24 = .ok (.getfield 70, 3) := by decide +kernel
theorem dX9_item_27 : decode cX9_item 27 = .ok (.iload_n 1, 1) := by decide +kernel
theorem dX9_item_28 : decode cX9_item 28 = .ok (.iaload, 1) := by decide +kernel
theorem dX9_item_29 : decode cX9_item 29 = .ok (.iconst 2, 1) := by decide +kernel
theorem dX9_item_30 : decode cX9_item 30 = .ok (.if_icmp .eq 6, 3) := by decide +kernel
theorem dX9_item_33 : decode cX9_item 33 = .ok (.ldc 144, 2) := by decide +kernel
theorem dX9_item_35 : decode cX9_item 35 = .ok (.ireturn, 1) := by decide +kernel
theorem dX9_item_36 : decode cX9_item 36 = .ok (.iload_n 2, 1) := by decide +kernel
theorem dX9_item_37 : decode cX9_item 37 = .ok (.iconst 0, 1) := by decide +kernel
theorem dX9_item_38 : decode cX9_item 38 = .ok (.aload_n 0, 1) := by decide +kernel
theorem dX9_item_39 : decode cX9_item 39 = .ok (.getfield 73, 3) := by decide +kernel
theorem dX9_item_42 : decode cX9_item 42 = .ok (.iload_n 1, 1) := by decide +kernel
theorem dX9_item_43 : decode cX9_item 43 = .ok (.iaload, 1) := by decide +kernel
theorem dX9_item_44 : decode cX9_item 44 = .ok (.iconst 1, 1) := by decide +kernel
theorem dX9_item_45 : decode cX9_item 45 = .ok (.isub, 1) := by decide +kernel
theorem dX9_item_46 : decode cX9_item 46 = .ok (.invokestatic 88, 3) := by decide +kernel
theorem dX9_item_49 : decode cX9_item 49 = .ok (.ifCond .ne 7, 3) := by decide +kernel
theorem dX9_item_52 : decode cX9_item 52 = .ok (.ldc_w 289, 3) := by decide +kernel
theorem dX9_item_55 : decode cX9_item 55 = .ok (.ireturn, 1) := by decide +kernel
theorem dX9_item_56 : decode cX9_item 56 = .ok (.aload_n 0, 1) := by decide +kernel
theorem dX9_item_57 : decode cX9_item 57 = .ok (.getfield 79, 3) := by decide +kernel
theorem dX9_item_60 : decode cX9_item 60 = .ok (.bipush 24, 2) := by decide +kernel
theorem dX9_item_62 : decode cX9_item 62 = .ok (.iload_n 1, 1) := by decide +kernel
theorem dX9_item_63 : decode cX9_item 63 = .ok (.imul, 1) := by decide +kernel
theorem dX9_item_64 : decode cX9_item 64 = .ok (.iload_n 2, 1) := by decide +kernel
theorem dX9_item_65 : decode cX9_item 65 = .ok (.iadd, 1) := by decide +kernel
theorem dX9_item_66 : decode cX9_item 66 = .ok (.iaload, 1) := by decide +kernel
theorem dX9_item_67 : decode cX9_item 67 = .ok (.istore_n 3, 1) := by decide +kernel
theorem dX9_item_68 : decode cX9_item 68 = .ok (.iload_n 3, 1) := by decide +kernel
theorem dX9_item_69 : decode cX9_item 69 = .ok (.ldc 212, 2) := by decide +kernel
theorem dX9_item_71 : decode cX9_item 71 = .ok (.if_icmp .ne 8, 3) := by decide +kernel
theorem dX9_item_74 : decode cX9_item 74 = .ok (.ldc 144, 2) := by decide +kernel
theorem dX9_item_76 : decode cX9_item 76 = .ok (.goto 4, 3) := by decide +kernel
theorem dX9_item_79 : decode cX9_item 79 = .ok (.iload_n 3, 1) := by decide +kernel
theorem dX9_item_80 : decode cX9_item 80 = .ok (.ireturn, 1) := by decide +kernel
theorem dX9_rest_0 : decode cX9_rest 0 = .ok (.iload_n 1, 1) := by decide +kernel
theorem dX9_rest_1 : decode cX9_rest 1 = .ok (.invokestatic 292, 3) := by decide +kernel
theorem dX9_rest_4 : decode cX9_rest 4 = .ok (.ifCond .ne 6, 3) := by decide +kernel
theorem dX9_rest_7 : decode cX9_rest 7 = .ok (.ldc 92, 2) := by decide +kernel
theorem dX9_rest_9 : decode cX9_rest 9 = .ok (.ireturn, 1) := by decide +kernel
theorem dX9_rest_10 : decode cX9_rest 10 = .ok (.aload_n 0, 1) := by decide +kernel
theorem dX9_rest_11 : decode cX9_rest 11 = .ok (.getfield 70, 3) := by decide +kernel
theorem dX9_rest_14 : decode cX9_rest 14 = .ok (.iload_n 1, 1) := by decide +kernel
theorem dX9_rest_15 : decode cX9_rest 15 = .ok (.iaload, 1) := by decide +kernel
theorem dX9_rest_16 : decode cX9_rest 16 = .ok (.ifCond .ne 7, 3) := by decide +kernel
theorem dX9_rest_19 : decode cX9_rest 19 = .ok (.ldc_w 288, 3) := by decide +kernel
theorem dX9_rest_22 : decode cX9_rest 22 = .ok (.ireturn, 1) := by decide +kernel
theorem dX9_rest_23 : decode cX9_rest 23 = .ok (.aload_n 0, 1) := by decide +kernel
theorem dX9_rest_24 : decode cX9_rest 24 = .ok (.getfield 70, 3) := by decide +kernel
theorem dX9_rest_27 : decode cX9_rest 27 = .ok (.iload_n 1, 1) := by decide +kernel
theorem dX9_rest_28 : decode cX9_rest 28 = .ok (.iaload, 1) := by decide +kernel
theorem dX9_rest_29 : decode cX9_rest 29 = .ok (.iconst 3, 1) := by decide +kernel
theorem dX9_rest_30 : decode cX9_rest 30 = .ok (.if_icmp .eq 6, 3) := by decide +kernel
theorem dX9_rest_33 : decode cX9_rest 33 = .ok (.ldc 144, 2) := by decide +kernel
theorem dX9_rest_35 : decode cX9_rest 35 = .ok (.ireturn, 1) := by decide +kernel
theorem dX9_rest_36 : decode cX9_rest 36 = .ok (.iload_n 2, 1) := by decide +kernel
theorem dX9_rest_37 : decode cX9_rest 37 = .ok (.ifCond .ne 8, 3) := by decide +kernel
theorem dX9_rest_40 : decode cX9_rest 40 = .ok (.ldc 184, 2) := by decide +kernel
theorem dX9_rest_42 : decode cX9_rest 42 = .ok (.goto 20, 3) := by decide +kernel
theorem dX9_rest_45 : decode cX9_rest 45 = .ok (.iload_n 2, 1) := by decide +kernel
theorem dX9_rest_46 : decode cX9_rest 46 = .ok (.iconst (-1), 1) := by decide +kernel
theorem dX9_rest_47 : decode cX9_rest 47 = .ok (.if_icmp .ne 7, 3) := by decide +kernel
theorem dX9_rest_50 : decode cX9_rest 50 = .ok (.iconst 0, 1) := by decide +kernel
theorem dX9_rest_51 : decode cX9_rest 51 = .ok (.goto 11, 3) := by decide +kernel
theorem dX9_rest_54 : decode cX9_rest 54 = .ok (.aload_n 0, 1) := by decide +kernel
theorem dX9_rest_55 : decode cX9_rest 55 = .ok (.getfield 73, 3) := by decide +kernel
theorem dX9_rest_58 : decode cX9_rest 58 = .ok (.iload_n 1, 1) := by decide +kernel
theorem dX9_rest_59 : decode cX9_rest 59 = .ok (.iaload, 1) := by decide +kernel
theorem dX9_rest_60 : decode cX9_rest 60 = .ok (.iload_n 2, 1) := by decide +kernel
theorem dX9_rest_61 : decode cX9_rest 61 = .ok (.irem, 1) := by decide +kernel
theorem dX9_rest_62 : decode cX9_rest 62 = .ok (.ireturn, 1) := by decide +kernel
theorem dX9_tell_0 : decode cX9_tell 0 = .ok (.aload_n 0, 1) := by decide +kernel
theorem dX9_tell_1 : decode cX9_tell 1 = .ok (.getfield 295, 3) := by decide +kernel
theorem dX9_tell_4 : decode cX9_tell 4 = .ok (.bipush 60, 2) := by decide +kernel
theorem dX9_tell_6 : decode cX9_tell 6 = .ok (.if_icmp .ne 6, 3) := by decide +kernel
theorem dX9_tell_9 : decode cX9_tell 9 = .ok (.ldc 93, 2) := by decide +kernel
theorem dX9_tell_11 : decode cX9_tell 11 = .ok (.ireturn, 1) := by decide +kernel
theorem dX9_tell_12 : decode cX9_tell 12 = .ok (.aload_n 0, 1) := by decide +kernel
theorem dX9_tell_13 : decode cX9_tell 13 = .ok (.getfield 85, 3) := by decide +kernel
theorem dX9_tell_16 : decode cX9_tell 16 = .ok (.aload_n 0, 1) := by decide +kernel
theorem dX9_tell_17 : decode cX9_tell 17 = .ok (.getfield 295, 3) := by decide +kernel
theorem dX9_tell_20 : decode cX9_tell 20 = .ok (.iload_n 1, 1) := by decide +kernel
theorem dX9_tell_21 : decode cX9_tell 21 = .ok (.iastore, 1) := by decide +kernel
theorem dX9_tell_22 : decode cX9_tell 22 = .ok (.aload_n 0, 1) := by decide +kernel
theorem dX9_tell_23 : decode cX9_tell 23 = .ok (.dup, 1) := by decide +kernel
theorem dX9_tell_24 : decode cX9_tell 24 = .ok (.getfield 295, 3) := by decide +kernel
theorem dX9_tell_27 : decode cX9_tell 27 = .ok (.iconst 1, 1) := by decide +kernel
theorem dX9_tell_28 : decode cX9_tell 28 = .ok (.iadd, 1) := by decide +kernel
theorem dX9_tell_29 : decode cX9_tell 29 = .ok (.putfield 295, 3) := by decide +kernel
theorem dX9_tell_32 : decode cX9_tell 32 = .ok (.aload_n 0, 1) := by decide +kernel
theorem dX9_tell_33 : decode cX9_tell 33 = .ok (.getfield 295, 3) := by decide +kernel
theorem dX9_tell_36 : decode cX9_tell 36 = .ok (.ireturn, 1) := by decide +kernel
theorem dX9_check_0 : decode cX9_check 0 = .ok (.aload_n 0, 1) := by decide +kernel
theorem dX9_check_1 : decode cX9_check 1 = .ok (.getfield 295, 3) := by decide +kernel
theorem dX9_check_4 : decode cX9_check 4 = .ok (.istore_n 3, 1) := by decide +kernel
theorem dX9_check_5 : decode cX9_check 5 = .ok (.aload_n 0, 1) := by decide +kernel
theorem dX9_check_6 : decode cX9_check 6 = .ok (.iconst 0, 1) := by decide +kernel
theorem dX9_check_7 : decode cX9_check 7 = .ok (.putfield 295, 3) := by decide +kernel
theorem dX9_check_10 : decode cX9_check 10 = .ok (.iload_n 2, 1) := by decide +kernel
theorem dX9_check_11 : decode cX9_check 11 = .ok (.iconst 1, 1) := by decide +kernel
theorem dX9_check_12 : decode cX9_check 12 = .ok (.bipush 30, 2) := by decide +kernel
theorem dX9_check_14 : decode cX9_check 14 = .ok (.invokestatic 88, 3) := by decide +kernel
theorem dX9_check_17 : decode cX9_check 17 = .ok (.ifCond .ne 6, 3) := by decide +kernel
theorem dX9_check_20 : decode cX9_check 20 = .ok (.ldc 92, 2) := by decide +kernel
theorem dX9_check_22 : decode cX9_check 22 = .ok (.ireturn, 1) := by decide +kernel
theorem dX9_check_23 : decode cX9_check 23 = .ok (.aload_n 0, 1) := by decide +kernel
theorem dX9_check_24 : decode cX9_check 24 = .ok (.getfield 298, 3) := by decide +kernel
theorem dX9_check_27 : decode cX9_check 27 = .ok (.ifCond .ne 6, 3) := by decide +kernel
theorem dX9_check_30 : decode cX9_check 30 = .ok (.ldc 184, 2) := by decide +kernel
theorem dX9_check_32 : decode cX9_check 32 = .ok (.ireturn, 1) := by decide +kernel
theorem dX9_check_33 : decode cX9_check 33 = .ok (.iload_n 1, 1) := by decide +kernel
theorem dX9_check_34 : decode cX9_check 34 = .ok (.iconst 0, 1) := by decide +kernel
theorem dX9_check_35 : decode cX9_check 35 = .ok (.aload_n 0, 1) := by decide +kernel
theorem dX9_check_36 : decode cX9_check 36 = .ok (.getfield 13, 3) := by decide +kernel
theorem dX9_check_39 : decode cX9_check 39 = .ok (.iconst 1, 1) := by decide +kernel
theorem dX9_check_40 : decode cX9_check 40 = .ok (.iaload, 1) := by decide +kernel
theorem dX9_check_41 : decode cX9_check 41 = .ok (.iconst 1, 1) := by decide +kernel
theorem dX9_check_42 : decode cX9_check 42 = .ok (.isub, 1) := by decide +kernel
theorem dX9_check_43 : decode cX9_check 43 = .ok (.invokestatic 88, 3) := by decide +kernel
theorem dX9_check_46 : decode cX9_check 46 = .ok (.ifCond .ne 6, 3) := by decide +kernel
theorem dX9_check_49 : decode cX9_check 49 = .ok (.ldc 92, 2) := by decide +kernel
theorem dX9_check_51 : decode cX9_check 51 = .ok (.ireturn, 1) := by decide +kernel
theorem dX9_check_52 : decode cX9_check 52 = .ok (.aload_n 0, 1) := by decide +kernel
theorem dX9_check_53 : decode cX9_check 53 = .ok (.getfield 9, 3) := by decide +kernel
theorem dX9_check_56 : decode cX9_check 56 = .ok (.aload_n 0, 1) := by decide +kernel
theorem dX9_check_57 : decode cX9_check 57 = .ok (.getfield 16, 3) := by decide +kernel
theorem dX9_check_60 : decode cX9_check 60 = .ok (.invokestatic 302, 3) := by decide +kernel
theorem dX9_check_63 : decode cX9_check 63 = .ok (.aload_n 0, 1) := by decide +kernel
theorem dX9_check_64 : decode cX9_check 64 = .ok (.getfield 13, 3) := by decide +kernel
theorem dX9_check_67 : decode cX9_check 67 = .ok (.aload_n 0, 1) := by decide +kernel
theorem dX9_check_68 : decode cX9_check 68 = .ok (.getfield 9, 3) := by decide +kernel
theorem dX9_check_71 : decode cX9_check 71 = .ok (.invokestatic 302, 3) := by decide +kernel
theorem dX9_check_74 : decode cX9_check 74 = .ok (.aload_n 0, 1) := by decide +kernel
theorem dX9_check_75 : decode cX9_check 75 = .ok (.iload_n 1, 1) := by decide +kernel
theorem dX9_check_76 : decode cX9_check 76 = .ok (.invokevirtual 133, 3) := by decide +kernel
theorem dX9_check_79 : decode cX9_check 79 = .ok (.istore 4, 2) := by decide +kernel
theorem dX9_check_81 : decode cX9_check 81 = .ok (.iconst 0, 1) := by decide +kernel
theorem dX9_check_82 : decode cX9_check 82 = .ok (.istore 5, 2) := by decide +kernel
theorem dX9_check_84 : decode cX9_check 84 = .ok (.iconst 0, 1) := by decide +kernel
theorem dX9_check_85 : decode cX9_check 85 = .ok (.istore 6, 2) := by decide +kernel
theorem dX9_check_87 : decode cX9_check 87 = .ok (.iconst 0, 1) := by decide +kernel
theorem dX9_check_88 : decode cX9_check 88 = .ok (.istore 7, 2) := by decide +kernel
theorem dX9_check_90 : decode cX9_check 90 = .ok (.iload 7, 2) := by decide +kernel
theorem dX9_check_92 : decode cX9_check 92 = .ok (.bipush 121, 2) := by decide +kernel
theorem dX9_check_94 : decode cX9_check 94 = .ok (.if_icmp .ge 134, 3) := by decide +kernel
theorem dX9_check_97 : decode cX9_check 97 = .ok (.iload 5, 2) := by decide +kernel
theorem dX9_check_99 : decode cX9_check 99 = .ok (.iconst 2, 1) := by decide +kernel
theorem dX9_check_100 : decode cX9_check 100 = .ok (.iload_n 2, 1) := by decide +kernel
theorem dX9_check_101 : decode cX9_check 101 = .ok (.imul, 1) := by decide +kernel
theorem dX9_check_102 : decode cX9_check 102 = .ok (.if_icmp .ge 126, 3) := by decide +kernel
theorem dX9_check_105 : decode cX9_check 105 = .ok (.aload_n 0, 1) := by decide +kernel
theorem dX9_check_106 : decode cX9_check 106 = .ok (.iload 7, 2) := by decide +kernel
theorem dX9_check_108 : decode cX9_check 108 = .ok (.bipush 11, 2) := by decide +kernel
theorem dX9_check_110 : decode cX9_check 110 = .ok (.idiv, 1) := by decide +kernel
theorem dX9_check_111 : decode cX9_check 111 = .ok (.iconst 5, 1) := by decide +kernel
theorem dX9_check_112 : decode cX9_check 112 = .ok (.isub, 1) := by decide +kernel
theorem dX9_check_113 : decode cX9_check 113 = .ok (.iload 7, 2) := by decide +kernel
theorem dX9_check_115 : decode cX9_check 115 = .ok (.bipush 11, 2) := by decide +kernel
theorem dX9_check_117 : decode cX9_check 117 = .ok (.irem, 1) := by decide +kernel
theorem dX9_check_118 : decode cX9_check 118 = .ok (.iconst 5, 1) := by decide +kernel
theorem dX9_check_119 : decode cX9_check 119 = .ok (.isub, 1) := by decide +kernel
theorem dX9_check_120 : decode cX9_check 120 = .ok (.invokevirtual 159, 3) := by decide +kernel
theorem dX9_check_123 : decode cX9_check 123 = .ok (.aload_n 0, 1) := by decide +kernel
theorem dX9_check_124 : decode cX9_check 124 = .ok (.iconst 0, 1) := by decide +kernel
theorem dX9_check_125 : decode cX9_check 125 = .ok (.invokevirtual 169, 3) := by decide +kernel
theorem dX9_check_128 : decode cX9_check 128 = .ok (.istore 8, 2) := by decide +kernel
theorem dX9_check_130 : decode cX9_check 130 = .ok (.iload 8, 2) := by decide +kernel
theorem dX9_check_132 : decode cX9_check 132 = .ok (.ifCond .le 90, 3) := by decide +kernel
theorem dX9_check_135 : decode cX9_check 135 = .ok (.iload 6, 2) := by decide +kernel
theorem dX9_check_137 : decode cX9_check 137 = .ok (.iload 6, 2) := by decide +kernel
theorem dX9_check_139 : decode cX9_check 139 = .ok (.iload 5, 2) := by decide +kernel
theorem dX9_check_141 : decode cX9_check 141 = .ok (.if_icmp .ne 37, 3) := by decide +kernel
theorem dX9_check_144 : decode cX9_check 144 = .ok (.iload 6, 2) := by decide +kernel
theorem dX9_check_146 : decode cX9_check 146 = .ok (.iload_n 3, 1) := by decide +kernel
theorem dX9_check_147 : decode cX9_check 147 = .ok (.if_icmp .ge 31, 3) := by decide +kernel
theorem dX9_check_150 : decode cX9_check 150 = .ok (.aload_n 0, 1) := by decide +kernel
theorem dX9_check_151 : decode cX9_check 151 = .ok (.getfield 85, 3) := by decide +kernel
theorem dX9_check_154 : decode cX9_check 154 = .ok (.iload 6, 2) := by decide +kernel
theorem dX9_check_156 : decode cX9_check 156 = .ok (.iaload, 1) := by decide +kernel
theorem dX9_check_157 : decode cX9_check 157 = .ok (.bipush 100, 2) := by decide +kernel
theorem dX9_check_159 : decode cX9_check 159 = .ok (.iload 7, 2) := by decide +kernel
theorem dX9_check_161 : decode cX9_check 161 = .ok (.bipush 11, 2) := by decide +kernel
theorem dX9_check_163 : decode cX9_check 163 = .ok (.idiv, 1) := by decide +kernel
theorem dX9_check_164 : decode cX9_check 164 = .ok (.imul, 1) := by decide +kernel
theorem dX9_check_165 : decode cX9_check 165 = .ok (.iload 7, 2) := by decide +kernel
theorem dX9_check_167 : decode cX9_check 167 = .ok (.bipush 11, 2) := by decide +kernel
theorem dX9_check_169 : decode cX9_check 169 = .ok (.irem, 1) := by decide +kernel
theorem dX9_check_170 : decode cX9_check 170 = .ok (.iadd, 1) := by decide +kernel
theorem dX9_check_171 : decode cX9_check 171 = .ok (.if_icmp .ne 7, 3) := by decide +kernel
theorem dX9_check_174 : decode cX9_check 174 = .ok (.iconst 1, 1) := by decide +kernel
theorem dX9_check_175 : decode cX9_check 175 = .ok (.goto 4, 3) := by decide +kernel
theorem dX9_check_178 : decode cX9_check 178 = .ok (.iconst 0, 1) := by decide +kernel
theorem dX9_check_179 : decode cX9_check 179 = .ok (.iadd, 1) := by decide +kernel
theorem dX9_check_180 : decode cX9_check 180 = .ok (.istore 6, 2) := by decide +kernel
theorem dX9_check_182 : decode cX9_check 182 = .ok (.iload 6, 2) := by decide +kernel
theorem dX9_check_184 : decode cX9_check 184 = .ok (.iload 6, 2) := by decide +kernel
theorem dX9_check_186 : decode cX9_check 186 = .ok (.iload 5, 2) := by decide +kernel
theorem dX9_check_188 : decode cX9_check 188 = .ok (.iconst 1, 1) := by decide +kernel
theorem dX9_check_189 : decode cX9_check 189 = .ok (.iadd, 1) := by decide +kernel
theorem dX9_check_190 : decode cX9_check 190 = .ok (.if_icmp .ne 25, 3) := by decide +kernel
theorem dX9_check_193 : decode cX9_check 193 = .ok (.iload 6, 2) := by decide +kernel
theorem dX9_check_195 : decode cX9_check 195 = .ok (.iload_n 3, 1) := by decide +kernel
theorem dX9_check_196 : decode cX9_check 196 = .ok (.if_icmp .ge 19, 3) := by decide +kernel
theorem dX9_check_199 : decode cX9_check 199 = .ok (.aload_n 0, 1) := by decide +kernel
theorem dX9_check_200 : decode cX9_check 200 = .ok (.getfield 85, 3) := by decide +kernel
theorem dX9_check_203 : decode cX9_check 203 = .ok (.iload 6, 2) := by decide +kernel
theorem dX9_check_205 : decode cX9_check 205 = .ok (.iaload, 1) := by decide +kernel
theorem dX9_check_206 : decode cX9_check 206 = .ok (.iload 8, 2) := by decide +kernel
theorem dX9_check_208 : decode cX9_check 208 = .ok (.if_icmp .ne 7, 3) := by decide +kernel
theorem dX9_check_211 : decode cX9_check 211 = .ok (.iconst 1, 1) := by decide +kernel
theorem dX9_check_212 : decode cX9_check 212 = .ok (.goto 4, 3) := by decide +kernel
theorem dX9_check_215 : decode cX9_check 215 = .ok (.iconst 0, 1) := by decide +kernel
theorem dX9_check_216 : decode cX9_check 216 = .ok (.iadd, 1) := by decide +kernel
theorem dX9_check_217 : decode cX9_check 217 = .ok (.istore 6, 2) := by decide +kernel
theorem dX9_check_219 : decode cX9_check 219 = .ok (.iinc 5 2, 3) := by decide +kernel
theorem dX9_check_222 : decode cX9_check 222 = .ok (.iinc 7 1, 3) := by decide +kernel
theorem dX9_check_225 : decode cX9_check 225 = .ok (.goto (-135), 3) := by decide +kernel
theorem dX9_check_228 : decode cX9_check 228 = .ok (.aload_n 0, 1) := by decide +kernel
theorem dX9_check_229 : decode cX9_check 229 = .ok (.getfield 16, 3) := by decide +kernel
theorem dX9_check_232 : decode cX9_check 232 = .ok (.aload_n 0, 1) := by decide +kernel
theorem dX9_check_233 : decode cX9_check 233 = .ok (.getfield 9, 3) := by decide +kernel
theorem dX9_check_236 : decode cX9_check 236 = .ok (.invokestatic 302, 3) := by decide +kernel
theorem dX9_check_239 : decode cX9_check 239 = .ok (.iload 6, 2) := by decide +kernel
theorem dX9_check_241 : decode cX9_check 241 = .ok (.iload_n 3, 1) := by decide +kernel
theorem dX9_check_242 : decode cX9_check 242 = .ok (.if_icmp .ne 14, 3) := by decide +kernel
theorem dX9_check_245 : decode cX9_check 245 = .ok (.iload 6, 2) := by decide +kernel
theorem dX9_check_247 : decode cX9_check 247 = .ok (.iload 5, 2) := by decide +kernel
theorem dX9_check_249 : decode cX9_check 249 = .ok (.if_icmp .ne 7, 3) := by decide +kernel
theorem dX9_check_252 : decode cX9_check 252 = .ok (.iconst 0, 1) := by decide +kernel
theorem dX9_check_253 : decode cX9_check 253 = .ok (.goto 7, 3) := by decide +kernel
theorem dX9_check_256 : decode cX9_check 256 = .ok (.iconst 1, 1) := by decide +kernel
theorem dX9_check_257 : decode cX9_check 257 = .ok (.iload 6, 2) := by decide +kernel
theorem dX9_check_259 : decode cX9_check 259 = .ok (.iadd, 1) := by decide +kernel
theorem dX9_check_260 : decode cX9_check 260 = .ok (.ireturn, 1) := by decide +kernel
theorem dX9_keep_0 : decode cX9_keep 0 = .ok (.aload_n 0, 1) := by decide +kernel
theorem dX9_keep_1 : decode cX9_keep 1 = .ok (.getfield 9, 3) := by decide +kernel
theorem dX9_keep_4 : decode cX9_keep 4 = .ok (.aload_n 0, 1) := by decide +kernel
theorem dX9_keep_5 : decode cX9_keep 5 = .ok (.getfield 13, 3) := by decide +kernel
theorem dX9_keep_8 : decode cX9_keep 8 = .ok (.invokestatic 302, 3) := by decide +kernel
theorem dX9_keep_11 : decode cX9_keep 11 = .ok (.aload_n 0, 1) := by decide +kernel
theorem dX9_keep_12 : decode cX9_keep 12 = .ok (.iconst 1, 1) := by decide +kernel
theorem dX9_keep_13 : decode cX9_keep 13 = .ok (.putfield 298, 3) := by decide +kernel
theorem dX9_keep_16 : decode cX9_keep 16 = .ok (.aload_n 0, 1) := by decide +kernel
theorem dX9_keep_17 : decode cX9_keep 17 = .ok (.getfield 9, 3) := by decide +kernel
theorem dX9_keep_20 : decode cX9_keep 20 = .ok (.iconst 1, 1) := by decide +kernel
theorem dX9_keep_21 : decode cX9_keep 21 = .ok (.iaload, 1) := by decide +kernel
theorem dX9_keep_22 : decode cX9_keep 22 = .ok (.ireturn, 1) := by decide +kernel
theorem dX9_back_0 : decode cX9_back 0 = .ok (.aload_n 0, 1) := by decide +kernel
theorem dX9_back_1 : decode cX9_back 1 = .ok (.getfield 298, 3) := by decide +kernel
theorem dX9_back_4 : decode cX9_back 4 = .ok (.ifCond .ne 6, 3) := by decide +kernel
theorem dX9_back_7 : decode cX9_back 7 = .ok (.ldc 184, 2) := by decide +kernel
theorem dX9_back_9 : decode cX9_back 9 = .ok (.ireturn, 1) := by decide +kernel
theorem dX9_back_10 : decode cX9_back 10 = .ok (.aload_n 0, 1) := by decide +kernel
theorem dX9_back_11 : decode cX9_back 11 = .ok (.getfield 13, 3) := by decide +kernel
theorem dX9_back_14 : decode cX9_back 14 = .ok (.aload_n 0, 1) := by decide +kernel
theorem dX9_back_15 : decode cX9_back 15 = .ok (.getfield 9, 3) := by decide +kernel
theorem dX9_back_18 : decode cX9_back 18 = .ok (.invokestatic 302, 3) := by decide +kernel
theorem dX9_back_21 : decode cX9_back 21 = .ok (.aload_n 0, 1) := by decide +kernel
theorem dX9_back_22 : decode cX9_back 22 = .ok (.getfield 9, 3) := by decide +kernel
theorem dX9_back_25 : decode cX9_back 25 = .ok (.iconst 1, 1) := by decide +kernel
theorem dX9_back_26 : decode cX9_back 26 = .ok (.iaload, 1) := by decide +kernel
theorem dX9_back_27 : decode cX9_back 27 = .ok (.ireturn, 1) := by decide +kernel
theorem dX9_count_0 : decode cX9_count 0 = .ok (.iload_n 1, 1) := by decide +kernel
theorem dX9_count_1 : decode cX9_count 1 = .ok (.tableswitch 66 0 4 #[35, 42, 49, 54, 59], 35) := by decide +kernel
theorem dX9_count_36 : decode cX9_count 36 = .ok (.aload_n 0, 1) := by decide +kernel
theorem dX9_count_37 : decode cX9_count 37 = .ok (.getfield 9, 3) := by decide +kernel
theorem dX9_count_40 : decode cX9_count 40 = .ok (.iconst 1, 1) := by decide +kernel
theorem dX9_count_41 : decode cX9_count 41 = .ok (.iaload, 1) := by decide +kernel
theorem dX9_count_42 : decode cX9_count 42 = .ok (.ireturn, 1) := by decide +kernel
theorem dX9_count_43 : decode cX9_count 43 = .ok (.aload_n 0, 1) := by decide +kernel
theorem dX9_count_44 : decode cX9_count 44 = .ok (.getfield 9, 3) := by decide +kernel
theorem dX9_count_47 : decode cX9_count 47 = .ok (.iconst 2, 1) := by decide +kernel
theorem dX9_count_48 : decode cX9_count 48 = .ok (.iaload, 1) := by decide +kernel
theorem dX9_count_49 : decode cX9_count 49 = .ok (.ireturn, 1) := by decide +kernel
theorem dX9_count_50 : decode cX9_count 50 = .ok (.aload_n 0, 1) := by decide +kernel
theorem dX9_count_51 : decode cX9_count 51 = .ok (.getfield 295, 3) := by decide +kernel
theorem dX9_count_54 : decode cX9_count 54 = .ok (.ireturn, 1) := by decide +kernel
theorem dX9_count_55 : decode cX9_count 55 = .ok (.aload_n 0, 1) := by decide +kernel
theorem dX9_count_56 : decode cX9_count 56 = .ok (.getfield 217, 3) := by decide +kernel
theorem dX9_count_59 : decode cX9_count 59 = .ok (.ireturn, 1) := by decide +kernel
theorem dX9_count_60 : decode cX9_count 60 = .ok (.aload_n 0, 1) := by decide +kernel
theorem dX9_count_61 : decode cX9_count 61 = .ok (.getfield 9, 3) := by decide +kernel
theorem dX9_count_64 : decode cX9_count 64 = .ok (.iconst 0, 1) := by decide +kernel
theorem dX9_count_65 : decode cX9_count 65 = .ok (.iaload, 1) := by decide +kernel
theorem dX9_count_66 : decode cX9_count 66 = .ok (.ireturn, 1) := by decide +kernel
theorem dX9_count_67 : decode cX9_count 67 = .ok (.ldc 92, 2) := by decide +kernel
theorem dX9_count_69 : decode cX9_count 69 = .ok (.ireturn, 1) := by decide +kernel
