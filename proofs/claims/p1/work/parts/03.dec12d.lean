theorem dX12_gives1_150 : decode cX12_gives1 150 = .ok (.goto 4, 3) := by decide +kernel
theorem dX12_gives1_153 : decode cX12_gives1 153 = .ok (.iconst 1, 1) := by decide +kernel
theorem dX12_gives1_154 : decode cX12_gives1 154 = .ok (.iadd, 1) := by decide +kernel
theorem dX12_gives1_155 : decode cX12_gives1 155 = .ok (.istore 6, 2) := by decide +kernel
theorem dX12_gives1_157 : decode cX12_gives1 157 = .ok (.iload 5, 2) := by decide +kernel
theorem dX12_gives1_159 : decode cX12_gives1 159 = .ok (.aload_n 0, 1) := by decide +kernel
theorem dX12_gives1_160 : decode cX12_gives1 160 = .ok (.getfield 173, 3) := by decide +kernel
theorem dX12_gives1_163 : decode cX12_gives1 163 = .ok (.iload 7, 2) := by decide +kernel
theorem dX12_gives1_165 : decode cX12_gives1 165 = .ok (.iaload, 1) := by decide +kernel
theorem dX12_gives1_166 : decode cX12_gives1 166 = .ok (.iconst (-1), 1) := by decide +kernel
theorem dX12_gives1_167 : decode cX12_gives1 167 = .ok (.if_icmp .ne 7, 3) := by decide +kernel
theorem dX12_gives1_170 : decode cX12_gives1 170 = .ok (.iconst 0, 1) := by decide +kernel
theorem dX12_gives1_171 : decode cX12_gives1 171 = .ok (.goto 10, 3) := by decide +kernel
theorem dX12_gives1_174 : decode cX12_gives1 174 = .ok (.aload_n 0, 1) := by decide +kernel
theorem dX12_gives1_175 : decode cX12_gives1 175 = .ok (.getfield 173, 3) := by decide +kernel
theorem dX12_gives1_178 : decode cX12_gives1 178 = .ok (.iload 7, 2) := by decide +kernel
theorem dX12_gives1_180 : decode cX12_gives1 180 = .ok (.iaload, 1) := by decide +kernel
theorem dX12_gives1_181 : decode cX12_gives1 181 = .ok (.iadd, 1) := by decide +kernel
theorem dX12_gives1_182 : decode cX12_gives1 182 = .ok (.istore 5, 2) := by decide +kernel
theorem dX12_gives1_184 : decode cX12_gives1 184 = .ok (.iinc 7 1, 3) := by decide +kernel
theorem dX12_gives1_187 : decode cX12_gives1 187 = .ok (.goto (-57), 3) := by decide +kernel
theorem dX12_gives1_190 : decode cX12_gives1 190 = .ok (.iload_n 3, 1) := by decide +kernel
theorem dX12_gives1_191 : decode cX12_gives1 191 = .ok (.aload_n 0, 1) := by decide +kernel
theorem dX12_gives1_192 : decode cX12_gives1 192 = .ok (.getfield 143, 3) := by decide +kernel
theorem dX12_gives1_195 : decode cX12_gives1 195 = .ok (.iload 4, 2) := by decide +kernel
theorem dX12_gives1_197 : decode cX12_gives1 197 = .ok (.iaload, 1) := by decide +kernel
theorem dX12_gives1_198 : decode cX12_gives1 198 = .ok (.isub, 1) := by decide +kernel
theorem dX12_gives1_199 : decode cX12_gives1 199 = .ok (.istore_n 3, 1) := by decide +kernel
theorem dX12_gives1_200 : decode cX12_gives1 200 = .ok (.aload_n 0, 1) := by decide +kernel
theorem dX12_gives1_201 : decode cX12_gives1 201 = .ok (.getfield 131, 3) := by decide +kernel
theorem dX12_gives1_204 : decode cX12_gives1 204 = .ok (.iload 4, 2) := by decide +kernel
theorem dX12_gives1_206 : decode cX12_gives1 206 = .ok (.iaload, 1) := by decide +kernel
theorem dX12_gives1_207 : decode cX12_gives1 207 = .ok (.bipush 7, 2) := by decide +kernel
theorem dX12_gives1_209 : decode cX12_gives1 209 = .ok (.if_icmp .ne 7, 3) := by decide +kernel
theorem dX12_gives1_212 : decode cX12_gives1 212 = .ok (.iconst 1, 1) := by decide +kernel
theorem dX12_gives1_213 : decode cX12_gives1 213 = .ok (.goto 4, 3) := by decide +kernel
theorem dX12_gives1_216 : decode cX12_gives1 216 = .ok (.iconst 0, 1) := by decide +kernel
theorem dX12_gives1_217 : decode cX12_gives1 217 = .ok (.istore 7, 2) := by decide +kernel
theorem dX12_gives1_219 : decode cX12_gives1 219 = .ok (.iload 7, 2) := by decide +kernel
theorem dX12_gives1_221 : decode cX12_gives1 221 = .ok (.ifCond .eq 33, 3) := by decide +kernel
theorem dX12_gives1_224 : decode cX12_gives1 224 = .ok (.aload_n 0, 1) := by decide +kernel
theorem dX12_gives1_225 : decode cX12_gives1 225 = .ok (.getfield 173, 3) := by decide +kernel
theorem dX12_gives1_228 : decode cX12_gives1 228 = .ok (.iload_n 3, 1) := by decide +kernel
theorem dX12_gives1_229 : decode cX12_gives1 229 = .ok (.iaload, 1) := by decide +kernel
theorem dX12_gives1_230 : decode cX12_gives1 230 = .ok (.iconst (-1), 1) := by decide +kernel
theorem dX12_gives1_231 : decode cX12_gives1 231 = .ok (.if_icmp .eq 19, 3) := by decide +kernel
theorem dX12_gives1_234 : decode cX12_gives1 234 = .ok (.aload_n 0, 1) := by decide +kernel
theorem dX12_gives1_235 : decode cX12_gives1 235 = .ok (.getfield 173, 3) := by decide +kernel
theorem dX12_gives1_238 : decode cX12_gives1 238 = .ok (.iload_n 3, 1) := by decide +kernel
theorem dX12_gives1_239 : decode cX12_gives1 239 = .ok (.iconst 1, 1) := by decide +kernel
theorem dX12_gives1_240 : decode cX12_gives1 240 = .ok (.iadd, 1) := by decide +kernel
theorem dX12_gives1_241 : decode cX12_gives1 241 = .ok (.iaload, 1) := by decide +kernel
theorem dX12_gives1_242 : decode cX12_gives1 242 = .ok (.iconst (-1), 1) := by decide +kernel
theorem dX12_gives1_243 : decode cX12_gives1 243 = .ok (.if_icmp .ne 7, 3) := by decide +kernel
theorem dX12_gives1_246 : decode cX12_gives1 246 = .ok (.iconst 1, 1) := by decide +kernel
theorem dX12_gives1_247 : decode cX12_gives1 247 = .ok (.goto 24, 3) := by decide +kernel
theorem dX12_gives1_250 : decode cX12_gives1 250 = .ok (.iconst 0, 1) := by decide +kernel
theorem dX12_gives1_251 : decode cX12_gives1 251 = .ok (.goto 20, 3) := by decide +kernel
theorem dX12_gives1_254 : decode cX12_gives1 254 = .ok (.iload 6, 2) := by decide +kernel
theorem dX12_gives1_256 : decode cX12_gives1 256 = .ok (.aload_n 0, 1) := by decide +kernel
theorem dX12_gives1_257 : decode cX12_gives1 257 = .ok (.getfield 137, 3) := by decide +kernel
theorem dX12_gives1_260 : decode cX12_gives1 260 = .ok (.iload 4, 2) := by decide +kernel
theorem dX12_gives1_262 : decode cX12_gives1 262 = .ok (.iaload, 1) := by decide +kernel
theorem dX12_gives1_263 : decode cX12_gives1 263 = .ok (.if_icmp .lt 7, 3) := by decide +kernel
theorem dX12_gives1_266 : decode cX12_gives1 266 = .ok (.iconst 1, 1) := by decide +kernel
theorem dX12_gives1_267 : decode cX12_gives1 267 = .ok (.goto 4, 3) := by decide +kernel
theorem dX12_gives1_270 : decode cX12_gives1 270 = .ok (.iconst 0, 1) := by decide +kernel
theorem dX12_gives1_271 : decode cX12_gives1 271 = .ok (.istore 8, 2) := by decide +kernel
theorem dX12_gives1_273 : decode cX12_gives1 273 = .ok (.aload_n 0, 1) := by decide +kernel
theorem dX12_gives1_274 : decode cX12_gives1 274 = .ok (.getfield 173, 3) := by decide +kernel
theorem dX12_gives1_277 : decode cX12_gives1 277 = .ok (.iload_n 3, 1) := by decide +kernel
theorem dX12_gives1_278 : decode cX12_gives1 278 = .ok (.iload 8, 2) := by decide +kernel
theorem dX12_gives1_280 : decode cX12_gives1 280 = .ok (.ifCond .ne 7, 3) := by decide +kernel
theorem dX12_gives1_283 : decode cX12_gives1 283 = .ok (.iconst (-1), 1) := by decide +kernel
theorem dX12_gives1_284 : decode cX12_gives1 284 = .ok (.goto 19, 3) := by decide +kernel
theorem dX12_gives1_287 : decode cX12_gives1 287 = .ok (.iload 7, 2) := by decide +kernel
theorem dX12_gives1_289 : decode cX12_gives1 289 = .ok (.ifCond .eq 12, 3) := by decide +kernel
theorem dX12_gives1_292 : decode cX12_gives1 292 = .ok (.aload_n 0, 1) := by decide +kernel
theorem dX12_gives1_293 : decode cX12_gives1 293 = .ok (.getfield 173, 3) := by decide +kernel
theorem dX12_gives1_296 : decode cX12_gives1 296 = .ok (.iload_n 3, 1) := by decide +kernel
theorem dX12_gives1_297 : decode cX12_gives1 297 = .ok (.iaload, 1) := by decide +kernel
theorem dX12_gives1_298 : decode cX12_gives1 298 = .ok (.goto 5, 3) := by decide +kernel
theorem dX12_gives1_301 : decode cX12_gives1 301 = .ok (.iload 5, 2) := by decide +kernel
theorem dX12_gives1_303 : decode cX12_gives1 303 = .ok (.iastore, 1) := by decide +kernel
theorem dX12_gives1_304 : decode cX12_gives1 304 = .ok (.iinc 3 1, 3) := by decide +kernel
theorem dX12_gives1_307 : decode cX12_gives1 307 = .ok (.iinc 4 1, 3) := by decide +kernel
theorem dX12_gives1_310 : decode cX12_gives1 310 = .ok (.goto (-302), 3) := by decide +kernel
theorem dX12_gives1_313 : decode cX12_gives1 313 = .ok (.aload_n 0, 1) := by decide +kernel
theorem dX12_gives1_314 : decode cX12_gives1 314 = .ok (.getfield 173, 3) := by decide +kernel
theorem dX12_gives1_317 : decode cX12_gives1 317 = .ok (.iconst 0, 1) := by decide +kernel
theorem dX12_gives1_318 : decode cX12_gives1 318 = .ok (.iaload, 1) := by decide +kernel
theorem dX12_gives1_319 : decode cX12_gives1 319 = .ok (.ireturn, 1) := by decide +kernel
theorem dX12_rarity_0 : decode cX12_rarity 0 = .ok (.iconst 0, 1) := by decide +kernel
theorem dX12_rarity_1 : decode cX12_rarity 1 = .ok (.istore 4, 2) := by decide +kernel
theorem dX12_rarity_3 : decode cX12_rarity 3 = .ok (.iconst 0, 1) := by decide +kernel
theorem dX12_rarity_4 : decode cX12_rarity 4 = .ok (.istore 5, 2) := by decide +kernel
theorem dX12_rarity_6 : decode cX12_rarity 6 = .ok (.iload 5, 2) := by decide +kernel
theorem dX12_rarity_8 : decode cX12_rarity 8 = .ok (.aload_n 0, 1) := by decide +kernel
theorem dX12_rarity_9 : decode cX12_rarity 9 = .ok (.getfield 429, 3) := by decide +kernel
theorem dX12_rarity_12 : decode cX12_rarity 12 = .ok (.if_icmp .ge 87, 3) := by decide +kernel
theorem dX12_rarity_15 : decode cX12_rarity 15 = .ok (.iconst 0, 1) := by decide +kernel
theorem dX12_rarity_16 : decode cX12_rarity 16 = .ok (.istore 6, 2) := by decide +kernel
theorem dX12_rarity_18 : decode cX12_rarity 18 = .ok (.iconst 0, 1) := by decide +kernel
theorem dX12_rarity_19 : decode cX12_rarity 19 = .ok (.istore 7, 2) := by decide +kernel
theorem dX12_rarity_21 : decode cX12_rarity 21 = .ok (.iload 7, 2) := by decide +kernel
theorem dX12_rarity_23 : decode cX12_rarity 23 = .ok (.aload_n 0, 1) := by decide +kernel
theorem dX12_rarity_24 : decode cX12_rarity 24 = .ok (.getfield 63, 3) := by decide +kernel
theorem dX12_rarity_27 : decode cX12_rarity 27 = .ok (.iconst 2, 1) := by decide +kernel
theorem dX12_rarity_28 : decode cX12_rarity 28 = .ok (.aload_n 0, 1) := by decide +kernel
theorem dX12_rarity_29 : decode cX12_rarity 29 = .ok (.getfield 125, 3) := by decide +kernel
theorem dX12_rarity_32 : decode cX12_rarity 32 = .ok (.iload 5, 2) := by decide +kernel
theorem dX12_rarity_34 : decode cX12_rarity 34 = .ok (.iaload, 1) := by decide +kernel
theorem dX12_rarity_35 : decode cX12_rarity 35 = .ok (.imul, 1) := by decide +kernel
theorem dX12_rarity_36 : decode cX12_rarity 36 = .ok (.iload_n 1, 1) := by decide +kernel
theorem dX12_rarity_37 : decode cX12_rarity 37 = .ok (.iadd, 1) := by decide +kernel
theorem dX12_rarity_38 : decode cX12_rarity 38 = .ok (.iaload, 1) := by decide +kernel
theorem dX12_rarity_39 : decode cX12_rarity 39 = .ok (.if_icmp .ge 39, 3) := by decide +kernel
theorem dX12_rarity_42 : decode cX12_rarity 42 = .ok (.iload 6, 2) := by decide +kernel
theorem dX12_rarity_44 : decode cX12_rarity 44 = .ok (.ifCond .ne 21, 3) := by decide +kernel
theorem dX12_rarity_47 : decode cX12_rarity 47 = .ok (.aload_n 0, 1) := by decide +kernel
theorem dX12_rarity_48 : decode cX12_rarity 48 = .ok (.aload_n 0, 1) := by decide +kernel
theorem dX12_rarity_49 : decode cX12_rarity 49 = .ok (.getfield 125, 3) := by decide +kernel
theorem dX12_rarity_52 : decode cX12_rarity 52 = .ok (.iload 5, 2) := by decide +kernel
theorem dX12_rarity_54 : decode cX12_rarity 54 = .ok (.iaload, 1) := by decide +kernel
theorem dX12_rarity_55 : decode cX12_rarity 55 = .ok (.iload_n 1, 1) := by decide +kernel
theorem dX12_rarity_56 : decode cX12_rarity 56 = .ok (.iload 7, 2) := by decide +kernel
theorem dX12_rarity_58 : decode cX12_rarity 58 = .ok (.lload_n 2, 1) := by decide +kernel
theorem dX12_rarity_59 : decode cX12_rarity 59 = .ok (.invokevirtual 412, 3) := by decide +kernel
theorem dX12_rarity_62 : decode cX12_rarity 62 = .ok (.ifCond .eq 7, 3) := by decide +kernel
theorem dX12_rarity_65 : decode cX12_rarity 65 = .ok (.iconst 1, 1) := by decide +kernel
theorem dX12_rarity_66 : decode cX12_rarity 66 = .ok (.goto 4, 3) := by decide +kernel
theorem dX12_rarity_69 : decode cX12_rarity 69 = .ok (.iconst 0, 1) := by decide +kernel
theorem dX12_rarity_70 : decode cX12_rarity 70 = .ok (.istore 6, 2) := by decide +kernel
theorem dX12_rarity_72 : decode cX12_rarity 72 = .ok (.iinc 7 1, 3) := by decide +kernel
theorem dX12_rarity_75 : decode cX12_rarity 75 = .ok (.goto (-54), 3) := by decide +kernel
theorem dX12_rarity_78 : decode cX12_rarity 78 = .ok (.iload 4, 2) := by decide +kernel
theorem dX12_rarity_80 : decode cX12_rarity 80 = .ok (.iload 6, 2) := by decide +kernel
theorem dX12_rarity_82 : decode cX12_rarity 82 = .ok (.ifCond .eq 7, 3) := by decide +kernel
theorem dX12_rarity_85 : decode cX12_rarity 85 = .ok (.iconst 1, 1) := by decide +kernel
theorem dX12_rarity_86 : decode cX12_rarity 86 = .ok (.goto 4, 3) := by decide +kernel
theorem dX12_rarity_89 : decode cX12_rarity 89 = .ok (.iconst 0, 1) := by decide +kernel
theorem dX12_rarity_90 : decode cX12_rarity 90 = .ok (.iadd, 1) := by decide +kernel
theorem dX12_rarity_91 : decode cX12_rarity 91 = .ok (.istore 4, 2) := by decide +kernel
theorem dX12_rarity_93 : decode cX12_rarity 93 = .ok (.iinc 5 1, 3) := by decide +kernel
theorem dX12_rarity_96 : decode cX12_rarity 96 = .ok (.goto (-90), 3) := by decide +kernel
theorem dX12_rarity_99 : decode cX12_rarity 99 = .ok (.iconst 1, 1) := by decide +kernel
theorem dX12_rarity_100 : decode cX12_rarity 100 = .ok (.istore 5, 2) := by decide +kernel
theorem dX12_rarity_102 : decode cX12_rarity 102 = .ok (.aload_n 0, 1) := by decide +kernel
theorem dX12_rarity_103 : decode cX12_rarity 103 = .ok (.getfield 429, 3) := by decide +kernel
theorem dX12_rarity_106 : decode cX12_rarity 106 = .ok (.iconst 1, 1) := by decide +kernel
theorem dX12_rarity_107 : decode cX12_rarity 107 = .ok (.iadd, 1) := by decide +kernel
theorem dX12_rarity_108 : decode cX12_rarity 108 = .ok (.iload 4, 2) := by decide +kernel
theorem dX12_rarity_110 : decode cX12_rarity 110 = .ok (.iconst 1, 1) := by decide +kernel
theorem dX12_rarity_111 : decode cX12_rarity 111 = .ok (.iadd, 1) := by decide +kernel
theorem dX12_rarity_112 : decode cX12_rarity 112 = .ok (.idiv, 1) := by decide +kernel
theorem dX12_rarity_113 : decode cX12_rarity 113 = .ok (.istore 6, 2) := by decide +kernel
theorem dX12_rarity_115 : decode cX12_rarity 115 = .ok (.iload 6, 2) := by decide +kernel
theorem dX12_rarity_117 : decode cX12_rarity 117 = .ok (.iconst 1, 1) := by decide +kernel
theorem dX12_rarity_118 : decode cX12_rarity 118 = .ok (.if_icmp .le 15, 3) := by decide +kernel
theorem dX12_rarity_121 : decode cX12_rarity 121 = .ok (.iinc 5 1, 3) := by decide +kernel
theorem dX12_rarity_124 : decode cX12_rarity 124 = .ok (.iload 6, 2) := by decide +kernel
theorem dX12_rarity_126 : decode cX12_rarity 126 = .ok (.iconst 2, 1) := by decide +kernel
theorem dX12_rarity_127 : decode cX12_rarity 127 = .ok (.idiv, 1) := by decide +kernel
theorem dX12_rarity_128 : decode cX12_rarity 128 = .ok (.istore 6, 2) := by decide +kernel
theorem dX12_rarity_130 : decode cX12_rarity 130 = .ok (.goto (-15), 3) := by decide +kernel
theorem dX12_rarity_133 : decode cX12_rarity 133 = .ok (.iload 5, 2) := by decide +kernel
theorem dX12_rarity_135 : decode cX12_rarity 135 = .ok (.ireturn, 1) := by decide +kernel
theorem dX12_laysGains_0 : decode cX12_laysGains 0 = .ok (.iconst 0, 1) := by decide +kernel
theorem dX12_laysGains_1 : decode cX12_laysGains 1 = .ok (.istore_n 2, 1) := by decide +kernel
theorem dX12_laysGains_2 : decode cX12_laysGains 2 = .ok (.iload_n 2, 1) := by decide +kernel
theorem dX12_laysGains_3 : decode cX12_laysGains 3 = .ok (.aload_n 0, 1) := by decide +kernel
theorem dX12_laysGains_4 : decode cX12_laysGains 4 = .ok (.getfield 155, 3) := by decide +kernel
theorem dX12_laysGains_7 : decode cX12_laysGains 7 = .ok (.iload_n 1, 1) := by decide +kernel
theorem dX12_laysGains_8 : decode cX12_laysGains 8 = .ok (.iaload, 1) := by decide +kernel
theorem dX12_laysGains_9 : decode cX12_laysGains 9 = .ok (.if_icmp .ge 126, 3) := by decide +kernel
theorem dX12_laysGains_12 : decode cX12_laysGains 12 = .ok (.bipush 48, 2) := by decide +kernel
theorem dX12_laysGains_14 : decode cX12_laysGains 14 = .ok (.iload_n 1, 1) := by decide +kernel
theorem dX12_laysGains_15 : decode cX12_laysGains 15 = .ok (.imul, 1) := by decide +kernel
theorem dX12_laysGains_16 : decode cX12_laysGains 16 = .ok (.iload_n 2, 1) := by decide +kernel
theorem dX12_laysGains_17 : decode cX12_laysGains 17 = .ok (.iadd, 1) := by decide +kernel
theorem dX12_laysGains_18 : decode cX12_laysGains 18 = .ok (.istore_n 3, 1) := by decide +kernel
theorem dX12_laysGains_19 : decode cX12_laysGains 19 = .ok (.iconst 0, 1) := by decide +kernel
theorem dX12_laysGains_20 : decode cX12_laysGains 20 = .ok (.istore 4, 2) := by decide +kernel
theorem dX12_laysGains_22 : decode cX12_laysGains 22 = .ok (.iconst 0, 1) := by decide +kernel
theorem dX12_laysGains_23 : decode cX12_laysGains 23 = .ok (.istore 5, 2) := by decide +kernel
theorem dX12_laysGains_25 : decode cX12_laysGains 25 = .ok (.aload_n 0, 1) := by decide +kernel
theorem dX12_laysGains_26 : decode cX12_laysGains 26 = .ok (.getfield 131, 3) := by decide +kernel
theorem dX12_laysGains_29 : decode cX12_laysGains 29 = .ok (.iload_n 3, 1) := by decide +kernel
theorem dX12_laysGains_30 : decode cX12_laysGains 30 = .ok (.iaload, 1) := by decide +kernel
theorem dX12_laysGains_31 : decode cX12_laysGains 31 = .ok (.iconst 3, 1) := by decide +kernel
theorem dX12_laysGains_32 : decode cX12_laysGains 32 = .ok (.if_icmp .ge 47, 3) := by decide +kernel
theorem dX12_laysGains_35 : decode cX12_laysGains 35 = .ok (.iload 5, 2) := by decide +kernel
theorem dX12_laysGains_37 : decode cX12_laysGains 37 = .ok (.aload_n 0, 1) := by decide +kernel
theorem dX12_laysGains_38 : decode cX12_laysGains 38 = .ok (.getfield 143, 3) := by decide +kernel
theorem dX12_laysGains_41 : decode cX12_laysGains 41 = .ok (.iload_n 3, 1) := by decide +kernel
theorem dX12_laysGains_42 : decode cX12_laysGains 42 = .ok (.iaload, 1) := by decide +kernel
theorem dX12_laysGains_43 : decode cX12_laysGains 43 = .ok (.if_icmp .ge 36, 3) := by decide +kernel
theorem dX12_laysGains_46 : decode cX12_laysGains 46 = .ok (.iload 4, 2) := by decide +kernel
theorem dX12_laysGains_48 : decode cX12_laysGains 48 = .ok (.aload_n 0, 1) := by decide +kernel
theorem dX12_laysGains_49 : decode cX12_laysGains 49 = .ok (.aload_n 0, 1) := by decide +kernel
theorem dX12_laysGains_50 : decode cX12_laysGains 50 = .ok (.getfield 134, 3) := by decide +kernel
theorem dX12_laysGains_53 : decode cX12_laysGains 53 = .ok (.iload_n 3, 1) := by decide +kernel
theorem dX12_laysGains_54 : decode cX12_laysGains 54 = .ok (.iaload, 1) := by decide +kernel
theorem dX12_laysGains_55 : decode cX12_laysGains 55 = .ok (.aload_n 0, 1) := by decide +kernel
theorem dX12_laysGains_56 : decode cX12_laysGains 56 = .ok (.getfield 146, 3) := by decide +kernel
theorem dX12_laysGains_59 : decode cX12_laysGains 59 = .ok (.bipush 6, 2) := by decide +kernel
theorem dX12_laysGains_61 : decode cX12_laysGains 61 = .ok (.iload_n 3, 1) := by decide +kernel
theorem dX12_laysGains_62 : decode cX12_laysGains 62 = .ok (.imul, 1) := by decide +kernel
theorem dX12_laysGains_63 : decode cX12_laysGains 63 = .ok (.iload 5, 2) := by decide +kernel
theorem dX12_laysGains_65 : decode cX12_laysGains 65 = .ok (.iadd, 1) := by decide +kernel
theorem dX12_laysGains_66 : decode cX12_laysGains 66 = .ok (.laload, 1) := by decide +kernel
theorem dX12_laysGains_67 : decode cX12_laysGains 67 = .ok (.invokevirtual 506, 3) := by decide +kernel
theorem dX12_laysGains_70 : decode cX12_laysGains 70 = .ok (.iadd, 1) := by decide +kernel
theorem dX12_laysGains_71 : decode cX12_laysGains 71 = .ok (.istore 4, 2) := by decide +kernel
theorem dX12_laysGains_73 : decode cX12_laysGains 73 = .ok (.iinc 5 1, 3) := by decide +kernel
theorem dX12_laysGains_76 : decode cX12_laysGains 76 = .ok (.goto (-51), 3) := by decide +kernel
theorem dX12_laysGains_79 : decode cX12_laysGains 79 = .ok (.aload_n 0, 1) := by decide +kernel
theorem dX12_laysGains_80 : decode cX12_laysGains 80 = .ok (.getfield 176, 3) := by decide +kernel
theorem dX12_laysGains_83 : decode cX12_laysGains 83 = .ok (.iload_n 2, 1) := by decide +kernel
theorem dX12_laysGains_84 : decode cX12_laysGains 84 = .ok (.aload_n 0, 1) := by decide +kernel
theorem dX12_laysGains_85 : decode cX12_laysGains 85 = .ok (.getfield 131, 3) := by decide +kernel
theorem dX12_laysGains_88 : decode cX12_laysGains 88 = .ok (.iload_n 3, 1) := by decide +kernel
theorem dX12_laysGains_89 : decode cX12_laysGains 89 = .ok (.iaload, 1) := by decide +kernel
theorem dX12_laysGains_90 : decode cX12_laysGains 90 = .ok (.bipush 6, 2) := by decide +kernel
theorem dX12_laysGains_92 : decode cX12_laysGains 92 = .ok (.if_icmp .lt 7, 3) := by decide +kernel
theorem dX12_laysGains_95 : decode cX12_laysGains 95 = .ok (.iconst 0, 1) := by decide +kernel
theorem dX12_laysGains_96 : decode cX12_laysGains 96 = .ok (.goto 32, 3) := by decide +kernel
theorem dX12_laysGains_99 : decode cX12_laysGains 99 = .ok (.aload_n 0, 1) := by decide +kernel
theorem dX12_laysGains_100 : decode cX12_laysGains 100 = .ok (.getfield 158, 3) := by decide +kernel
theorem dX12_laysGains_103 : decode cX12_laysGains 103 = .ok (.aload_n 0, 1) := by decide +kernel
theorem dX12_laysGains_104 : decode cX12_laysGains 104 = .ok (.getfield 134, 3) := by decide +kernel
theorem dX12_laysGains_107 : decode cX12_laysGains 107 = .ok (.iload_n 3, 1) := by decide +kernel
theorem dX12_laysGains_108 : decode cX12_laysGains 108 = .ok (.iaload, 1) := by decide +kernel
theorem dX12_laysGains_109 : decode cX12_laysGains 109 = .ok (.iaload, 1) := by decide +kernel
theorem dX12_laysGains_110 : decode cX12_laysGains 110 = .ok (.aload_n 0, 1) := by decide +kernel
theorem dX12_laysGains_111 : decode cX12_laysGains 111 = .ok (.getfield 131, 3) := by decide +kernel
theorem dX12_laysGains_114 : decode cX12_laysGains 114 = .ok (.iload_n 3, 1) := by decide +kernel
theorem dX12_laysGains_115 : decode cX12_laysGains 115 = .ok (.iaload, 1) := by decide +kernel
theorem dX12_laysGains_116 : decode cX12_laysGains 116 = .ok (.iconst 3, 1) := by decide +kernel
theorem dX12_laysGains_117 : decode cX12_laysGains 117 = .ok (.if_icmp .lt 8, 3) := by decide +kernel
theorem dX12_laysGains_120 : decode cX12_laysGains 120 = .ok (.bipush 32, 2) := by decide +kernel
theorem dX12_laysGains_122 : decode cX12_laysGains 122 = .ok (.goto 5, 3) := by decide +kernel
theorem dX12_laysGains_125 : decode cX12_laysGains 125 = .ok (.iload 4, 2) := by decide +kernel
theorem dX12_laysGains_127 : decode cX12_laysGains 127 = .ok (.imul, 1) := by decide +kernel
theorem dX12_laysGains_128 : decode cX12_laysGains 128 = .ok (.iastore, 1) := by decide +kernel
theorem dX12_laysGains_129 : decode cX12_laysGains 129 = .ok (.iinc 2 1, 3) := by decide +kernel
theorem dX12_laysGains_132 : decode cX12_laysGains 132 = .ok (.goto (-130), 3) := by decide +kernel
theorem dX12_laysGains_135 : decode cX12_laysGains 135 = .ok (.return_, 1) := by decide +kernel
theorem dX12_laysSeconds_0 : decode cX12_laysSeconds 0 = .ok (.iconst 0, 1) := by decide +kernel
theorem dX12_laysSeconds_1 : decode cX12_laysSeconds 1 = .ok (.istore_n 2, 1) := by decide +kernel
theorem dX12_laysSeconds_2 : decode cX12_laysSeconds 2 = .ok (.iconst 0, 1) := by decide +kernel
theorem dX12_laysSeconds_3 : decode cX12_laysSeconds 3 = .ok (.istore_n 3, 1) := by decide +kernel
theorem dX12_laysSeconds_4 : decode cX12_laysSeconds 4 = .ok (.iload_n 3, 1) := by decide +kernel
theorem dX12_laysSeconds_5 : decode cX12_laysSeconds 5 = .ok (.aload_n 0, 1) := by decide +kernel
theorem dX12_laysSeconds_6 : decode cX12_laysSeconds 6 = .ok (.getfield 155, 3) := by decide +kernel
theorem dX12_laysSeconds_9 : decode cX12_laysSeconds 9 = .ok (.iload_n 1, 1) := by decide +kernel
theorem dX12_laysSeconds_10 : decode cX12_laysSeconds 10 = .ok (.iaload, 1) := by decide +kernel
theorem dX12_laysSeconds_11 : decode cX12_laysSeconds 11 = .ok (.if_icmp .ge 101, 3) := by decide +kernel
theorem dX12_laysSeconds_14 : decode cX12_laysSeconds 14 = .ok (.bipush 48, 2) := by decide +kernel
theorem dX12_laysSeconds_16 : decode cX12_laysSeconds 16 = .ok (.iload_n 1, 1) := by decide +kernel
theorem dX12_laysSeconds_17 : decode cX12_laysSeconds 17 = .ok (.imul, 1) := by decide +kernel
theorem dX12_laysSeconds_18 : decode cX12_laysSeconds 18 = .ok (.iload_n 3, 1) := by decide +kernel
theorem dX12_laysSeconds_19 : decode cX12_laysSeconds 19 = .ok (.iadd, 1) := by decide +kernel
theorem dX12_laysSeconds_20 : decode cX12_laysSeconds 20 = .ok (.istore 4, 2) := by decide +kernel
theorem dX12_laysSeconds_22 : decode cX12_laysSeconds 22 = .ok (.aload_n 0, 1) := by decide +kernel
theorem dX12_laysSeconds_23 : decode cX12_laysSeconds 23 = .ok (.getfield 179, 3) := by decide +kernel
theorem dX12_laysSeconds_26 : decode cX12_laysSeconds 26 = .ok (.iload_n 3, 1) := by decide +kernel
theorem dX12_laysSeconds_27 : decode cX12_laysSeconds 27 = .ok (.iconst 0, 1) := by decide +kernel
theorem dX12_laysSeconds_28 : decode cX12_laysSeconds 28 = .ok (.bastore, 1) := by decide +kernel
theorem dX12_laysSeconds_29 : decode cX12_laysSeconds 29 = .ok (.aload_n 0, 1) := by decide +kernel
theorem dX12_laysSeconds_30 : decode cX12_laysSeconds 30 = .ok (.getfield 131, 3) := by decide +kernel
theorem dX12_laysSeconds_33 : decode cX12_laysSeconds 33 = .ok (.iload 4, 2) := by decide +kernel
theorem dX12_laysSeconds_35 : decode cX12_laysSeconds 35 = .ok (.iaload, 1) := by decide +kernel
theorem dX12_laysSeconds_36 : decode cX12_laysSeconds 36 = .ok (.bipush 6, 2) := by decide +kernel
theorem dX12_laysSeconds_38 : decode cX12_laysSeconds 38 = .ok (.if_icmp .ge 13, 3) := by decide +kernel
theorem dX12_laysSeconds_41 : decode cX12_laysSeconds 41 = .ok (.aload_n 0, 1) := by decide +kernel
theorem dX12_laysSeconds_42 : decode cX12_laysSeconds 42 = .ok (.getfield 173, 3) := by decide +kernel
theorem dX12_laysSeconds_45 : decode cX12_laysSeconds 45 = .ok (.iload_n 2, 1) := by decide +kernel
theorem dX12_laysSeconds_46 : decode cX12_laysSeconds 46 = .ok (.iload_n 3, 1) := by decide +kernel
theorem dX12_laysSeconds_47 : decode cX12_laysSeconds 47 = .ok (.iastore, 1) := by decide +kernel
theorem dX12_laysSeconds_48 : decode cX12_laysSeconds 48 = .ok (.goto 55, 3) := by decide +kernel
theorem dX12_laysSeconds_51 : decode cX12_laysSeconds 51 = .ok (.aload_n 0, 1) := by decide +kernel
theorem dX12_laysSeconds_52 : decode cX12_laysSeconds 52 = .ok (.getfield 173, 3) := by decide +kernel
theorem dX12_laysSeconds_55 : decode cX12_laysSeconds 55 = .ok (.iload_n 2, 1) := by decide +kernel
theorem dX12_laysSeconds_56 : decode cX12_laysSeconds 56 = .ok (.iconst 1, 1) := by decide +kernel
theorem dX12_laysSeconds_57 : decode cX12_laysSeconds 57 = .ok (.isub, 1) := by decide +kernel
theorem dX12_laysSeconds_58 : decode cX12_laysSeconds 58 = .ok (.iaload, 1) := by decide +kernel
theorem dX12_laysSeconds_59 : decode cX12_laysSeconds 59 = .ok (.istore 5, 2) := by decide +kernel
theorem dX12_laysSeconds_61 : decode cX12_laysSeconds 61 = .ok (.aload_n 0, 1) := by decide +kernel
theorem dX12_laysSeconds_62 : decode cX12_laysSeconds 62 = .ok (.getfield 131, 3) := by decide +kernel
theorem dX12_laysSeconds_65 : decode cX12_laysSeconds 65 = .ok (.iload 4, 2) := by decide +kernel
theorem dX12_laysSeconds_67 : decode cX12_laysSeconds 67 = .ok (.iaload, 1) := by decide +kernel
theorem dX12_laysSeconds_68 : decode cX12_laysSeconds 68 = .ok (.bipush 7, 2) := by decide +kernel
theorem dX12_laysSeconds_70 : decode cX12_laysSeconds 70 = .ok (.if_icmp .ne 23, 3) := by decide +kernel
theorem dX12_laysSeconds_73 : decode cX12_laysSeconds 73 = .ok (.iload 5, 2) := by decide +kernel
theorem dX12_laysSeconds_75 : decode cX12_laysSeconds 75 = .ok (.iload_n 3, 1) := by decide +kernel
theorem dX12_laysSeconds_76 : decode cX12_laysSeconds 76 = .ok (.if_icmp .ge 17, 3) := by decide +kernel
theorem dX12_laysSeconds_79 : decode cX12_laysSeconds 79 = .ok (.aload_n 0, 1) := by decide +kernel
theorem dX12_laysSeconds_80 : decode cX12_laysSeconds 80 = .ok (.getfield 179, 3) := by decide +kernel
theorem dX12_laysSeconds_83 : decode cX12_laysSeconds 83 = .ok (.iload 5, 2) := by decide +kernel
theorem dX12_laysSeconds_85 : decode cX12_laysSeconds 85 = .ok (.iconst 1, 1) := by decide +kernel
theorem dX12_laysSeconds_86 : decode cX12_laysSeconds 86 = .ok (.bastore, 1) := by decide +kernel
theorem dX12_laysSeconds_87 : decode cX12_laysSeconds 87 = .ok (.iinc 5 1, 3) := by decide +kernel
theorem dX12_laysSeconds_90 : decode cX12_laysSeconds 90 = .ok (.goto (-29), 3) := by decide +kernel
theorem dX12_laysSeconds_93 : decode cX12_laysSeconds 93 = .ok (.iload_n 2, 1) := by decide +kernel
theorem dX12_laysSeconds_94 : decode cX12_laysSeconds 94 = .ok (.aload_n 0, 1) := by decide +kernel
theorem dX12_laysSeconds_95 : decode cX12_laysSeconds 95 = .ok (.getfield 143, 3) := by decide +kernel
theorem dX12_laysSeconds_98 : decode cX12_laysSeconds 98 = .ok (.iload 4, 2) := by decide +kernel
theorem dX12_laysSeconds_100 : decode cX12_laysSeconds 100 = .ok (.iaload, 1) := by decide +kernel
theorem dX12_laysSeconds_101 : decode cX12_laysSeconds 101 = .ok (.isub, 1) := by decide +kernel
theorem dX12_laysSeconds_102 : decode cX12_laysSeconds 102 = .ok (.istore_n 2, 1) := by decide +kernel
theorem dX12_laysSeconds_103 : decode cX12_laysSeconds 103 = .ok (.iinc 2 1, 3) := by decide +kernel
theorem dX12_laysSeconds_106 : decode cX12_laysSeconds 106 = .ok (.iinc 3 1, 3) := by decide +kernel
theorem dX12_laysSeconds_109 : decode cX12_laysSeconds 109 = .ok (.goto (-105), 3) := by decide +kernel
theorem dX12_laysSeconds_112 : decode cX12_laysSeconds 112 = .ok (.return_, 1) := by decide +kernel
theorem dX12_readies_0 : decode cX12_readies 0 = .ok (.aload_n 0, 1) := by decide +kernel
theorem dX12_readies_1 : decode cX12_readies 1 = .ok (.iload_n 1, 1) := by decide +kernel
theorem dX12_readies_2 : decode cX12_readies 2 = .ok (.invokevirtual 432, 3) := by decide +kernel
theorem dX12_readies_5 : decode cX12_readies 5 = .ok (.aload_n 0, 1) := by decide +kernel
theorem dX12_readies_6 : decode cX12_readies 6 = .ok (.iload_n 2, 1) := by decide +kernel
theorem dX12_readies_7 : decode cX12_readies 7 = .ok (.invokevirtual 510, 3) := by decide +kernel
theorem dX12_readies_10 : decode cX12_readies 10 = .ok (.aload_n 0, 1) := by decide +kernel
theorem dX12_readies_11 : decode cX12_readies 11 = .ok (.iload_n 2, 1) := by decide +kernel
theorem dX12_readies_12 : decode cX12_readies 12 = .ok (.invokevirtual 513, 3) := by decide +kernel
theorem dX12_readies_15 : decode cX12_readies 15 = .ok (.return_, 1) := by decide +kernel
theorem dX12_takes_0 : decode cX12_takes 0 = .ok (.iconst (-1), 1) := by decide +kernel
theorem dX12_takes_1 : decode cX12_takes 1 = .ok (.istore_n 3, 1) := by decide +kernel
theorem dX12_takes_2 : decode cX12_takes 2 = .ok (.iconst 0, 1) := by decide +kernel
theorem dX12_takes_3 : decode cX12_takes 3 = .ok (.istore 4, 2) := by decide +kernel
theorem dX12_takes_5 : decode cX12_takes 5 = .ok (.iload 4, 2) := by decide +kernel
theorem dX12_takes_7 : decode cX12_takes 7 = .ok (.aload_n 0, 1) := by decide +kernel
theorem dX12_takes_8 : decode cX12_takes 8 = .ok (.getfield 309, 3) := by decide +kernel
theorem dX12_takes_11 : decode cX12_takes 11 = .ok (.if_icmp .ge 38, 3) := by decide +kernel
theorem dX12_takes_14 : decode cX12_takes 14 = .ok (.aload_n 0, 1) := by decide +kernel
theorem dX12_takes_15 : decode cX12_takes 15 = .ok (.getfield 182, 3) := by decide +kernel
theorem dX12_takes_18 : decode cX12_takes 18 = .ok (.iload 4, 2) := by decide +kernel
theorem dX12_takes_20 : decode cX12_takes 20 = .ok (.iaload, 1) := by decide +kernel
theorem dX12_takes_21 : decode cX12_takes 21 = .ok (.iload_n 1, 1) := by decide +kernel
theorem dX12_takes_22 : decode cX12_takes 22 = .ok (.if_icmp .ne 19, 3) := by decide +kernel
theorem dX12_takes_25 : decode cX12_takes 25 = .ok (.aload_n 0, 1) := by decide +kernel
theorem dX12_takes_26 : decode cX12_takes 26 = .ok (.getfield 185, 3) := by decide +kernel
theorem dX12_takes_29 : decode cX12_takes 29 = .ok (.iload 4, 2) := by decide +kernel
theorem dX12_takes_31 : decode cX12_takes 31 = .ok (.iaload, 1) := by decide +kernel
theorem dX12_takes_32 : decode cX12_takes 32 = .ok (.iload_n 2, 1) := by decide +kernel
theorem dX12_takes_33 : decode cX12_takes 33 = .ok (.if_icmp .ne 8, 3) := by decide +kernel
theorem dX12_takes_36 : decode cX12_takes 36 = .ok (.iload 4, 2) := by decide +kernel
theorem dX12_takes_38 : decode cX12_takes 38 = .ok (.goto 4, 3) := by decide +kernel
theorem dX12_takes_41 : decode cX12_takes 41 = .ok (.iload_n 3, 1) := by decide +kernel
theorem dX12_takes_42 : decode cX12_takes 42 = .ok (.istore_n 3, 1) := by decide +kernel
theorem dX12_takes_43 : decode cX12_takes 43 = .ok (.iinc 4 1, 3) := by decide +kernel
theorem dX12_takes_46 : decode cX12_takes 46 = .ok (.goto (-41), 3) := by decide +kernel
theorem dX12_takes_49 : decode cX12_takes 49 = .ok (.iload_n 3, 1) := by decide +kernel
theorem dX12_takes_50 : decode cX12_takes 50 = .ok (.iconst (-1), 1) := by decide +kernel
theorem dX12_takes_51 : decode cX12_takes 51 = .ok (.if_icmp .eq 7, 3) := by decide +kernel
theorem dX12_takes_54 : decode cX12_takes 54 = .ok (.iconst 1, 1) := by decide +kernel
theorem dX12_takes_55 : decode cX12_takes 55 = .ok (.goto 4, 3) := by decide +kernel
theorem dX12_takes_58 : decode cX12_takes 58 = .ok (.iconst 0, 1) := by decide +kernel
theorem dX12_takes_59 : decode cX12_takes 59 = .ok (.istore 4, 2) := by decide +kernel
theorem dX12_takes_61 : decode cX12_takes 61 = .ok (.iload 4, 2) := by decide +kernel
theorem dX12_takes_63 : decode cX12_takes 63 = .ok (.ifCond .eq 7, 3) := by decide +kernel
theorem dX12_takes_66 : decode cX12_takes 66 = .ok (.iload_n 3, 1) := by decide +kernel
theorem dX12_takes_67 : decode cX12_takes 67 = .ok (.goto 20, 3) := by decide +kernel
theorem dX12_takes_70 : decode cX12_takes 70 = .ok (.aload_n 0, 1) := by decide +kernel
theorem dX12_takes_71 : decode cX12_takes 71 = .ok (.getfield 309, 3) := by decide +kernel
theorem dX12_takes_74 : decode cX12_takes 74 = .ok (.bipush 8, 2) := by decide +kernel
theorem dX12_takes_76 : decode cX12_takes 76 = .ok (.if_icmp .ne 7, 3) := by decide +kernel
theorem dX12_takes_79 : decode cX12_takes 79 = .ok (.iconst 0, 1) := by decide +kernel
theorem dX12_takes_80 : decode cX12_takes 80 = .ok (.goto 7, 3) := by decide +kernel
theorem dX12_takes_83 : decode cX12_takes 83 = .ok (.aload_n 0, 1) := by decide +kernel
theorem dX12_takes_84 : decode cX12_takes 84 = .ok (.getfield 309, 3) := by decide +kernel
theorem dX12_takes_87 : decode cX12_takes 87 = .ok (.istore 5, 2) := by decide +kernel
theorem dX12_takes_89 : decode cX12_takes 89 = .ok (.aload_n 0, 1) := by decide +kernel
theorem dX12_takes_90 : decode cX12_takes 90 = .ok (.dup, 1) := by decide +kernel
theorem dX12_takes_91 : decode cX12_takes 91 = .ok (.getfield 309, 3) := by decide +kernel
theorem dX12_takes_94 : decode cX12_takes 94 = .ok (.iload 4, 2) := by decide +kernel
theorem dX12_takes_96 : decode cX12_takes 96 = .ok (.ifCond .ne 16, 3) := by decide +kernel
theorem dX12_takes_99 : decode cX12_takes 99 = .ok (.aload_n 0, 1) := by decide +kernel
theorem dX12_takes_100 : decode cX12_takes 100 = .ok (.getfield 309, 3) := by decide +kernel
theorem dX12_takes_103 : decode cX12_takes 103 = .ok (.bipush 8, 2) := by decide +kernel
theorem dX12_takes_105 : decode cX12_takes 105 = .ok (.if_icmp .ge 7, 3) := by decide +kernel
theorem dX12_takes_108 : decode cX12_takes 108 = .ok (.iconst 1, 1) := by decide +kernel
theorem dX12_takes_109 : decode cX12_takes 109 = .ok (.goto 4, 3) := by decide +kernel
theorem dX12_takes_112 : decode cX12_takes 112 = .ok (.iconst 0, 1) := by decide +kernel
theorem dX12_takes_113 : decode cX12_takes 113 = .ok (.iadd, 1) := by decide +kernel
theorem dX12_takes_114 : decode cX12_takes 114 = .ok (.putfield 309, 3) := by decide +kernel
theorem dX12_takes_117 : decode cX12_takes 117 = .ok (.iload 5, 2) := by decide +kernel
theorem dX12_takes_119 : decode cX12_takes 119 = .ok (.istore 6, 2) := by decide +kernel
theorem dX12_takes_121 : decode cX12_takes 121 = .ok (.iload 6, 2) := by decide +kernel
theorem dX12_takes_123 : decode cX12_takes 123 = .ok (.iconst 1, 1) := by decide +kernel
theorem dX12_takes_124 : decode cX12_takes 124 = .ok (.iadd, 1) := by decide +kernel
theorem dX12_takes_125 : decode cX12_takes 125 = .ok (.aload_n 0, 1) := by decide +kernel
theorem dX12_takes_126 : decode cX12_takes 126 = .ok (.getfield 309, 3) := by decide +kernel
theorem dX12_takes_129 : decode cX12_takes 129 = .ok (.if_icmp .ge 41, 3) := by decide +kernel
theorem dX12_takes_132 : decode cX12_takes 132 = .ok (.aload_n 0, 1) := by decide +kernel
theorem dX12_takes_133 : decode cX12_takes 133 = .ok (.getfield 182, 3) := by decide +kernel
theorem dX12_takes_136 : decode cX12_takes 136 = .ok (.iload 6, 2) := by decide +kernel
theorem dX12_takes_138 : decode cX12_takes 138 = .ok (.aload_n 0, 1) := by decide +kernel
theorem dX12_takes_139 : decode cX12_takes 139 = .ok (.getfield 182, 3) := by decide +kernel
theorem dX12_takes_142 : decode cX12_takes 142 = .ok (.iload 6, 2) := by decide +kernel
theorem dX12_takes_144 : decode cX12_takes 144 = .ok (.iconst 1, 1) := by decide +kernel
theorem dX12_takes_145 : decode cX12_takes 145 = .ok (.iadd, 1) := by decide +kernel
theorem dX12_takes_146 : decode cX12_takes 146 = .ok (.iaload, 1) := by decide +kernel
theorem dX12_takes_147 : decode cX12_takes 147 = .ok (.iastore, 1) := by decide +kernel
theorem dX12_takes_148 : decode cX12_takes 148 = .ok (.aload_n 0, 1) := by decide +kernel
theorem dX12_takes_149 : decode cX12_takes 149 = .ok (.getfield 185, 3) := by decide +kernel
theorem dX12_takes_152 : decode cX12_takes 152 = .ok (.iload 6, 2) := by decide +kernel
theorem dX12_takes_154 : decode cX12_takes 154 = .ok (.aload_n 0, 1) := by decide +kernel
theorem dX12_takes_155 : decode cX12_takes 155 = .ok (.getfield 185, 3) := by decide +kernel
theorem dX12_takes_158 : decode cX12_takes 158 = .ok (.iload 6, 2) := by decide +kernel
theorem dX12_takes_160 : decode cX12_takes 160 = .ok (.iconst 1, 1) := by decide +kernel
theorem dX12_takes_161 : decode cX12_takes 161 = .ok (.iadd, 1) := by decide +kernel
theorem dX12_takes_162 : decode cX12_takes 162 = .ok (.iaload, 1) := by decide +kernel
theorem dX12_takes_163 : decode cX12_takes 163 = .ok (.iastore, 1) := by decide +kernel
theorem dX12_takes_164 : decode cX12_takes 164 = .ok (.iinc 6 1, 3) := by decide +kernel
theorem dX12_takes_167 : decode cX12_takes 167 = .ok (.goto (-46), 3) := by decide +kernel
theorem dX12_takes_170 : decode cX12_takes 170 = .ok (.aload_n 0, 1) := by decide +kernel
theorem dX12_takes_171 : decode cX12_takes 171 = .ok (.getfield 182, 3) := by decide +kernel
theorem dX12_takes_174 : decode cX12_takes 174 = .ok (.aload_n 0, 1) := by decide +kernel
theorem dX12_takes_175 : decode cX12_takes 175 = .ok (.getfield 309, 3) := by decide +kernel
theorem dX12_takes_178 : decode cX12_takes 178 = .ok (.iconst 1, 1) := by decide +kernel
theorem dX12_takes_179 : decode cX12_takes 179 = .ok (.isub, 1) := by decide +kernel
theorem dX12_takes_180 : decode cX12_takes 180 = .ok (.iload_n 1, 1) := by decide +kernel
theorem dX12_takes_181 : decode cX12_takes 181 = .ok (.iastore, 1) := by decide +kernel
theorem dX12_takes_182 : decode cX12_takes 182 = .ok (.aload_n 0, 1) := by decide +kernel
theorem dX12_takes_183 : decode cX12_takes 183 = .ok (.getfield 185, 3) := by decide +kernel
theorem dX12_takes_186 : decode cX12_takes 186 = .ok (.aload_n 0, 1) := by decide +kernel
theorem dX12_takes_187 : decode cX12_takes 187 = .ok (.getfield 309, 3) := by decide +kernel
theorem dX12_takes_190 : decode cX12_takes 190 = .ok (.iconst 1, 1) := by decide +kernel
theorem dX12_takes_191 : decode cX12_takes 191 = .ok (.isub, 1) := by decide +kernel
theorem dX12_takes_192 : decode cX12_takes 192 = .ok (.iload_n 2, 1) := by decide +kernel
theorem dX12_takes_193 : decode cX12_takes 193 = .ok (.iastore, 1) := by decide +kernel
theorem dX12_takes_194 : decode cX12_takes 194 = .ok (.iload 4, 2) := by decide +kernel
theorem dX12_takes_196 : decode cX12_takes 196 = .ok (.ireturn, 1) := by decide +kernel
theorem dX12_bound_0 : decode cX12_bound 0 = .ok (.iconst 0, 1) := by decide +kernel
theorem dX12_bound_1 : decode cX12_bound 1 = .ok (.istore 4, 2) := by decide +kernel
theorem dX12_bound_3 : decode cX12_bound 3 = .ok (.iconst 0, 1) := by decide +kernel
theorem dX12_bound_4 : decode cX12_bound 4 = .ok (.istore 5, 2) := by decide +kernel
theorem dX12_bound_6 : decode cX12_bound 6 = .ok (.iload 5, 2) := by decide +kernel
theorem dX12_bound_8 : decode cX12_bound 8 = .ok (.aload_n 0, 1) := by decide +kernel
theorem dX12_bound_9 : decode cX12_bound 9 = .ok (.getfield 155, 3) := by decide +kernel
theorem dX12_bound_12 : decode cX12_bound 12 = .ok (.iload_n 1, 1) := by decide +kernel
theorem dX12_bound_13 : decode cX12_bound 13 = .ok (.iaload, 1) := by decide +kernel
theorem dX12_bound_14 : decode cX12_bound 14 = .ok (.if_icmp .ge 244, 3) := by decide +kernel
theorem dX12_bound_17 : decode cX12_bound 17 = .ok (.bipush 48, 2) := by decide +kernel
theorem dX12_bound_19 : decode cX12_bound 19 = .ok (.iload_n 1, 1) := by decide +kernel
theorem dX12_bound_20 : decode cX12_bound 20 = .ok (.imul, 1) := by decide +kernel
theorem dX12_bound_21 : decode cX12_bound 21 = .ok (.iload 5, 2) := by decide +kernel
theorem dX12_bound_23 : decode cX12_bound 23 = .ok (.iadd, 1) := by decide +kernel
theorem dX12_bound_24 : decode cX12_bound 24 = .ok (.istore 6, 2) := by decide +kernel
theorem dX12_bound_26 : decode cX12_bound 26 = .ok (.iconst 0, 1) := by decide +kernel
theorem dX12_bound_27 : decode cX12_bound 27 = .ok (.istore 7, 2) := by decide +kernel
theorem dX12_bound_29 : decode cX12_bound 29 = .ok (.iload_n 2, 1) := by decide +kernel
theorem dX12_bound_30 : decode cX12_bound 30 = .ok (.istore 8, 2) := by decide +kernel
theorem dX12_bound_32 : decode cX12_bound 32 = .ok (.iload 8, 2) := by decide +kernel
theorem dX12_bound_34 : decode cX12_bound 34 = .ok (.iload_n 3, 1) := by decide +kernel
theorem dX12_bound_35 : decode cX12_bound 35 = .ok (.if_icmp .ge 169, 3) := by decide +kernel
theorem dX12_bound_38 : decode cX12_bound 38 = .ok (.aload_n 0, 1) := by decide +kernel
theorem dX12_bound_39 : decode cX12_bound 39 = .ok (.getfield 131, 3) := by decide +kernel
theorem dX12_bound_42 : decode cX12_bound 42 = .ok (.iload 6, 2) := by decide +kernel
theorem dX12_bound_44 : decode cX12_bound 44 = .ok (.iaload, 1) := by decide +kernel
theorem dX12_bound_45 : decode cX12_bound 45 = .ok (.bipush 6, 2) := by decide +kernel
theorem dX12_bound_47 : decode cX12_bound 47 = .ok (.if_icmp .ge 157, 3) := by decide +kernel
theorem dX12_bound_50 : decode cX12_bound 50 = .ok (.aload_n 0, 1) := by decide +kernel
theorem dX12_bound_51 : decode cX12_bound 51 = .ok (.getfield 179, 3) := by decide +kernel
theorem dX12_bound_54 : decode cX12_bound 54 = .ok (.iload 5, 2) := by decide +kernel
theorem dX12_bound_56 : decode cX12_bound 56 = .ok (.baload, 1) := by decide +kernel
theorem dX12_bound_57 : decode cX12_bound 57 = .ok (.ifCond .ne 147, 3) := by decide +kernel
theorem dX12_bound_60 : decode cX12_bound 60 = .ok (.iconst 0, 1) := by decide +kernel
theorem dX12_bound_61 : decode cX12_bound 61 = .ok (.istore 9, 2) := by decide +kernel
theorem dX12_bound_63 : decode cX12_bound 63 = .ok (.iconst 0, 1) := by decide +kernel
theorem dX12_bound_64 : decode cX12_bound 64 = .ok (.istore 10, 2) := by decide +kernel
theorem dX12_bound_66 : decode cX12_bound 66 = .ok (.iload 10, 2) := by decide +kernel
theorem dX12_bound_68 : decode cX12_bound 68 = .ok (.aload_n 0, 1) := by decide +kernel
theorem dX12_bound_69 : decode cX12_bound 69 = .ok (.getfield 63, 3) := by decide +kernel
theorem dX12_bound_72 : decode cX12_bound 72 = .ok (.iconst 2, 1) := by decide +kernel
theorem dX12_bound_73 : decode cX12_bound 73 = .ok (.aload_n 0, 1) := by decide +kernel
theorem dX12_bound_74 : decode cX12_bound 74 = .ok (.getfield 66, 3) := by decide +kernel
theorem dX12_bound_77 : decode cX12_bound 77 = .ok (.iload 8, 2) := by decide +kernel
theorem dX12_bound_79 : decode cX12_bound 79 = .ok (.iaload, 1) := by decide +kernel
theorem dX12_bound_80 : decode cX12_bound 80 = .ok (.imul, 1) := by decide +kernel
theorem dX12_bound_81 : decode cX12_bound 81 = .ok (.aload_n 0, 1) := by decide +kernel
theorem dX12_bound_82 : decode cX12_bound 82 = .ok (.getfield 134, 3) := by decide +kernel
theorem dX12_bound_85 : decode cX12_bound 85 = .ok (.iload 6, 2) := by decide +kernel
theorem dX12_bound_87 : decode cX12_bound 87 = .ok (.iaload, 1) := by decide +kernel
theorem dX12_bound_88 : decode cX12_bound 88 = .ok (.iadd, 1) := by decide +kernel
theorem dX12_bound_89 : decode cX12_bound 89 = .ok (.iaload, 1) := by decide +kernel
theorem dX12_bound_90 : decode cX12_bound 90 = .ok (.if_icmp .ge 92, 3) := by decide +kernel
theorem dX12_bound_93 : decode cX12_bound 93 = .ok (.aload_n 0, 1) := by decide +kernel
theorem dX12_bound_94 : decode cX12_bound 94 = .ok (.getfield 131, 3) := by decide +kernel
theorem dX12_bound_97 : decode cX12_bound 97 = .ok (.iload 6, 2) := by decide +kernel
theorem dX12_bound_99 : decode cX12_bound 99 = .ok (.iaload, 1) := by decide +kernel
theorem dX12_bound_100 : decode cX12_bound 100 = .ok (.iconst 3, 1) := by decide +kernel
theorem dX12_bound_101 : decode cX12_bound 101 = .ok (.if_icmp .lt 28, 3) := by decide +kernel
theorem dX12_bound_104 : decode cX12_bound 104 = .ok (.aload_n 0, 1) := by decide +kernel
theorem dX12_bound_105 : decode cX12_bound 105 = .ok (.aload_n 0, 1) := by decide +kernel
theorem dX12_bound_106 : decode cX12_bound 106 = .ok (.getfield 66, 3) := by decide +kernel
theorem dX12_bound_109 : decode cX12_bound 109 = .ok (.iload 8, 2) := by decide +kernel
theorem dX12_bound_111 : decode cX12_bound 111 = .ok (.iaload, 1) := by decide +kernel
theorem dX12_bound_112 : decode cX12_bound 112 = .ok (.aload_n 0, 1) := by decide +kernel
theorem dX12_bound_113 : decode cX12_bound 113 = .ok (.getfield 134, 3) := by decide +kernel
theorem dX12_bound_116 : decode cX12_bound 116 = .ok (.iload 6, 2) := by decide +kernel
theorem dX12_bound_118 : decode cX12_bound 118 = .ok (.iaload, 1) := by decide +kernel
theorem dX12_bound_119 : decode cX12_bound 119 = .ok (.iload 10, 2) := by decide +kernel
theorem dX12_bound_121 : decode cX12_bound 121 = .ok (.iload 6, 2) := by decide +kernel
theorem dX12_bound_123 : decode cX12_bound 123 = .ok (.invokevirtual 486, 3) := by decide +kernel
theorem dX12_bound_126 : decode cX12_bound 126 = .ok (.goto 33, 3) := by decide +kernel
theorem dX12_bound_129 : decode cX12_bound 129 = .ok (.aload_n 0, 1) := by decide +kernel
theorem dX12_bound_130 : decode cX12_bound 130 = .ok (.aload_n 0, 1) := by decide +kernel
theorem dX12_bound_131 : decode cX12_bound 131 = .ok (.getfield 66, 3) := by decide +kernel
theorem dX12_bound_134 : decode cX12_bound 134 = .ok (.iload 8, 2) := by decide +kernel
theorem dX12_bound_136 : decode cX12_bound 136 = .ok (.iaload, 1) := by decide +kernel
theorem dX12_bound_137 : decode cX12_bound 137 = .ok (.aload_n 0, 1) := by decide +kernel
theorem dX12_bound_138 : decode cX12_bound 138 = .ok (.getfield 134, 3) := by decide +kernel
theorem dX12_bound_141 : decode cX12_bound 141 = .ok (.iload 6, 2) := by decide +kernel
theorem dX12_bound_143 : decode cX12_bound 143 = .ok (.iaload, 1) := by decide +kernel
theorem dX12_bound_144 : decode cX12_bound 144 = .ok (.iload 10, 2) := by decide +kernel
theorem dX12_bound_146 : decode cX12_bound 146 = .ok (.aload_n 0, 1) := by decide +kernel
theorem dX12_bound_147 : decode cX12_bound 147 = .ok (.getfield 146, 3) := by decide +kernel
theorem dX12_bound_150 : decode cX12_bound 150 = .ok (.bipush 6, 2) := by decide +kernel
theorem dX12_bound_152 : decode cX12_bound 152 = .ok (.iload 6, 2) := by decide +kernel
theorem dX12_bound_154 : decode cX12_bound 154 = .ok (.imul, 1) := by decide +kernel
theorem dX12_bound_155 : decode cX12_bound 155 = .ok (.laload, 1) := by decide +kernel
theorem dX12_bound_156 : decode cX12_bound 156 = .ok (.invokevirtual 412, 3) := by decide +kernel
theorem dX12_bound_159 : decode cX12_bound 159 = .ok (.istore 11, 2) := by decide +kernel
theorem dX12_bound_161 : decode cX12_bound 161 = .ok (.iload 9, 2) := by decide +kernel
theorem dX12_bound_163 : decode cX12_bound 163 = .ok (.iload 11, 2) := by decide +kernel
theorem dX12_bound_165 : decode cX12_bound 165 = .ok (.ifCond .eq 7, 3) := by decide +kernel
theorem dX12_bound_168 : decode cX12_bound 168 = .ok (.iconst 1, 1) := by decide +kernel
theorem dX12_bound_169 : decode cX12_bound 169 = .ok (.goto 4, 3) := by decide +kernel
theorem dX12_bound_172 : decode cX12_bound 172 = .ok (.iconst 0, 1) := by decide +kernel
theorem dX12_bound_173 : decode cX12_bound 173 = .ok (.iadd, 1) := by decide +kernel
theorem dX12_bound_174 : decode cX12_bound 174 = .ok (.istore 9, 2) := by decide +kernel
theorem dX12_bound_176 : decode cX12_bound 176 = .ok (.iinc 10 1, 3) := by decide +kernel
theorem dX12_bound_179 : decode cX12_bound 179 = .ok (.goto (-113), 3) := by decide +kernel
theorem dX12_bound_182 : decode cX12_bound 182 = .ok (.iload 9, 2) := by decide +kernel
theorem dX12_bound_184 : decode cX12_bound 184 = .ok (.iload 7, 2) := by decide +kernel
theorem dX12_bound_186 : decode cX12_bound 186 = .ok (.if_icmp .le 8, 3) := by decide +kernel
theorem dX12_bound_189 : decode cX12_bound 189 = .ok (.iload 9, 2) := by decide +kernel
theorem dX12_bound_191 : decode cX12_bound 191 = .ok (.goto 5, 3) := by decide +kernel
theorem dX12_bound_194 : decode cX12_bound 194 = .ok (.iload 7, 2) := by decide +kernel
theorem dX12_bound_196 : decode cX12_bound 196 = .ok (.istore 7, 2) := by decide +kernel
theorem dX12_bound_198 : decode cX12_bound 198 = .ok (.iinc 8 1, 3) := by decide +kernel
theorem dX12_bound_201 : decode cX12_bound 201 = .ok (.goto (-169), 3) := by decide +kernel
theorem dX12_bound_204 : decode cX12_bound 204 = .ok (.iload 4, 2) := by decide +kernel
theorem dX12_bound_206 : decode cX12_bound 206 = .ok (.iload 7, 2) := by decide +kernel
theorem dX12_bound_208 : decode cX12_bound 208 = .ok (.ifCond .ne 7, 3) := by decide +kernel
theorem dX12_bound_211 : decode cX12_bound 211 = .ok (.iconst 0, 1) := by decide +kernel
theorem dX12_bound_212 : decode cX12_bound 212 = .ok (.goto 37, 3) := by decide +kernel
theorem dX12_bound_215 : decode cX12_bound 215 = .ok (.aload_n 0, 1) := by decide +kernel
theorem dX12_bound_216 : decode cX12_bound 216 = .ok (.getfield 131, 3) := by decide +kernel
theorem dX12_bound_219 : decode cX12_bound 219 = .ok (.iload 6, 2) := by decide +kernel
theorem dX12_bound_221 : decode cX12_bound 221 = .ok (.iaload, 1) := by decide +kernel
theorem dX12_bound_222 : decode cX12_bound 222 = .ok (.iconst 3, 1) := by decide +kernel
theorem dX12_bound_223 : decode cX12_bound 223 = .ok (.if_icmp .lt 13, 3) := by decide +kernel
theorem dX12_bound_226 : decode cX12_bound 226 = .ok (.aload_n 0, 1) := by decide +kernel
theorem dX12_bound_227 : decode cX12_bound 227 = .ok (.getfield 176, 3) := by decide +kernel
theorem dX12_bound_230 : decode cX12_bound 230 = .ok (.iload 5, 2) := by decide +kernel
theorem dX12_bound_232 : decode cX12_bound 232 = .ok (.iaload, 1) := by decide +kernel
theorem dX12_bound_233 : decode cX12_bound 233 = .ok (.goto 16, 3) := by decide +kernel
theorem dX12_bound_236 : decode cX12_bound 236 = .ok (.iload 7, 2) := by decide +kernel
theorem dX12_bound_238 : decode cX12_bound 238 = .ok (.invokestatic 503, 3) := by decide +kernel
theorem dX12_bound_241 : decode cX12_bound 241 = .ok (.aload_n 0, 1) := by decide +kernel
theorem dX12_bound_242 : decode cX12_bound 242 = .ok (.getfield 176, 3) := by decide +kernel
theorem dX12_bound_245 : decode cX12_bound 245 = .ok (.iload 5, 2) := by decide +kernel
theorem dX12_bound_247 : decode cX12_bound 247 = .ok (.iaload, 1) := by decide +kernel
theorem dX12_bound_248 : decode cX12_bound 248 = .ok (.imul, 1) := by decide +kernel
theorem dX12_bound_249 : decode cX12_bound 249 = .ok (.iadd, 1) := by decide +kernel
theorem dX12_bound_250 : decode cX12_bound 250 = .ok (.istore 4, 2) := by decide +kernel
theorem dX12_bound_252 : decode cX12_bound 252 = .ok (.iinc 5 1, 3) := by decide +kernel
theorem dX12_bound_255 : decode cX12_bound 255 = .ok (.goto (-249), 3) := by decide +kernel
theorem dX12_bound_258 : decode cX12_bound 258 = .ok (.iload 4, 2) := by decide +kernel
theorem dX12_bound_260 : decode cX12_bound 260 = .ok (.ireturn, 1) := by decide +kernel
theorem dX12_holds_0 : decode cX12_holds 0 = .ok (.aload_n 0, 1) := by decide +kernel
theorem dX12_holds_1 : decode cX12_holds 1 = .ok (.getfield 312, 3) := by decide +kernel
theorem dX12_holds_4 : decode cX12_holds 4 = .ok (.iload_n 3, 1) := by decide +kernel
theorem dX12_holds_5 : decode cX12_holds 5 = .ok (.if_icmp .ne 19, 3) := by decide +kernel
theorem dX12_holds_8 : decode cX12_holds 8 = .ok (.iload_n 2, 1) := by decide +kernel
theorem dX12_holds_9 : decode cX12_holds 9 = .ok (.aload_n 0, 1) := by decide +kernel
theorem dX12_holds_10 : decode cX12_holds 10 = .ok (.getfield 191, 3) := by decide +kernel
theorem dX12_holds_13 : decode cX12_holds 13 = .ok (.aload_n 0, 1) := by decide +kernel
theorem dX12_holds_14 : decode cX12_holds 14 = .ok (.getfield 312, 3) := by decide +kernel
theorem dX12_holds_17 : decode cX12_holds 17 = .ok (.iconst 1, 1) := by decide +kernel
theorem dX12_holds_18 : decode cX12_holds 18 = .ok (.isub, 1) := by decide +kernel
theorem dX12_holds_19 : decode cX12_holds 19 = .ok (.iaload, 1) := by decide +kernel
theorem dX12_holds_20 : decode cX12_holds 20 = .ok (.if_icmp .gt 4, 3) := by decide +kernel
theorem dX12_holds_23 : decode cX12_holds 23 = .ok (.return_, 1) := by decide +kernel
theorem dX12_holds_24 : decode cX12_holds 24 = .ok (.aload_n 0, 1) := by decide +kernel
theorem dX12_holds_25 : decode cX12_holds 25 = .ok (.getfield 312, 3) := by decide +kernel
theorem dX12_holds_28 : decode cX12_holds 28 = .ok (.iload_n 3, 1) := by decide +kernel
theorem dX12_holds_29 : decode cX12_holds 29 = .ok (.if_icmp .ne 12, 3) := by decide +kernel
theorem dX12_holds_32 : decode cX12_holds 32 = .ok (.aload_n 0, 1) := by decide +kernel
theorem dX12_holds_33 : decode cX12_holds 33 = .ok (.getfield 312, 3) := by decide +kernel
theorem dX12_holds_36 : decode cX12_holds 36 = .ok (.iconst 1, 1) := by decide +kernel
theorem dX12_holds_37 : decode cX12_holds 37 = .ok (.isub, 1) := by decide +kernel
theorem dX12_holds_38 : decode cX12_holds 38 = .ok (.goto 7, 3) := by decide +kernel
theorem dX12_holds_41 : decode cX12_holds 41 = .ok (.aload_n 0, 1) := by decide +kernel
theorem dX12_holds_42 : decode cX12_holds 42 = .ok (.getfield 312, 3) := by decide +kernel
theorem dX12_holds_45 : decode cX12_holds 45 = .ok (.istore 4, 2) := by decide +kernel
theorem dX12_holds_47 : decode cX12_holds 47 = .ok (.iload 4, 2) := by decide +kernel
theorem dX12_holds_49 : decode cX12_holds 49 = .ok (.ifCond .le 54, 3) := by decide +kernel
theorem dX12_holds_52 : decode cX12_holds 52 = .ok (.aload_n 0, 1) := by decide +kernel
theorem dX12_holds_53 : decode cX12_holds 53 = .ok (.getfield 191, 3) := by decide +kernel
theorem dX12_holds_56 : decode cX12_holds 56 = .ok (.iload 4, 2) := by decide +kernel
theorem dX12_holds_58 : decode cX12_holds 58 = .ok (.iconst 1, 1) := by decide +kernel
theorem dX12_holds_59 : decode cX12_holds 59 = .ok (.isub, 1) := by decide +kernel
theorem dX12_holds_60 : decode cX12_holds 60 = .ok (.iaload, 1) := by decide +kernel
theorem dX12_holds_61 : decode cX12_holds 61 = .ok (.iload_n 2, 1) := by decide +kernel
theorem dX12_holds_62 : decode cX12_holds 62 = .ok (.if_icmp .ge 41, 3) := by decide +kernel
theorem dX12_holds_65 : decode cX12_holds 65 = .ok (.aload_n 0, 1) := by decide +kernel
theorem dX12_holds_66 : decode cX12_holds 66 = .ok (.getfield 191, 3) := by decide +kernel
theorem dX12_holds_69 : decode cX12_holds 69 = .ok (.iload 4, 2) := by decide +kernel
theorem dX12_holds_71 : decode cX12_holds 71 = .ok (.aload_n 0, 1) := by decide +kernel
theorem dX12_holds_72 : decode cX12_holds 72 = .ok (.getfield 191, 3) := by decide +kernel
theorem dX12_holds_75 : decode cX12_holds 75 = .ok (.iload 4, 2) := by decide +kernel
theorem dX12_holds_77 : decode cX12_holds 77 = .ok (.iconst 1, 1) := by decide +kernel
theorem dX12_holds_78 : decode cX12_holds 78 = .ok (.isub, 1) := by decide +kernel
theorem dX12_holds_79 : decode cX12_holds 79 = .ok (.iaload, 1) := by decide +kernel
theorem dX12_holds_80 : decode cX12_holds 80 = .ok (.iastore, 1) := by decide +kernel
theorem dX12_holds_81 : decode cX12_holds 81 = .ok (.aload_n 0, 1) := by decide +kernel
theorem dX12_holds_82 : decode cX12_holds 82 = .ok (.getfield 188, 3) := by decide +kernel
theorem dX12_holds_85 : decode cX12_holds 85 = .ok (.iload 4, 2) := by decide +kernel
theorem dX12_holds_87 : decode cX12_holds 87 = .ok (.aload_n 0, 1) := by decide +kernel
theorem dX12_holds_88 : decode cX12_holds 88 = .ok (.getfield 188, 3) := by decide +kernel
theorem dX12_holds_91 : decode cX12_holds 91 = .ok (.iload 4, 2) := by decide +kernel
theorem dX12_holds_93 : decode cX12_holds 93 = .ok (.iconst 1, 1) := by decide +kernel
theorem dX12_holds_94 : decode cX12_holds 94 = .ok (.isub, 1) := by decide +kernel
theorem dX12_holds_95 : decode cX12_holds 95 = .ok (.iaload, 1) := by decide +kernel
theorem dX12_holds_96 : decode cX12_holds 96 = .ok (.iastore, 1) := by decide +kernel
theorem dX12_holds_97 : decode cX12_holds 97 = .ok (.iinc 4 (-1), 3) := by decide +kernel
theorem dX12_holds_100 : decode cX12_holds 100 = .ok (.goto (-53), 3) := by decide +kernel
theorem dX12_holds_103 : decode cX12_holds 103 = .ok (.aload_n 0, 1) := by decide +kernel
theorem dX12_holds_104 : decode cX12_holds 104 = .ok (.getfield 191, 3) := by decide +kernel
theorem dX12_holds_107 : decode cX12_holds 107 = .ok (.iload 4, 2) := by decide +kernel
theorem dX12_holds_109 : decode cX12_holds 109 = .ok (.iload_n 2, 1) := by decide +kernel
theorem dX12_holds_110 : decode cX12_holds 110 = .ok (.iastore, 1) := by decide +kernel
theorem dX12_holds_111 : decode cX12_holds 111 = .ok (.aload_n 0, 1) := by decide +kernel
theorem dX12_holds_112 : decode cX12_holds 112 = .ok (.getfield 188, 3) := by decide +kernel
theorem dX12_holds_115 : decode cX12_holds 115 = .ok (.iload 4, 2) := by decide +kernel
theorem dX12_holds_117 : decode cX12_holds 117 = .ok (.aload_n 0, 1) := by decide +kernel
theorem dX12_holds_118 : decode cX12_holds 118 = .ok (.getfield 50, 3) := by decide +kernel
theorem dX12_holds_121 : decode cX12_holds 121 = .ok (.iload_n 1, 1) := by decide +kernel
theorem dX12_holds_122 : decode cX12_holds 122 = .ok (.iaload, 1) := by decide +kernel
theorem dX12_holds_123 : decode cX12_holds 123 = .ok (.iastore, 1) := by decide +kernel
theorem dX12_holds_124 : decode cX12_holds 124 = .ok (.aload_n 0, 1) := by decide +kernel
theorem dX12_holds_125 : decode cX12_holds 125 = .ok (.dup, 1) := by decide +kernel
theorem dX12_holds_126 : decode cX12_holds 126 = .ok (.getfield 312, 3) := by decide +kernel
theorem dX12_holds_129 : decode cX12_holds 129 = .ok (.aload_n 0, 1) := by decide +kernel
theorem dX12_holds_130 : decode cX12_holds 130 = .ok (.getfield 312, 3) := by decide +kernel
theorem dX12_holds_133 : decode cX12_holds 133 = .ok (.iload_n 3, 1) := by decide +kernel
theorem dX12_holds_134 : decode cX12_holds 134 = .ok (.if_icmp .ne 7, 3) := by decide +kernel
theorem dX12_holds_137 : decode cX12_holds 137 = .ok (.iconst 0, 1) := by decide +kernel
theorem dX12_holds_138 : decode cX12_holds 138 = .ok (.goto 4, 3) := by decide +kernel
theorem dX12_holds_141 : decode cX12_holds 141 = .ok (.iconst 1, 1) := by decide +kernel
theorem dX12_holds_142 : decode cX12_holds 142 = .ok (.iadd, 1) := by decide +kernel
theorem dX12_holds_143 : decode cX12_holds 143 = .ok (.putfield 312, 3) := by decide +kernel
theorem dX12_holds_146 : decode cX12_holds 146 = .ok (.return_, 1) := by decide +kernel
theorem dX12_find_0 : decode cX12_find 0 = .ok (.aload_n 0, 1) := by decide +kernel
theorem dX12_find_1 : decode cX12_find 1 = .ok (.iload_n 1, 1) := by decide +kernel
theorem dX12_find_2 : decode cX12_find 2 = .ok (.invokevirtual 426, 3) := by decide +kernel
theorem dX12_find_5 : decode cX12_find 5 = .ok (.istore 4, 2) := by decide +kernel
theorem dX12_find_7 : decode cX12_find 7 = .ok (.aload_n 0, 1) := by decide +kernel
theorem dX12_find_8 : decode cX12_find 8 = .ok (.iload 4, 2) := by decide +kernel
theorem dX12_find_10 : decode cX12_find 10 = .ok (.iconst (-1), 1) := by decide +kernel
theorem dX12_find_11 : decode cX12_find 11 = .ok (.if_icmp .eq 21, 3) := by decide +kernel
theorem dX12_find_14 : decode cX12_find 14 = .ok (.iload_n 2, 1) := by decide +kernel
theorem dX12_find_15 : decode cX12_find 15 = .ok (.iconst 0, 1) := by decide +kernel
theorem dX12_find_16 : decode cX12_find 16 = .ok (.aload_n 0, 1) := by decide +kernel
theorem dX12_find_17 : decode cX12_find 17 = .ok (.getfield 465, 3) := by decide +kernel
theorem dX12_find_20 : decode cX12_find 20 = .ok (.iconst 1, 1) := by decide +kernel
theorem dX12_find_21 : decode cX12_find 21 = .ok (.isub, 1) := by decide +kernel
theorem dX12_find_22 : decode cX12_find 22 = .ok (.invokestatic 215, 3) := by decide +kernel
theorem dX12_find_25 : decode cX12_find 25 = .ok (.ifCond .eq 7, 3) := by decide +kernel
theorem dX12_find_28 : decode cX12_find 28 = .ok (.iconst 1, 1) := by decide +kernel
theorem dX12_find_29 : decode cX12_find 29 = .ok (.goto 4, 3) := by decide +kernel
theorem dX12_find_32 : decode cX12_find 32 = .ok (.iconst 0, 1) := by decide +kernel
theorem dX12_find_33 : decode cX12_find 33 = .ok (.iload_n 3, 1) := by decide +kernel
theorem dX12_find_34 : decode cX12_find 34 = .ok (.iconst 1, 1) := by decide +kernel
theorem dX12_find_35 : decode cX12_find 35 = .ok (.bipush 20, 2) := by decide +kernel
theorem dX12_find_37 : decode cX12_find 37 = .ok (.invokestatic 215, 3) := by decide +kernel
theorem dX12_find_40 : decode cX12_find 40 = .ok (.iconst 1, 1) := by decide +kernel
theorem dX12_find_41 : decode cX12_find 41 = .ok (.invokevirtual 248, 3) := by decide +kernel
theorem dX12_find_44 : decode cX12_find 44 = .ok (.ifCond .ne 5, 3) := by decide +kernel
theorem dX12_find_47 : decode cX12_find 47 = .ok (.iconst 0, 1) := by decide +kernel
theorem dX12_find_48 : decode cX12_find 48 = .ok (.ireturn, 1) := by decide +kernel
theorem dX12_find_49 : decode cX12_find 49 = .ok (.aload_n 0, 1) := by decide +kernel
theorem dX12_find_50 : decode cX12_find 50 = .ok (.iload 4, 2) := by decide +kernel
theorem dX12_find_52 : decode cX12_find 52 = .ok (.iload_n 2, 1) := by decide +kernel
theorem dX12_find_53 : decode cX12_find 53 = .ok (.invokevirtual 516, 3) := by decide +kernel
theorem dX12_find_56 : decode cX12_find 56 = .ok (.aload_n 0, 1) := by decide +kernel
theorem dX12_find_57 : decode cX12_find 57 = .ok (.iconst 0, 1) := by decide +kernel
theorem dX12_find_58 : decode cX12_find 58 = .ok (.putfield 312, 3) := by decide +kernel
theorem dX12_find_61 : decode cX12_find 61 = .ok (.aload_n 0, 1) := by decide +kernel
theorem dX12_find_62 : decode cX12_find 62 = .ok (.iconst 0, 1) := by decide +kernel
theorem dX12_find_63 : decode cX12_find 63 = .ok (.putfield 315, 3) := by decide +kernel
theorem dX12_find_66 : decode cX12_find 66 = .ok (.aload_n 0, 1) := by decide +kernel
theorem dX12_find_67 : decode cX12_find 67 = .ok (.iconst 0, 1) := by decide +kernel
theorem dX12_find_68 : decode cX12_find 68 = .ok (.putfield 318, 3) := by decide +kernel
theorem dX12_find_71 : decode cX12_find 71 = .ok (.iconst 0, 1) := by decide +kernel
theorem dX12_find_72 : decode cX12_find 72 = .ok (.istore 5, 2) := by decide +kernel
theorem dX12_find_74 : decode cX12_find 74 = .ok (.iload 5, 2) := by decide +kernel
theorem dX12_find_76 : decode cX12_find 76 = .ok (.aload_n 0, 1) := by decide +kernel
theorem dX12_find_77 : decode cX12_find 77 = .ok (.getfield 103, 3) := by decide +kernel
theorem dX12_find_80 : decode cX12_find 80 = .ok (.iload 4, 2) := by decide +kernel
theorem dX12_find_82 : decode cX12_find 82 = .ok (.iaload, 1) := by decide +kernel
theorem dX12_find_83 : decode cX12_find 83 = .ok (.if_icmp .ge 229, 3) := by decide +kernel
theorem dX12_find_86 : decode cX12_find 86 = .ok (.aload_n 0, 1) := by decide +kernel
theorem dX12_find_87 : decode cX12_find 87 = .ok (.getfield 100, 3) := by decide +kernel
theorem dX12_find_90 : decode cX12_find 90 = .ok (.sipush 202, 3) := by decide +kernel
theorem dX12_find_93 : decode cX12_find 93 = .ok (.iload 4, 2) := by decide +kernel
theorem dX12_find_95 : decode cX12_find 95 = .ok (.imul, 1) := by decide +kernel
theorem dX12_find_96 : decode cX12_find 96 = .ok (.iload 5, 2) := by decide +kernel
theorem dX12_find_98 : decode cX12_find 98 = .ok (.iadd, 1) := by decide +kernel
theorem dX12_find_99 : decode cX12_find 99 = .ok (.iaload, 1) := by decide +kernel
theorem dX12_find_100 : decode cX12_find 100 = .ok (.istore 6, 2) := by decide +kernel
theorem dX12_find_102 : decode cX12_find 102 = .ok (.aload_n 0, 1) := by decide +kernel
theorem dX12_find_103 : decode cX12_find 103 = .ok (.dup, 1) := by decide +kernel
theorem dX12_find_104 : decode cX12_find 104 = .ok (.getfield 318, 3) := by decide +kernel
theorem dX12_find_107 : decode cX12_find 107 = .ok (.aload_n 0, 1) := by decide +kernel
theorem dX12_find_108 : decode cX12_find 108 = .ok (.iload_n 2, 1) := by decide +kernel
theorem dX12_find_109 : decode cX12_find 109 = .ok (.iload 6, 2) := by decide +kernel
theorem dX12_find_111 : decode cX12_find 111 = .ok (.invokevirtual 519, 3) := by decide +kernel
theorem dX12_find_114 : decode cX12_find 114 = .ok (.ifCond .eq 7, 3) := by decide +kernel
theorem dX12_find_117 : decode cX12_find 117 = .ok (.iconst 1, 1) := by decide +kernel
theorem dX12_find_118 : decode cX12_find 118 = .ok (.goto 4, 3) := by decide +kernel
theorem dX12_find_121 : decode cX12_find 121 = .ok (.iconst 0, 1) := by decide +kernel
theorem dX12_find_122 : decode cX12_find 122 = .ok (.iadd, 1) := by decide +kernel
theorem dX12_find_123 : decode cX12_find 123 = .ok (.putfield 318, 3) := by decide +kernel
theorem dX12_find_126 : decode cX12_find 126 = .ok (.iconst 0, 1) := by decide +kernel
theorem dX12_find_127 : decode cX12_find 127 = .ok (.istore 7, 2) := by decide +kernel
theorem dX12_find_129 : decode cX12_find 129 = .ok (.iload 7, 2) := by decide +kernel
theorem dX12_find_131 : decode cX12_find 131 = .ok (.aload_n 0, 1) := by decide +kernel
theorem dX12_find_132 : decode cX12_find 132 = .ok (.getfield 69, 3) := by decide +kernel
theorem dX12_find_135 : decode cX12_find 135 = .ok (.iload 6, 2) := by decide +kernel
theorem dX12_find_137 : decode cX12_find 137 = .ok (.iaload, 1) := by decide +kernel
theorem dX12_find_138 : decode cX12_find 138 = .ok (.if_icmp .ge 168, 3) := by decide +kernel
theorem dX12_find_141 : decode cX12_find 141 = .ok (.bipush 100, 2) := by decide +kernel
theorem dX12_find_143 : decode cX12_find 143 = .ok (.iload 6, 2) := by decide +kernel
theorem dX12_find_145 : decode cX12_find 145 = .ok (.imul, 1) := by decide +kernel
theorem dX12_find_146 : decode cX12_find 146 = .ok (.iload 7, 2) := by decide +kernel
theorem dX12_find_148 : decode cX12_find 148 = .ok (.iadd, 1) := by decide +kernel
theorem dX12_find_149 : decode cX12_find 149 = .ok (.istore 8, 2) := by decide +kernel
theorem dX12_find_151 : decode cX12_find 151 = .ok (.iload 8, 2) := by decide +kernel
theorem dX12_find_153 : decode cX12_find 153 = .ok (.aload_n 0, 1) := by decide +kernel
theorem dX12_find_154 : decode cX12_find 154 = .ok (.getfield 69, 3) := by decide +kernel
theorem dX12_find_157 : decode cX12_find 157 = .ok (.iload 6, 2) := by decide +kernel
theorem dX12_find_159 : decode cX12_find 159 = .ok (.iaload, 1) := by decide +kernel
theorem dX12_find_160 : decode cX12_find 160 = .ok (.iload 7, 2) := by decide +kernel
theorem dX12_find_162 : decode cX12_find 162 = .ok (.isub, 1) := by decide +kernel
theorem dX12_find_163 : decode cX12_find 163 = .ok (.iconst 4, 1) := by decide +kernel
theorem dX12_find_164 : decode cX12_find 164 = .ok (.if_icmp .ge 16, 3) := by decide +kernel
theorem dX12_find_167 : decode cX12_find 167 = .ok (.aload_n 0, 1) := by decide +kernel
theorem dX12_find_168 : decode cX12_find 168 = .ok (.getfield 69, 3) := by decide +kernel
theorem dX12_find_171 : decode cX12_find 171 = .ok (.iload 6, 2) := by decide +kernel
theorem dX12_find_173 : decode cX12_find 173 = .ok (.iaload, 1) := by decide +kernel
theorem dX12_find_174 : decode cX12_find 174 = .ok (.iload 7, 2) := by decide +kernel
theorem dX12_find_176 : decode cX12_find 176 = .ok (.isub, 1) := by decide +kernel
theorem dX12_find_177 : decode cX12_find 177 = .ok (.goto 4, 3) := by decide +kernel
theorem dX12_find_180 : decode cX12_find 180 = .ok (.iconst 4, 1) := by decide +kernel
theorem dX12_find_181 : decode cX12_find 181 = .ok (.iadd, 1) := by decide +kernel
theorem dX12_find_182 : decode cX12_find 182 = .ok (.istore 9, 2) := by decide +kernel
theorem dX12_find_184 : decode cX12_find 184 = .ok (.aload_n 0, 1) := by decide +kernel
theorem dX12_find_185 : decode cX12_find 185 = .ok (.getfield 312, 3) := by decide +kernel
theorem dX12_find_188 : decode cX12_find 188 = .ok (.iload_n 3, 1) := by decide +kernel
theorem dX12_find_189 : decode cX12_find 189 = .ok (.if_icmp .ne 39, 3) := by decide +kernel
theorem dX12_find_192 : decode cX12_find 192 = .ok (.aload_n 0, 1) := by decide +kernel
theorem dX12_find_193 : decode cX12_find 193 = .ok (.iload_n 2, 1) := by decide +kernel
theorem dX12_find_194 : decode cX12_find 194 = .ok (.iload 8, 2) := by decide +kernel
theorem dX12_find_196 : decode cX12_find 196 = .ok (.iload 9, 2) := by decide +kernel
theorem dX12_find_198 : decode cX12_find 198 = .ok (.invokevirtual 522, 3) := by decide +kernel
theorem dX12_find_201 : decode cX12_find 201 = .ok (.aload_n 0, 1) := by decide +kernel
theorem dX12_find_202 : decode cX12_find 202 = .ok (.getfield 191, 3) := by decide +kernel
theorem dX12_find_205 : decode cX12_find 205 = .ok (.aload_n 0, 1) := by decide +kernel
theorem dX12_find_206 : decode cX12_find 206 = .ok (.getfield 312, 3) := by decide +kernel
theorem dX12_find_209 : decode cX12_find 209 = .ok (.iconst 1, 1) := by decide +kernel
theorem dX12_find_210 : decode cX12_find 210 = .ok (.isub, 1) := by decide +kernel
theorem dX12_find_211 : decode cX12_find 211 = .ok (.iaload, 1) := by decide +kernel
theorem dX12_find_212 : decode cX12_find 212 = .ok (.if_icmp .gt 16, 3) := by decide +kernel
theorem dX12_find_215 : decode cX12_find 215 = .ok (.aload_n 0, 1) := by decide +kernel
theorem dX12_find_216 : decode cX12_find 216 = .ok (.dup, 1) := by decide +kernel
theorem dX12_find_217 : decode cX12_find 217 = .ok (.getfield 315, 3) := by decide +kernel
theorem dX12_find_220 : decode cX12_find 220 = .ok (.iconst 1, 1) := by decide +kernel
theorem dX12_find_221 : decode cX12_find 221 = .ok (.iadd, 1) := by decide +kernel
theorem dX12_find_222 : decode cX12_find 222 = .ok (.putfield 315, 3) := by decide +kernel
theorem dX12_find_225 : decode cX12_find 225 = .ok (.goto 75, 3) := by decide +kernel
theorem dX12_find_228 : decode cX12_find 228 = .ok (.iload 8, 2) := by decide +kernel
theorem dX12_find_230 : decode cX12_find 230 = .ok (.istore 10, 2) := by decide +kernel
theorem dX12_find_232 : decode cX12_find 232 = .ok (.iload 10, 2) := by decide +kernel
theorem dX12_find_234 : decode cX12_find 234 = .ok (.iload 9, 2) := by decide +kernel
theorem dX12_find_236 : decode cX12_find 236 = .ok (.if_icmp .ge 64, 3) := by decide +kernel
theorem dX12_find_239 : decode cX12_find 239 = .ok (.aload_n 0, 1) := by decide +kernel
theorem dX12_find_240 : decode cX12_find 240 = .ok (.getfield 107, 3) := by decide +kernel
theorem dX12_find_243 : decode cX12_find 243 = .ok (.sipush 20200, 3) := by decide +kernel
theorem dX12_find_246 : decode cX12_find 246 = .ok (.iload 4, 2) := by decide +kernel
theorem dX12_find_248 : decode cX12_find 248 = .ok (.imul, 1) := by decide +kernel
theorem dX12_find_249 : decode cX12_find 249 = .ok (.iload 10, 2) := by decide +kernel
theorem dX12_find_251 : decode cX12_find 251 = .ok (.iadd, 1) := by decide +kernel
theorem dX12_find_252 : decode cX12_find 252 = .ok (.baload, 1) := by decide +kernel
theorem dX12_find_253 : decode cX12_find 253 = .ok (.ifCond .eq 18, 3) := by decide +kernel
theorem dX12_find_256 : decode cX12_find 256 = .ok (.aload_n 0, 1) := by decide +kernel
theorem dX12_find_257 : decode cX12_find 257 = .ok (.iload_n 2, 1) := by decide +kernel
theorem dX12_find_258 : decode cX12_find 258 = .ok (.aload_n 0, 1) := by decide +kernel
theorem dX12_find_259 : decode cX12_find 259 = .ok (.getfield 66, 3) := by decide +kernel
theorem dX12_find_262 : decode cX12_find 262 = .ok (.iload 10, 2) := by decide +kernel
theorem dX12_find_264 : decode cX12_find 264 = .ok (.iaload, 1) := by decide +kernel
theorem dX12_find_265 : decode cX12_find 265 = .ok (.invokevirtual 525, 3) := by decide +kernel
theorem dX12_find_268 : decode cX12_find 268 = .ok (.goto 4, 3) := by decide +kernel
theorem dX12_find_271 : decode cX12_find 271 = .ok (.iconst (-1), 1) := by decide +kernel
theorem dX12_find_272 : decode cX12_find 272 = .ok (.istore 11, 2) := by decide +kernel
theorem dX12_find_274 : decode cX12_find 274 = .ok (.iload 11, 2) := by decide +kernel
theorem dX12_find_276 : decode cX12_find 276 = .ok (.iconst (-1), 1) := by decide +kernel
theorem dX12_find_277 : decode cX12_find 277 = .ok (.if_icmp .eq 17, 3) := by decide +kernel
theorem dX12_find_280 : decode cX12_find 280 = .ok (.aload_n 0, 1) := by decide +kernel
theorem dX12_find_281 : decode cX12_find 281 = .ok (.aload_n 0, 1) := by decide +kernel
theorem dX12_find_282 : decode cX12_find 282 = .ok (.getfield 66, 3) := by decide +kernel
theorem dX12_find_285 : decode cX12_find 285 = .ok (.iload 10, 2) := by decide +kernel
theorem dX12_find_287 : decode cX12_find 287 = .ok (.iaload, 1) := by decide +kernel
theorem dX12_find_288 : decode cX12_find 288 = .ok (.iload 11, 2) := by decide +kernel
theorem dX12_find_290 : decode cX12_find 290 = .ok (.iload_n 3, 1) := by decide +kernel
theorem dX12_find_291 : decode cX12_find 291 = .ok (.invokevirtual 528, 3) := by decide +kernel
theorem dX12_find_294 : decode cX12_find 294 = .ok (.iinc 10 1, 3) := by decide +kernel
theorem dX12_find_297 : decode cX12_find 297 = .ok (.goto (-65), 3) := by decide +kernel
theorem dX12_find_300 : decode cX12_find 300 = .ok (.iinc 7 4, 3) := by decide +kernel
theorem dX12_find_303 : decode cX12_find 303 = .ok (.goto (-174), 3) := by decide +kernel
theorem dX12_find_306 : decode cX12_find 306 = .ok (.iinc 5 1, 3) := by decide +kernel
theorem dX12_find_309 : decode cX12_find 309 = .ok (.goto (-235), 3) := by decide +kernel
theorem dX12_find_312 : decode cX12_find 312 = .ok (.aload_n 0, 1) := by decide +kernel
theorem dX12_find_313 : decode cX12_find 313 = .ok (.getfield 312, 3) := by decide +kernel
theorem dX12_find_316 : decode cX12_find 316 = .ok (.ireturn, 1) := by decide +kernel
theorem dX12_hitAt_0 : decode cX12_hitAt 0 = .ok (.aload_n 0, 1) := by decide +kernel
theorem dX12_hitAt_1 : decode cX12_hitAt 1 = .ok (.iload_n 1, 1) := by decide +kernel
theorem dX12_hitAt_2 : decode cX12_hitAt 2 = .ok (.iconst 0, 1) := by decide +kernel
theorem dX12_hitAt_3 : decode cX12_hitAt 3 = .ok (.aload_n 0, 1) := by decide +kernel
theorem dX12_hitAt_4 : decode cX12_hitAt 4 = .ok (.getfield 312, 3) := by decide +kernel
theorem dX12_hitAt_7 : decode cX12_hitAt 7 = .ok (.iconst 1, 1) := by decide +kernel
theorem dX12_hitAt_8 : decode cX12_hitAt 8 = .ok (.isub, 1) := by decide +kernel
theorem dX12_hitAt_9 : decode cX12_hitAt 9 = .ok (.invokestatic 215, 3) := by decide +kernel
theorem dX12_hitAt_12 : decode cX12_hitAt 12 = .ok (.iconst 1, 1) := by decide +kernel
theorem dX12_hitAt_13 : decode cX12_hitAt 13 = .ok (.iconst 1, 1) := by decide +kernel
theorem dX12_hitAt_14 : decode cX12_hitAt 14 = .ok (.invokevirtual 248, 3) := by decide +kernel
theorem dX12_hitAt_17 : decode cX12_hitAt 17 = .ok (.ifCond .eq 12, 3) := by decide +kernel
theorem dX12_hitAt_20 : decode cX12_hitAt 20 = .ok (.aload_n 0, 1) := by decide +kernel
theorem dX12_hitAt_21 : decode cX12_hitAt 21 = .ok (.getfield 188, 3) := by decide +kernel
theorem dX12_hitAt_24 : decode cX12_hitAt 24 = .ok (.iload_n 1, 1) := by decide +kernel
theorem dX12_hitAt_25 : decode cX12_hitAt 25 = .ok (.iaload, 1) := by decide +kernel
theorem dX12_hitAt_26 : decode cX12_hitAt 26 = .ok (.goto 4, 3) := by decide +kernel
theorem dX12_hitAt_29 : decode cX12_hitAt 29 = .ok (.iconst 0, 1) := by decide +kernel
theorem dX12_hitAt_30 : decode cX12_hitAt 30 = .ok (.ireturn, 1) := by decide +kernel
theorem dX12_rankAt_0 : decode cX12_rankAt 0 = .ok (.aload_n 0, 1) := by decide +kernel
theorem dX12_rankAt_1 : decode cX12_rankAt 1 = .ok (.iload_n 1, 1) := by decide +kernel
theorem dX12_rankAt_2 : decode cX12_rankAt 2 = .ok (.iconst 0, 1) := by decide +kernel
theorem dX12_rankAt_3 : decode cX12_rankAt 3 = .ok (.aload_n 0, 1) := by decide +kernel
theorem dX12_rankAt_4 : decode cX12_rankAt 4 = .ok (.getfield 312, 3) := by decide +kernel
theorem dX12_rankAt_7 : decode cX12_rankAt 7 = .ok (.iconst 1, 1) := by decide +kernel
theorem dX12_rankAt_8 : decode cX12_rankAt 8 = .ok (.isub, 1) := by decide +kernel
theorem dX12_rankAt_9 : decode cX12_rankAt 9 = .ok (.invokestatic 215, 3) := by decide +kernel
theorem dX12_rankAt_12 : decode cX12_rankAt 12 = .ok (.iconst 1, 1) := by decide +kernel
theorem dX12_rankAt_13 : decode cX12_rankAt 13 = .ok (.iconst 1, 1) := by decide +kernel
theorem dX12_rankAt_14 : decode cX12_rankAt 14 = .ok (.invokevirtual 248, 3) := by decide +kernel
theorem dX12_rankAt_17 : decode cX12_rankAt 17 = .ok (.ifCond .eq 12, 3) := by decide +kernel
theorem dX12_rankAt_20 : decode cX12_rankAt 20 = .ok (.aload_n 0, 1) := by decide +kernel
theorem dX12_rankAt_21 : decode cX12_rankAt 21 = .ok (.getfield 191, 3) := by decide +kernel
theorem dX12_rankAt_24 : decode cX12_rankAt 24 = .ok (.iload_n 1, 1) := by decide +kernel
theorem dX12_rankAt_25 : decode cX12_rankAt 25 = .ok (.iaload, 1) := by decide +kernel
theorem dX12_rankAt_26 : decode cX12_rankAt 26 = .ok (.goto 4, 3) := by decide +kernel
theorem dX12_rankAt_29 : decode cX12_rankAt 29 = .ok (.iconst 0, 1) := by decide +kernel
theorem dX12_rankAt_30 : decode cX12_rankAt 30 = .ok (.ireturn, 1) := by decide +kernel
theorem dX12_skipped_0 : decode cX12_skipped 0 = .ok (.aload_n 0, 1) := by decide +kernel
theorem dX12_skipped_1 : decode cX12_skipped 1 = .ok (.iconst 0, 1) := by decide +kernel
theorem dX12_skipped_2 : decode cX12_skipped 2 = .ok (.putfield 212, 3) := by decide +kernel
theorem dX12_skipped_5 : decode cX12_skipped 5 = .ok (.aload_n 0, 1) := by decide +kernel
theorem dX12_skipped_6 : decode cX12_skipped 6 = .ok (.getfield 315, 3) := by decide +kernel
theorem dX12_skipped_9 : decode cX12_skipped 9 = .ok (.ireturn, 1) := by decide +kernel
theorem dX12_cached_0 : decode cX12_cached 0 = .ok (.aload_n 0, 1) := by decide +kernel
theorem dX12_cached_1 : decode cX12_cached 1 = .ok (.iconst 0, 1) := by decide +kernel
theorem dX12_cached_2 : decode cX12_cached 2 = .ok (.putfield 212, 3) := by decide +kernel
theorem dX12_cached_5 : decode cX12_cached 5 = .ok (.aload_n 0, 1) := by decide +kernel
theorem dX12_cached_6 : decode cX12_cached 6 = .ok (.getfield 318, 3) := by decide +kernel
theorem dX12_cached_9 : decode cX12_cached 9 = .ok (.ireturn, 1) := by decide +kernel
theorem dX12_isAsked_0 : decode cX12_isAsked 0 = .ok (.iload_n 1, 1) := by decide +kernel
theorem dX12_isAsked_1 : decode cX12_isAsked 1 = .ok (.iconst (-1), 1) := by decide +kernel
theorem dX12_isAsked_2 : decode cX12_isAsked 2 = .ok (.if_icmp .eq 21, 3) := by decide +kernel
theorem dX12_isAsked_5 : decode cX12_isAsked 5 = .ok (.iload_n 2, 1) := by decide +kernel
theorem dX12_isAsked_6 : decode cX12_isAsked 6 = .ok (.iconst 0, 1) := by decide +kernel
theorem dX12_isAsked_7 : decode cX12_isAsked 7 = .ok (.aload_n 0, 1) := by decide +kernel
theorem dX12_isAsked_8 : decode cX12_isAsked 8 = .ok (.getfield 465, 3) := by decide +kernel
theorem dX12_isAsked_11 : decode cX12_isAsked 11 = .ok (.iconst 1, 1) := by decide +kernel
theorem dX12_isAsked_12 : decode cX12_isAsked 12 = .ok (.isub, 1) := by decide +kernel
theorem dX12_isAsked_13 : decode cX12_isAsked 13 = .ok (.invokestatic 215, 3) := by decide +kernel
theorem dX12_isAsked_16 : decode cX12_isAsked 16 = .ok (.ifCond .eq 7, 3) := by decide +kernel
theorem dX12_isAsked_19 : decode cX12_isAsked 19 = .ok (.iconst 1, 1) := by decide +kernel
theorem dX12_isAsked_20 : decode cX12_isAsked 20 = .ok (.goto 4, 3) := by decide +kernel
theorem dX12_isAsked_23 : decode cX12_isAsked 23 = .ok (.iconst 0, 1) := by decide +kernel
theorem dX12_isAsked_24 : decode cX12_isAsked 24 = .ok (.ireturn, 1) := by decide +kernel
theorem dX12_withKey_0 : decode cX12_withKey 0 = .ok (.iconst (-1), 1) := by decide +kernel
theorem dX12_withKey_1 : decode cX12_withKey 1 = .ok (.istore_n 2, 1) := by decide +kernel
theorem dX12_withKey_2 : decode cX12_withKey 2 = .ok (.iconst 0, 1) := by decide +kernel
theorem dX12_withKey_3 : decode cX12_withKey 3 = .ok (.istore_n 3, 1) := by decide +kernel
theorem dX12_withKey_4 : decode cX12_withKey 4 = .ok (.iload_n 3, 1) := by decide +kernel
theorem dX12_withKey_5 : decode cX12_withKey 5 = .ok (.aload_n 0, 1) := by decide +kernel
theorem dX12_withKey_6 : decode cX12_withKey 6 = .ok (.getfield 429, 3) := by decide +kernel
theorem dX12_withKey_9 : decode cX12_withKey 9 = .ok (.if_icmp .ge 35, 3) := by decide +kernel
theorem dX12_withKey_12 : decode cX12_withKey 12 = .ok (.aload_n 0, 1) := by decide +kernel
theorem dX12_withKey_13 : decode cX12_withKey 13 = .ok (.getfield 50, 3) := by decide +kernel
theorem dX12_withKey_16 : decode cX12_withKey 16 = .ok (.aload_n 0, 1) := by decide +kernel
theorem dX12_withKey_17 : decode cX12_withKey 17 = .ok (.getfield 125, 3) := by decide +kernel
theorem dX12_withKey_20 : decode cX12_withKey 20 = .ok (.iload_n 3, 1) := by decide +kernel
theorem dX12_withKey_21 : decode cX12_withKey 21 = .ok (.iaload, 1) := by decide +kernel
theorem dX12_withKey_22 : decode cX12_withKey 22 = .ok (.iaload, 1) := by decide +kernel
theorem dX12_withKey_23 : decode cX12_withKey 23 = .ok (.iload_n 1, 1) := by decide +kernel
theorem dX12_withKey_24 : decode cX12_withKey 24 = .ok (.if_icmp .ne 12, 3) := by decide +kernel
theorem dX12_withKey_27 : decode cX12_withKey 27 = .ok (.aload_n 0, 1) := by decide +kernel
theorem dX12_withKey_28 : decode cX12_withKey 28 = .ok (.getfield 125, 3) := by decide +kernel
theorem dX12_withKey_31 : decode cX12_withKey 31 = .ok (.iload_n 3, 1) := by decide +kernel
theorem dX12_withKey_32 : decode cX12_withKey 32 = .ok (.iaload, 1) := by decide +kernel
theorem dX12_withKey_33 : decode cX12_withKey 33 = .ok (.goto 4, 3) := by decide +kernel
theorem dX12_withKey_36 : decode cX12_withKey 36 = .ok (.iload_n 2, 1) := by decide +kernel
theorem dX12_withKey_37 : decode cX12_withKey 37 = .ok (.istore_n 2, 1) := by decide +kernel
theorem dX12_withKey_38 : decode cX12_withKey 38 = .ok (.iinc 3 1, 3) := by decide +kernel
theorem dX12_withKey_41 : decode cX12_withKey 41 = .ok (.goto (-37), 3) := by decide +kernel
theorem dX12_withKey_44 : decode cX12_withKey 44 = .ok (.iload_n 2, 1) := by decide +kernel
theorem dX12_withKey_45 : decode cX12_withKey 45 = .ok (.ireturn, 1) := by decide +kernel
theorem dX12_rankByScan_0 : decode cX12_rankByScan 0 = .ok (.aload_n 0, 1) := by decide +kernel
theorem dX12_rankByScan_1 : decode cX12_rankByScan 1 = .ok (.iload_n 1, 1) := by decide +kernel
theorem dX12_rankByScan_2 : decode cX12_rankByScan 2 = .ok (.invokevirtual 426, 3) := by decide +kernel
theorem dX12_rankByScan_5 : decode cX12_rankByScan 5 = .ok (.istore 4, 2) := by decide +kernel
theorem dX12_rankByScan_7 : decode cX12_rankByScan 7 = .ok (.aload_n 0, 1) := by decide +kernel
theorem dX12_rankByScan_8 : decode cX12_rankByScan 8 = .ok (.aload_n 0, 1) := by decide +kernel
theorem dX12_rankByScan_9 : decode cX12_rankByScan 9 = .ok (.iload 4, 2) := by decide +kernel
theorem dX12_rankByScan_11 : decode cX12_rankByScan 11 = .ok (.iload_n 2, 1) := by decide +kernel
theorem dX12_rankByScan_12 : decode cX12_rankByScan 12 = .ok (.invokevirtual 532, 3) := by decide +kernel
theorem dX12_rankByScan_15 : decode cX12_rankByScan 15 = .ok (.ifCond .eq 14, 3) := by decide +kernel
theorem dX12_rankByScan_18 : decode cX12_rankByScan 18 = .ok (.iload_n 3, 1) := by decide +kernel
theorem dX12_rankByScan_19 : decode cX12_rankByScan 19 = .ok (.invokestatic 293, 3) := by decide +kernel
theorem dX12_rankByScan_22 : decode cX12_rankByScan 22 = .ok (.ifCond .eq 7, 3) := by decide +kernel
theorem dX12_rankByScan_25 : decode cX12_rankByScan 25 = .ok (.iconst 1, 1) := by decide +kernel
theorem dX12_rankByScan_26 : decode cX12_rankByScan 26 = .ok (.goto 4, 3) := by decide +kernel
theorem dX12_rankByScan_29 : decode cX12_rankByScan 29 = .ok (.iconst 0, 1) := by decide +kernel
theorem dX12_rankByScan_30 : decode cX12_rankByScan 30 = .ok (.iconst 1, 1) := by decide +kernel
theorem dX12_rankByScan_31 : decode cX12_rankByScan 31 = .ok (.iconst 1, 1) := by decide +kernel
theorem dX12_rankByScan_32 : decode cX12_rankByScan 32 = .ok (.invokevirtual 248, 3) := by decide +kernel
theorem dX12_rankByScan_35 : decode cX12_rankByScan 35 = .ok (.ifCond .ne 5, 3) := by decide +kernel
theorem dX12_rankByScan_38 : decode cX12_rankByScan 38 = .ok (.iconst 0, 1) := by decide +kernel
theorem dX12_rankByScan_39 : decode cX12_rankByScan 39 = .ok (.ireturn, 1) := by decide +kernel
theorem dX12_rankByScan_40 : decode cX12_rankByScan 40 = .ok (.aload_n 0, 1) := by decide +kernel
theorem dX12_rankByScan_41 : decode cX12_rankByScan 41 = .ok (.iload 4, 2) := by decide +kernel
theorem dX12_rankByScan_43 : decode cX12_rankByScan 43 = .ok (.iload_n 2, 1) := by decide +kernel
theorem dX12_rankByScan_44 : decode cX12_rankByScan 44 = .ok (.invokevirtual 516, 3) := by decide +kernel
theorem dX12_rankByScan_47 : decode cX12_rankByScan 47 = .ok (.aload_n 0, 1) := by decide +kernel
theorem dX12_rankByScan_48 : decode cX12_rankByScan 48 = .ok (.iload_n 3, 1) := by decide +kernel
theorem dX12_rankByScan_49 : decode cX12_rankByScan 49 = .ok (.invokevirtual 535, 3) := by decide +kernel
theorem dX12_rankByScan_52 : decode cX12_rankByScan 52 = .ok (.istore 5, 2) := by decide +kernel
theorem dX12_rankByScan_54 : decode cX12_rankByScan 54 = .ok (.iload 5, 2) := by decide +kernel
theorem dX12_rankByScan_56 : decode cX12_rankByScan 56 = .ok (.iconst (-1), 1) := by decide +kernel
theorem dX12_rankByScan_57 : decode cX12_rankByScan 57 = .ok (.if_icmp .ne 7, 3) := by decide +kernel
theorem dX12_rankByScan_60 : decode cX12_rankByScan 60 = .ok (.iconst (-1), 1) := by decide +kernel
theorem dX12_rankByScan_61 : decode cX12_rankByScan 61 = .ok (.goto 10, 3) := by decide +kernel
theorem dX12_rankByScan_64 : decode cX12_rankByScan 64 = .ok (.aload_n 0, 1) := by decide +kernel
theorem dX12_rankByScan_65 : decode cX12_rankByScan 65 = .ok (.iload_n 2, 1) := by decide +kernel
theorem dX12_rankByScan_66 : decode cX12_rankByScan 66 = .ok (.iload 5, 2) := by decide +kernel
theorem dX12_rankByScan_68 : decode cX12_rankByScan 68 = .ok (.invokevirtual 525, 3) := by decide +kernel
theorem dX12_rankByScan_71 : decode cX12_rankByScan 71 = .ok (.ireturn, 1) := by decide +kernel
theorem dX12_matching_0 : decode cX12_matching 0 = .ok (.iconst 0, 1) := by decide +kernel
theorem dX12_matching_1 : decode cX12_matching 1 = .ok (.istore 4, 2) := by decide +kernel
theorem dX12_matching_3 : decode cX12_matching 3 = .ok (.aload_n 0, 1) := by decide +kernel
theorem dX12_matching_4 : decode cX12_matching 4 = .ok (.iload_n 1, 1) := by decide +kernel
theorem dX12_matching_5 : decode cX12_matching 5 = .ok (.iload_n 2, 1) := by decide +kernel
theorem dX12_matching_6 : decode cX12_matching 6 = .ok (.invokevirtual 516, 3) := by decide +kernel
theorem dX12_matching_9 : decode cX12_matching 9 = .ok (.iconst 0, 1) := by decide +kernel
theorem dX12_matching_10 : decode cX12_matching 10 = .ok (.istore 5, 2) := by decide +kernel
theorem dX12_matching_12 : decode cX12_matching 12 = .ok (.iload 5, 2) := by decide +kernel
theorem dX12_matching_14 : decode cX12_matching 14 = .ok (.aload_n 0, 1) := by decide +kernel
theorem dX12_matching_15 : decode cX12_matching 15 = .ok (.getfield 429, 3) := by decide +kernel
theorem dX12_matching_18 : decode cX12_matching 18 = .ok (.if_icmp .ge 56, 3) := by decide +kernel
theorem dX12_matching_21 : decode cX12_matching 21 = .ok (.iload 4, 2) := by decide +kernel
theorem dX12_matching_23 : decode cX12_matching 23 = .ok (.iload_n 3, 1) := by decide +kernel
theorem dX12_matching_24 : decode cX12_matching 24 = .ok (.iconst (-1), 1) := by decide +kernel
theorem dX12_matching_25 : decode cX12_matching 25 = .ok (.if_icmp .eq 19, 3) := by decide +kernel
theorem dX12_matching_28 : decode cX12_matching 28 = .ok (.aload_n 0, 1) := by decide +kernel
theorem dX12_matching_29 : decode cX12_matching 29 = .ok (.getfield 53, 3) := by decide +kernel
theorem dX12_matching_32 : decode cX12_matching 32 = .ok (.aload_n 0, 1) := by decide +kernel
theorem dX12_matching_33 : decode cX12_matching 33 = .ok (.getfield 125, 3) := by decide +kernel
theorem dX12_matching_36 : decode cX12_matching 36 = .ok (.iload 5, 2) := by decide +kernel
theorem dX12_matching_38 : decode cX12_matching 38 = .ok (.iaload, 1) := by decide +kernel
theorem dX12_matching_39 : decode cX12_matching 39 = .ok (.iaload, 1) := by decide +kernel
theorem dX12_matching_40 : decode cX12_matching 40 = .ok (.iload_n 3, 1) := by decide +kernel
theorem dX12_matching_41 : decode cX12_matching 41 = .ok (.if_icmp .ne 23, 3) := by decide +kernel
theorem dX12_matching_44 : decode cX12_matching 44 = .ok (.aload_n 0, 1) := by decide +kernel
theorem dX12_matching_45 : decode cX12_matching 45 = .ok (.iload_n 2, 1) := by decide +kernel
theorem dX12_matching_46 : decode cX12_matching 46 = .ok (.aload_n 0, 1) := by decide +kernel
theorem dX12_matching_47 : decode cX12_matching 47 = .ok (.getfield 125, 3) := by decide +kernel
theorem dX12_matching_50 : decode cX12_matching 50 = .ok (.iload 5, 2) := by decide +kernel
theorem dX12_matching_52 : decode cX12_matching 52 = .ok (.iaload, 1) := by decide +kernel
theorem dX12_matching_53 : decode cX12_matching 53 = .ok (.invokevirtual 525, 3) := by decide +kernel
theorem dX12_matching_56 : decode cX12_matching 56 = .ok (.iconst (-1), 1) := by decide +kernel
theorem dX12_matching_57 : decode cX12_matching 57 = .ok (.if_icmp .eq 7, 3) := by decide +kernel
theorem dX12_matching_60 : decode cX12_matching 60 = .ok (.iconst 1, 1) := by decide +kernel
theorem dX12_matching_61 : decode cX12_matching 61 = .ok (.goto 4, 3) := by decide +kernel
theorem dX12_matching_64 : decode cX12_matching 64 = .ok (.iconst 0, 1) := by decide +kernel
theorem dX12_matching_65 : decode cX12_matching 65 = .ok (.iadd, 1) := by decide +kernel
theorem dX12_matching_66 : decode cX12_matching 66 = .ok (.istore 4, 2) := by decide +kernel
theorem dX12_matching_68 : decode cX12_matching 68 = .ok (.iinc 5 1, 3) := by decide +kernel
theorem dX12_matching_71 : decode cX12_matching 71 = .ok (.goto (-59), 3) := by decide +kernel
theorem dX12_matching_74 : decode cX12_matching 74 = .ok (.iload 4, 2) := by decide +kernel
theorem dX12_matching_76 : decode cX12_matching 76 = .ok (.ireturn, 1) := by decide +kernel
theorem dX12_matches_0 : decode cX12_matches 0 = .ok (.aload_n 0, 1) := by decide +kernel
theorem dX12_matches_1 : decode cX12_matches 1 = .ok (.iload_n 1, 1) := by decide +kernel
theorem dX12_matches_2 : decode cX12_matches 2 = .ok (.invokevirtual 426, 3) := by decide +kernel
theorem dX12_matches_5 : decode cX12_matches 5 = .ok (.istore_n 3, 1) := by decide +kernel
theorem dX12_matches_6 : decode cX12_matches 6 = .ok (.aload_n 0, 1) := by decide +kernel
theorem dX12_matches_7 : decode cX12_matches 7 = .ok (.aload_n 0, 1) := by decide +kernel
theorem dX12_matches_8 : decode cX12_matches 8 = .ok (.iload_n 3, 1) := by decide +kernel
theorem dX12_matches_9 : decode cX12_matches 9 = .ok (.iload_n 2, 1) := by decide +kernel
theorem dX12_matches_10 : decode cX12_matches 10 = .ok (.invokevirtual 532, 3) := by decide +kernel
theorem dX12_matches_13 : decode cX12_matches 13 = .ok (.iconst 1, 1) := by decide +kernel
theorem dX12_matches_14 : decode cX12_matches 14 = .ok (.iconst 1, 1) := by decide +kernel
theorem dX12_matches_15 : decode cX12_matches 15 = .ok (.invokevirtual 248, 3) := by decide +kernel
theorem dX12_matches_18 : decode cX12_matches 18 = .ok (.ifCond .eq 13, 3) := by decide +kernel
theorem dX12_matches_21 : decode cX12_matches 21 = .ok (.aload_n 0, 1) := by decide +kernel
theorem dX12_matches_22 : decode cX12_matches 22 = .ok (.iload_n 3, 1) := by decide +kernel
theorem dX12_matches_23 : decode cX12_matches 23 = .ok (.iload_n 2, 1) := by decide +kernel
theorem dX12_matches_24 : decode cX12_matches 24 = .ok (.iconst (-1), 1) := by decide +kernel
theorem dX12_matches_25 : decode cX12_matches 25 = .ok (.invokevirtual 538, 3) := by decide +kernel
theorem dX12_matches_28 : decode cX12_matches 28 = .ok (.goto 4, 3) := by decide +kernel
theorem dX12_matches_31 : decode cX12_matches 31 = .ok (.iconst 0, 1) := by decide +kernel
theorem dX12_matches_32 : decode cX12_matches 32 = .ok (.ireturn, 1) := by decide +kernel
theorem dX12_matchesByScan_0 : decode cX12_matchesByScan 0 = .ok (.aload_n 0, 1) := by decide +kernel
theorem dX12_matchesByScan_1 : decode cX12_matchesByScan 1 = .ok (.iload_n 1, 1) := by decide +kernel
theorem dX12_matchesByScan_2 : decode cX12_matchesByScan 2 = .ok (.iload_n 2, 1) := by decide +kernel
theorem dX12_matchesByScan_3 : decode cX12_matchesByScan 3 = .ok (.invokevirtual 541, 3) := by decide +kernel
theorem dX12_matchesByScan_6 : decode cX12_matchesByScan 6 = .ok (.ireturn, 1) := by decide +kernel
theorem dX12_facet_0 : decode cX12_facet 0 = .ok (.aload_n 0, 1) := by decide +kernel
theorem dX12_facet_1 : decode cX12_facet 1 = .ok (.iload_n 1, 1) := by decide +kernel
theorem dX12_facet_2 : decode cX12_facet 2 = .ok (.invokevirtual 426, 3) := by decide +kernel
theorem dX12_facet_5 : decode cX12_facet 5 = .ok (.istore 4, 2) := by decide +kernel
theorem dX12_facet_7 : decode cX12_facet 7 = .ok (.aload_n 0, 1) := by decide +kernel
theorem dX12_facet_8 : decode cX12_facet 8 = .ok (.aload_n 0, 1) := by decide +kernel
theorem dX12_facet_9 : decode cX12_facet 9 = .ok (.iload 4, 2) := by decide +kernel
theorem dX12_facet_11 : decode cX12_facet 11 = .ok (.iload_n 2, 1) := by decide +kernel
theorem dX12_facet_12 : decode cX12_facet 12 = .ok (.invokevirtual 532, 3) := by decide +kernel
theorem dX12_facet_15 : decode cX12_facet 15 = .ok (.iload_n 3, 1) := by decide +kernel
theorem dX12_facet_16 : decode cX12_facet 16 = .ok (.iconst 0, 1) := by decide +kernel
theorem dX12_facet_17 : decode cX12_facet 17 = .ok (.bipush 9, 2) := by decide +kernel
theorem dX12_facet_19 : decode cX12_facet 19 = .ok (.invokestatic 215, 3) := by decide +kernel
theorem dX12_facet_22 : decode cX12_facet 22 = .ok (.iconst 1, 1) := by decide +kernel
theorem dX12_facet_23 : decode cX12_facet 23 = .ok (.invokevirtual 248, 3) := by decide +kernel
theorem dX12_facet_26 : decode cX12_facet 26 = .ok (.ifCond .eq 14, 3) := by decide +kernel
theorem dX12_facet_29 : decode cX12_facet 29 = .ok (.aload_n 0, 1) := by decide +kernel
theorem dX12_facet_30 : decode cX12_facet 30 = .ok (.iload 4, 2) := by decide +kernel
theorem dX12_facet_32 : decode cX12_facet 32 = .ok (.iload_n 2, 1) := by decide +kernel
theorem dX12_facet_33 : decode cX12_facet 33 = .ok (.iload_n 3, 1) := by decide +kernel
theorem dX12_facet_34 : decode cX12_facet 34 = .ok (.invokevirtual 538, 3) := by decide +kernel
theorem dX12_facet_37 : decode cX12_facet 37 = .ok (.goto 4, 3) := by decide +kernel
theorem dX12_facet_40 : decode cX12_facet 40 = .ok (.iconst 0, 1) := by decide +kernel
theorem dX12_facet_41 : decode cX12_facet 41 = .ok (.ireturn, 1) := by decide +kernel
theorem dX12_sortedAt_0 : decode cX12_sortedAt 0 = .ok (.aload_n 0, 1) := by decide +kernel
theorem dX12_sortedAt_1 : decode cX12_sortedAt 1 = .ok (.iload_n 1, 1) := by decide +kernel
theorem dX12_sortedAt_2 : decode cX12_sortedAt 2 = .ok (.invokevirtual 426, 3) := by decide +kernel
theorem dX12_sortedAt_5 : decode cX12_sortedAt 5 = .ok (.istore 5, 2) := by decide +kernel
theorem dX12_sortedAt_7 : decode cX12_sortedAt 7 = .ok (.iconst 0, 1) := by decide +kernel
theorem dX12_sortedAt_8 : decode cX12_sortedAt 8 = .ok (.istore 6, 2) := by decide +kernel
theorem dX12_sortedAt_10 : decode cX12_sortedAt 10 = .ok (.aload_n 0, 1) := by decide +kernel
theorem dX12_sortedAt_11 : decode cX12_sortedAt 11 = .ok (.iload 5, 2) := by decide +kernel
theorem dX12_sortedAt_13 : decode cX12_sortedAt 13 = .ok (.iload_n 2, 1) := by decide +kernel
theorem dX12_sortedAt_14 : decode cX12_sortedAt 14 = .ok (.invokevirtual 532, 3) := by decide +kernel
theorem dX12_sortedAt_17 : decode cX12_sortedAt 17 = .ok (.ifCond .eq 157, 3) := by decide +kernel
theorem dX12_sortedAt_20 : decode cX12_sortedAt 20 = .ok (.aload_n 0, 1) := by decide +kernel
theorem dX12_sortedAt_21 : decode cX12_sortedAt 21 = .ok (.iload 5, 2) := by decide +kernel
theorem dX12_sortedAt_23 : decode cX12_sortedAt 23 = .ok (.iload_n 2, 1) := by decide +kernel
theorem dX12_sortedAt_24 : decode cX12_sortedAt 24 = .ok (.invokevirtual 516, 3) := by decide +kernel
theorem dX12_sortedAt_27 : decode cX12_sortedAt 27 = .ok (.iconst 0, 1) := by decide +kernel
theorem dX12_sortedAt_28 : decode cX12_sortedAt 28 = .ok (.istore 7, 2) := by decide +kernel
theorem dX12_sortedAt_30 : decode cX12_sortedAt 30 = .ok (.iload 7, 2) := by decide +kernel
theorem dX12_sortedAt_32 : decode cX12_sortedAt 32 = .ok (.aload_n 0, 1) := by decide +kernel
theorem dX12_sortedAt_33 : decode cX12_sortedAt 33 = .ok (.getfield 429, 3) := by decide +kernel
theorem dX12_sortedAt_36 : decode cX12_sortedAt 36 = .ok (.if_icmp .ge 138, 3) := by decide +kernel
theorem dX12_sortedAt_39 : decode cX12_sortedAt 39 = .ok (.aload_n 0, 1) := by decide +kernel
theorem dX12_sortedAt_40 : decode cX12_sortedAt 40 = .ok (.iload_n 2, 1) := by decide +kernel
theorem dX12_sortedAt_41 : decode cX12_sortedAt 41 = .ok (.aload_n 0, 1) := by decide +kernel
theorem dX12_sortedAt_42 : decode cX12_sortedAt 42 = .ok (.getfield 125, 3) := by decide +kernel
theorem dX12_sortedAt_45 : decode cX12_sortedAt 45 = .ok (.iload 7, 2) := by decide +kernel
theorem dX12_sortedAt_47 : decode cX12_sortedAt 47 = .ok (.iaload, 1) := by decide +kernel
theorem dX12_sortedAt_48 : decode cX12_sortedAt 48 = .ok (.invokevirtual 525, 3) := by decide +kernel
theorem dX12_sortedAt_51 : decode cX12_sortedAt 51 = .ok (.iconst (-1), 1) := by decide +kernel
theorem dX12_sortedAt_52 : decode cX12_sortedAt 52 = .ok (.if_icmp .eq 116, 3) := by decide +kernel
theorem dX12_sortedAt_55 : decode cX12_sortedAt 55 = .ok (.iload 6, 2) := by decide +kernel
theorem dX12_sortedAt_57 : decode cX12_sortedAt 57 = .ok (.istore 8, 2) := by decide +kernel
theorem dX12_sortedAt_59 : decode cX12_sortedAt 59 = .ok (.iload 8, 2) := by decide +kernel
theorem dX12_sortedAt_61 : decode cX12_sortedAt 61 = .ok (.ifCond .le 90, 3) := by decide +kernel
theorem dX12_sortedAt_64 : decode cX12_sortedAt 64 = .ok (.iload_n 3, 1) := by decide +kernel
theorem dX12_sortedAt_65 : decode cX12_sortedAt 65 = .ok (.ifCond .eq 35, 3) := by decide +kernel
theorem dX12_sortedAt_68 : decode cX12_sortedAt 68 = .ok (.aload_n 0, 1) := by decide +kernel
theorem dX12_sortedAt_69 : decode cX12_sortedAt 69 = .ok (.getfield 56, 3) := by decide +kernel
theorem dX12_sortedAt_72 : decode cX12_sortedAt 72 = .ok (.aload_n 0, 1) := by decide +kernel
theorem dX12_sortedAt_73 : decode cX12_sortedAt 73 = .ok (.getfield 128, 3) := by decide +kernel
theorem dX12_sortedAt_76 : decode cX12_sortedAt 76 = .ok (.iload 8, 2) := by decide +kernel
theorem dX12_sortedAt_78 : decode cX12_sortedAt 78 = .ok (.iconst 1, 1) := by decide +kernel
theorem dX12_sortedAt_79 : decode cX12_sortedAt 79 = .ok (.isub, 1) := by decide +kernel
theorem dX12_sortedAt_80 : decode cX12_sortedAt 80 = .ok (.iaload, 1) := by decide +kernel
theorem dX12_sortedAt_81 : decode cX12_sortedAt 81 = .ok (.iaload, 1) := by decide +kernel
theorem dX12_sortedAt_82 : decode cX12_sortedAt 82 = .ok (.aload_n 0, 1) := by decide +kernel
theorem dX12_sortedAt_83 : decode cX12_sortedAt 83 = .ok (.getfield 56, 3) := by decide +kernel
theorem dX12_sortedAt_86 : decode cX12_sortedAt 86 = .ok (.aload_n 0, 1) := by decide +kernel
theorem dX12_sortedAt_87 : decode cX12_sortedAt 87 = .ok (.getfield 125, 3) := by decide +kernel
theorem dX12_sortedAt_90 : decode cX12_sortedAt 90 = .ok (.iload 7, 2) := by decide +kernel
theorem dX12_sortedAt_92 : decode cX12_sortedAt 92 = .ok (.iaload, 1) := by decide +kernel
theorem dX12_sortedAt_93 : decode cX12_sortedAt 93 = .ok (.iaload, 1) := by decide +kernel
theorem dX12_sortedAt_94 : decode cX12_sortedAt 94 = .ok (.if_icmp .ge 57, 3) := by decide +kernel
theorem dX12_sortedAt_97 : decode cX12_sortedAt 97 = .ok (.goto 32, 3) := by decide +kernel
theorem dX12_sortedAt_100 : decode cX12_sortedAt 100 = .ok (.aload_n 0, 1) := by decide +kernel
theorem dX12_sortedAt_101 : decode cX12_sortedAt 101 = .ok (.getfield 56, 3) := by decide +kernel
theorem dX12_sortedAt_104 : decode cX12_sortedAt 104 = .ok (.aload_n 0, 1) := by decide +kernel
theorem dX12_sortedAt_105 : decode cX12_sortedAt 105 = .ok (.getfield 128, 3) := by decide +kernel
theorem dX12_sortedAt_108 : decode cX12_sortedAt 108 = .ok (.iload 8, 2) := by decide +kernel
theorem dX12_sortedAt_110 : decode cX12_sortedAt 110 = .ok (.iconst 1, 1) := by decide +kernel
theorem dX12_sortedAt_111 : decode cX12_sortedAt 111 = .ok (.isub, 1) := by decide +kernel
theorem dX12_sortedAt_112 : decode cX12_sortedAt 112 = .ok (.iaload, 1) := by decide +kernel
theorem dX12_sortedAt_113 : decode cX12_sortedAt 113 = .ok (.iaload, 1) := by decide +kernel
theorem dX12_sortedAt_114 : decode cX12_sortedAt 114 = .ok (.aload_n 0, 1) := by decide +kernel
theorem dX12_sortedAt_115 : decode cX12_sortedAt 115 = .ok (.getfield 56, 3) := by decide +kernel
theorem dX12_sortedAt_118 : decode cX12_sortedAt 118 = .ok (.aload_n 0, 1) := by decide +kernel
theorem dX12_sortedAt_119 : decode cX12_sortedAt 119 = .ok (.getfield 125, 3) := by decide +kernel
theorem dX12_sortedAt_122 : decode cX12_sortedAt 122 = .ok (.iload 7, 2) := by decide +kernel
theorem dX12_sortedAt_124 : decode cX12_sortedAt 124 = .ok (.iaload, 1) := by decide +kernel
theorem dX12_sortedAt_125 : decode cX12_sortedAt 125 = .ok (.iaload, 1) := by decide +kernel
theorem dX12_sortedAt_126 : decode cX12_sortedAt 126 = .ok (.if_icmp .le 25, 3) := by decide +kernel
theorem dX12_sortedAt_129 : decode cX12_sortedAt 129 = .ok (.aload_n 0, 1) := by decide +kernel
theorem dX12_sortedAt_130 : decode cX12_sortedAt 130 = .ok (.getfield 128, 3) := by decide +kernel
theorem dX12_sortedAt_133 : decode cX12_sortedAt 133 = .ok (.iload 8, 2) := by decide +kernel
theorem dX12_sortedAt_135 : decode cX12_sortedAt 135 = .ok (.aload_n 0, 1) := by decide +kernel
theorem dX12_sortedAt_136 : decode cX12_sortedAt 136 = .ok (.getfield 128, 3) := by decide +kernel
theorem dX12_sortedAt_139 : decode cX12_sortedAt 139 = .ok (.iload 8, 2) := by decide +kernel
theorem dX12_sortedAt_141 : decode cX12_sortedAt 141 = .ok (.iconst 1, 1) := by decide +kernel
theorem dX12_sortedAt_142 : decode cX12_sortedAt 142 = .ok (.isub, 1) := by decide +kernel
theorem dX12_sortedAt_143 : decode cX12_sortedAt 143 = .ok (.iaload, 1) := by decide +kernel
theorem dX12_sortedAt_144 : decode cX12_sortedAt 144 = .ok (.iastore, 1) := by decide +kernel
theorem dX12_sortedAt_145 : decode cX12_sortedAt 145 = .ok (.iinc 8 (-1), 3) := by decide +kernel
theorem dX12_sortedAt_148 : decode cX12_sortedAt 148 = .ok (.goto (-89), 3) := by decide +kernel
theorem dX12_sortedAt_151 : decode cX12_sortedAt 151 = .ok (.aload_n 0, 1) := by decide +kernel
theorem dX12_sortedAt_152 : decode cX12_sortedAt 152 = .ok (.getfield 128, 3) := by decide +kernel
theorem dX12_sortedAt_155 : decode cX12_sortedAt 155 = .ok (.iload 8, 2) := by decide +kernel
theorem dX12_sortedAt_157 : decode cX12_sortedAt 157 = .ok (.aload_n 0, 1) := by decide +kernel
theorem dX12_sortedAt_158 : decode cX12_sortedAt 158 = .ok (.getfield 125, 3) := by decide +kernel
theorem dX12_sortedAt_161 : decode cX12_sortedAt 161 = .ok (.iload 7, 2) := by decide +kernel
theorem dX12_sortedAt_163 : decode cX12_sortedAt 163 = .ok (.iaload, 1) := by decide +kernel
theorem dX12_sortedAt_164 : decode cX12_sortedAt 164 = .ok (.iastore, 1) := by decide +kernel
theorem dX12_sortedAt_165 : decode cX12_sortedAt 165 = .ok (.iinc 6 1, 3) := by decide +kernel
theorem dX12_sortedAt_168 : decode cX12_sortedAt 168 = .ok (.iinc 7 1, 3) := by decide +kernel
theorem dX12_sortedAt_171 : decode cX12_sortedAt 171 = .ok (.goto (-141), 3) := by decide +kernel
theorem dX12_sortedAt_174 : decode cX12_sortedAt 174 = .ok (.aload_n 0, 1) := by decide +kernel
theorem dX12_sortedAt_175 : decode cX12_sortedAt 175 = .ok (.iload 4, 2) := by decide +kernel
theorem dX12_sortedAt_177 : decode cX12_sortedAt 177 = .ok (.iconst 0, 1) := by decide +kernel
theorem dX12_sortedAt_178 : decode cX12_sortedAt 178 = .ok (.iload 6, 2) := by decide +kernel
theorem dX12_sortedAt_180 : decode cX12_sortedAt 180 = .ok (.iconst 1, 1) := by decide +kernel
theorem dX12_sortedAt_181 : decode cX12_sortedAt 181 = .ok (.isub, 1) := by decide +kernel
theorem dX12_sortedAt_182 : decode cX12_sortedAt 182 = .ok (.invokestatic 215, 3) := by decide +kernel
theorem dX12_sortedAt_185 : decode cX12_sortedAt 185 = .ok (.iconst 1, 1) := by decide +kernel
theorem dX12_sortedAt_186 : decode cX12_sortedAt 186 = .ok (.iconst 1, 1) := by decide +kernel
theorem dX12_sortedAt_187 : decode cX12_sortedAt 187 = .ok (.invokevirtual 248, 3) := by decide +kernel
theorem dX12_sortedAt_190 : decode cX12_sortedAt 190 = .ok (.ifCond .eq 18, 3) := by decide +kernel
theorem dX12_sortedAt_193 : decode cX12_sortedAt 193 = .ok (.aload_n 0, 1) := by decide +kernel
theorem dX12_sortedAt_194 : decode cX12_sortedAt 194 = .ok (.getfield 50, 3) := by decide +kernel
theorem dX12_sortedAt_197 : decode cX12_sortedAt 197 = .ok (.aload_n 0, 1) := by decide +kernel
theorem dX12_sortedAt_198 : decode cX12_sortedAt 198 = .ok (.getfield 128, 3) := by decide +kernel
theorem dX12_sortedAt_201 : decode cX12_sortedAt 201 = .ok (.iload 4, 2) := by decide +kernel
theorem dX12_sortedAt_203 : decode cX12_sortedAt 203 = .ok (.iaload, 1) := by decide +kernel
theorem dX12_sortedAt_204 : decode cX12_sortedAt 204 = .ok (.iaload, 1) := by decide +kernel
theorem dX12_sortedAt_205 : decode cX12_sortedAt 205 = .ok (.goto 4, 3) := by decide +kernel
theorem dX12_sortedAt_208 : decode cX12_sortedAt 208 = .ok (.iconst 0, 1) := by decide +kernel
theorem dX12_sortedAt_209 : decode cX12_sortedAt 209 = .ok (.ireturn, 1) := by decide +kernel
theorem dX12_laysMarks_0 : decode cX12_laysMarks 0 = .ok (.iconst 0, 1) := by decide +kernel
theorem dX12_laysMarks_1 : decode cX12_laysMarks 1 = .ok (.istore 4, 2) := by decide +kernel
theorem dX12_laysMarks_3 : decode cX12_laysMarks 3 = .ok (.aload_n 0, 1) := by decide +kernel
theorem dX12_laysMarks_4 : decode cX12_laysMarks 4 = .ok (.iconst 0, 1) := by decide +kernel
theorem dX12_laysMarks_5 : decode cX12_laysMarks 5 = .ok (.putfield 544, 3) := by decide +kernel
theorem dX12_laysMarks_8 : decode cX12_laysMarks 8 = .ok (.iconst 0, 1) := by decide +kernel
theorem dX12_laysMarks_9 : decode cX12_laysMarks 9 = .ok (.istore 5, 2) := by decide +kernel
theorem dX12_laysMarks_11 : decode cX12_laysMarks 11 = .ok (.iload 5, 2) := by decide +kernel
theorem dX12_laysMarks_13 : decode cX12_laysMarks 13 = .ok (.aload_n 0, 1) := by decide +kernel
theorem dX12_laysMarks_14 : decode cX12_laysMarks 14 = .ok (.getfield 155, 3) := by decide +kernel
theorem dX12_laysMarks_17 : decode cX12_laysMarks 17 = .ok (.iload_n 1, 1) := by decide +kernel
theorem dX12_laysMarks_18 : decode cX12_laysMarks 18 = .ok (.iaload, 1) := by decide +kernel
theorem dX12_laysMarks_19 : decode cX12_laysMarks 19 = .ok (.if_icmp .ge 97, 3) := by decide +kernel
theorem dX12_laysMarks_22 : decode cX12_laysMarks 22 = .ok (.bipush 48, 2) := by decide +kernel
theorem dX12_laysMarks_24 : decode cX12_laysMarks 24 = .ok (.iload_n 1, 1) := by decide +kernel
theorem dX12_laysMarks_25 : decode cX12_laysMarks 25 = .ok (.imul, 1) := by decide +kernel
theorem dX12_laysMarks_26 : decode cX12_laysMarks 26 = .ok (.iload 5, 2) := by decide +kernel
theorem dX12_laysMarks_28 : decode cX12_laysMarks 28 = .ok (.iadd, 1) := by decide +kernel
theorem dX12_laysMarks_29 : decode cX12_laysMarks 29 = .ok (.istore 6, 2) := by decide +kernel
theorem dX12_laysMarks_31 : decode cX12_laysMarks 31 = .ok (.aload_n 0, 1) := by decide +kernel
theorem dX12_laysMarks_32 : decode cX12_laysMarks 32 = .ok (.getfield 131, 3) := by decide +kernel
theorem dX12_laysMarks_35 : decode cX12_laysMarks 35 = .ok (.iload 6, 2) := by decide +kernel
theorem dX12_laysMarks_37 : decode cX12_laysMarks 37 = .ok (.iaload, 1) := by decide +kernel
theorem dX12_laysMarks_38 : decode cX12_laysMarks 38 = .ok (.bipush 6, 2) := by decide +kernel
theorem dX12_laysMarks_40 : decode cX12_laysMarks 40 = .ok (.if_icmp .ge 34, 3) := by decide +kernel
theorem dX12_laysMarks_43 : decode cX12_laysMarks 43 = .ok (.aload_n 0, 1) := by decide +kernel
theorem dX12_laysMarks_44 : decode cX12_laysMarks 44 = .ok (.getfield 179, 3) := by decide +kernel
theorem dX12_laysMarks_47 : decode cX12_laysMarks 47 = .ok (.iload 5, 2) := by decide +kernel
theorem dX12_laysMarks_49 : decode cX12_laysMarks 49 = .ok (.baload, 1) := by decide +kernel
theorem dX12_laysMarks_50 : decode cX12_laysMarks 50 = .ok (.ifCond .ne 24, 3) := by decide +kernel
theorem dX12_laysMarks_53 : decode cX12_laysMarks 53 = .ok (.aload_n 0, 1) := by decide +kernel
theorem dX12_laysMarks_54 : decode cX12_laysMarks 54 = .ok (.getfield 134, 3) := by decide +kernel
theorem dX12_laysMarks_57 : decode cX12_laysMarks 57 = .ok (.iload 6, 2) := by decide +kernel
theorem dX12_laysMarks_59 : decode cX12_laysMarks 59 = .ok (.iaload, 1) := by decide +kernel
theorem dX12_laysMarks_60 : decode cX12_laysMarks 60 = .ok (.iload_n 3, 1) := by decide +kernel
theorem dX12_laysMarks_61 : decode cX12_laysMarks 61 = .ok (.if_icmp .ne 13, 3) := by decide +kernel
theorem dX12_laysMarks_64 : decode cX12_laysMarks 64 = .ok (.aload_n 0, 1) := by decide +kernel
theorem dX12_laysMarks_65 : decode cX12_laysMarks 65 = .ok (.iload_n 2, 1) := by decide +kernel
theorem dX12_laysMarks_66 : decode cX12_laysMarks 66 = .ok (.iload 6, 2) := by decide +kernel
theorem dX12_laysMarks_68 : decode cX12_laysMarks 68 = .ok (.invokevirtual 496, 3) := by decide +kernel
theorem dX12_laysMarks_71 : decode cX12_laysMarks 71 = .ok (.goto 4, 3) := by decide +kernel
theorem dX12_laysMarks_74 : decode cX12_laysMarks 74 = .ok (.iconst 0, 1) := by decide +kernel
theorem dX12_laysMarks_75 : decode cX12_laysMarks 75 = .ok (.istore 7, 2) := by decide +kernel
theorem dX12_laysMarks_77 : decode cX12_laysMarks 77 = .ok (.iload 7, 2) := by decide +kernel
theorem dX12_laysMarks_79 : decode cX12_laysMarks 79 = .ok (.ifCond .eq 31, 3) := by decide +kernel
theorem dX12_laysMarks_82 : decode cX12_laysMarks 82 = .ok (.aload_n 0, 1) := by decide +kernel
theorem dX12_laysMarks_83 : decode cX12_laysMarks 83 = .ok (.getfield 194, 3) := by decide +kernel
theorem dX12_laysMarks_86 : decode cX12_laysMarks 86 = .ok (.aload_n 0, 1) := by decide +kernel
theorem dX12_laysMarks_87 : decode cX12_laysMarks 87 = .ok (.getfield 544, 3) := by decide +kernel
theorem dX12_laysMarks_90 : decode cX12_laysMarks 90 = .ok (.iload 7, 2) := by decide +kernel
theorem dX12_laysMarks_92 : decode cX12_laysMarks 92 = .ok (.iastore, 1) := by decide +kernel
theorem dX12_laysMarks_93 : decode cX12_laysMarks 93 = .ok (.aload_n 0, 1) := by decide +kernel
theorem dX12_laysMarks_94 : decode cX12_laysMarks 94 = .ok (.dup, 1) := by decide +kernel
theorem dX12_laysMarks_95 : decode cX12_laysMarks 95 = .ok (.getfield 544, 3) := by decide +kernel
theorem dX12_laysMarks_98 : decode cX12_laysMarks 98 = .ok (.iconst 1, 1) := by decide +kernel
theorem dX12_laysMarks_99 : decode cX12_laysMarks 99 = .ok (.iadd, 1) := by decide +kernel
theorem dX12_laysMarks_100 : decode cX12_laysMarks 100 = .ok (.putfield 544, 3) := by decide +kernel
theorem dX12_laysMarks_103 : decode cX12_laysMarks 103 = .ok (.iload 4, 2) := by decide +kernel
theorem dX12_laysMarks_105 : decode cX12_laysMarks 105 = .ok (.iload 7, 2) := by decide +kernel
theorem dX12_laysMarks_107 : decode cX12_laysMarks 107 = .ok (.ior, 1) := by decide +kernel
theorem dX12_laysMarks_108 : decode cX12_laysMarks 108 = .ok (.istore 4, 2) := by decide +kernel
theorem dX12_laysMarks_110 : decode cX12_laysMarks 110 = .ok (.iinc 5 1, 3) := by decide +kernel
theorem dX12_laysMarks_113 : decode cX12_laysMarks 113 = .ok (.goto (-102), 3) := by decide +kernel
theorem dX12_laysMarks_116 : decode cX12_laysMarks 116 = .ok (.iload 4, 2) := by decide +kernel
theorem dX12_laysMarks_118 : decode cX12_laysMarks 118 = .ok (.ireturn, 1) := by decide +kernel
theorem dX12_areMet_0 : decode cX12_areMet 0 = .ok (.iconst 1, 1) := by decide +kernel
theorem dX12_areMet_1 : decode cX12_areMet 1 = .ok (.istore_n 2, 1) := by decide +kernel
theorem dX12_areMet_2 : decode cX12_areMet 2 = .ok (.iconst 0, 1) := by decide +kernel
theorem dX12_areMet_3 : decode cX12_areMet 3 = .ok (.istore_n 3, 1) := by decide +kernel
theorem dX12_areMet_4 : decode cX12_areMet 4 = .ok (.iconst 0, 1) := by decide +kernel
theorem dX12_areMet_5 : decode cX12_areMet 5 = .ok (.istore 4, 2) := by decide +kernel
theorem dX12_areMet_7 : decode cX12_areMet 7 = .ok (.iload 4, 2) := by decide +kernel
theorem dX12_areMet_9 : decode cX12_areMet 9 = .ok (.iload_n 1, 1) := by decide +kernel
theorem dX12_areMet_10 : decode cX12_areMet 10 = .ok (.if_icmp .ge 22, 3) := by decide +kernel
theorem dX12_areMet_13 : decode cX12_areMet 13 = .ok (.iload_n 3, 1) := by decide +kernel
theorem dX12_areMet_14 : decode cX12_areMet 14 = .ok (.bipush 63, 2) := by decide +kernel
theorem dX12_areMet_16 : decode cX12_areMet 16 = .ok (.aload_n 0, 1) := by decide +kernel
theorem dX12_areMet_17 : decode cX12_areMet 17 = .ok (.getfield 203, 3) := by decide +kernel
theorem dX12_areMet_20 : decode cX12_areMet 20 = .ok (.iload 4, 2) := by decide +kernel
theorem dX12_areMet_22 : decode cX12_areMet 22 = .ok (.iaload, 1) := by decide +kernel
theorem dX12_areMet_23 : decode cX12_areMet 23 = .ok (.ishl, 1) := by decide +kernel
theorem dX12_areMet_24 : decode cX12_areMet 24 = .ok (.ior, 1) := by decide +kernel
theorem dX12_areMet_25 : decode cX12_areMet 25 = .ok (.istore_n 3, 1) := by decide +kernel
theorem dX12_areMet_26 : decode cX12_areMet 26 = .ok (.iinc 4 1, 3) := by decide +kernel
theorem dX12_areMet_29 : decode cX12_areMet 29 = .ok (.goto (-22), 3) := by decide +kernel
theorem dX12_areMet_32 : decode cX12_areMet 32 = .ok (.iconst 0, 1) := by decide +kernel
theorem dX12_areMet_33 : decode cX12_areMet 33 = .ok (.istore 4, 2) := by decide +kernel
theorem dX12_areMet_35 : decode cX12_areMet 35 = .ok (.iload 4, 2) := by decide +kernel
theorem dX12_areMet_37 : decode cX12_areMet 37 = .ok (.aload_n 0, 1) := by decide +kernel
theorem dX12_areMet_38 : decode cX12_areMet 38 = .ok (.getfield 544, 3) := by decide +kernel
theorem dX12_areMet_41 : decode cX12_areMet 41 = .ok (.if_icmp .ge 31, 3) := by decide +kernel
theorem dX12_areMet_44 : decode cX12_areMet 44 = .ok (.iload_n 2, 1) := by decide +kernel
theorem dX12_areMet_45 : decode cX12_areMet 45 = .ok (.ifCond .eq 19, 3) := by decide +kernel
theorem dX12_areMet_48 : decode cX12_areMet 48 = .ok (.aload_n 0, 1) := by decide +kernel
theorem dX12_areMet_49 : decode cX12_areMet 49 = .ok (.getfield 194, 3) := by decide +kernel
theorem dX12_areMet_52 : decode cX12_areMet 52 = .ok (.iload 4, 2) := by decide +kernel
theorem dX12_areMet_54 : decode cX12_areMet 54 = .ok (.iaload, 1) := by decide +kernel
theorem dX12_areMet_55 : decode cX12_areMet 55 = .ok (.iload_n 3, 1) := by decide +kernel
theorem dX12_areMet_56 : decode cX12_areMet 56 = .ok (.iand, 1) := by decide +kernel
theorem dX12_areMet_57 : decode cX12_areMet 57 = .ok (.ifCond .eq 7, 3) := by decide +kernel
theorem dX12_areMet_60 : decode cX12_areMet 60 = .ok (.iconst 1, 1) := by decide +kernel
theorem dX12_areMet_61 : decode cX12_areMet 61 = .ok (.goto 4, 3) := by decide +kernel
theorem dX12_areMet_64 : decode cX12_areMet 64 = .ok (.iconst 0, 1) := by decide +kernel
theorem dX12_areMet_65 : decode cX12_areMet 65 = .ok (.istore_n 2, 1) := by decide +kernel
theorem dX12_areMet_66 : decode cX12_areMet 66 = .ok (.iinc 4 1, 3) := by decide +kernel
theorem dX12_areMet_69 : decode cX12_areMet 69 = .ok (.goto (-34), 3) := by decide +kernel
theorem dX12_areMet_72 : decode cX12_areMet 72 = .ok (.iload_n 2, 1) := by decide +kernel
theorem dX12_areMet_73 : decode cX12_areMet 73 = .ok (.ireturn, 1) := by decide +kernel
theorem dX12_goesOn_0 : decode cX12_goesOn 0 = .ok (.iload_n 1, 1) := by decide +kernel
theorem dX12_goesOn_1 : decode cX12_goesOn 1 = .ok (.iconst 1, 1) := by decide +kernel
theorem dX12_goesOn_2 : decode cX12_goesOn 2 = .ok (.isub, 1) := by decide +kernel
theorem dX12_goesOn_3 : decode cX12_goesOn 3 = .ok (.istore_n 3, 1) := by decide +kernel
theorem dX12_goesOn_4 : decode cX12_goesOn 4 = .ok (.iload_n 3, 1) := by decide +kernel
theorem dX12_goesOn_5 : decode cX12_goesOn 5 = .ok (.ifCond .lt 23, 3) := by decide +kernel
theorem dX12_goesOn_8 : decode cX12_goesOn 8 = .ok (.aload_n 0, 1) := by decide +kernel
theorem dX12_goesOn_9 : decode cX12_goesOn 9 = .ok (.getfield 200, 3) := by decide +kernel
theorem dX12_goesOn_12 : decode cX12_goesOn 12 = .ok (.iload_n 3, 1) := by decide +kernel
theorem dX12_goesOn_13 : decode cX12_goesOn 13 = .ok (.iaload, 1) := by decide +kernel
theorem dX12_goesOn_14 : decode cX12_goesOn 14 = .ok (.iload_n 2, 1) := by decide +kernel
theorem dX12_goesOn_15 : decode cX12_goesOn 15 = .ok (.iload_n 1, 1) := by decide +kernel
theorem dX12_goesOn_16 : decode cX12_goesOn 16 = .ok (.isub, 1) := by decide +kernel
theorem dX12_goesOn_17 : decode cX12_goesOn 17 = .ok (.iload_n 3, 1) := by decide +kernel
theorem dX12_goesOn_18 : decode cX12_goesOn 18 = .ok (.iadd, 1) := by decide +kernel
theorem dX12_goesOn_19 : decode cX12_goesOn 19 = .ok (.if_icmp .ne 9, 3) := by decide +kernel
theorem dX12_goesOn_22 : decode cX12_goesOn 22 = .ok (.iinc 3 (-1), 3) := by decide +kernel
theorem dX12_goesOn_25 : decode cX12_goesOn 25 = .ok (.goto (-21), 3) := by decide +kernel
theorem dX12_goesOn_28 : decode cX12_goesOn 28 = .ok (.iload_n 3, 1) := by decide +kernel
theorem dX12_goesOn_29 : decode cX12_goesOn 29 = .ok (.ifCond .ge 5, 3) := by decide +kernel
theorem dX12_goesOn_32 : decode cX12_goesOn 32 = .ok (.iconst 0, 1) := by decide +kernel
theorem dX12_goesOn_33 : decode cX12_goesOn 33 = .ok (.ireturn, 1) := by decide +kernel
theorem dX12_goesOn_34 : decode cX12_goesOn 34 = .ok (.aload_n 0, 1) := by decide +kernel
theorem dX12_goesOn_35 : decode cX12_goesOn 35 = .ok (.getfield 200, 3) := by decide +kernel
theorem dX12_goesOn_38 : decode cX12_goesOn 38 = .ok (.iload_n 3, 1) := by decide +kernel
theorem dX12_goesOn_39 : decode cX12_goesOn 39 = .ok (.dup2, 1) := by decide +kernel
theorem dX12_goesOn_40 : decode cX12_goesOn 40 = .ok (.iaload, 1) := by decide +kernel
theorem dX12_goesOn_41 : decode cX12_goesOn 41 = .ok (.iconst 1, 1) := by decide +kernel
theorem dX12_goesOn_42 : decode cX12_goesOn 42 = .ok (.iadd, 1) := by decide +kernel
theorem dX12_goesOn_43 : decode cX12_goesOn 43 = .ok (.iastore, 1) := by decide +kernel
theorem dX12_goesOn_44 : decode cX12_goesOn 44 = .ok (.iload_n 3, 1) := by decide +kernel
theorem dX12_goesOn_45 : decode cX12_goesOn 45 = .ok (.iconst 1, 1) := by decide +kernel
theorem dX12_goesOn_46 : decode cX12_goesOn 46 = .ok (.iadd, 1) := by decide +kernel
theorem dX12_goesOn_47 : decode cX12_goesOn 47 = .ok (.istore 4, 2) := by decide +kernel
theorem dX12_goesOn_49 : decode cX12_goesOn 49 = .ok (.iload 4, 2) := by decide +kernel
theorem dX12_goesOn_51 : decode cX12_goesOn 51 = .ok (.iload_n 1, 1) := by decide +kernel
theorem dX12_goesOn_52 : decode cX12_goesOn 52 = .ok (.if_icmp .ge 27, 3) := by decide +kernel
theorem dX12_goesOn_55 : decode cX12_goesOn 55 = .ok (.aload_n 0, 1) := by decide +kernel
theorem dX12_goesOn_56 : decode cX12_goesOn 56 = .ok (.getfield 200, 3) := by decide +kernel
theorem dX12_goesOn_59 : decode cX12_goesOn 59 = .ok (.iload 4, 2) := by decide +kernel
theorem dX12_goesOn_61 : decode cX12_goesOn 61 = .ok (.aload_n 0, 1) := by decide +kernel
theorem dX12_goesOn_62 : decode cX12_goesOn 62 = .ok (.getfield 200, 3) := by decide +kernel
theorem dX12_goesOn_65 : decode cX12_goesOn 65 = .ok (.iload 4, 2) := by decide +kernel
theorem dX12_goesOn_67 : decode cX12_goesOn 67 = .ok (.iconst 1, 1) := by decide +kernel
theorem dX12_goesOn_68 : decode cX12_goesOn 68 = .ok (.isub, 1) := by decide +kernel
theorem dX12_goesOn_69 : decode cX12_goesOn 69 = .ok (.iaload, 1) := by decide +kernel
theorem dX12_goesOn_70 : decode cX12_goesOn 70 = .ok (.iconst 1, 1) := by decide +kernel
theorem dX12_goesOn_71 : decode cX12_goesOn 71 = .ok (.iadd, 1) := by decide +kernel
theorem dX12_goesOn_72 : decode cX12_goesOn 72 = .ok (.iastore, 1) := by decide +kernel
theorem dX12_goesOn_73 : decode cX12_goesOn 73 = .ok (.iinc 4 1, 3) := by decide +kernel
theorem dX12_goesOn_76 : decode cX12_goesOn 76 = .ok (.goto (-27), 3) := by decide +kernel
theorem dX12_goesOn_79 : decode cX12_goesOn 79 = .ok (.iconst 1, 1) := by decide +kernel
theorem dX12_goesOn_80 : decode cX12_goesOn 80 = .ok (.ireturn, 1) := by decide +kernel
theorem dX12_chooses_0 : decode cX12_chooses 0 = .ok (.iconst 0, 1) := by decide +kernel
theorem dX12_chooses_1 : decode cX12_chooses 1 = .ok (.istore_n 2, 1) := by decide +kernel
theorem dX12_chooses_2 : decode cX12_chooses 2 = .ok (.iload_n 2, 1) := by decide +kernel
theorem dX12_chooses_3 : decode cX12_chooses 3 = .ok (.iload_n 1, 1) := by decide +kernel
theorem dX12_chooses_4 : decode cX12_chooses 4 = .ok (.if_icmp .ge 26, 3) := by decide +kernel
theorem dX12_chooses_7 : decode cX12_chooses 7 = .ok (.aload_n 0, 1) := by decide +kernel
theorem dX12_chooses_8 : decode cX12_chooses 8 = .ok (.getfield 203, 3) := by decide +kernel
theorem dX12_chooses_11 : decode cX12_chooses 11 = .ok (.iload_n 2, 1) := by decide +kernel
theorem dX12_chooses_12 : decode cX12_chooses 12 = .ok (.aload_n 0, 1) := by decide +kernel
theorem dX12_chooses_13 : decode cX12_chooses 13 = .ok (.getfield 197, 3) := by decide +kernel
theorem dX12_chooses_16 : decode cX12_chooses 16 = .ok (.aload_n 0, 1) := by decide +kernel
theorem dX12_chooses_17 : decode cX12_chooses 17 = .ok (.getfield 200, 3) := by decide +kernel
theorem dX12_chooses_20 : decode cX12_chooses 20 = .ok (.iload_n 2, 1) := by decide +kernel
theorem dX12_chooses_21 : decode cX12_chooses 21 = .ok (.iaload, 1) := by decide +kernel
theorem dX12_chooses_22 : decode cX12_chooses 22 = .ok (.iaload, 1) := by decide +kernel
theorem dX12_chooses_23 : decode cX12_chooses 23 = .ok (.iastore, 1) := by decide +kernel
theorem dX12_chooses_24 : decode cX12_chooses 24 = .ok (.iinc 2 1, 3) := by decide +kernel
theorem dX12_chooses_27 : decode cX12_chooses 27 = .ok (.goto (-25), 3) := by decide +kernel
theorem dX12_chooses_30 : decode cX12_chooses 30 = .ok (.return_, 1) := by decide +kernel
theorem dX12_passes_0 : decode cX12_passes 0 = .ok (.iconst 0, 1) := by decide +kernel
theorem dX12_passes_1 : decode cX12_passes 1 = .ok (.istore_n 2, 1) := by decide +kernel
theorem dX12_passes_2 : decode cX12_passes 2 = .ok (.iconst 0, 1) := by decide +kernel
theorem dX12_passes_3 : decode cX12_passes 3 = .ok (.istore_n 3, 1) := by decide +kernel
theorem dX12_passes_4 : decode cX12_passes 4 = .ok (.iload_n 3, 1) := by decide +kernel
theorem dX12_passes_5 : decode cX12_passes 5 = .ok (.bipush 20, 2) := by decide +kernel
theorem dX12_passes_7 : decode cX12_passes 7 = .ok (.if_icmp .ge 28, 3) := by decide +kernel
theorem dX12_passes_10 : decode cX12_passes 10 = .ok (.iload_n 1, 1) := by decide +kernel
theorem dX12_passes_11 : decode cX12_passes 11 = .ok (.iload_n 3, 1) := by decide +kernel
theorem dX12_passes_12 : decode cX12_passes 12 = .ok (.ishr, 1) := by decide +kernel
theorem dX12_passes_13 : decode cX12_passes 13 = .ok (.iconst 1, 1) := by decide +kernel
theorem dX12_passes_14 : decode cX12_passes 14 = .ok (.iand, 1) := by decide +kernel
theorem dX12_passes_15 : decode cX12_passes 15 = .ok (.iconst 1, 1) := by decide +kernel
theorem dX12_passes_16 : decode cX12_passes 16 = .ok (.if_icmp .ne 13, 3) := by decide +kernel
theorem dX12_passes_19 : decode cX12_passes 19 = .ok (.aload_n 0, 1) := by decide +kernel
theorem dX12_passes_20 : decode cX12_passes 20 = .ok (.getfield 197, 3) := by decide +kernel
theorem dX12_passes_23 : decode cX12_passes 23 = .ok (.iload_n 2, 1) := by decide +kernel
theorem dX12_passes_24 : decode cX12_passes 24 = .ok (.iload_n 3, 1) := by decide +kernel
theorem dX12_passes_25 : decode cX12_passes 25 = .ok (.iastore, 1) := by decide +kernel
theorem dX12_passes_26 : decode cX12_passes 26 = .ok (.iinc 2 1, 3) := by decide +kernel
theorem dX12_passes_29 : decode cX12_passes 29 = .ok (.iinc 3 1, 3) := by decide +kernel
theorem dX12_passes_32 : decode cX12_passes 32 = .ok (.goto (-28), 3) := by decide +kernel
theorem dX12_passes_35 : decode cX12_passes 35 = .ok (.iconst 1, 1) := by decide +kernel
theorem dX12_passes_36 : decode cX12_passes 36 = .ok (.istore_n 3, 1) := by decide +kernel
theorem dX12_passes_37 : decode cX12_passes 37 = .ok (.iload_n 3, 1) := by decide +kernel
theorem dX12_passes_38 : decode cX12_passes 38 = .ok (.iload_n 2, 1) := by decide +kernel
theorem dX12_passes_39 : decode cX12_passes 39 = .ok (.if_icmp .gt 72, 3) := by decide +kernel
theorem dX12_passes_42 : decode cX12_passes 42 = .ok (.iconst 0, 1) := by decide +kernel
theorem dX12_passes_43 : decode cX12_passes 43 = .ok (.istore 4, 2) := by decide +kernel
theorem dX12_passes_45 : decode cX12_passes 45 = .ok (.iload 4, 2) := by decide +kernel
theorem dX12_passes_47 : decode cX12_passes 47 = .ok (.iload_n 3, 1) := by decide +kernel
theorem dX12_passes_48 : decode cX12_passes 48 = .ok (.if_icmp .ge 18, 3) := by decide +kernel
theorem dX12_passes_51 : decode cX12_passes 51 = .ok (.aload_n 0, 1) := by decide +kernel
theorem dX12_passes_52 : decode cX12_passes 52 = .ok (.getfield 200, 3) := by decide +kernel
theorem dX12_passes_55 : decode cX12_passes 55 = .ok (.iload 4, 2) := by decide +kernel
theorem dX12_passes_57 : decode cX12_passes 57 = .ok (.iload 4, 2) := by decide +kernel
theorem dX12_passes_59 : decode cX12_passes 59 = .ok (.iastore, 1) := by decide +kernel
theorem dX12_passes_60 : decode cX12_passes 60 = .ok (.iinc 4 1, 3) := by decide +kernel
theorem dX12_passes_63 : decode cX12_passes 63 = .ok (.goto (-18), 3) := by decide +kernel
theorem dX12_passes_66 : decode cX12_passes 66 = .ok (.aload_n 0, 1) := by decide +kernel
theorem dX12_passes_67 : decode cX12_passes 67 = .ok (.iload_n 3, 1) := by decide +kernel
theorem dX12_passes_68 : decode cX12_passes 68 = .ok (.invokevirtual 547, 3) := by decide +kernel
theorem dX12_passes_71 : decode cX12_passes 71 = .ok (.iconst 1, 1) := by decide +kernel
theorem dX12_passes_72 : decode cX12_passes 72 = .ok (.istore 4, 2) := by decide +kernel
theorem dX12_passes_74 : decode cX12_passes 74 = .ok (.iload 4, 2) := by decide +kernel
theorem dX12_passes_76 : decode cX12_passes 76 = .ok (.ifCond .eq 29, 3) := by decide +kernel
theorem dX12_passes_79 : decode cX12_passes 79 = .ok (.aload_n 0, 1) := by decide +kernel
theorem dX12_passes_80 : decode cX12_passes 80 = .ok (.iload_n 3, 1) := by decide +kernel
theorem dX12_passes_81 : decode cX12_passes 81 = .ok (.invokevirtual 550, 3) := by decide +kernel
theorem dX12_passes_84 : decode cX12_passes 84 = .ok (.ifCond .eq 5, 3) := by decide +kernel
theorem dX12_passes_87 : decode cX12_passes 87 = .ok (.iload_n 3, 1) := by decide +kernel
theorem dX12_passes_88 : decode cX12_passes 88 = .ok (.ireturn, 1) := by decide +kernel
theorem dX12_passes_89 : decode cX12_passes 89 = .ok (.aload_n 0, 1) := by decide +kernel
theorem dX12_passes_90 : decode cX12_passes 90 = .ok (.iload_n 3, 1) := by decide +kernel
theorem dX12_passes_91 : decode cX12_passes 91 = .ok (.iload_n 2, 1) := by decide +kernel
theorem dX12_passes_92 : decode cX12_passes 92 = .ok (.invokevirtual 553, 3) := by decide +kernel
theorem dX12_passes_95 : decode cX12_passes 95 = .ok (.istore 4, 2) := by decide +kernel
theorem dX12_passes_97 : decode cX12_passes 97 = .ok (.aload_n 0, 1) := by decide +kernel
theorem dX12_passes_98 : decode cX12_passes 98 = .ok (.iload_n 3, 1) := by decide +kernel
theorem dX12_passes_99 : decode cX12_passes 99 = .ok (.invokevirtual 547, 3) := by decide +kernel
theorem dX12_passes_102 : decode cX12_passes 102 = .ok (.goto (-28), 3) := by decide +kernel
theorem dX12_passes_105 : decode cX12_passes 105 = .ok (.iinc 3 1, 3) := by decide +kernel
theorem dX12_passes_108 : decode cX12_passes 108 = .ok (.goto (-71), 3) := by decide +kernel
theorem dX12_passes_111 : decode cX12_passes 111 = .ok (.iconst 0, 1) := by decide +kernel
theorem dX12_passes_112 : decode cX12_passes 112 = .ok (.ireturn, 1) := by decide +kernel
theorem dX12_passagesOf_0 : decode cX12_passagesOf 0 = .ok (.aload_n 0, 1) := by decide +kernel
theorem dX12_passagesOf_1 : decode cX12_passagesOf 1 = .ok (.iload_n 1, 1) := by decide +kernel
theorem dX12_passagesOf_2 : decode cX12_passagesOf 2 = .ok (.invokevirtual 426, 3) := by decide +kernel
theorem dX12_passagesOf_5 : decode cX12_passagesOf 5 = .ok (.istore 5, 2) := by decide +kernel
theorem dX12_passagesOf_7 : decode cX12_passagesOf 7 = .ok (.aload_n 0, 1) := by decide +kernel
theorem dX12_passagesOf_8 : decode cX12_passagesOf 8 = .ok (.iload 5, 2) := by decide +kernel
theorem dX12_passagesOf_10 : decode cX12_passagesOf 10 = .ok (.iload_n 2, 1) := by decide +kernel
theorem dX12_passagesOf_11 : decode cX12_passagesOf 11 = .ok (.invokevirtual 532, 3) := by decide +kernel
theorem dX12_passagesOf_14 : decode cX12_passagesOf 14 = .ok (.ifCond .eq 19, 3) := by decide +kernel
theorem dX12_passagesOf_17 : decode cX12_passagesOf 17 = .ok (.iload_n 3, 1) := by decide +kernel
theorem dX12_passagesOf_18 : decode cX12_passagesOf 18 = .ok (.invokestatic 293, 3) := by decide +kernel
theorem dX12_passagesOf_21 : decode cX12_passagesOf 21 = .ok (.ifCond .eq 12, 3) := by decide +kernel
theorem dX12_passagesOf_24 : decode cX12_passagesOf 24 = .ok (.aload_n 0, 1) := by decide +kernel
theorem dX12_passagesOf_25 : decode cX12_passagesOf 25 = .ok (.iload 4, 2) := by decide +kernel
theorem dX12_passagesOf_27 : decode cX12_passagesOf 27 = .ok (.invokevirtual 393, 3) := by decide +kernel
theorem dX12_passagesOf_30 : decode cX12_passagesOf 30 = .ok (.ifCond .ne 5, 3) := by decide +kernel
theorem dX12_passagesOf_33 : decode cX12_passagesOf 33 = .ok (.iconst (-1), 1) := by decide +kernel
theorem dX12_passagesOf_34 : decode cX12_passagesOf 34 = .ok (.ireturn, 1) := by decide +kernel
theorem dX12_passagesOf_35 : decode cX12_passagesOf 35 = .ok (.aload_n 0, 1) := by decide +kernel
theorem dX12_passagesOf_36 : decode cX12_passagesOf 36 = .ok (.iload 5, 2) := by decide +kernel
theorem dX12_passagesOf_38 : decode cX12_passagesOf 38 = .ok (.iload_n 2, 1) := by decide +kernel
theorem dX12_passagesOf_39 : decode cX12_passagesOf 39 = .ok (.invokevirtual 516, 3) := by decide +kernel
theorem dX12_passagesOf_42 : decode cX12_passagesOf 42 = .ok (.aload_n 0, 1) := by decide +kernel
theorem dX12_passagesOf_43 : decode cX12_passagesOf 43 = .ok (.iload_n 3, 1) := by decide +kernel
theorem dX12_passagesOf_44 : decode cX12_passagesOf 44 = .ok (.invokevirtual 535, 3) := by decide +kernel
theorem dX12_passagesOf_47 : decode cX12_passagesOf 47 = .ok (.istore 6, 2) := by decide +kernel
theorem dX12_passagesOf_49 : decode cX12_passagesOf 49 = .ok (.iload 6, 2) := by decide +kernel
theorem dX12_passagesOf_51 : decode cX12_passagesOf 51 = .ok (.iconst (-1), 1) := by decide +kernel
theorem dX12_passagesOf_52 : decode cX12_passagesOf 52 = .ok (.if_icmp .eq 14, 3) := by decide +kernel
theorem dX12_passagesOf_55 : decode cX12_passagesOf 55 = .ok (.aload_n 0, 1) := by decide +kernel
theorem dX12_passagesOf_56 : decode cX12_passagesOf 56 = .ok (.iload_n 2, 1) := by decide +kernel
theorem dX12_passagesOf_57 : decode cX12_passagesOf 57 = .ok (.iload 6, 2) := by decide +kernel
theorem dX12_passagesOf_59 : decode cX12_passagesOf 59 = .ok (.invokevirtual 525, 3) := by decide +kernel
theorem dX12_passagesOf_62 : decode cX12_passagesOf 62 = .ok (.iconst (-1), 1) := by decide +kernel
theorem dX12_passagesOf_63 : decode cX12_passagesOf 63 = .ok (.if_icmp .ne 5, 3) := by decide +kernel
theorem dX12_passagesOf_66 : decode cX12_passagesOf 66 = .ok (.iconst 0, 1) := by decide +kernel
theorem dX12_passagesOf_67 : decode cX12_passagesOf 67 = .ok (.ireturn, 1) := by decide +kernel
theorem dX12_passagesOf_68 : decode cX12_passagesOf 68 = .ok (.aload_n 0, 1) := by decide +kernel
theorem dX12_passagesOf_69 : decode cX12_passagesOf 69 = .ok (.aload_n 0, 1) := by decide +kernel
theorem dX12_passagesOf_70 : decode cX12_passagesOf 70 = .ok (.iload_n 2, 1) := by decide +kernel
theorem dX12_passagesOf_71 : decode cX12_passagesOf 71 = .ok (.iload 6, 2) := by decide +kernel
theorem dX12_passagesOf_73 : decode cX12_passagesOf 73 = .ok (.iload 4, 2) := by decide +kernel
theorem dX12_passagesOf_75 : decode cX12_passagesOf 75 = .ok (.invokevirtual 556, 3) := by decide +kernel
theorem dX12_passagesOf_78 : decode cX12_passagesOf 78 = .ok (.invokevirtual 559, 3) := by decide +kernel
theorem dX12_passagesOf_81 : decode cX12_passagesOf 81 = .ok (.ireturn, 1) := by decide +kernel
theorem dX12_passages_0 : decode cX12_passages 0 = .ok (.aload_n 0, 1) := by decide +kernel
theorem dX12_passages_1 : decode cX12_passages 1 = .ok (.iload_n 1, 1) := by decide +kernel
theorem dX12_passages_2 : decode cX12_passages 2 = .ok (.iload_n 2, 1) := by decide +kernel
theorem dX12_passages_3 : decode cX12_passages 3 = .ok (.iload_n 3, 1) := by decide +kernel
theorem dX12_passages_4 : decode cX12_passages 4 = .ok (.iload 4, 2) := by decide +kernel
theorem dX12_passages_6 : decode cX12_passages 6 = .ok (.invokevirtual 562, 3) := by decide +kernel
theorem dX12_passages_9 : decode cX12_passages 9 = .ok (.istore 5, 2) := by decide +kernel
theorem dX12_passages_11 : decode cX12_passages 11 = .ok (.aload_n 0, 1) := by decide +kernel
theorem dX12_passages_12 : decode cX12_passages 12 = .ok (.iload 5, 2) := by decide +kernel
theorem dX12_passages_14 : decode cX12_passages 14 = .ok (.iconst (-1), 1) := by decide +kernel
theorem dX12_passages_15 : decode cX12_passages 15 = .ok (.if_icmp .eq 7, 3) := by decide +kernel
theorem dX12_passages_18 : decode cX12_passages 18 = .ok (.iconst 1, 1) := by decide +kernel
theorem dX12_passages_19 : decode cX12_passages 19 = .ok (.goto 4, 3) := by decide +kernel
theorem dX12_passages_22 : decode cX12_passages 22 = .ok (.iconst 0, 1) := by decide +kernel
theorem dX12_passages_23 : decode cX12_passages 23 = .ok (.iconst 1, 1) := by decide +kernel
theorem dX12_passages_24 : decode cX12_passages 24 = .ok (.iconst 1, 1) := by decide +kernel
theorem dX12_passages_25 : decode cX12_passages 25 = .ok (.invokevirtual 248, 3) := by decide +kernel
theorem dX12_passages_28 : decode cX12_passages 28 = .ok (.ifCond .eq 8, 3) := by decide +kernel
theorem dX12_passages_31 : decode cX12_passages 31 = .ok (.iload 5, 2) := by decide +kernel
theorem dX12_passages_33 : decode cX12_passages 33 = .ok (.goto 4, 3) := by decide +kernel
theorem dX12_passages_36 : decode cX12_passages 36 = .ok (.iconst 0, 1) := by decide +kernel
theorem dX12_passages_37 : decode cX12_passages 37 = .ok (.ireturn, 1) := by decide +kernel
theorem dX12_passageAt_0 : decode cX12_passageAt 0 = .ok (.aload_n 0, 1) := by decide +kernel
theorem dX12_passageAt_1 : decode cX12_passageAt 1 = .ok (.iload_n 1, 1) := by decide +kernel
theorem dX12_passageAt_2 : decode cX12_passageAt 2 = .ok (.iload_n 2, 1) := by decide +kernel
theorem dX12_passageAt_3 : decode cX12_passageAt 3 = .ok (.iload_n 3, 1) := by decide +kernel
theorem dX12_passageAt_4 : decode cX12_passageAt 4 = .ok (.iload 4, 2) := by decide +kernel
theorem dX12_passageAt_6 : decode cX12_passageAt 6 = .ok (.invokevirtual 562, 3) := by decide +kernel
theorem dX12_passageAt_9 : decode cX12_passageAt 9 = .ok (.istore 6, 2) := by decide +kernel
theorem dX12_passageAt_11 : decode cX12_passageAt 11 = .ok (.aload_n 0, 1) := by decide +kernel
theorem dX12_passageAt_12 : decode cX12_passageAt 12 = .ok (.iload 6, 2) := by decide +kernel
theorem dX12_passageAt_14 : decode cX12_passageAt 14 = .ok (.iconst (-1), 1) := by decide +kernel
theorem dX12_passageAt_15 : decode cX12_passageAt 15 = .ok (.if_icmp .eq 7, 3) := by decide +kernel
theorem dX12_passageAt_18 : decode cX12_passageAt 18 = .ok (.iconst 1, 1) := by decide +kernel
theorem dX12_passageAt_19 : decode cX12_passageAt 19 = .ok (.goto 4, 3) := by decide +kernel
theorem dX12_passageAt_22 : decode cX12_passageAt 22 = .ok (.iconst 0, 1) := by decide +kernel
theorem dX12_passageAt_23 : decode cX12_passageAt 23 = .ok (.iconst 1, 1) := by decide +kernel
theorem dX12_passageAt_24 : decode cX12_passageAt 24 = .ok (.iconst 1, 1) := by decide +kernel
theorem dX12_passageAt_25 : decode cX12_passageAt 25 = .ok (.invokevirtual 248, 3) := by decide +kernel
theorem dX12_passageAt_28 : decode cX12_passageAt 28 = .ok (.ifCond .ne 5, 3) := by decide +kernel
theorem dX12_passageAt_31 : decode cX12_passageAt 31 = .ok (.iconst 0, 1) := by decide +kernel
theorem dX12_passageAt_32 : decode cX12_passageAt 32 = .ok (.ireturn, 1) := by decide +kernel
theorem dX12_passageAt_33 : decode cX12_passageAt 33 = .ok (.iload 5, 2) := by decide +kernel
theorem dX12_passageAt_35 : decode cX12_passageAt 35 = .ok (.iconst 0, 1) := by decide +kernel
theorem dX12_passageAt_36 : decode cX12_passageAt 36 = .ok (.iload 6, 2) := by decide +kernel
theorem dX12_passageAt_38 : decode cX12_passageAt 38 = .ok (.iconst 1, 1) := by decide +kernel
theorem dX12_passageAt_39 : decode cX12_passageAt 39 = .ok (.isub, 1) := by decide +kernel
theorem dX12_passageAt_40 : decode cX12_passageAt 40 = .ok (.invokestatic 215, 3) := by decide +kernel
theorem dX12_passageAt_43 : decode cX12_passageAt 43 = .ok (.ifCond .eq 13, 3) := by decide +kernel
theorem dX12_passageAt_46 : decode cX12_passageAt 46 = .ok (.aload_n 0, 1) := by decide +kernel
theorem dX12_passageAt_47 : decode cX12_passageAt 47 = .ok (.getfield 203, 3) := by decide +kernel
theorem dX12_passageAt_50 : decode cX12_passageAt 50 = .ok (.iload 5, 2) := by decide +kernel
theorem dX12_passageAt_52 : decode cX12_passageAt 52 = .ok (.iaload, 1) := by decide +kernel
theorem dX12_passageAt_53 : decode cX12_passageAt 53 = .ok (.goto 4, 3) := by decide +kernel
theorem dX12_passageAt_56 : decode cX12_passageAt 56 = .ok (.iconst (-1), 1) := by decide +kernel
theorem dX12_passageAt_57 : decode cX12_passageAt 57 = .ok (.ireturn, 1) := by decide +kernel
