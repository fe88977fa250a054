abbrev b_Mod_node1 : ByteArray := prog_8_method_26_code
def y_Mod_node1 : MethodName := ⟨"CircuitDeskModel", "node", "(I)V"⟩
def w_Mod_node1 : List Cond := .code y_Mod_node1 b_Mod_node1 13 none :: lw_gw
theorem d_Mod_node1_0 : decode b_Mod_node1 0 = .ok (.aload_n 0, 1) := by decide +kernel
theorem d_Mod_node1_1 : decode b_Mod_node1 1 = .ok (.getfield 19, 3) := by decide +kernel
theorem d_Mod_node1_4 : decode b_Mod_node1 4 = .ok (.iload_n 1, 1) := by decide +kernel
theorem d_Mod_node1_5 : decode b_Mod_node1 5 = .ok (.iaload, 1) := by decide +kernel
theorem d_Mod_node1_6 : decode b_Mod_node1 6 = .ok (.istore_n 2, 1) := by decide +kernel
theorem d_Mod_node1_7 : decode b_Mod_node1 7 = .ok (.aload_n 0, 1) := by decide +kernel
theorem d_Mod_node1_8 : decode b_Mod_node1 8 = .ok (.getfield 22, 3) := by decide +kernel
theorem d_Mod_node1_11 : decode b_Mod_node1 11 = .ok (.iload_n 1, 1) := by decide +kernel
theorem d_Mod_node1_12 : decode b_Mod_node1 12 = .ok (.iaload, 1) := by decide +kernel
theorem d_Mod_node1_13 : decode b_Mod_node1 13 = .ok (.istore_n 3, 1) := by decide +kernel
theorem d_Mod_node1_14 : decode b_Mod_node1 14 = .ok (.aload_n 0, 1) := by decide +kernel
theorem d_Mod_node1_15 : decode b_Mod_node1 15 = .ok (.getfield 25, 3) := by decide +kernel
theorem d_Mod_node1_18 : decode b_Mod_node1 18 = .ok (.iload_n 1, 1) := by decide +kernel
theorem d_Mod_node1_19 : decode b_Mod_node1 19 = .ok (.iaload, 1) := by decide +kernel
theorem d_Mod_node1_20 : decode b_Mod_node1 20 = .ok (.istore 4, 2) := by decide +kernel
theorem d_Mod_node1_22 : decode b_Mod_node1 22 = .ok (.iload_n 2, 1) := by decide +kernel
theorem d_Mod_node1_23 : decode b_Mod_node1 23 = .ok (.bipush 6, 2) := by decide +kernel
theorem d_Mod_node1_25 : decode b_Mod_node1 25 = .ok (.if_icmp .eq 9, 3) := by decide +kernel
theorem d_Mod_node1_28 : decode b_Mod_node1 28 = .ok (.iload_n 2, 1) := by decide +kernel
theorem d_Mod_node1_29 : decode b_Mod_node1 29 = .ok (.bipush 7, 2) := by decide +kernel
theorem d_Mod_node1_31 : decode b_Mod_node1 31 = .ok (.if_icmp .ne 22, 3) := by decide +kernel
theorem d_Mod_node1_34 : decode b_Mod_node1 34 = .ok (.aload_n 0, 1) := by decide +kernel
theorem d_Mod_node1_35 : decode b_Mod_node1 35 = .ok (.getfield 13, 3) := by decide +kernel
theorem d_Mod_node1_38 : decode b_Mod_node1 38 = .ok (.iload_n 3, 1) := by decide +kernel
theorem d_Mod_node1_39 : decode b_Mod_node1 39 = .ok (.iaload, 1) := by decide +kernel
theorem d_Mod_node1_40 : decode b_Mod_node1 40 = .ok (.aload_n 0, 1) := by decide +kernel
theorem d_Mod_node1_41 : decode b_Mod_node1 41 = .ok (.getfield 13, 3) := by decide +kernel
theorem d_Mod_node1_44 : decode b_Mod_node1 44 = .ok (.iload 4, 2) := by decide +kernel
theorem d_Mod_node1_46 : decode b_Mod_node1 46 = .ok (.iaload, 1) := by decide +kernel
theorem d_Mod_node1_47 : decode b_Mod_node1 47 = .ok (.invokestatic 97, 3) := by decide +kernel
theorem d_Mod_node1_50 : decode b_Mod_node1 50 = .ok (.goto 9, 3) := by decide +kernel
theorem d_Mod_node1_53 : decode b_Mod_node1 53 = .ok (.aload_n 0, 1) := by decide +kernel
theorem d_Mod_node1_54 : decode b_Mod_node1 54 = .ok (.getfield 13, 3) := by decide +kernel
theorem d_Mod_node1_57 : decode b_Mod_node1 57 = .ok (.iload_n 1, 1) := by decide +kernel
theorem d_Mod_node1_58 : decode b_Mod_node1 58 = .ok (.iaload, 1) := by decide +kernel
theorem d_Mod_node1_59 : decode b_Mod_node1 59 = .ok (.istore 5, 2) := by decide +kernel
theorem d_Mod_node1_61 : decode b_Mod_node1 61 = .ok (.iload_n 2, 1) := by decide +kernel
theorem d_Mod_node1_62 : decode b_Mod_node1 62 = .ok (.iconst 5, 1) := by decide +kernel
theorem d_Mod_node1_63 : decode b_Mod_node1 63 = .ok (.if_icmp .eq 9, 3) := by decide +kernel
theorem d_Mod_node1_66 : decode b_Mod_node1 66 = .ok (.iload_n 2, 1) := by decide +kernel
theorem d_Mod_node1_67 : decode b_Mod_node1 67 = .ok (.bipush 7, 2) := by decide +kernel
theorem d_Mod_node1_69 : decode b_Mod_node1 69 = .ok (.if_icmp .ne 7, 3) := by decide +kernel
theorem d_Mod_node1_72 : decode b_Mod_node1 72 = .ok (.iconst 1, 1) := by decide +kernel
theorem d_Mod_node1_73 : decode b_Mod_node1 73 = .ok (.goto 4, 3) := by decide +kernel
theorem d_Mod_node1_76 : decode b_Mod_node1 76 = .ok (.iconst 0, 1) := by decide +kernel
theorem d_Mod_node1_77 : decode b_Mod_node1 77 = .ok (.istore 6, 2) := by decide +kernel
theorem d_Mod_node1_79 : decode b_Mod_node1 79 = .ok (.iconst 1, 1) := by decide +kernel
theorem d_Mod_node1_80 : decode b_Mod_node1 80 = .ok (.istore 7, 2) := by decide +kernel
theorem d_Mod_node1_82 : decode b_Mod_node1 82 = .ok (.iconst 0, 1) := by decide +kernel
theorem d_Mod_node1_83 : decode b_Mod_node1 83 = .ok (.istore 8, 2) := by decide +kernel
theorem d_Mod_node1_85 : decode b_Mod_node1 85 = .ok (.iload 8, 2) := by decide +kernel
theorem d_Mod_node1_87 : decode b_Mod_node1 87 = .ok (.iload 5, 2) := by decide +kernel
theorem d_Mod_node1_89 : decode b_Mod_node1 89 = .ok (.if_icmp .ge 409, 3) := by decide +kernel
theorem d_Mod_node1_92 : decode b_Mod_node1 92 = .ok (.iload_n 2, 1) := by decide +kernel
theorem d_Mod_node1_93 : decode b_Mod_node1 93 = .ok (.bipush 11, 2) := by decide +kernel
theorem d_Mod_node1_95 : decode b_Mod_node1 95 = .ok (.if_icmp .ne 12, 3) := by decide +kernel
theorem d_Mod_node1_98 : decode b_Mod_node1 98 = .ok (.iload_n 3, 1) := by decide +kernel
theorem d_Mod_node1_99 : decode b_Mod_node1 99 = .ok (.iload 8, 2) := by decide +kernel
theorem d_Mod_node1_101 : decode b_Mod_node1 101 = .ok (.ishr, 1) := by decide +kernel
theorem d_Mod_node1_102 : decode b_Mod_node1 102 = .ok (.iconst 1, 1) := by decide +kernel
theorem d_Mod_node1_103 : decode b_Mod_node1 103 = .ok (.iand, 1) := by decide +kernel
theorem d_Mod_node1_104 : decode b_Mod_node1 104 = .ok (.goto 4, 3) := by decide +kernel
theorem d_Mod_node1_107 : decode b_Mod_node1 107 = .ok (.iconst 0, 1) := by decide +kernel
theorem d_Mod_node1_108 : decode b_Mod_node1 108 = .ok (.istore 9, 2) := by decide +kernel
theorem d_Mod_node1_110 : decode b_Mod_node1 110 = .ok (.iload_n 2, 1) := by decide +kernel
theorem d_Mod_node1_111 : decode b_Mod_node1 111 = .ok (.ifCond .ne 19, 3) := by decide +kernel
theorem d_Mod_node1_114 : decode b_Mod_node1 114 = .ok (.aload_n 0, 1) := by decide +kernel
theorem d_Mod_node1_115 : decode b_Mod_node1 115 = .ok (.getfield 43, 3) := by decide +kernel
theorem d_Mod_node1_118 : decode b_Mod_node1 118 = .ok (.bipush 8, 2) := by decide +kernel
theorem d_Mod_node1_120 : decode b_Mod_node1 120 = .ok (.iload_n 3, 1) := by decide +kernel
theorem d_Mod_node1_121 : decode b_Mod_node1 121 = .ok (.imul, 1) := by decide +kernel
theorem d_Mod_node1_122 : decode b_Mod_node1 122 = .ok (.iload 8, 2) := by decide +kernel
theorem d_Mod_node1_124 : decode b_Mod_node1 124 = .ok (.iadd, 1) := by decide +kernel
theorem d_Mod_node1_125 : decode b_Mod_node1 125 = .ok (.iaload, 1) := by decide +kernel
theorem d_Mod_node1_126 : decode b_Mod_node1 126 = .ok (.iconst 1, 1) := by decide +kernel
theorem d_Mod_node1_127 : decode b_Mod_node1 127 = .ok (.ixor, 1) := by decide +kernel
theorem d_Mod_node1_128 : decode b_Mod_node1 128 = .ok (.istore 9, 2) := by decide +kernel
theorem d_Mod_node1_130 : decode b_Mod_node1 130 = .ok (.iload_n 2, 1) := by decide +kernel
theorem d_Mod_node1_131 : decode b_Mod_node1 131 = .ok (.iconst 1, 1) := by decide +kernel
theorem d_Mod_node1_132 : decode b_Mod_node1 132 = .ok (.if_icmp .ne 24, 3) := by decide +kernel
theorem d_Mod_node1_135 : decode b_Mod_node1 135 = .ok (.aload_n 0, 1) := by decide +kernel
theorem d_Mod_node1_136 : decode b_Mod_node1 136 = .ok (.aload_n 0, 1) := by decide +kernel
theorem d_Mod_node1_137 : decode b_Mod_node1 137 = .ok (.iload_n 3, 1) := by decide +kernel
theorem d_Mod_node1_138 : decode b_Mod_node1 138 = .ok (.iload 8, 2) := by decide +kernel
theorem d_Mod_node1_140 : decode b_Mod_node1 140 = .ok (.invokevirtual 150, 3) := by decide +kernel
theorem d_Mod_node1_143 : decode b_Mod_node1 143 = .ok (.aload_n 0, 1) := by decide +kernel
theorem d_Mod_node1_144 : decode b_Mod_node1 144 = .ok (.iload 4, 2) := by decide +kernel
theorem d_Mod_node1_146 : decode b_Mod_node1 146 = .ok (.iload 8, 2) := by decide +kernel
theorem d_Mod_node1_148 : decode b_Mod_node1 148 = .ok (.invokevirtual 150, 3) := by decide +kernel
theorem d_Mod_node1_151 : decode b_Mod_node1 151 = .ok (.invokevirtual 136, 3) := by decide +kernel
theorem d_Mod_node1_154 : decode b_Mod_node1 154 = .ok (.istore 9, 2) := by decide +kernel
theorem d_Mod_node1_156 : decode b_Mod_node1 156 = .ok (.iload_n 2, 1) := by decide +kernel
theorem d_Mod_node1_157 : decode b_Mod_node1 157 = .ok (.iconst 2, 1) := by decide +kernel
theorem d_Mod_node1_158 : decode b_Mod_node1 158 = .ok (.if_icmp .ne 24, 3) := by decide +kernel
theorem d_Mod_node1_161 : decode b_Mod_node1 161 = .ok (.aload_n 0, 1) := by decide +kernel
theorem d_Mod_node1_162 : decode b_Mod_node1 162 = .ok (.aload_n 0, 1) := by decide +kernel
theorem d_Mod_node1_163 : decode b_Mod_node1 163 = .ok (.iload_n 3, 1) := by decide +kernel
theorem d_Mod_node1_164 : decode b_Mod_node1 164 = .ok (.iload 8, 2) := by decide +kernel
theorem d_Mod_node1_166 : decode b_Mod_node1 166 = .ok (.invokevirtual 150, 3) := by decide +kernel
theorem d_Mod_node1_169 : decode b_Mod_node1 169 = .ok (.aload_n 0, 1) := by decide +kernel
theorem d_Mod_node1_170 : decode b_Mod_node1 170 = .ok (.iload 4, 2) := by decide +kernel
theorem d_Mod_node1_172 : decode b_Mod_node1 172 = .ok (.iload 8, 2) := by decide +kernel
theorem d_Mod_node1_174 : decode b_Mod_node1 174 = .ok (.invokevirtual 150, 3) := by decide +kernel
theorem d_Mod_node1_177 : decode b_Mod_node1 177 = .ok (.invokevirtual 139, 3) := by decide +kernel
theorem d_Mod_node1_180 : decode b_Mod_node1 180 = .ok (.istore 9, 2) := by decide +kernel
theorem d_Mod_node1_182 : decode b_Mod_node1 182 = .ok (.iload_n 2, 1) := by decide +kernel
theorem d_Mod_node1_183 : decode b_Mod_node1 183 = .ok (.iconst 3, 1) := by decide +kernel
theorem d_Mod_node1_184 : decode b_Mod_node1 184 = .ok (.if_icmp .ne 24, 3) := by decide +kernel
theorem d_Mod_node1_187 : decode b_Mod_node1 187 = .ok (.aload_n 0, 1) := by decide +kernel
theorem d_Mod_node1_188 : decode b_Mod_node1 188 = .ok (.aload_n 0, 1) := by decide +kernel
theorem d_Mod_node1_189 : decode b_Mod_node1 189 = .ok (.iload_n 3, 1) := by decide +kernel
theorem d_Mod_node1_190 : decode b_Mod_node1 190 = .ok (.iload 8, 2) := by decide +kernel
theorem d_Mod_node1_192 : decode b_Mod_node1 192 = .ok (.invokevirtual 150, 3) := by decide +kernel
theorem d_Mod_node1_195 : decode b_Mod_node1 195 = .ok (.aload_n 0, 1) := by decide +kernel
theorem d_Mod_node1_196 : decode b_Mod_node1 196 = .ok (.iload 4, 2) := by decide +kernel
theorem d_Mod_node1_198 : decode b_Mod_node1 198 = .ok (.iload 8, 2) := by decide +kernel
theorem d_Mod_node1_200 : decode b_Mod_node1 200 = .ok (.invokevirtual 150, 3) := by decide +kernel
theorem d_Mod_node1_203 : decode b_Mod_node1 203 = .ok (.invokevirtual 159, 3) := by decide +kernel
theorem d_Mod_node1_206 : decode b_Mod_node1 206 = .ok (.istore 9, 2) := by decide +kernel
theorem d_Mod_node1_208 : decode b_Mod_node1 208 = .ok (.iload_n 2, 1) := by decide +kernel
theorem d_Mod_node1_209 : decode b_Mod_node1 209 = .ok (.iconst 4, 1) := by decide +kernel
theorem d_Mod_node1_210 : decode b_Mod_node1 210 = .ok (.if_icmp .ne 16, 3) := by decide +kernel
theorem d_Mod_node1_213 : decode b_Mod_node1 213 = .ok (.iload 8, 2) := by decide +kernel
theorem d_Mod_node1_215 : decode b_Mod_node1 215 = .ok (.iload 5, 2) := by decide +kernel
theorem d_Mod_node1_217 : decode b_Mod_node1 217 = .ok (.iconst 1, 1) := by decide +kernel
theorem d_Mod_node1_218 : decode b_Mod_node1 218 = .ok (.isub, 1) := by decide +kernel
theorem d_Mod_node1_219 : decode b_Mod_node1 219 = .ok (.if_icmp .ne 7, 3) := by decide +kernel
theorem d_Mod_node1_222 : decode b_Mod_node1 222 = .ok (.iload 6, 2) := by decide +kernel
theorem d_Mod_node1_224 : decode b_Mod_node1 224 = .ok (.istore 9, 2) := by decide +kernel
theorem d_Mod_node1_226 : decode b_Mod_node1 226 = .ok (.iload_n 2, 1) := by decide +kernel
theorem d_Mod_node1_227 : decode b_Mod_node1 227 = .ok (.iconst 4, 1) := by decide +kernel
theorem d_Mod_node1_228 : decode b_Mod_node1 228 = .ok (.if_icmp .ne 12, 3) := by decide +kernel
theorem d_Mod_node1_231 : decode b_Mod_node1 231 = .ok (.iload 8, 2) := by decide +kernel
theorem d_Mod_node1_233 : decode b_Mod_node1 233 = .ok (.iload 5, 2) := by decide +kernel
theorem d_Mod_node1_235 : decode b_Mod_node1 235 = .ok (.iconst 1, 1) := by decide +kernel
theorem d_Mod_node1_236 : decode b_Mod_node1 236 = .ok (.isub, 1) := by decide +kernel
theorem d_Mod_node1_237 : decode b_Mod_node1 237 = .ok (.if_icmp .lt 14, 3) := by decide +kernel
theorem d_Mod_node1_240 : decode b_Mod_node1 240 = .ok (.iload_n 2, 1) := by decide +kernel
theorem d_Mod_node1_241 : decode b_Mod_node1 241 = .ok (.iconst 5, 1) := by decide +kernel
theorem d_Mod_node1_242 : decode b_Mod_node1 242 = .ok (.if_icmp .eq 9, 3) := by decide +kernel
theorem d_Mod_node1_245 : decode b_Mod_node1 245 = .ok (.iload_n 2, 1) := by decide +kernel
theorem d_Mod_node1_246 : decode b_Mod_node1 246 = .ok (.bipush 7, 2) := by decide +kernel
theorem d_Mod_node1_248 : decode b_Mod_node1 248 = .ok (.if_icmp .ne 75, 3) := by decide +kernel
theorem d_Mod_node1_251 : decode b_Mod_node1 251 = .ok (.aload_n 0, 1) := by decide +kernel
theorem d_Mod_node1_252 : decode b_Mod_node1 252 = .ok (.iload_n 3, 1) := by decide +kernel
theorem d_Mod_node1_253 : decode b_Mod_node1 253 = .ok (.iload 8, 2) := by decide +kernel
theorem d_Mod_node1_255 : decode b_Mod_node1 255 = .ok (.invokevirtual 150, 3) := by decide +kernel
theorem d_Mod_node1_258 : decode b_Mod_node1 258 = .ok (.istore 10, 2) := by decide +kernel
theorem d_Mod_node1_260 : decode b_Mod_node1 260 = .ok (.aload_n 0, 1) := by decide +kernel
theorem d_Mod_node1_261 : decode b_Mod_node1 261 = .ok (.iload 4, 2) := by decide +kernel
theorem d_Mod_node1_263 : decode b_Mod_node1 263 = .ok (.iload 8, 2) := by decide +kernel
theorem d_Mod_node1_265 : decode b_Mod_node1 265 = .ok (.invokevirtual 150, 3) := by decide +kernel
theorem d_Mod_node1_268 : decode b_Mod_node1 268 = .ok (.iload_n 2, 1) := by decide +kernel
theorem d_Mod_node1_269 : decode b_Mod_node1 269 = .ok (.iconst 4, 1) := by decide +kernel
theorem d_Mod_node1_270 : decode b_Mod_node1 270 = .ok (.if_icmp .ne 7, 3) := by decide +kernel
theorem d_Mod_node1_273 : decode b_Mod_node1 273 = .ok (.iconst 0, 1) := by decide +kernel
theorem d_Mod_node1_274 : decode b_Mod_node1 274 = .ok (.goto 4, 3) := by decide +kernel
theorem d_Mod_node1_277 : decode b_Mod_node1 277 = .ok (.iconst 1, 1) := by decide +kernel
theorem d_Mod_node1_278 : decode b_Mod_node1 278 = .ok (.ixor, 1) := by decide +kernel
theorem d_Mod_node1_279 : decode b_Mod_node1 279 = .ok (.istore 11, 2) := by decide +kernel
theorem d_Mod_node1_281 : decode b_Mod_node1 281 = .ok (.aload_n 0, 1) := by decide +kernel
theorem d_Mod_node1_282 : decode b_Mod_node1 282 = .ok (.iload 10, 2) := by decide +kernel
theorem d_Mod_node1_284 : decode b_Mod_node1 284 = .ok (.iload 11, 2) := by decide +kernel
theorem d_Mod_node1_286 : decode b_Mod_node1 286 = .ok (.invokevirtual 159, 3) := by decide +kernel
theorem d_Mod_node1_289 : decode b_Mod_node1 289 = .ok (.istore 12, 2) := by decide +kernel
theorem d_Mod_node1_291 : decode b_Mod_node1 291 = .ok (.aload_n 0, 1) := by decide +kernel
theorem d_Mod_node1_292 : decode b_Mod_node1 292 = .ok (.iload 12, 2) := by decide +kernel
theorem d_Mod_node1_294 : decode b_Mod_node1 294 = .ok (.iload 6, 2) := by decide +kernel
theorem d_Mod_node1_296 : decode b_Mod_node1 296 = .ok (.invokevirtual 159, 3) := by decide +kernel
theorem d_Mod_node1_299 : decode b_Mod_node1 299 = .ok (.istore 9, 2) := by decide +kernel
theorem d_Mod_node1_301 : decode b_Mod_node1 301 = .ok (.aload_n 0, 1) := by decide +kernel
theorem d_Mod_node1_302 : decode b_Mod_node1 302 = .ok (.aload_n 0, 1) := by decide +kernel
theorem d_Mod_node1_303 : decode b_Mod_node1 303 = .ok (.iload 10, 2) := by decide +kernel
theorem d_Mod_node1_305 : decode b_Mod_node1 305 = .ok (.iload 11, 2) := by decide +kernel
theorem d_Mod_node1_307 : decode b_Mod_node1 307 = .ok (.invokevirtual 136, 3) := by decide +kernel
theorem d_Mod_node1_310 : decode b_Mod_node1 310 = .ok (.aload_n 0, 1) := by decide +kernel
theorem d_Mod_node1_311 : decode b_Mod_node1 311 = .ok (.iload 12, 2) := by decide +kernel
theorem d_Mod_node1_313 : decode b_Mod_node1 313 = .ok (.iload 6, 2) := by decide +kernel
theorem d_Mod_node1_315 : decode b_Mod_node1 315 = .ok (.invokevirtual 136, 3) := by decide +kernel
theorem d_Mod_node1_318 : decode b_Mod_node1 318 = .ok (.invokevirtual 139, 3) := by decide +kernel
theorem d_Mod_node1_321 : decode b_Mod_node1 321 = .ok (.istore 6, 2) := by decide +kernel
theorem d_Mod_node1_323 : decode b_Mod_node1 323 = .ok (.iload_n 2, 1) := by decide +kernel
theorem d_Mod_node1_324 : decode b_Mod_node1 324 = .ok (.bipush 6, 2) := by decide +kernel
theorem d_Mod_node1_326 : decode b_Mod_node1 326 = .ok (.if_icmp .ne 32, 3) := by decide +kernel
theorem d_Mod_node1_329 : decode b_Mod_node1 329 = .ok (.aload_n 0, 1) := by decide +kernel
theorem d_Mod_node1_330 : decode b_Mod_node1 330 = .ok (.iload 7, 2) := by decide +kernel
theorem d_Mod_node1_332 : decode b_Mod_node1 332 = .ok (.aload_n 0, 1) := by decide +kernel
theorem d_Mod_node1_333 : decode b_Mod_node1 333 = .ok (.aload_n 0, 1) := by decide +kernel
theorem d_Mod_node1_334 : decode b_Mod_node1 334 = .ok (.iload_n 3, 1) := by decide +kernel
theorem d_Mod_node1_335 : decode b_Mod_node1 335 = .ok (.iload 8, 2) := by decide +kernel
theorem d_Mod_node1_337 : decode b_Mod_node1 337 = .ok (.invokevirtual 150, 3) := by decide +kernel
theorem d_Mod_node1_340 : decode b_Mod_node1 340 = .ok (.aload_n 0, 1) := by decide +kernel
theorem d_Mod_node1_341 : decode b_Mod_node1 341 = .ok (.iload 4, 2) := by decide +kernel
theorem d_Mod_node1_343 : decode b_Mod_node1 343 = .ok (.iload 8, 2) := by decide +kernel
theorem d_Mod_node1_345 : decode b_Mod_node1 345 = .ok (.invokevirtual 150, 3) := by decide +kernel
theorem d_Mod_node1_348 : decode b_Mod_node1 348 = .ok (.invokevirtual 159, 3) := by decide +kernel
theorem d_Mod_node1_351 : decode b_Mod_node1 351 = .ok (.iconst 1, 1) := by decide +kernel
theorem d_Mod_node1_352 : decode b_Mod_node1 352 = .ok (.ixor, 1) := by decide +kernel
theorem d_Mod_node1_353 : decode b_Mod_node1 353 = .ok (.invokevirtual 136, 3) := by decide +kernel
theorem d_Mod_node1_356 : decode b_Mod_node1 356 = .ok (.istore 7, 2) := by decide +kernel
theorem d_Mod_node1_358 : decode b_Mod_node1 358 = .ok (.iload_n 2, 1) := by decide +kernel
theorem d_Mod_node1_359 : decode b_Mod_node1 359 = .ok (.bipush 8, 2) := by decide +kernel
theorem d_Mod_node1_361 : decode b_Mod_node1 361 = .ok (.if_icmp .ne 53, 3) := by decide +kernel
theorem d_Mod_node1_364 : decode b_Mod_node1 364 = .ok (.iload 8, 2) := by decide +kernel
theorem d_Mod_node1_366 : decode b_Mod_node1 366 = .ok (.aload_n 0, 1) := by decide +kernel
theorem d_Mod_node1_367 : decode b_Mod_node1 367 = .ok (.getfield 13, 3) := by decide +kernel
theorem d_Mod_node1_370 : decode b_Mod_node1 370 = .ok (.iload 4, 2) := by decide +kernel
theorem d_Mod_node1_372 : decode b_Mod_node1 372 = .ok (.iaload, 1) := by decide +kernel
theorem d_Mod_node1_373 : decode b_Mod_node1 373 = .ok (.if_icmp .ge 19, 3) := by decide +kernel
theorem d_Mod_node1_376 : decode b_Mod_node1 376 = .ok (.aload_n 0, 1) := by decide +kernel
theorem d_Mod_node1_377 : decode b_Mod_node1 377 = .ok (.getfield 43, 3) := by decide +kernel
theorem d_Mod_node1_380 : decode b_Mod_node1 380 = .ok (.bipush 8, 2) := by decide +kernel
theorem d_Mod_node1_382 : decode b_Mod_node1 382 = .ok (.iload 4, 2) := by decide +kernel
theorem d_Mod_node1_384 : decode b_Mod_node1 384 = .ok (.imul, 1) := by decide +kernel
theorem d_Mod_node1_385 : decode b_Mod_node1 385 = .ok (.iload 8, 2) := by decide +kernel
theorem d_Mod_node1_387 : decode b_Mod_node1 387 = .ok (.iadd, 1) := by decide +kernel
theorem d_Mod_node1_388 : decode b_Mod_node1 388 = .ok (.iaload, 1) := by decide +kernel
theorem d_Mod_node1_389 : decode b_Mod_node1 389 = .ok (.goto 23, 3) := by decide +kernel
theorem d_Mod_node1_392 : decode b_Mod_node1 392 = .ok (.aload_n 0, 1) := by decide +kernel
theorem d_Mod_node1_393 : decode b_Mod_node1 393 = .ok (.getfield 43, 3) := by decide +kernel
theorem d_Mod_node1_396 : decode b_Mod_node1 396 = .ok (.bipush 8, 2) := by decide +kernel
theorem d_Mod_node1_398 : decode b_Mod_node1 398 = .ok (.iload_n 3, 1) := by decide +kernel
theorem d_Mod_node1_399 : decode b_Mod_node1 399 = .ok (.imul, 1) := by decide +kernel
theorem d_Mod_node1_400 : decode b_Mod_node1 400 = .ok (.iload 8, 2) := by decide +kernel
theorem d_Mod_node1_402 : decode b_Mod_node1 402 = .ok (.iadd, 1) := by decide +kernel
theorem d_Mod_node1_403 : decode b_Mod_node1 403 = .ok (.aload_n 0, 1) := by decide +kernel
theorem d_Mod_node1_404 : decode b_Mod_node1 404 = .ok (.getfield 13, 3) := by decide +kernel
theorem d_Mod_node1_407 : decode b_Mod_node1 407 = .ok (.iload 4, 2) := by decide +kernel
theorem d_Mod_node1_409 : decode b_Mod_node1 409 = .ok (.iaload, 1) := by decide +kernel
theorem d_Mod_node1_410 : decode b_Mod_node1 410 = .ok (.isub, 1) := by decide +kernel
theorem d_Mod_node1_411 : decode b_Mod_node1 411 = .ok (.iaload, 1) := by decide +kernel
theorem d_Mod_node1_412 : decode b_Mod_node1 412 = .ok (.istore 9, 2) := by decide +kernel
theorem d_Mod_node1_414 : decode b_Mod_node1 414 = .ok (.iload_n 2, 1) := by decide +kernel
theorem d_Mod_node1_415 : decode b_Mod_node1 415 = .ok (.bipush 9, 2) := by decide +kernel
theorem d_Mod_node1_417 : decode b_Mod_node1 417 = .ok (.if_icmp .ne 20, 3) := by decide +kernel
theorem d_Mod_node1_420 : decode b_Mod_node1 420 = .ok (.aload_n 0, 1) := by decide +kernel
theorem d_Mod_node1_421 : decode b_Mod_node1 421 = .ok (.getfield 43, 3) := by decide +kernel
theorem d_Mod_node1_424 : decode b_Mod_node1 424 = .ok (.bipush 8, 2) := by decide +kernel
theorem d_Mod_node1_426 : decode b_Mod_node1 426 = .ok (.iload_n 3, 1) := by decide +kernel
theorem d_Mod_node1_427 : decode b_Mod_node1 427 = .ok (.imul, 1) := by decide +kernel
theorem d_Mod_node1_428 : decode b_Mod_node1 428 = .ok (.iload 4, 2) := by decide +kernel
theorem d_Mod_node1_430 : decode b_Mod_node1 430 = .ok (.iadd, 1) := by decide +kernel
theorem d_Mod_node1_431 : decode b_Mod_node1 431 = .ok (.iload 8, 2) := by decide +kernel
theorem d_Mod_node1_433 : decode b_Mod_node1 433 = .ok (.iadd, 1) := by decide +kernel
theorem d_Mod_node1_434 : decode b_Mod_node1 434 = .ok (.iaload, 1) := by decide +kernel
theorem d_Mod_node1_435 : decode b_Mod_node1 435 = .ok (.istore 9, 2) := by decide +kernel
theorem d_Mod_node1_437 : decode b_Mod_node1 437 = .ok (.iload_n 2, 1) := by decide +kernel
theorem d_Mod_node1_438 : decode b_Mod_node1 438 = .ok (.bipush 10, 2) := by decide +kernel
theorem d_Mod_node1_440 : decode b_Mod_node1 440 = .ok (.if_icmp .ne 38, 3) := by decide +kernel
theorem d_Mod_node1_443 : decode b_Mod_node1 443 = .ok (.aload_n 0, 1) := by decide +kernel
theorem d_Mod_node1_444 : decode b_Mod_node1 444 = .ok (.aload_n 0, 1) := by decide +kernel
theorem d_Mod_node1_445 : decode b_Mod_node1 445 = .ok (.getfield 43, 3) := by decide +kernel
theorem d_Mod_node1_448 : decode b_Mod_node1 448 = .ok (.bipush 8, 2) := by decide +kernel
theorem d_Mod_node1_450 : decode b_Mod_node1 450 = .ok (.iload_n 3, 1) := by decide +kernel
theorem d_Mod_node1_451 : decode b_Mod_node1 451 = .ok (.imul, 1) := by decide +kernel
theorem d_Mod_node1_452 : decode b_Mod_node1 452 = .ok (.iaload, 1) := by decide +kernel
theorem d_Mod_node1_453 : decode b_Mod_node1 453 = .ok (.aload_n 0, 1) := by decide +kernel
theorem d_Mod_node1_454 : decode b_Mod_node1 454 = .ok (.iload 4, 2) := by decide +kernel
theorem d_Mod_node1_456 : decode b_Mod_node1 456 = .ok (.iload 8, 2) := by decide +kernel
theorem d_Mod_node1_458 : decode b_Mod_node1 458 = .ok (.invokevirtual 150, 3) := by decide +kernel
theorem d_Mod_node1_461 : decode b_Mod_node1 461 = .ok (.aload_n 0, 1) := by decide +kernel
theorem d_Mod_node1_462 : decode b_Mod_node1 462 = .ok (.aload_n 0, 1) := by decide +kernel
theorem d_Mod_node1_463 : decode b_Mod_node1 463 = .ok (.getfield 28, 3) := by decide +kernel
theorem d_Mod_node1_466 : decode b_Mod_node1 466 = .ok (.iload_n 1, 1) := by decide +kernel
theorem d_Mod_node1_467 : decode b_Mod_node1 467 = .ok (.iaload, 1) := by decide +kernel
theorem d_Mod_node1_468 : decode b_Mod_node1 468 = .ok (.iload 8, 2) := by decide +kernel
theorem d_Mod_node1_470 : decode b_Mod_node1 470 = .ok (.invokevirtual 150, 3) := by decide +kernel
theorem d_Mod_node1_473 : decode b_Mod_node1 473 = .ok (.invokevirtual 156, 3) := by decide +kernel
theorem d_Mod_node1_476 : decode b_Mod_node1 476 = .ok (.istore 9, 2) := by decide +kernel
theorem d_Mod_node1_478 : decode b_Mod_node1 478 = .ok (.aload_n 0, 1) := by decide +kernel
theorem d_Mod_node1_479 : decode b_Mod_node1 479 = .ok (.getfield 43, 3) := by decide +kernel
theorem d_Mod_node1_482 : decode b_Mod_node1 482 = .ok (.bipush 8, 2) := by decide +kernel
theorem d_Mod_node1_484 : decode b_Mod_node1 484 = .ok (.iload_n 1, 1) := by decide +kernel
theorem d_Mod_node1_485 : decode b_Mod_node1 485 = .ok (.imul, 1) := by decide +kernel
theorem d_Mod_node1_486 : decode b_Mod_node1 486 = .ok (.iload 8, 2) := by decide +kernel
theorem d_Mod_node1_488 : decode b_Mod_node1 488 = .ok (.iadd, 1) := by decide +kernel
theorem d_Mod_node1_489 : decode b_Mod_node1 489 = .ok (.iload 9, 2) := by decide +kernel
theorem d_Mod_node1_491 : decode b_Mod_node1 491 = .ok (.iastore, 1) := by decide +kernel
theorem d_Mod_node1_492 : decode b_Mod_node1 492 = .ok (.iinc 8 1, 3) := by decide +kernel
theorem d_Mod_node1_495 : decode b_Mod_node1 495 = .ok (.goto (-410), 3) := by decide +kernel
theorem d_Mod_node1_498 : decode b_Mod_node1 498 = .ok (.iload_n 2, 1) := by decide +kernel
theorem d_Mod_node1_499 : decode b_Mod_node1 499 = .ok (.bipush 6, 2) := by decide +kernel
theorem d_Mod_node1_501 : decode b_Mod_node1 501 = .ok (.if_icmp .ne 14, 3) := by decide +kernel
theorem d_Mod_node1_504 : decode b_Mod_node1 504 = .ok (.aload_n 0, 1) := by decide +kernel
theorem d_Mod_node1_505 : decode b_Mod_node1 505 = .ok (.getfield 43, 3) := by decide +kernel
theorem d_Mod_node1_508 : decode b_Mod_node1 508 = .ok (.bipush 8, 2) := by decide +kernel
theorem d_Mod_node1_510 : decode b_Mod_node1 510 = .ok (.iload_n 1, 1) := by decide +kernel
theorem d_Mod_node1_511 : decode b_Mod_node1 511 = .ok (.imul, 1) := by decide +kernel
theorem d_Mod_node1_512 : decode b_Mod_node1 512 = .ok (.iload 7, 2) := by decide +kernel
theorem d_Mod_node1_514 : decode b_Mod_node1 514 = .ok (.iastore, 1) := by decide +kernel
theorem d_Mod_node1_515 : decode b_Mod_node1 515 = .ok (.iload_n 2, 1) := by decide +kernel
theorem d_Mod_node1_516 : decode b_Mod_node1 516 = .ok (.bipush 7, 2) := by decide +kernel
theorem d_Mod_node1_518 : decode b_Mod_node1 518 = .ok (.if_icmp .ne 16, 3) := by decide +kernel
theorem d_Mod_node1_521 : decode b_Mod_node1 521 = .ok (.aload_n 0, 1) := by decide +kernel
theorem d_Mod_node1_522 : decode b_Mod_node1 522 = .ok (.getfield 43, 3) := by decide +kernel
theorem d_Mod_node1_525 : decode b_Mod_node1 525 = .ok (.bipush 8, 2) := by decide +kernel
theorem d_Mod_node1_527 : decode b_Mod_node1 527 = .ok (.iload_n 1, 1) := by decide +kernel
theorem d_Mod_node1_528 : decode b_Mod_node1 528 = .ok (.imul, 1) := by decide +kernel
theorem d_Mod_node1_529 : decode b_Mod_node1 529 = .ok (.iload 6, 2) := by decide +kernel
theorem d_Mod_node1_531 : decode b_Mod_node1 531 = .ok (.iconst 1, 1) := by decide +kernel
theorem d_Mod_node1_532 : decode b_Mod_node1 532 = .ok (.ixor, 1) := by decide +kernel
theorem d_Mod_node1_533 : decode b_Mod_node1 533 = .ok (.iastore, 1) := by decide +kernel
theorem d_Mod_node1_534 : decode b_Mod_node1 534 = .ok (.return_, 1) := by decide +kernel
set_option maxHeartbeats 4000000 in
set_option maxRecDepth 100000 in
theorem c_Mod_node1o0 (l : Launch) (dC : Nat → ClassId) (dI : Nat → Nat → Nat) (cI cZ : ClassId) (a_mod a_mkind a_mwidth a_mreset a_mop a_mka a_mkb a_mkc a_mheld a_msort a_mof a_mfrom a_mbit a_mdone a_mrests a_mxx a_myy a_mdepth a_mone a_mbefore a_mfirst a_mturned : Nat) (tt sz : Nat) (mN : Nat) (mMs : Nat) (mG : Nat) (mCk : Nat) (mFw : Int32) (mRd : Nat) (mWd : Nat → Nat) (mOp : Nat → Int32) (mAa : Nat → Int32) (mAb : Nat → Int32) (mAc : Nat → Int32) (mBi : Nat → Nat) (mX : Nat → Nat) (mY : Nat → Nat) (mDe : Nat → Nat) (gd : Nat) (P : Nat → Nat) (Dp : Nat → Nat) (Sl : Nat → Nat) (T : Nat → Nat) (K : List Nat) (CB : Nat → Nat → Nat) (X : Nat) (S : Nat) (b_mN : mN ≤ 14) (b_mMs : mMs ≤ 20) (b_mG : mG ≤ 1280) (b_mRd : mRd ≤ 1) (b_mWd : ∀ j, mWd j < 9) (b_mBi : ∀ j, mBi j < 2786) (b_mX : ∀ j, mX j < 2786) (b_mY : ∀ j, mY j < 2786) (b_mDe : ∀ j, mDe j < 1400) (hN : NJ mG gd P Dp Sl T) (hXY : MXY mG mX mY mDe P Dp) (hAL : AL K T mG) (hS14 : S < 14) (hW1 : 1 ≤ mWd S) (hop : mOp S = nI 0) (hax : mAa S = nI X) (hx1 : X < 14 ∧ X ≠ S ∧ ∀ j, OKc T mG (lit mBi mWd X j) (CB X j)) (hws : mWd S = mWd X) (hgl : ∀ c, c ∈ ncL mWd CB 0 (mAa S) (mAb S) (mAc S) (mWd S) → c ∈ K) : Met l y_Mod_node1 w_Mod_node1 ({ frames := 6, cells := 0, slots := 0, locals := 200 }) (va_Pc [.ref a_mod, .int (nI S)] (PW (dC, dI) classes [(cI, .int), (cZ, .boolean)] tt [(a_mod, .inr (6, [.ref a_mkind, .ref a_mwidth, .ref a_mreset, .ref a_mop, .ref a_mka, .ref a_mkb, .ref a_mkc, .ref a_mheld, .int (nI mN), .ref a_msort, .ref a_mof, .ref a_mfrom, .int (nI mMs), .ref a_mbit, .ref a_mdone, .ref a_mrests, .ref a_mxx, .ref a_myy, .ref a_mdepth, .ref a_mone, .int (nI mG), .int (nI mCk), .int mFw, .int (nI mRd), .ref a_mbefore, .ref a_mfirst, .ref a_mturned])), (a_mwidth, .inl (cI, 14, .inl (nF mWd))), (a_mop, .inl (cI, 14, .inl mOp)), (a_mka, .inl (cI, 14, .inl mAa)), (a_mkb, .inl (cI, 14, .inl mAb)), (a_mkc, .inl (cI, 14, .inl mAc)), (a_mbit, .inl (cI, 224, .inl (nF mBi))), (a_mxx, .inl (cI, 2600, .inl (nF mX))), (a_myy, .inl (cI, 2600, .inl (nF mY))), (a_mdepth, .inl (cI, 2600, .inl (nF mDe)))] sz)) (va_Qv (fun (u : Nat × (Nat → Nat) × (Nat → Nat) × (Nat → Nat) × Nat × (Nat → Nat) × (Nat → Nat) × (Nat → Nat) × (Nat → Nat) × (Nat → Nat)) => (u.1 ≤ 1280) ∧ (∀ j, u.2.1 j < 2786) ∧ (∀ j, u.2.2.1 j < 2786) ∧ (∀ j, u.2.2.2.1 j < 1400) ∧ (∀ j, u.2.2.2.2.2.2.2.2.2 j < 2786) ∧ (NJ u.1 u.2.2.2.2.1 u.2.2.2.2.2.1 u.2.2.2.2.2.2.1 u.2.2.2.2.2.2.2.1 u.2.2.2.2.2.2.2.2.1) ∧ (MXY u.1 u.2.1 u.2.2.1 u.2.2.2.1 u.2.2.2.2.2.1 u.2.2.2.2.2.2.1) ∧ (AL K u.2.2.2.2.2.2.2.2.1 u.1) ∧ (ST T mG u.2.2.2.2.2.2.2.2.1 u.1 (ncL mWd CB 0 (mAa S) (mAb S) (mAc S) (mWd S))) ∧ (Out mBi u.2.2.2.2.2.2.2.2.2 S) ∧ (∀ j, j < mWd S → OKc u.2.2.2.2.2.2.2.2.1 u.1 (u.2.2.2.2.2.2.2.2.2 (8 * S + j)) (nc mWd CB 0 (mAa S) (mAb S) (mAc S) j))) (AT (dC, dI) classes [(cI, .int), (cZ, .boolean)] (va_A [(a_mod, .inr (6, [.ref a_mkind, .ref a_mwidth, .ref a_mreset, .ref a_mop, .ref a_mka, .ref a_mkb, .ref a_mkc, .ref a_mheld, .int (nI mN), .ref a_msort, .ref a_mof, .ref a_mfrom, .int (nI mMs), .ref a_mbit, .ref a_mdone, .ref a_mrests, .ref a_mxx, .ref a_myy, .ref a_mdepth, .ref a_mone, .int (nI mG), .int (nI mCk), .int mFw, .int (nI mRd), .ref a_mbefore, .ref a_mfirst, .ref a_mturned])), (a_mwidth, .inl (cI, 14, .inl (nF mWd))), (a_mop, .inl (cI, 14, .inl mOp)), (a_mka, .inl (cI, 14, .inl mAa)), (a_mkb, .inl (cI, 14, .inl mAb)), (a_mkc, .inl (cI, 14, .inl mAc)), (a_mbit, .inl (cI, 224, .inl (nF mBi))), (a_mxx, .inl (cI, 2600, .inl (nF mX))), (a_myy, .inl (cI, 2600, .inl (nF mY))), (a_mdepth, .inl (cI, 2600, .inl (nF mDe)))] sz) (fun (u : Nat × (Nat → Nat) × (Nat → Nat) × (Nat → Nat) × Nat × (Nat → Nat) × (Nat → Nat) × (Nat → Nat) × (Nat → Nat) × (Nat → Nat)) => [(a_mod, .inr (6, [.ref a_mkind, .ref a_mwidth, .ref a_mreset, .ref a_mop, .ref a_mka, .ref a_mkb, .ref a_mkc, .ref a_mheld, .int (nI mN), .ref a_msort, .ref a_mof, .ref a_mfrom, .int (nI mMs), .ref a_mbit, .ref a_mdone, .ref a_mrests, .ref a_mxx, .ref a_myy, .ref a_mdepth, .ref a_mone, .int (nI u.1), .int (nI mCk), .int mFw, .int (nI mRd), .ref a_mbefore, .ref a_mfirst, .ref a_mturned])), (a_mwidth, .inl (cI, 14, .inl (nF mWd))), (a_mop, .inl (cI, 14, .inl mOp)), (a_mka, .inl (cI, 14, .inl mAa)), (a_mkb, .inl (cI, 14, .inl mAb)), (a_mkc, .inl (cI, 14, .inl mAc)), (a_mbit, .inl (cI, 224, .inl (nF u.2.2.2.2.2.2.2.2.2))), (a_mxx, .inl (cI, 2600, .inl (nF u.2.1))), (a_myy, .inl (cI, 2600, .inl (nF u.2.2.1))), (a_mdepth, .inl (cI, 2600, .inl (nF u.2.2.2.1)))])) (va_A [(a_mod, .inr (6, [.ref a_mkind, .ref a_mwidth, .ref a_mreset, .ref a_mop, .ref a_mka, .ref a_mkb, .ref a_mkc, .ref a_mheld, .int (nI mN), .ref a_msort, .ref a_mof, .ref a_mfrom, .int (nI mMs), .ref a_mbit, .ref a_mdone, .ref a_mrests, .ref a_mxx, .ref a_myy, .ref a_mdepth, .ref a_mone, .int (nI mG), .int (nI mCk), .int mFw, .int (nI mRd), .ref a_mbefore, .ref a_mfirst, .ref a_mturned])), (a_mwidth, .inl (cI, 14, .inl (nF mWd))), (a_mop, .inl (cI, 14, .inl mOp)), (a_mka, .inl (cI, 14, .inl mAa)), (a_mkb, .inl (cI, 14, .inl mAb)), (a_mkc, .inl (cI, 14, .inl mAc)), (a_mbit, .inl (cI, 224, .inl (nF mBi))), (a_mxx, .inl (cI, 2600, .inl (nF mX))), (a_myy, .inl (cI, 2600, .inl (nF mY))), (a_mdepth, .inl (cI, 2600, .inl (nF mDe)))] sz)) 0 0 (va_A [(a_mod, .inr (6, [.ref a_mkind, .ref a_mwidth, .ref a_mreset, .ref a_mop, .ref a_mka, .ref a_mkb, .ref a_mkc, .ref a_mheld, .int (nI mN), .ref a_msort, .ref a_mof, .ref a_mfrom, .int (nI mMs), .ref a_mbit, .ref a_mdone, .ref a_mrests, .ref a_mxx, .ref a_myy, .ref a_mdepth, .ref a_mone, .int (nI mG), .int (nI mCk), .int mFw, .int (nI mRd), .ref a_mbefore, .ref a_mfirst, .ref a_mturned])), (a_mwidth, .inl (cI, 14, .inl (nF mWd))), (a_mop, .inl (cI, 14, .inl mOp)), (a_mka, .inl (cI, 14, .inl mAa)), (a_mkb, .inl (cI, 14, .inl mAb)), (a_mkc, .inl (cI, 14, .inl mAc)), (a_mbit, .inl (cI, 224, .inl (nF mBi))), (a_mxx, .inl (cI, 2600, .inl (nF mX))), (a_myy, .inl (cI, 2600, .inl (nF mY))), (a_mdepth, .inl (cI, 2600, .inl (nF mDe)))] sz) := by
  refine Met.ofW (cc := b_Mod_node1) (maxL := 13) (ret := none) (by decide) rfl ?_
  intro p e s m args below meth c s₁ B hml hv
  obtain ⟨rfl, hsz, hP, hK, hD0, hE⟩ := hv
  have hx := B.exec
  have hb := B.bytes
  have hr := B.returns
  have hts := atoms_spec (ws := w_Mod_node1) B.pre
  have hown : s.vm.findClass R_Mod = some m.cls := findClass_of_methodNamed B.named
  have hlocks := B.notSynchronized
  subst hsz
  have hD := hD0.self (sz := s.heap.size)
  generalize hAe : va_A [(a_mod, .inr (6, [.ref a_mkind, .ref a_mwidth, .ref a_mreset, .ref a_mop, .ref a_mka, .ref a_mkb, .ref a_mkc, .ref a_mheld, .int (nI mN), .ref a_msort, .ref a_mof, .ref a_mfrom, .int (nI mMs), .ref a_mbit, .ref a_mdone, .ref a_mrests, .ref a_mxx, .ref a_myy, .ref a_mdepth, .ref a_mone, .int (nI mG), .int (nI mCk), .int mFw, .int (nI mRd), .ref a_mbefore, .ref a_mfirst, .ref a_mturned])), (a_mwidth, .inl (cI, 14, .inl (nF mWd))), (a_mop, .inl (cI, 14, .inl mOp)), (a_mka, .inl (cI, 14, .inl mAa)), (a_mkb, .inl (cI, 14, .inl mAb)), (a_mkc, .inl (cI, 14, .inl mAc)), (a_mbit, .inl (cI, 224, .inl (nF mBi))), (a_mxx, .inl (cI, 2600, .inl (nF mX))), (a_myy, .inl (cI, 2600, .inl (nF mY))), (a_mdepth, .inl (cI, 2600, .inl (nF mDe)))] s.heap.size = A at hD hE ⊢
  have hA : ∀ q : Nat, s.heap.size ≤ q → A q := fun q h => by rw [← hAe]; exact Or.inr h
  have hS : va_S A s.heap s.heap [] := va_S.rf
  have hP : va_P (dC, dI) classes [(a_mod, .inr (6, [.ref a_mkind, .ref a_mwidth, .ref a_mreset, .ref a_mop, .ref a_mka, .ref a_mkb, .ref a_mkc, .ref a_mheld, .int (nI mN), .ref a_msort, .ref a_mof, .ref a_mfrom, .int (nI mMs), .ref a_mbit, .ref a_mdone, .ref a_mrests, .ref a_mxx, .ref a_myy, .ref a_mdepth, .ref a_mone, .int (nI mG), .int (nI mCk), .int mFw, .int (nI mRd), .ref a_mbefore, .ref a_mfirst, .ref a_mturned])), (a_mwidth, .inl (cI, 14, .inl (nF mWd))), (a_mop, .inl (cI, 14, .inl mOp)), (a_mka, .inl (cI, 14, .inl mAa)), (a_mkb, .inl (cI, 14, .inl mAb)), (a_mkc, .inl (cI, 14, .inl mAc)), (a_mbit, .inl (cI, 224, .inl (nF mBi))), (a_mxx, .inl (cI, 2600, .inl (nF mX))), (a_myy, .inl (cI, 2600, .inl (nF mY))), (a_mdepth, .inl (cI, 2600, .inl (nF mDe)))] s.heap := hP
  have hl := lv_entry ([.ref a_mod, .int (nI S)]) (n := 13) (Nat.le_of_ble_eq_true rfl)
  rw [lg_entry_eq]
  generalize (lg_sl ([.ref a_mod, .int (nI S)]) ++ List.replicate (13 - (lg_sl ([.ref a_mod, .int (nI S)])).length) Slot.unset).toArray = ls at hl ⊢
  have hl : lv_has ls 13 [(0, .ref a_mod), (1, .int (nI S))] := hl
  have eX : ix (mAa S) = X := ix_of hax (by omega)
  have hWs := b_mWd S
  have hWx := b_mWd X
  have eL : ncL mWd CB 0 (mAa S) (mAb S) (mAc S) (mWd S) = catL (fun j => []) (mWd S) := rfl
  have eV : ∀ j, nc mWd CB 0 (mAa S) (mAb S) (mAc S) j = op1 (CB X j) := fun j => by show op1 (CB (ix (mAa S)) j) = _; rw [eX]
  refine lv_aload_n hx hb d_Mod_node1_0 rfl (lv_at hl 0 rfl) ?_
  refine va_get (D := (dC, dI)) (ci := 6) (v := .ref a_mop) (C := R_Mod) (T := F_Mod) (N := 27) hx hb hts (wi i_Mod) hown hK hP 0 rfl rfl 3 (by decide) (hts _ (mt 545 rfl rfl)) (fun _ h9 => h9) rfl d_Mod_node1_1 ?_
  refine lv_iload_n hx hb d_Mod_node1_4 rfl (lv_at hl 1 rfl) ?_
  refine k_rld hx hb hK hP 2 0 rfl rfl (by omega) (by decide) d_Mod_node1_5 ?_
  refine k_top (show mOp S = nI 0 from hop) ?_
  refine lv_istore_n (lv' := [(2, .int (nI 0)), (0, .ref a_mod), (1, .int (nI S))]) hx hb d_Mod_node1_6 rfl hl (by decide) rfl (fun ls hl => ?_)
  refine lv_aload_n hx hb d_Mod_node1_7 rfl (lv_at hl 1 rfl) ?_
  refine va_get (D := (dC, dI)) (ci := 6) (v := .ref a_mka) (C := R_Mod) (T := F_Mod) (N := 27) hx hb hts (wi i_Mod) hown hK hP 0 rfl rfl 4 (by decide) (hts _ (mt 546 rfl rfl)) (fun _ h9 => h9) rfl d_Mod_node1_8 ?_
  refine lv_iload_n hx hb d_Mod_node1_11 rfl (lv_at hl 2 rfl) ?_
  refine k_rld hx hb hK hP 3 0 rfl rfl (by omega) (by decide) d_Mod_node1_12 ?_
  refine k_top (show mAa S = nI X from hax) ?_
  refine lv_istore_n (lv' := [(3, .int (nI X)), (2, .int (nI 0)), (0, .ref a_mod), (1, .int (nI S))]) hx hb d_Mod_node1_13 rfl hl (by decide) rfl (fun ls hl => ?_)
  refine lv_aload_n hx hb d_Mod_node1_14 rfl (lv_at hl 2 rfl) ?_
  refine va_get (D := (dC, dI)) (ci := 6) (v := .ref a_mkb) (C := R_Mod) (T := F_Mod) (N := 27) hx hb hts (wi i_Mod) hown hK hP 0 rfl rfl 5 (by decide) (hts _ (mt 547 rfl rfl)) (fun _ h9 => h9) rfl d_Mod_node1_15 ?_
  refine lv_iload_n hx hb d_Mod_node1_18 rfl (lv_at hl 3 rfl) ?_
  refine k_rld hx hb hK hP 4 0 rfl rfl (by omega) (by decide) d_Mod_node1_19 ?_
  refine lv_istore (lv' := [(4, .int (mAb S)), (3, .int (nI X)), (2, .int (nI 0)), (0, .ref a_mod), (1, .int (nI S))]) hx hb d_Mod_node1_20 hl (by decide) rfl (fun ls hl => ?_)
  refine lv_iload_n hx hb d_Mod_node1_22 rfl (lv_at hl 2 rfl) ?_
  refine lv_bipush (v := nI 6) hx hb d_Mod_node1_23 rfl ?_
  refine lv_icmp_eq (tgt := 34) hx hb d_Mod_node1_25 (by decide) (fun c25 => ?_) (fun c25 => ?_)
  · skip
    have c25 : 0 = 6 := (nI_eq (by omega) (by omega)).mp c25
    omega
  · skip
    have c25 : ¬ (0 = 6) := fun h => c25 ((nI_eq (by omega) (by omega)).mpr h)
    refine lv_iload_n hx hb d_Mod_node1_28 rfl (lv_at hl 2 rfl) ?_
    refine lv_bipush (v := nI 7) hx hb d_Mod_node1_29 rfl ?_
    refine lv_icmp_ne (tgt := 53) hx hb d_Mod_node1_31 (by decide) (fun c31 => ?_) (fun c31 => ?_)
    · skip
      have c31 : ¬ (0 = 7) := fun h => c31 ((nI_eq (by omega) (by omega)).mpr h)
      refine lv_aload_n hx hb d_Mod_node1_53 rfl (lv_at hl 3 rfl) ?_
      refine va_get (D := (dC, dI)) (ci := 6) (v := .ref a_mwidth) (C := R_Mod) (T := F_Mod) (N := 27) hx hb hts (wi i_Mod) hown hK hP 0 rfl rfl 1 (by decide) (hts _ (mt 543 rfl rfl)) (fun _ h9 => h9) rfl d_Mod_node1_54 ?_
      refine lv_iload_n hx hb d_Mod_node1_57 rfl (lv_at hl 4 rfl) ?_
      refine k_ild hx hb hK hP 1 0 rfl rfl (by omega) (by decide) d_Mod_node1_58 ?_
      have hb_1 := b_mWd S
      refine lv_istore (lv' := [(5, .int (nI (mWd S))), (4, .int (mAb S)), (3, .int (nI X)), (2, .int (nI 0)), (0, .ref a_mod), (1, .int (nI S))]) hx hb d_Mod_node1_59 hl (by decide) rfl (fun ls hl => ?_)
      refine lv_iload_n hx hb d_Mod_node1_61 rfl (lv_at hl 3 rfl) ?_
      refine lv_iconst (v := nI 5) hx hb d_Mod_node1_62 rfl ?_
      refine lv_icmp_eq (tgt := 72) hx hb d_Mod_node1_63 (by decide) (fun c63 => ?_) (fun c63 => ?_)
      · skip
        have c63 : 0 = 5 := (nI_eq (by omega) (by omega)).mp c63
        omega
      · skip
        have c63 : ¬ (0 = 5) := fun h => c63 ((nI_eq (by omega) (by omega)).mpr h)
        refine lv_iload_n hx hb d_Mod_node1_66 rfl (lv_at hl 3 rfl) ?_
        refine lv_bipush (v := nI 7) hx hb d_Mod_node1_67 rfl ?_
        refine lv_icmp_ne (tgt := 76) hx hb d_Mod_node1_69 (by decide) (fun c69 => ?_) (fun c69 => ?_)
        · skip
          have c69 : ¬ (0 = 7) := fun h => c69 ((nI_eq (by omega) (by omega)).mpr h)
          refine lv_iconst (v := nI 0) hx hb d_Mod_node1_76 rfl ?_
          refine lv_istore (lv' := [(6, .int (nI 0)), (5, .int (nI (mWd S))), (4, .int (mAb S)), (3, .int (nI X)), (2, .int (nI 0)), (0, .ref a_mod), (1, .int (nI S))]) hx hb d_Mod_node1_77 hl (by decide) rfl (fun ls hl => ?_)
          refine lv_iconst (v := nI 1) hx hb d_Mod_node1_79 rfl ?_
          refine lv_istore (lv' := [(7, .int (nI 1)), (6, .int (nI 0)), (5, .int (nI (mWd S))), (4, .int (mAb S)), (3, .int (nI X)), (2, .int (nI 0)), (0, .ref a_mod), (1, .int (nI S))]) hx hb d_Mod_node1_80 hl (by decide) rfl (fun ls hl => ?_)
          refine lv_iconst (v := nI 0) hx hb d_Mod_node1_82 rfl ?_
          refine lv_istore (lv' := [(8, .int (nI 0)), (7, .int (nI 1)), (6, .int (nI 0)), (5, .int (nI (mWd S))), (4, .int (mAb S)), (3, .int (nI X)), (2, .int (nI 0)), (0, .ref a_mod), (1, .int (nI S))]) hx hb d_Mod_node1_83 hl (by decide) rfl (fun ls hl => ?_)
          have hI_2 : (∀ j, mBi j < 2786) ∧ (Out mBi mBi S) ∧ (∀ j, j < 0 → OKc T mG (mBi (8 * S + j)) (op1 (CB X j))) ∧ (0 ≤ mWd S) := ⟨b_mBi, (Out_rf mBi S), (fun j h => absurd h (by omega)), (by omega)⟩
          refine k_loop (σ := Nat × (Nat → Nat)) (D := (dC, dI)) (cl := classes) (A := A) (H0 := s.heap) (fun x => [(a_mod, .inr (6, [.ref a_mkind, .ref a_mwidth, .ref a_mreset, .ref a_mop, .ref a_mka, .ref a_mkb, .ref a_mkc, .ref a_mheld, .int (nI mN), .ref a_msort, .ref a_mof, .ref a_mfrom, .int (nI mMs), .ref a_mbit, .ref a_mdone, .ref a_mrests, .ref a_mxx, .ref a_myy, .ref a_mdepth, .ref a_mone, .int (nI mG), .int (nI mCk), .int mFw, .int (nI mRd), .ref a_mbefore, .ref a_mfirst, .ref a_mturned])), (a_mwidth, .inl (cI, 14, .inl (nF mWd))), (a_mop, .inl (cI, 14, .inl mOp)), (a_mka, .inl (cI, 14, .inl mAa)), (a_mkb, .inl (cI, 14, .inl mAb)), (a_mkc, .inl (cI, 14, .inl mAc)), (a_mbit, .inl (cI, 224, .inl (nF x.2))), (a_mxx, .inl (cI, 2600, .inl (nF mX))), (a_myy, .inl (cI, 2600, .inl (nF mY))), (a_mdepth, .inl (cI, 2600, .inl (nF mDe)))]) (fun x => [(8, .int (nI x.1)), (7, .int (nI 1)), (6, .int (nI 0)), (5, .int (nI (mWd S))), (4, .int (mAb S)), (3, .int (nI X)), (2, .int (nI 0)), (0, .ref a_mod), (1, .int (nI S))]) (fun x => (∀ j, x.2 j < 2786) ∧ (Out mBi x.2 S) ∧ (∀ j, j < x.1 → OKc T mG (x.2 (8 * S + j)) (op1 (CB X j))) ∧ (x.1 ≤ mWd S)) (fun x => mWd S - x.1) ?_ (0, mBi) hI_2 hP hD hS (lv_sub hl [0, 1, 2, 3, 4, 5, 6, 7, 8] rfl)
          rintro ⟨b, B1⟩ hI ih_3 H locs ls hP hD hS hl
          obtain ⟨b_B1, hO1, hB1, hbw⟩ : (∀ j, B1 j < 2786) ∧ (Out mBi B1 S) ∧ (∀ j, j < b → OKc T mG (B1 (8 * S + j)) (op1 (CB X j))) ∧ (b ≤ mWd S) := hI
          have hP : va_P (dC, dI) classes [(a_mod, .inr (6, [.ref a_mkind, .ref a_mwidth, .ref a_mreset, .ref a_mop, .ref a_mka, .ref a_mkb, .ref a_mkc, .ref a_mheld, .int (nI mN), .ref a_msort, .ref a_mof, .ref a_mfrom, .int (nI mMs), .ref a_mbit, .ref a_mdone, .ref a_mrests, .ref a_mxx, .ref a_myy, .ref a_mdepth, .ref a_mone, .int (nI mG), .int (nI mCk), .int mFw, .int (nI mRd), .ref a_mbefore, .ref a_mfirst, .ref a_mturned])), (a_mwidth, .inl (cI, 14, .inl (nF mWd))), (a_mop, .inl (cI, 14, .inl mOp)), (a_mka, .inl (cI, 14, .inl mAa)), (a_mkb, .inl (cI, 14, .inl mAb)), (a_mkc, .inl (cI, 14, .inl mAc)), (a_mbit, .inl (cI, 224, .inl (nF B1))), (a_mxx, .inl (cI, 2600, .inl (nF mX))), (a_myy, .inl (cI, 2600, .inl (nF mY))), (a_mdepth, .inl (cI, 2600, .inl (nF mDe)))] H := hP
          have hD : va_D A [(a_mod, .inr (6, [.ref a_mkind, .ref a_mwidth, .ref a_mreset, .ref a_mop, .ref a_mka, .ref a_mkb, .ref a_mkc, .ref a_mheld, .int (nI mN), .ref a_msort, .ref a_mof, .ref a_mfrom, .int (nI mMs), .ref a_mbit, .ref a_mdone, .ref a_mrests, .ref a_mxx, .ref a_myy, .ref a_mdepth, .ref a_mone, .int (nI mG), .int (nI mCk), .int mFw, .int (nI mRd), .ref a_mbefore, .ref a_mfirst, .ref a_mturned])), (a_mwidth, .inl (cI, 14, .inl (nF mWd))), (a_mop, .inl (cI, 14, .inl mOp)), (a_mka, .inl (cI, 14, .inl mAa)), (a_mkb, .inl (cI, 14, .inl mAb)), (a_mkc, .inl (cI, 14, .inl mAc)), (a_mbit, .inl (cI, 224, .inl (nF B1))), (a_mxx, .inl (cI, 2600, .inl (nF mX))), (a_myy, .inl (cI, 2600, .inl (nF mY))), (a_mdepth, .inl (cI, 2600, .inl (nF mDe)))] := hD
          have hl : lv_has ls 13 [(8, .int (nI b)), (7, .int (nI 1)), (6, .int (nI 0)), (5, .int (nI (mWd S))), (4, .int (mAb S)), (3, .int (nI X)), (2, .int (nI 0)), (0, .ref a_mod), (1, .int (nI S))] := hl
          refine lv_iload hx hb d_Mod_node1_85 (lv_at hl 0 rfl) ?_
          refine lv_iload hx hb d_Mod_node1_87 (lv_at hl 3 rfl) ?_
          refine lv_icmp_ge (tgt := 498) hx hb d_Mod_node1_89 (by decide) (fun c89 => ?_) (fun c89 => ?_)
          · skip
            have c89 : (mWd S) ≤ b := (nI_leI (by omega) (by omega)).mp c89
            refine lv_iload_n hx hb d_Mod_node1_498 rfl (lv_at hl 6 rfl) ?_
            refine lv_bipush (v := nI 6) hx hb d_Mod_node1_499 rfl ?_
            refine lv_icmp_ne (tgt := 515) hx hb d_Mod_node1_501 (by decide) (fun c501 => ?_) (fun c501 => ?_)
            · skip
              have c501 : ¬ (0 = 6) := fun h => c501 ((nI_eq (by omega) (by omega)).mpr h)
              refine lv_iload_n hx hb d_Mod_node1_515 rfl (lv_at hl 6 rfl) ?_
              refine lv_bipush (v := nI 7) hx hb d_Mod_node1_516 rfl ?_
              refine lv_icmp_ne (tgt := 534) hx hb d_Mod_node1_518 (by decide) (fun c518 => ?_) (fun c518 => ?_)
              · skip
                have c518 : ¬ (0 = 7) := fun h => c518 ((nI_eq (by omega) (by omega)).mpr h)
                exact W.vret hx hb hr (fun t ht hW => ⟨⟨(mG, mX, mY, mDe, gd, P, Dp, Sl, T, B1), rfl, ⟨(show mG ≤ 1280 from by omega), b_mX, b_mY, b_mDe, b_B1, (show NJ mG gd P Dp Sl T from hN), (show MXY mG mX mY mDe P Dp from hXY), (show AL K T mG from hAL), (show ST T mG T mG (ncL mWd CB 0 (mAa S) (mAb S) (mAc S) (mWd S)) from ST_rf (by rw [eL]; exact catL_nil _)), (show Out mBi B1 S from hO1), (show ∀ j, j < mWd S → OKc T mG (B1 (8 * S + j)) (nc mWd CB 0 (mAa S) (mAb S) (mAc S) j) from fun j hj => by rw [eV]; exact hB1 j (by omega))⟩, by rw [ht]; exact hP, va_K.moved hW.alike hK, hD⟩, hS.F ht⟩) hS.2.2 d_Mod_node1_534
              · skip
                have c518 : 0 = 7 := (nI_eq (by omega) (by omega)).mp c518
                omega
            · skip
              have c501 : 0 = 6 := (nI_eq (by omega) (by omega)).mp c501
              omega
          · skip
            have c89 : ¬ ((mWd S) ≤ b) := fun h => c89 ((nI_leI (by omega) (by omega)).mpr h)
            refine lv_iload_n hx hb d_Mod_node1_92 rfl (lv_at hl 6 rfl) ?_
            refine lv_bipush (v := nI 11) hx hb d_Mod_node1_93 rfl ?_
            refine lv_icmp_ne (tgt := 107) hx hb d_Mod_node1_95 (by decide) (fun c95 => ?_) (fun c95 => ?_)
            · skip
              have c95 : ¬ (0 = 11) := fun h => c95 ((nI_eq (by omega) (by omega)).mpr h)
              refine lv_iconst (v := nI 0) hx hb d_Mod_node1_107 rfl ?_
              refine lv_istore (lv' := [(9, .int (nI 0)), (8, .int (nI b)), (7, .int (nI 1)), (6, .int (nI 0)), (5, .int (nI (mWd S))), (4, .int (mAb S)), (3, .int (nI X)), (2, .int (nI 0)), (0, .ref a_mod), (1, .int (nI S))]) hx hb d_Mod_node1_108 hl (by decide) rfl (fun ls hl => ?_)
              refine lv_iload_n hx hb d_Mod_node1_110 rfl (lv_at hl 7 rfl) ?_
              refine lv_if_ne (tgt := 130) hx hb d_Mod_node1_111 (by decide) (fun c111 => ?_) (fun c111 => ?_)
              · skip
                have c111 : ¬ (0 = 0) := fun h => c111 ((nI_eq0 (by omega)).mpr h)
                omega
              · skip
                have c111 : 0 = 0 := (nI_eq0 (by omega)).mp c111
                refine lv_aload_n hx hb d_Mod_node1_114 rfl (lv_at hl 8 rfl) ?_
                refine va_get (D := (dC, dI)) (ci := 6) (v := .ref a_mbit) (C := R_Mod) (T := F_Mod) (N := 27) hx hb hts (wi i_Mod) hown hK hP 0 rfl rfl 13 (by decide) (hts _ (mt 555 rfl rfl)) (fun _ h9 => h9) rfl d_Mod_node1_115 ?_
                refine lv_bipush (v := nI 8) hx hb d_Mod_node1_118 rfl ?_
                refine lv_iload_n hx hb d_Mod_node1_120 rfl (lv_at hl 6 rfl) ?_
                refine lv_imul hx hb d_Mod_node1_121 ?_
                refine k_top (pk_mul _ _) ?_
                refine lv_iload hx hb d_Mod_node1_122 (lv_at hl 1 rfl) ?_
                refine lv_iadd hx hb d_Mod_node1_124 ?_
                refine k_top (nI_add _ _) ?_
                refine k_ild hx hb hK hP 6 0 rfl rfl (by omega) (by decide) d_Mod_node1_125 ?_
                have hb_4 := b_B1 ((8 * X) + b)
                have h := hx1.2.2 (b)
                unfold lit at h
                rw [if_pos (show b < mWd X by omega), ← hO1 _ (by omega)] at h
                rw [show X * 8 + b = 8 * X + b by omega] at h
                have hl9 := OKc_op h
                have hl9b := hl9.1
                have hqb := h.1
                refine lv_iconst (v := nI 1) hx hb d_Mod_node1_126 rfl ?_
                refine lv_ixor hx hb d_Mod_node1_127 ?_
                refine k_top ((nI_xor _ _).trans (congrArg nI (xor_1 _))) ?_
                refine lv_istore (lv' := [(9, .int (nI (op1 (B1 ((8 * X) + b))))), (8, .int (nI b)), (7, .int (nI 1)), (6, .int (nI 0)), (5, .int (nI (mWd S))), (4, .int (mAb S)), (3, .int (nI X)), (2, .int (nI 0)), (0, .ref a_mod), (1, .int (nI S))]) hx hb d_Mod_node1_128 hl (by decide) rfl (fun ls hl => ?_)
                refine lv_iload_n hx hb d_Mod_node1_130 rfl (lv_at hl 7 rfl) ?_
                refine lv_iconst (v := nI 1) hx hb d_Mod_node1_131 rfl ?_
                refine lv_icmp_ne (tgt := 156) hx hb d_Mod_node1_132 (by decide) (fun c132 => ?_) (fun c132 => ?_)
                · skip
                  have c132 : ¬ (0 = 1) := fun h => c132 ((nI_eq (by omega) (by omega)).mpr h)
                  refine lv_iload_n hx hb d_Mod_node1_156 rfl (lv_at hl 7 rfl) ?_
                  refine lv_iconst (v := nI 2) hx hb d_Mod_node1_157 rfl ?_
                  refine lv_icmp_ne (tgt := 182) hx hb d_Mod_node1_158 (by decide) (fun c158 => ?_) (fun c158 => ?_)
                  · skip
                    have c158 : ¬ (0 = 2) := fun h => c158 ((nI_eq (by omega) (by omega)).mpr h)
                    refine lv_iload_n hx hb d_Mod_node1_182 rfl (lv_at hl 7 rfl) ?_
                    refine lv_iconst (v := nI 3) hx hb d_Mod_node1_183 rfl ?_
                    refine lv_icmp_ne (tgt := 208) hx hb d_Mod_node1_184 (by decide) (fun c184 => ?_) (fun c184 => ?_)
                    · skip
                      have c184 : ¬ (0 = 3) := fun h => c184 ((nI_eq (by omega) (by omega)).mpr h)
                      refine lv_iload_n hx hb d_Mod_node1_208 rfl (lv_at hl 7 rfl) ?_
                      refine lv_iconst (v := nI 4) hx hb d_Mod_node1_209 rfl ?_
                      refine lv_icmp_ne (tgt := 226) hx hb d_Mod_node1_210 (by decide) (fun c210 => ?_) (fun c210 => ?_)
                      · skip
                        have c210 : ¬ (0 = 4) := fun h => c210 ((nI_eq (by omega) (by omega)).mpr h)
                        refine lv_iload_n hx hb d_Mod_node1_226 rfl (lv_at hl 7 rfl) ?_
                        refine lv_iconst (v := nI 4) hx hb d_Mod_node1_227 rfl ?_
                        refine lv_icmp_ne (tgt := 240) hx hb d_Mod_node1_228 (by decide) (fun c228 => ?_) (fun c228 => ?_)
                        · skip
                          have c228 : ¬ (0 = 4) := fun h => c228 ((nI_eq (by omega) (by omega)).mpr h)
                          refine lv_iload_n hx hb d_Mod_node1_240 rfl (lv_at hl 7 rfl) ?_
                          refine lv_iconst (v := nI 5) hx hb d_Mod_node1_241 rfl ?_
                          refine lv_icmp_eq (tgt := 251) hx hb d_Mod_node1_242 (by decide) (fun c242 => ?_) (fun c242 => ?_)
                          · skip
                            have c242 : 0 = 5 := (nI_eq (by omega) (by omega)).mp c242
                            omega
                          · skip
                            have c242 : ¬ (0 = 5) := fun h => c242 ((nI_eq (by omega) (by omega)).mpr h)
                            refine lv_iload_n hx hb d_Mod_node1_245 rfl (lv_at hl 7 rfl) ?_
                            refine lv_bipush (v := nI 7) hx hb d_Mod_node1_246 rfl ?_
                            refine lv_icmp_ne (tgt := 323) hx hb d_Mod_node1_248 (by decide) (fun c248 => ?_) (fun c248 => ?_)
                            · skip
                              have c248 : ¬ (0 = 7) := fun h => c248 ((nI_eq (by omega) (by omega)).mpr h)
                              refine lv_iload_n hx hb d_Mod_node1_323 rfl (lv_at hl 7 rfl) ?_
                              refine lv_bipush (v := nI 6) hx hb d_Mod_node1_324 rfl ?_
                              refine lv_icmp_ne (tgt := 358) hx hb d_Mod_node1_326 (by decide) (fun c326 => ?_) (fun c326 => ?_)
                              · skip
                                have c326 : ¬ (0 = 6) := fun h => c326 ((nI_eq (by omega) (by omega)).mpr h)
                                refine lv_iload_n hx hb d_Mod_node1_358 rfl (lv_at hl 7 rfl) ?_
                                refine lv_bipush (v := nI 8) hx hb d_Mod_node1_359 rfl ?_
                                refine lv_icmp_ne (tgt := 414) hx hb d_Mod_node1_361 (by decide) (fun c361 => ?_) (fun c361 => ?_)
                                · skip
                                  have c361 : ¬ (0 = 8) := fun h => c361 ((nI_eq (by omega) (by omega)).mpr h)
                                  refine lv_iload_n hx hb d_Mod_node1_414 rfl (lv_at hl 7 rfl) ?_
                                  refine lv_bipush (v := nI 9) hx hb d_Mod_node1_415 rfl ?_
                                  refine lv_icmp_ne (tgt := 437) hx hb d_Mod_node1_417 (by decide) (fun c417 => ?_) (fun c417 => ?_)
                                  · skip
                                    have c417 : ¬ (0 = 9) := fun h => c417 ((nI_eq (by omega) (by omega)).mpr h)
                                    refine lv_iload_n hx hb d_Mod_node1_437 rfl (lv_at hl 7 rfl) ?_
                                    refine lv_bipush (v := nI 10) hx hb d_Mod_node1_438 rfl ?_
                                    refine lv_icmp_ne (tgt := 478) hx hb d_Mod_node1_440 (by decide) (fun c440 => ?_) (fun c440 => ?_)
                                    · skip
                                      have c440 : ¬ (0 = 10) := fun h => c440 ((nI_eq (by omega) (by omega)).mpr h)
                                      refine lv_aload_n hx hb d_Mod_node1_478 rfl (lv_at hl 8 rfl) ?_
                                      refine va_get (D := (dC, dI)) (ci := 6) (v := .ref a_mbit) (C := R_Mod) (T := F_Mod) (N := 27) hx hb hts (wi i_Mod) hown hK hP 0 rfl rfl 13 (by decide) (hts _ (mt 555 rfl rfl)) (fun _ h9 => h9) rfl d_Mod_node1_479 ?_
                                      refine lv_bipush (v := nI 8) hx hb d_Mod_node1_482 rfl ?_
                                      refine lv_iload_n hx hb d_Mod_node1_484 rfl (lv_at hl 9 rfl) ?_
                                      refine lv_imul hx hb d_Mod_node1_485 ?_
                                      refine k_top (pk_mul _ _) ?_
                                      refine lv_iload hx hb d_Mod_node1_486 (lv_at hl 1 rfl) ?_
                                      refine lv_iadd hx hb d_Mod_node1_488 ?_
                                      refine k_top (nI_add _ _) ?_
                                      refine lv_iload hx hb d_Mod_node1_489 (lv_at hl 0 rfl) ?_
                                      refine k_ist hx hb hK hP hD hS 6 0 rfl rfl (by omega) (by decide) d_Mod_node1_491 (fun H locs hP hD hS => ?_)
                                      have bb_5 : ∀ j, upN B1 ((8 * S) + b) (op1 (B1 ((8 * X) + b))) j < 2786 := upN_lt b_B1 (by omega)
                                      have hP : va_P (dC, dI) classes [(a_mod, .inr (6, [.ref a_mkind, .ref a_mwidth, .ref a_mreset, .ref a_mop, .ref a_mka, .ref a_mkb, .ref a_mkc, .ref a_mheld, .int (nI mN), .ref a_msort, .ref a_mof, .ref a_mfrom, .int (nI mMs), .ref a_mbit, .ref a_mdone, .ref a_mrests, .ref a_mxx, .ref a_myy, .ref a_mdepth, .ref a_mone, .int (nI mG), .int (nI mCk), .int mFw, .int (nI mRd), .ref a_mbefore, .ref a_mfirst, .ref a_mturned])), (a_mwidth, .inl (cI, 14, .inl (nF mWd))), (a_mop, .inl (cI, 14, .inl mOp)), (a_mka, .inl (cI, 14, .inl mAa)), (a_mkb, .inl (cI, 14, .inl mAb)), (a_mkc, .inl (cI, 14, .inl mAc)), (a_mbit, .inl (cI, 224, .inl (nF (upN B1 ((8 * S) + b) (op1 (B1 ((8 * X) + b))))))), (a_mxx, .inl (cI, 2600, .inl (nF mX))), (a_myy, .inl (cI, 2600, .inl (nF mY))), (a_mdepth, .inl (cI, 2600, .inl (nF mDe)))] H := hP
                                      have hD : va_D A [(a_mod, .inr (6, [.ref a_mkind, .ref a_mwidth, .ref a_mreset, .ref a_mop, .ref a_mka, .ref a_mkb, .ref a_mkc, .ref a_mheld, .int (nI mN), .ref a_msort, .ref a_mof, .ref a_mfrom, .int (nI mMs), .ref a_mbit, .ref a_mdone, .ref a_mrests, .ref a_mxx, .ref a_myy, .ref a_mdepth, .ref a_mone, .int (nI mG), .int (nI mCk), .int mFw, .int (nI mRd), .ref a_mbefore, .ref a_mfirst, .ref a_mturned])), (a_mwidth, .inl (cI, 14, .inl (nF mWd))), (a_mop, .inl (cI, 14, .inl mOp)), (a_mka, .inl (cI, 14, .inl mAa)), (a_mkb, .inl (cI, 14, .inl mAb)), (a_mkc, .inl (cI, 14, .inl mAc)), (a_mbit, .inl (cI, 224, .inl (nF (upN B1 ((8 * S) + b) (op1 (B1 ((8 * X) + b))))))), (a_mxx, .inl (cI, 2600, .inl (nF mX))), (a_myy, .inl (cI, 2600, .inl (nF mY))), (a_mdepth, .inl (cI, 2600, .inl (nF mDe)))] := hD
                                      refine lv_iinc (v := nI (b + 1)) (lv' := [(8, .int (nI (b + 1))), (9, .int (nI (op1 (B1 ((8 * X) + b))))), (7, .int (nI 1)), (6, .int (nI 0)), (5, .int (nI (mWd S))), (4, .int (mAb S)), (3, .int (nI X)), (2, .int (nI 0)), (0, .ref a_mod), (1, .int (nI S))]) hx hb d_Mod_node1_492 hl (k := 1) rfl (k_inc _ 1) (by decide) rfl (fun ls hl => ?_)
                                      refine lv_goto (tgt := 85) hx hb d_Mod_node1_495 (by decide) ?_
                                      have hI_6 : (∀ j, (upN B1 ((8 * S) + b) (op1 (B1 ((8 * X) + b)))) j < 2786) ∧ (Out mBi (upN B1 ((8 * S) + b) (op1 (B1 ((8 * X) + b)))) S) ∧ (∀ j, j < (b + 1) → OKc T mG ((upN B1 ((8 * S) + b) (op1 (B1 ((8 * X) + b)))) (8 * S + j)) (op1 (CB X j))) ∧ ((b + 1) ≤ mWd S) := ⟨bb_5, (Out_up8 hO1 (by omega)), (fun j hj => by
      by_cases e : j = b
      · rw [e, upN_self]; exact hl9
      · rw [upN_ne _ _ (by omega)]; exact hB1 j (by omega)), (by omega)⟩
                                      exact ih_3 (b + 1, upN B1 ((8 * S) + b) (op1 (B1 ((8 * X) + b)))) hI_6 (show mWd S - (b + 1) < mWd S - b from by omega) _ _ _ hP hD hS (lv_sub hl [0, 2, 3, 4, 5, 6, 7, 8, 9] rfl)
                                    · skip
                                      have c440 : 0 = 10 := (nI_eq (by omega) (by omega)).mp c440
                                      omega
                                  · skip
                                    have c417 : 0 = 9 := (nI_eq (by omega) (by omega)).mp c417
                                    omega
                                · skip
                                  have c361 : 0 = 8 := (nI_eq (by omega) (by omega)).mp c361
                                  omega
                              · skip
                                have c326 : 0 = 6 := (nI_eq (by omega) (by omega)).mp c326
                                omega
                            · skip
                              have c248 : 0 = 7 := (nI_eq (by omega) (by omega)).mp c248
                              omega
                        · skip
                          have c228 : 0 = 4 := (nI_eq (by omega) (by omega)).mp c228
                          omega
                      · skip
                        have c210 : 0 = 4 := (nI_eq (by omega) (by omega)).mp c210
                        omega
                    · skip
                      have c184 : 0 = 3 := (nI_eq (by omega) (by omega)).mp c184
                      omega
                  · skip
                    have c158 : 0 = 2 := (nI_eq (by omega) (by omega)).mp c158
                    omega
                · skip
                  have c132 : 0 = 1 := (nI_eq (by omega) (by omega)).mp c132
                  omega
            · skip
              have c95 : 0 = 11 := (nI_eq (by omega) (by omega)).mp c95
              omega
        · skip
          have c69 : 0 = 7 := (nI_eq (by omega) (by omega)).mp c69
          omega
    · skip
      have c31 : 0 = 7 := (nI_eq (by omega) (by omega)).mp c31
      omega
set_option maxHeartbeats 4000000 in
set_option maxRecDepth 100000 in
theorem c_Mod_node1o1 (l : Launch) (dC : Nat → ClassId) (dI : Nat → Nat → Nat) (cI cZ : ClassId) (a_mod a_mkind a_mwidth a_mreset a_mop a_mka a_mkb a_mkc a_mheld a_msort a_mof a_mfrom a_mbit a_mdone a_mrests a_mxx a_myy a_mdepth a_mone a_mbefore a_mfirst a_mturned : Nat) (tt sz : Nat) (mN : Nat) (mMs : Nat) (mG : Nat) (mCk : Nat) (mFw : Int32) (mRd : Nat) (mWd : Nat → Nat) (mOp : Nat → Int32) (mAa : Nat → Int32) (mAb : Nat → Int32) (mAc : Nat → Int32) (mBi : Nat → Nat) (mX : Nat → Nat) (mY : Nat → Nat) (mDe : Nat → Nat) (gd : Nat) (P : Nat → Nat) (Dp : Nat → Nat) (Sl : Nat → Nat) (T : Nat → Nat) (K : List Nat) (CB : Nat → Nat → Nat) (X : Nat) (Y : Nat) (S : Nat) (b_mN : mN ≤ 14) (b_mMs : mMs ≤ 20) (b_mG : mG ≤ 1280) (b_mRd : mRd ≤ 1) (b_mWd : ∀ j, mWd j < 9) (b_mBi : ∀ j, mBi j < 2786) (b_mX : ∀ j, mX j < 2786) (b_mY : ∀ j, mY j < 2786) (b_mDe : ∀ j, mDe j < 1400) (hN : NJ mG gd P Dp Sl T) (hXY : MXY mG mX mY mDe P Dp) (hAL : AL K T mG) (hS14 : S < 14) (hW1 : 1 ≤ mWd S) (hop : mOp S = nI 1) (hax : mAa S = nI X) (hx1 : X < 14 ∧ X ≠ S ∧ ∀ j, OKc T mG (lit mBi mWd X j) (CB X j)) (hay : mAb S = nI Y) (hy1 : Y < 14 ∧ Y ≠ S ∧ ∀ j, OKc T mG (lit mBi mWd Y j) (CB Y j)) (hgl : ∀ c, c ∈ ncL mWd CB 1 (mAa S) (mAb S) (mAc S) (mWd S) → c ∈ K) : Met l y_Mod_node1 w_Mod_node1 ({ frames := 6, cells := 0, slots := 0, locals := 200 }) (va_Pc [.ref a_mod, .int (nI S)] (PW (dC, dI) classes [(cI, .int), (cZ, .boolean)] tt [(a_mod, .inr (6, [.ref a_mkind, .ref a_mwidth, .ref a_mreset, .ref a_mop, .ref a_mka, .ref a_mkb, .ref a_mkc, .ref a_mheld, .int (nI mN), .ref a_msort, .ref a_mof, .ref a_mfrom, .int (nI mMs), .ref a_mbit, .ref a_mdone, .ref a_mrests, .ref a_mxx, .ref a_myy, .ref a_mdepth, .ref a_mone, .int (nI mG), .int (nI mCk), .int mFw, .int (nI mRd), .ref a_mbefore, .ref a_mfirst, .ref a_mturned])), (a_mwidth, .inl (cI, 14, .inl (nF mWd))), (a_mop, .inl (cI, 14, .inl mOp)), (a_mka, .inl (cI, 14, .inl mAa)), (a_mkb, .inl (cI, 14, .inl mAb)), (a_mkc, .inl (cI, 14, .inl mAc)), (a_mbit, .inl (cI, 224, .inl (nF mBi))), (a_mxx, .inl (cI, 2600, .inl (nF mX))), (a_myy, .inl (cI, 2600, .inl (nF mY))), (a_mdepth, .inl (cI, 2600, .inl (nF mDe)))] sz)) (va_Qv (fun (u : Nat × (Nat → Nat) × (Nat → Nat) × (Nat → Nat) × Nat × (Nat → Nat) × (Nat → Nat) × (Nat → Nat) × (Nat → Nat) × (Nat → Nat)) => (u.1 ≤ 1280) ∧ (∀ j, u.2.1 j < 2786) ∧ (∀ j, u.2.2.1 j < 2786) ∧ (∀ j, u.2.2.2.1 j < 1400) ∧ (∀ j, u.2.2.2.2.2.2.2.2.2 j < 2786) ∧ (NJ u.1 u.2.2.2.2.1 u.2.2.2.2.2.1 u.2.2.2.2.2.2.1 u.2.2.2.2.2.2.2.1 u.2.2.2.2.2.2.2.2.1) ∧ (MXY u.1 u.2.1 u.2.2.1 u.2.2.2.1 u.2.2.2.2.2.1 u.2.2.2.2.2.2.1) ∧ (AL K u.2.2.2.2.2.2.2.2.1 u.1) ∧ (ST T mG u.2.2.2.2.2.2.2.2.1 u.1 (ncL mWd CB 1 (mAa S) (mAb S) (mAc S) (mWd S))) ∧ (Out mBi u.2.2.2.2.2.2.2.2.2 S) ∧ (∀ j, j < mWd S → OKc u.2.2.2.2.2.2.2.2.1 u.1 (u.2.2.2.2.2.2.2.2.2 (8 * S + j)) (nc mWd CB 1 (mAa S) (mAb S) (mAc S) j))) (AT (dC, dI) classes [(cI, .int), (cZ, .boolean)] (va_A [(a_mod, .inr (6, [.ref a_mkind, .ref a_mwidth, .ref a_mreset, .ref a_mop, .ref a_mka, .ref a_mkb, .ref a_mkc, .ref a_mheld, .int (nI mN), .ref a_msort, .ref a_mof, .ref a_mfrom, .int (nI mMs), .ref a_mbit, .ref a_mdone, .ref a_mrests, .ref a_mxx, .ref a_myy, .ref a_mdepth, .ref a_mone, .int (nI mG), .int (nI mCk), .int mFw, .int (nI mRd), .ref a_mbefore, .ref a_mfirst, .ref a_mturned])), (a_mwidth, .inl (cI, 14, .inl (nF mWd))), (a_mop, .inl (cI, 14, .inl mOp)), (a_mka, .inl (cI, 14, .inl mAa)), (a_mkb, .inl (cI, 14, .inl mAb)), (a_mkc, .inl (cI, 14, .inl mAc)), (a_mbit, .inl (cI, 224, .inl (nF mBi))), (a_mxx, .inl (cI, 2600, .inl (nF mX))), (a_myy, .inl (cI, 2600, .inl (nF mY))), (a_mdepth, .inl (cI, 2600, .inl (nF mDe)))] sz) (fun (u : Nat × (Nat → Nat) × (Nat → Nat) × (Nat → Nat) × Nat × (Nat → Nat) × (Nat → Nat) × (Nat → Nat) × (Nat → Nat) × (Nat → Nat)) => [(a_mod, .inr (6, [.ref a_mkind, .ref a_mwidth, .ref a_mreset, .ref a_mop, .ref a_mka, .ref a_mkb, .ref a_mkc, .ref a_mheld, .int (nI mN), .ref a_msort, .ref a_mof, .ref a_mfrom, .int (nI mMs), .ref a_mbit, .ref a_mdone, .ref a_mrests, .ref a_mxx, .ref a_myy, .ref a_mdepth, .ref a_mone, .int (nI u.1), .int (nI mCk), .int mFw, .int (nI mRd), .ref a_mbefore, .ref a_mfirst, .ref a_mturned])), (a_mwidth, .inl (cI, 14, .inl (nF mWd))), (a_mop, .inl (cI, 14, .inl mOp)), (a_mka, .inl (cI, 14, .inl mAa)), (a_mkb, .inl (cI, 14, .inl mAb)), (a_mkc, .inl (cI, 14, .inl mAc)), (a_mbit, .inl (cI, 224, .inl (nF u.2.2.2.2.2.2.2.2.2))), (a_mxx, .inl (cI, 2600, .inl (nF u.2.1))), (a_myy, .inl (cI, 2600, .inl (nF u.2.2.1))), (a_mdepth, .inl (cI, 2600, .inl (nF u.2.2.2.1)))])) (va_A [(a_mod, .inr (6, [.ref a_mkind, .ref a_mwidth, .ref a_mreset, .ref a_mop, .ref a_mka, .ref a_mkb, .ref a_mkc, .ref a_mheld, .int (nI mN), .ref a_msort, .ref a_mof, .ref a_mfrom, .int (nI mMs), .ref a_mbit, .ref a_mdone, .ref a_mrests, .ref a_mxx, .ref a_myy, .ref a_mdepth, .ref a_mone, .int (nI mG), .int (nI mCk), .int mFw, .int (nI mRd), .ref a_mbefore, .ref a_mfirst, .ref a_mturned])), (a_mwidth, .inl (cI, 14, .inl (nF mWd))), (a_mop, .inl (cI, 14, .inl mOp)), (a_mka, .inl (cI, 14, .inl mAa)), (a_mkb, .inl (cI, 14, .inl mAb)), (a_mkc, .inl (cI, 14, .inl mAc)), (a_mbit, .inl (cI, 224, .inl (nF mBi))), (a_mxx, .inl (cI, 2600, .inl (nF mX))), (a_myy, .inl (cI, 2600, .inl (nF mY))), (a_mdepth, .inl (cI, 2600, .inl (nF mDe)))] sz)) 0 0 (va_A [(a_mod, .inr (6, [.ref a_mkind, .ref a_mwidth, .ref a_mreset, .ref a_mop, .ref a_mka, .ref a_mkb, .ref a_mkc, .ref a_mheld, .int (nI mN), .ref a_msort, .ref a_mof, .ref a_mfrom, .int (nI mMs), .ref a_mbit, .ref a_mdone, .ref a_mrests, .ref a_mxx, .ref a_myy, .ref a_mdepth, .ref a_mone, .int (nI mG), .int (nI mCk), .int mFw, .int (nI mRd), .ref a_mbefore, .ref a_mfirst, .ref a_mturned])), (a_mwidth, .inl (cI, 14, .inl (nF mWd))), (a_mop, .inl (cI, 14, .inl mOp)), (a_mka, .inl (cI, 14, .inl mAa)), (a_mkb, .inl (cI, 14, .inl mAb)), (a_mkc, .inl (cI, 14, .inl mAc)), (a_mbit, .inl (cI, 224, .inl (nF mBi))), (a_mxx, .inl (cI, 2600, .inl (nF mX))), (a_myy, .inl (cI, 2600, .inl (nF mY))), (a_mdepth, .inl (cI, 2600, .inl (nF mDe)))] sz) := by
  refine Met.ofW (cc := b_Mod_node1) (maxL := 13) (ret := none) (by decide) rfl ?_
  intro p e s m args below meth c s₁ B hml hv
  obtain ⟨rfl, hsz, hP, hK, hD0, hE⟩ := hv
  have hx := B.exec
  have hb := B.bytes
  have hr := B.returns
  have hts := atoms_spec (ws := w_Mod_node1) B.pre
  have hown : s.vm.findClass R_Mod = some m.cls := findClass_of_methodNamed B.named
  have hlocks := B.notSynchronized
  subst hsz
  have hD := hD0.self (sz := s.heap.size)
  generalize hAe : va_A [(a_mod, .inr (6, [.ref a_mkind, .ref a_mwidth, .ref a_mreset, .ref a_mop, .ref a_mka, .ref a_mkb, .ref a_mkc, .ref a_mheld, .int (nI mN), .ref a_msort, .ref a_mof, .ref a_mfrom, .int (nI mMs), .ref a_mbit, .ref a_mdone, .ref a_mrests, .ref a_mxx, .ref a_myy, .ref a_mdepth, .ref a_mone, .int (nI mG), .int (nI mCk), .int mFw, .int (nI mRd), .ref a_mbefore, .ref a_mfirst, .ref a_mturned])), (a_mwidth, .inl (cI, 14, .inl (nF mWd))), (a_mop, .inl (cI, 14, .inl mOp)), (a_mka, .inl (cI, 14, .inl mAa)), (a_mkb, .inl (cI, 14, .inl mAb)), (a_mkc, .inl (cI, 14, .inl mAc)), (a_mbit, .inl (cI, 224, .inl (nF mBi))), (a_mxx, .inl (cI, 2600, .inl (nF mX))), (a_myy, .inl (cI, 2600, .inl (nF mY))), (a_mdepth, .inl (cI, 2600, .inl (nF mDe)))] s.heap.size = A at hD hE ⊢
  have hA : ∀ q : Nat, s.heap.size ≤ q → A q := fun q h => by rw [← hAe]; exact Or.inr h
  have hS : va_S A s.heap s.heap [] := va_S.rf
  have hP : va_P (dC, dI) classes [(a_mod, .inr (6, [.ref a_mkind, .ref a_mwidth, .ref a_mreset, .ref a_mop, .ref a_mka, .ref a_mkb, .ref a_mkc, .ref a_mheld, .int (nI mN), .ref a_msort, .ref a_mof, .ref a_mfrom, .int (nI mMs), .ref a_mbit, .ref a_mdone, .ref a_mrests, .ref a_mxx, .ref a_myy, .ref a_mdepth, .ref a_mone, .int (nI mG), .int (nI mCk), .int mFw, .int (nI mRd), .ref a_mbefore, .ref a_mfirst, .ref a_mturned])), (a_mwidth, .inl (cI, 14, .inl (nF mWd))), (a_mop, .inl (cI, 14, .inl mOp)), (a_mka, .inl (cI, 14, .inl mAa)), (a_mkb, .inl (cI, 14, .inl mAb)), (a_mkc, .inl (cI, 14, .inl mAc)), (a_mbit, .inl (cI, 224, .inl (nF mBi))), (a_mxx, .inl (cI, 2600, .inl (nF mX))), (a_myy, .inl (cI, 2600, .inl (nF mY))), (a_mdepth, .inl (cI, 2600, .inl (nF mDe)))] s.heap := hP
  have hl := lv_entry ([.ref a_mod, .int (nI S)]) (n := 13) (Nat.le_of_ble_eq_true rfl)
  rw [lg_entry_eq]
  generalize (lg_sl ([.ref a_mod, .int (nI S)]) ++ List.replicate (13 - (lg_sl ([.ref a_mod, .int (nI S)])).length) Slot.unset).toArray = ls at hl ⊢
  have hl : lv_has ls 13 [(0, .ref a_mod), (1, .int (nI S))] := hl
  have eX : ix (mAa S) = X := ix_of hax (by omega)
  have eY : ix (mAb S) = Y := ix_of hay (by have := b_mWd X; omega)
  have hWs := b_mWd S
  have hWx := b_mWd X
  have hWy := b_mWd Y
  have eL : ncL mWd CB 1 (mAa S) (mAb S) (mAc S) (mWd S) = catL (fun j => jl (CB X j) (CB Y j)) (mWd S) := by show catL (fun j => jl (CB (ix (mAa S)) j) (CB (ix (mAb S)) j)) (mWd S) = _; rw [eX, eY]
  have eV : ∀ j, nc mWd CB 1 (mAa S) (mAb S) (mAc S) j = jn (CB X j) (CB Y j) := fun j => by show jn (CB (ix (mAa S)) j) (CB (ix (mAb S)) j) = _; rw [eX, eY]
  refine lv_aload_n hx hb d_Mod_node1_0 rfl (lv_at hl 0 rfl) ?_
  refine va_get (D := (dC, dI)) (ci := 6) (v := .ref a_mop) (C := R_Mod) (T := F_Mod) (N := 27) hx hb hts (wi i_Mod) hown hK hP 0 rfl rfl 3 (by decide) (hts _ (mt 545 rfl rfl)) (fun _ h9 => h9) rfl d_Mod_node1_1 ?_
  refine lv_iload_n hx hb d_Mod_node1_4 rfl (lv_at hl 1 rfl) ?_
  refine k_rld hx hb hK hP 2 0 rfl rfl (by omega) (by decide) d_Mod_node1_5 ?_
  refine k_top (show mOp S = nI 1 from hop) ?_
  refine lv_istore_n (lv' := [(2, .int (nI 1)), (0, .ref a_mod), (1, .int (nI S))]) hx hb d_Mod_node1_6 rfl hl (by decide) rfl (fun ls hl => ?_)
  refine lv_aload_n hx hb d_Mod_node1_7 rfl (lv_at hl 1 rfl) ?_
  refine va_get (D := (dC, dI)) (ci := 6) (v := .ref a_mka) (C := R_Mod) (T := F_Mod) (N := 27) hx hb hts (wi i_Mod) hown hK hP 0 rfl rfl 4 (by decide) (hts _ (mt 546 rfl rfl)) (fun _ h9 => h9) rfl d_Mod_node1_8 ?_
  refine lv_iload_n hx hb d_Mod_node1_11 rfl (lv_at hl 2 rfl) ?_
  refine k_rld hx hb hK hP 3 0 rfl rfl (by omega) (by decide) d_Mod_node1_12 ?_
  refine k_top (show mAa S = nI X from hax) ?_
  refine lv_istore_n (lv' := [(3, .int (nI X)), (2, .int (nI 1)), (0, .ref a_mod), (1, .int (nI S))]) hx hb d_Mod_node1_13 rfl hl (by decide) rfl (fun ls hl => ?_)
  refine lv_aload_n hx hb d_Mod_node1_14 rfl (lv_at hl 2 rfl) ?_
  refine va_get (D := (dC, dI)) (ci := 6) (v := .ref a_mkb) (C := R_Mod) (T := F_Mod) (N := 27) hx hb hts (wi i_Mod) hown hK hP 0 rfl rfl 5 (by decide) (hts _ (mt 547 rfl rfl)) (fun _ h9 => h9) rfl d_Mod_node1_15 ?_
  refine lv_iload_n hx hb d_Mod_node1_18 rfl (lv_at hl 3 rfl) ?_
  refine k_rld hx hb hK hP 4 0 rfl rfl (by omega) (by decide) d_Mod_node1_19 ?_
  refine k_top (show mAb S = nI Y from hay) ?_
  refine lv_istore (lv' := [(4, .int (nI Y)), (3, .int (nI X)), (2, .int (nI 1)), (0, .ref a_mod), (1, .int (nI S))]) hx hb d_Mod_node1_20 hl (by decide) rfl (fun ls hl => ?_)
  refine lv_iload_n hx hb d_Mod_node1_22 rfl (lv_at hl 2 rfl) ?_
  refine lv_bipush (v := nI 6) hx hb d_Mod_node1_23 rfl ?_
  refine lv_icmp_eq (tgt := 34) hx hb d_Mod_node1_25 (by decide) (fun c25 => ?_) (fun c25 => ?_)
  · skip
    have c25 : 1 = 6 := (nI_eq (by omega) (by omega)).mp c25
    omega
  · skip
    have c25 : ¬ (1 = 6) := fun h => c25 ((nI_eq (by omega) (by omega)).mpr h)
    refine lv_iload_n hx hb d_Mod_node1_28 rfl (lv_at hl 2 rfl) ?_
    refine lv_bipush (v := nI 7) hx hb d_Mod_node1_29 rfl ?_
    refine lv_icmp_ne (tgt := 53) hx hb d_Mod_node1_31 (by decide) (fun c31 => ?_) (fun c31 => ?_)
    · skip
      have c31 : ¬ (1 = 7) := fun h => c31 ((nI_eq (by omega) (by omega)).mpr h)
      refine lv_aload_n hx hb d_Mod_node1_53 rfl (lv_at hl 3 rfl) ?_
      refine va_get (D := (dC, dI)) (ci := 6) (v := .ref a_mwidth) (C := R_Mod) (T := F_Mod) (N := 27) hx hb hts (wi i_Mod) hown hK hP 0 rfl rfl 1 (by decide) (hts _ (mt 543 rfl rfl)) (fun _ h9 => h9) rfl d_Mod_node1_54 ?_
      refine lv_iload_n hx hb d_Mod_node1_57 rfl (lv_at hl 4 rfl) ?_
      refine k_ild hx hb hK hP 1 0 rfl rfl (by omega) (by decide) d_Mod_node1_58 ?_
      have hb_1 := b_mWd S
      refine lv_istore (lv' := [(5, .int (nI (mWd S))), (4, .int (nI Y)), (3, .int (nI X)), (2, .int (nI 1)), (0, .ref a_mod), (1, .int (nI S))]) hx hb d_Mod_node1_59 hl (by decide) rfl (fun ls hl => ?_)
      refine lv_iload_n hx hb d_Mod_node1_61 rfl (lv_at hl 3 rfl) ?_
      refine lv_iconst (v := nI 5) hx hb d_Mod_node1_62 rfl ?_
      refine lv_icmp_eq (tgt := 72) hx hb d_Mod_node1_63 (by decide) (fun c63 => ?_) (fun c63 => ?_)
      · skip
        have c63 : 1 = 5 := (nI_eq (by omega) (by omega)).mp c63
        omega
      · skip
        have c63 : ¬ (1 = 5) := fun h => c63 ((nI_eq (by omega) (by omega)).mpr h)
        refine lv_iload_n hx hb d_Mod_node1_66 rfl (lv_at hl 3 rfl) ?_
        refine lv_bipush (v := nI 7) hx hb d_Mod_node1_67 rfl ?_
        refine lv_icmp_ne (tgt := 76) hx hb d_Mod_node1_69 (by decide) (fun c69 => ?_) (fun c69 => ?_)
        · skip
          have c69 : ¬ (1 = 7) := fun h => c69 ((nI_eq (by omega) (by omega)).mpr h)
          refine lv_iconst (v := nI 0) hx hb d_Mod_node1_76 rfl ?_
          refine lv_istore (lv' := [(6, .int (nI 0)), (5, .int (nI (mWd S))), (4, .int (nI Y)), (3, .int (nI X)), (2, .int (nI 1)), (0, .ref a_mod), (1, .int (nI S))]) hx hb d_Mod_node1_77 hl (by decide) rfl (fun ls hl => ?_)
          refine lv_iconst (v := nI 1) hx hb d_Mod_node1_79 rfl ?_
          refine lv_istore (lv' := [(7, .int (nI 1)), (6, .int (nI 0)), (5, .int (nI (mWd S))), (4, .int (nI Y)), (3, .int (nI X)), (2, .int (nI 1)), (0, .ref a_mod), (1, .int (nI S))]) hx hb d_Mod_node1_80 hl (by decide) rfl (fun ls hl => ?_)
          refine lv_iconst (v := nI 0) hx hb d_Mod_node1_82 rfl ?_
          refine lv_istore (lv' := [(8, .int (nI 0)), (7, .int (nI 1)), (6, .int (nI 0)), (5, .int (nI (mWd S))), (4, .int (nI Y)), (3, .int (nI X)), (2, .int (nI 1)), (0, .ref a_mod), (1, .int (nI S))]) hx hb d_Mod_node1_83 hl (by decide) rfl (fun ls hl => ?_)
          have hI_2 : (mG ≤ 1280) ∧ (∀ j, mX j < 2786) ∧ (∀ j, mY j < 2786) ∧ (∀ j, mDe j < 1400) ∧ (∀ j, mBi j < 2786) ∧ (NJ mG gd P Dp Sl T) ∧ (MXY mG mX mY mDe P Dp) ∧ (AL K T mG) ∧ (ST T mG T mG (catL (fun j => jl (CB X j) (CB Y j)) 0)) ∧ (Out mBi mBi S) ∧ (∀ j, j < 0 → OKc T mG (mBi (8 * S + j)) (jn (CB X j) (CB Y j))) ∧ (0 ≤ mWd S) := ⟨(by omega), b_mX, b_mY, b_mDe, b_mBi, hN, hXY, hAL, (ST_rf rfl), (Out_rf mBi S), (fun j h => absurd h (by omega)), (by omega)⟩
          refine k_loop (σ := Nat × Nat × (Nat → Nat) × (Nat → Nat) × (Nat → Nat) × Nat × (Nat → Nat) × (Nat → Nat) × (Nat → Nat) × (Nat → Nat) × (Nat → Nat)) (D := (dC, dI)) (cl := classes) (A := A) (H0 := s.heap) (fun x => [(a_mod, .inr (6, [.ref a_mkind, .ref a_mwidth, .ref a_mreset, .ref a_mop, .ref a_mka, .ref a_mkb, .ref a_mkc, .ref a_mheld, .int (nI mN), .ref a_msort, .ref a_mof, .ref a_mfrom, .int (nI mMs), .ref a_mbit, .ref a_mdone, .ref a_mrests, .ref a_mxx, .ref a_myy, .ref a_mdepth, .ref a_mone, .int (nI x.2.1), .int (nI mCk), .int mFw, .int (nI mRd), .ref a_mbefore, .ref a_mfirst, .ref a_mturned])), (a_mwidth, .inl (cI, 14, .inl (nF mWd))), (a_mop, .inl (cI, 14, .inl mOp)), (a_mka, .inl (cI, 14, .inl mAa)), (a_mkb, .inl (cI, 14, .inl mAb)), (a_mkc, .inl (cI, 14, .inl mAc)), (a_mbit, .inl (cI, 224, .inl (nF x.2.2.2.2.2.2.2.2.2.2))), (a_mxx, .inl (cI, 2600, .inl (nF x.2.2.1))), (a_myy, .inl (cI, 2600, .inl (nF x.2.2.2.1))), (a_mdepth, .inl (cI, 2600, .inl (nF x.2.2.2.2.1)))]) (fun x => [(8, .int (nI x.1)), (7, .int (nI 1)), (6, .int (nI 0)), (5, .int (nI (mWd S))), (4, .int (nI Y)), (3, .int (nI X)), (2, .int (nI 1)), (0, .ref a_mod), (1, .int (nI S))]) (fun x => (x.2.1 ≤ 1280) ∧ (∀ j, x.2.2.1 j < 2786) ∧ (∀ j, x.2.2.2.1 j < 2786) ∧ (∀ j, x.2.2.2.2.1 j < 1400) ∧ (∀ j, x.2.2.2.2.2.2.2.2.2.2 j < 2786) ∧ (NJ x.2.1 x.2.2.2.2.2.1 x.2.2.2.2.2.2.1 x.2.2.2.2.2.2.2.1 x.2.2.2.2.2.2.2.2.1 x.2.2.2.2.2.2.2.2.2.1) ∧ (MXY x.2.1 x.2.2.1 x.2.2.2.1 x.2.2.2.2.1 x.2.2.2.2.2.2.1 x.2.2.2.2.2.2.2.1) ∧ (AL K x.2.2.2.2.2.2.2.2.2.1 x.2.1) ∧ (ST T mG x.2.2.2.2.2.2.2.2.2.1 x.2.1 (catL (fun j => jl (CB X j) (CB Y j)) x.1)) ∧ (Out mBi x.2.2.2.2.2.2.2.2.2.2 S) ∧ (∀ j, j < x.1 → OKc x.2.2.2.2.2.2.2.2.2.1 x.2.1 (x.2.2.2.2.2.2.2.2.2.2 (8 * S + j)) (jn (CB X j) (CB Y j))) ∧ (x.1 ≤ mWd S)) (fun x => mWd S - x.1) ?_ (0, mG, mX, mY, mDe, gd, P, Dp, Sl, T, mBi) hI_2 hP hD hS (lv_sub hl [0, 1, 2, 3, 4, 5, 6, 7, 8] rfl)
          rintro ⟨b, mG1, mX1, mY1, mDe1, gd1, P1, Dp1, Sl1, T1, B1⟩ hI ih_3 H locs ls hP hD hS hl
          obtain ⟨b_mG1, b_mX1, b_mY1, b_mDe1, b_B1, hN1, hXY1, hAL1, hst1, hO1, hB1, hbw⟩ : (mG1 ≤ 1280) ∧ (∀ j, mX1 j < 2786) ∧ (∀ j, mY1 j < 2786) ∧ (∀ j, mDe1 j < 1400) ∧ (∀ j, B1 j < 2786) ∧ (NJ mG1 gd1 P1 Dp1 Sl1 T1) ∧ (MXY mG1 mX1 mY1 mDe1 P1 Dp1) ∧ (AL K T1 mG1) ∧ (ST T mG T1 mG1 (catL (fun j => jl (CB X j) (CB Y j)) b)) ∧ (Out mBi B1 S) ∧ (∀ j, j < b → OKc T1 mG1 (B1 (8 * S + j)) (jn (CB X j) (CB Y j))) ∧ (b ≤ mWd S) := hI
          have hP : va_P (dC, dI) classes [(a_mod, .inr (6, [.ref a_mkind, .ref a_mwidth, .ref a_mreset, .ref a_mop, .ref a_mka, .ref a_mkb, .ref a_mkc, .ref a_mheld, .int (nI mN), .ref a_msort, .ref a_mof, .ref a_mfrom, .int (nI mMs), .ref a_mbit, .ref a_mdone, .ref a_mrests, .ref a_mxx, .ref a_myy, .ref a_mdepth, .ref a_mone, .int (nI mG1), .int (nI mCk), .int mFw, .int (nI mRd), .ref a_mbefore, .ref a_mfirst, .ref a_mturned])), (a_mwidth, .inl (cI, 14, .inl (nF mWd))), (a_mop, .inl (cI, 14, .inl mOp)), (a_mka, .inl (cI, 14, .inl mAa)), (a_mkb, .inl (cI, 14, .inl mAb)), (a_mkc, .inl (cI, 14, .inl mAc)), (a_mbit, .inl (cI, 224, .inl (nF B1))), (a_mxx, .inl (cI, 2600, .inl (nF mX1))), (a_myy, .inl (cI, 2600, .inl (nF mY1))), (a_mdepth, .inl (cI, 2600, .inl (nF mDe1)))] H := hP
          have hD : va_D A [(a_mod, .inr (6, [.ref a_mkind, .ref a_mwidth, .ref a_mreset, .ref a_mop, .ref a_mka, .ref a_mkb, .ref a_mkc, .ref a_mheld, .int (nI mN), .ref a_msort, .ref a_mof, .ref a_mfrom, .int (nI mMs), .ref a_mbit, .ref a_mdone, .ref a_mrests, .ref a_mxx, .ref a_myy, .ref a_mdepth, .ref a_mone, .int (nI mG1), .int (nI mCk), .int mFw, .int (nI mRd), .ref a_mbefore, .ref a_mfirst, .ref a_mturned])), (a_mwidth, .inl (cI, 14, .inl (nF mWd))), (a_mop, .inl (cI, 14, .inl mOp)), (a_mka, .inl (cI, 14, .inl mAa)), (a_mkb, .inl (cI, 14, .inl mAb)), (a_mkc, .inl (cI, 14, .inl mAc)), (a_mbit, .inl (cI, 224, .inl (nF B1))), (a_mxx, .inl (cI, 2600, .inl (nF mX1))), (a_myy, .inl (cI, 2600, .inl (nF mY1))), (a_mdepth, .inl (cI, 2600, .inl (nF mDe1)))] := hD
          have hl : lv_has ls 13 [(8, .int (nI b)), (7, .int (nI 1)), (6, .int (nI 0)), (5, .int (nI (mWd S))), (4, .int (nI Y)), (3, .int (nI X)), (2, .int (nI 1)), (0, .ref a_mod), (1, .int (nI S))] := hl
          refine lv_iload hx hb d_Mod_node1_85 (lv_at hl 0 rfl) ?_
          refine lv_iload hx hb d_Mod_node1_87 (lv_at hl 3 rfl) ?_
          refine lv_icmp_ge (tgt := 498) hx hb d_Mod_node1_89 (by decide) (fun c89 => ?_) (fun c89 => ?_)
          · skip
            have c89 : (mWd S) ≤ b := (nI_leI (by omega) (by omega)).mp c89
            refine lv_iload_n hx hb d_Mod_node1_498 rfl (lv_at hl 6 rfl) ?_
            refine lv_bipush (v := nI 6) hx hb d_Mod_node1_499 rfl ?_
            refine lv_icmp_ne (tgt := 515) hx hb d_Mod_node1_501 (by decide) (fun c501 => ?_) (fun c501 => ?_)
            · skip
              have c501 : ¬ (1 = 6) := fun h => c501 ((nI_eq (by omega) (by omega)).mpr h)
              refine lv_iload_n hx hb d_Mod_node1_515 rfl (lv_at hl 6 rfl) ?_
              refine lv_bipush (v := nI 7) hx hb d_Mod_node1_516 rfl ?_
              refine lv_icmp_ne (tgt := 534) hx hb d_Mod_node1_518 (by decide) (fun c518 => ?_) (fun c518 => ?_)
              · skip
                have c518 : ¬ (1 = 7) := fun h => c518 ((nI_eq (by omega) (by omega)).mpr h)
                exact W.vret hx hb hr (fun t ht hW => ⟨⟨(mG1, mX1, mY1, mDe1, gd1, P1, Dp1, Sl1, T1, B1), rfl, ⟨(show mG1 ≤ 1280 from by omega), b_mX1, b_mY1, b_mDe1, b_B1, (show NJ mG1 gd1 P1 Dp1 Sl1 T1 from hN1), (show MXY mG1 mX1 mY1 mDe1 P1 Dp1 from hXY1), (show AL K T1 mG1 from hAL1), (show ST T mG T1 mG1 (ncL mWd CB 1 (mAa S) (mAb S) (mAc S) (mWd S)) from by rw [eL, show mWd S = b by omega]; exact hst1), (show Out mBi B1 S from hO1), (show ∀ j, j < mWd S → OKc T1 mG1 (B1 (8 * S + j)) (nc mWd CB 1 (mAa S) (mAb S) (mAc S) j) from fun j hj => by rw [eV]; exact hB1 j (by omega))⟩, by rw [ht]; exact hP, va_K.moved hW.alike hK, hD⟩, hS.F ht⟩) hS.2.2 d_Mod_node1_534
              · skip
                have c518 : 1 = 7 := (nI_eq (by omega) (by omega)).mp c518
                omega
            · skip
              have c501 : 1 = 6 := (nI_eq (by omega) (by omega)).mp c501
              omega
          · skip
            have c89 : ¬ ((mWd S) ≤ b) := fun h => c89 ((nI_leI (by omega) (by omega)).mpr h)
            refine lv_iload_n hx hb d_Mod_node1_92 rfl (lv_at hl 6 rfl) ?_
            refine lv_bipush (v := nI 11) hx hb d_Mod_node1_93 rfl ?_
            refine lv_icmp_ne (tgt := 107) hx hb d_Mod_node1_95 (by decide) (fun c95 => ?_) (fun c95 => ?_)
            · skip
              have c95 : ¬ (1 = 11) := fun h => c95 ((nI_eq (by omega) (by omega)).mpr h)
              refine lv_iconst (v := nI 0) hx hb d_Mod_node1_107 rfl ?_
              refine lv_istore (lv' := [(9, .int (nI 0)), (8, .int (nI b)), (7, .int (nI 1)), (6, .int (nI 0)), (5, .int (nI (mWd S))), (4, .int (nI Y)), (3, .int (nI X)), (2, .int (nI 1)), (0, .ref a_mod), (1, .int (nI S))]) hx hb d_Mod_node1_108 hl (by decide) rfl (fun ls hl => ?_)
              refine lv_iload_n hx hb d_Mod_node1_110 rfl (lv_at hl 7 rfl) ?_
              refine lv_if_ne (tgt := 130) hx hb d_Mod_node1_111 (by decide) (fun c111 => ?_) (fun c111 => ?_)
              · skip
                have c111 : ¬ (1 = 0) := fun h => c111 ((nI_eq0 (by omega)).mpr h)
                refine lv_iload_n hx hb d_Mod_node1_130 rfl (lv_at hl 7 rfl) ?_
                refine lv_iconst (v := nI 1) hx hb d_Mod_node1_131 rfl ?_
                refine lv_icmp_ne (tgt := 156) hx hb d_Mod_node1_132 (by decide) (fun c132 => ?_) (fun c132 => ?_)
                · skip
                  have c132 : ¬ (1 = 1) := fun h => c132 ((nI_eq (by omega) (by omega)).mpr h)
                  omega
                · skip
                  have c132 : 1 = 1 := (nI_eq (by omega) (by omega)).mp c132
                  have hx7 := OK_out (hx1.2.2 b) hst1 hO1 b_mWd hx1.2.1
                  have hx7b := hx7.1
                  have hy8 := OK_out (hy1.2.2 b) hst1 hO1 b_mWd hy1.2.1
                  have hy8b := hy8.1
                  refine lv_aload_n hx hb d_Mod_node1_135 rfl (lv_at hl 8 rfl) ?_
                  refine lv_aload_n hx hb d_Mod_node1_136 rfl (lv_at hl 8 rfl) ?_
                  refine lv_iload_n hx hb d_Mod_node1_137 rfl (lv_at hl 6 rfl) ?_
                  refine lv_iload hx hb d_Mod_node1_138 (lv_at hl 1 rfl) ?_
                  refine k_i (wr := [(a_mop, .inl (cI, 14, .inl mOp)), (a_mka, .inl (cI, 14, .inl mAa)), (a_mkb, .inl (cI, 14, .inl mAb)), (a_mkc, .inl (cI, 14, .inl mAc)), (a_mxx, .inl (cI, 2600, .inl (nF mX1))), (a_myy, .inl (cI, 2600, .inl (nF mY1))), (a_mdepth, .inl (cI, 2600, .inl (nF mDe1)))]) (w2 := fun (u : Unit) => [(a_mod, .inr (6, [.ref a_mkind, .ref a_mwidth, .ref a_mreset, .ref a_mop, .ref a_mka, .ref a_mkb, .ref a_mkc, .ref a_mheld, .int (nI mN), .ref a_msort, .ref a_mof, .ref a_mfrom, .int (nI mMs), .ref a_mbit, .ref a_mdone, .ref a_mrests, .ref a_mxx, .ref a_myy, .ref a_mdepth, .ref a_mone, .int (nI mG1), .int (nI mCk), .int mFw, .int (nI mRd), .ref a_mbefore, .ref a_mfirst, .ref a_mturned])), (a_mwidth, .inl (cI, 14, .inl (nF mWd))), (a_mop, .inl (cI, 14, .inl mOp)), (a_mka, .inl (cI, 14, .inl mAa)), (a_mkb, .inl (cI, 14, .inl mAb)), (a_mkc, .inl (cI, 14, .inl mAc)), (a_mbit, .inl (cI, 224, .inl (nF B1))), (a_mxx, .inl (cI, 2600, .inl (nF mX1))), (a_myy, .inl (cI, 2600, .inl (nF mY1))), (a_mdepth, .inl (cI, 2600, .inl (nF mDe1)))]) (va_runV (As := [.int (nI X), .int (nI b)]) (rest := [.ref a_mod]) ⟨hx, hb, hml, hown, hts⟩ (c_Mod_bitOf l dC dI cI cZ a_mod a_mkind a_mwidth a_mreset a_mop a_mka a_mkb a_mkc a_mheld a_msort a_mof a_mfrom a_mbit a_mdone a_mrests a_mxx a_myy a_mdepth a_mone a_mbefore a_mfirst a_mturned tt H.size mN mMs mG1 mCk mFw mRd mWd B1 X b (by omega) (by omega) (by omega) (by omega) b_mWd b_B1 (by omega) (by omega)) (cwV 2 hts (gd_V in_tl (mw 690 rfl rfl) (mw 692 rfl rfl) (mw 29 rfl rfl) (mw 47 rfl rfl) (mw 693 rfl rfl)) rfl rfl rfl (by decide +kernel) ⟨Nat.le_of_ble_eq_true rfl, Nat.le_of_ble_eq_true rfl⟩) (k_preV hK hP hD hS hA hE [0, 1, 6] (by decide) rfl 6 0 rfl rfl) rfl rfl hl.1 rfl (lv_room (Nat.le_of_ble_eq_true rfl)) d_Mod_node1_140 ⟨Nat.zero_le _, Nat.zero_le _⟩) hP hD hS hA [0, 1, 6] [2, 3, 4, 5, 7, 8, 9] [7, 8, 0, 1, 2, 3, 9, 4, 5, 6] rfl rfl (by decide) (by decide) (by decide) (fun _ => rfl) (fun r_4 u H locs hw hP hD hS => ?_)
                  obtain rfl : (r_4 = nI (lit B1 mWd X b)) := hw
                  have hP : va_P (dC, dI) classes [(a_mod, .inr (6, [.ref a_mkind, .ref a_mwidth, .ref a_mreset, .ref a_mop, .ref a_mka, .ref a_mkb, .ref a_mkc, .ref a_mheld, .int (nI mN), .ref a_msort, .ref a_mof, .ref a_mfrom, .int (nI mMs), .ref a_mbit, .ref a_mdone, .ref a_mrests, .ref a_mxx, .ref a_myy, .ref a_mdepth, .ref a_mone, .int (nI mG1), .int (nI mCk), .int mFw, .int (nI mRd), .ref a_mbefore, .ref a_mfirst, .ref a_mturned])), (a_mwidth, .inl (cI, 14, .inl (nF mWd))), (a_mop, .inl (cI, 14, .inl mOp)), (a_mka, .inl (cI, 14, .inl mAa)), (a_mkb, .inl (cI, 14, .inl mAb)), (a_mkc, .inl (cI, 14, .inl mAc)), (a_mbit, .inl (cI, 224, .inl (nF B1))), (a_mxx, .inl (cI, 2600, .inl (nF mX1))), (a_myy, .inl (cI, 2600, .inl (nF mY1))), (a_mdepth, .inl (cI, 2600, .inl (nF mDe1)))] H := hP
                  have hD : va_D A [(a_mod, .inr (6, [.ref a_mkind, .ref a_mwidth, .ref a_mreset, .ref a_mop, .ref a_mka, .ref a_mkb, .ref a_mkc, .ref a_mheld, .int (nI mN), .ref a_msort, .ref a_mof, .ref a_mfrom, .int (nI mMs), .ref a_mbit, .ref a_mdone, .ref a_mrests, .ref a_mxx, .ref a_myy, .ref a_mdepth, .ref a_mone, .int (nI mG1), .int (nI mCk), .int mFw, .int (nI mRd), .ref a_mbefore, .ref a_mfirst, .ref a_mturned])), (a_mwidth, .inl (cI, 14, .inl (nF mWd))), (a_mop, .inl (cI, 14, .inl mOp)), (a_mka, .inl (cI, 14, .inl mAa)), (a_mkb, .inl (cI, 14, .inl mAb)), (a_mkc, .inl (cI, 14, .inl mAc)), (a_mbit, .inl (cI, 224, .inl (nF B1))), (a_mxx, .inl (cI, 2600, .inl (nF mX1))), (a_myy, .inl (cI, 2600, .inl (nF mY1))), (a_mdepth, .inl (cI, 2600, .inl (nF mDe1)))] := hD
                  refine lv_aload_n hx hb d_Mod_node1_143 rfl (lv_at hl 8 rfl) ?_
                  refine lv_iload hx hb d_Mod_node1_144 (lv_at hl 5 rfl) ?_
                  refine lv_iload hx hb d_Mod_node1_146 (lv_at hl 1 rfl) ?_
                  refine k_i (wr := [(a_mop, .inl (cI, 14, .inl mOp)), (a_mka, .inl (cI, 14, .inl mAa)), (a_mkb, .inl (cI, 14, .inl mAb)), (a_mkc, .inl (cI, 14, .inl mAc)), (a_mxx, .inl (cI, 2600, .inl (nF mX1))), (a_myy, .inl (cI, 2600, .inl (nF mY1))), (a_mdepth, .inl (cI, 2600, .inl (nF mDe1)))]) (w2 := fun (u : Unit) => [(a_mod, .inr (6, [.ref a_mkind, .ref a_mwidth, .ref a_mreset, .ref a_mop, .ref a_mka, .ref a_mkb, .ref a_mkc, .ref a_mheld, .int (nI mN), .ref a_msort, .ref a_mof, .ref a_mfrom, .int (nI mMs), .ref a_mbit, .ref a_mdone, .ref a_mrests, .ref a_mxx, .ref a_myy, .ref a_mdepth, .ref a_mone, .int (nI mG1), .int (nI mCk), .int mFw, .int (nI mRd), .ref a_mbefore, .ref a_mfirst, .ref a_mturned])), (a_mwidth, .inl (cI, 14, .inl (nF mWd))), (a_mop, .inl (cI, 14, .inl mOp)), (a_mka, .inl (cI, 14, .inl mAa)), (a_mkb, .inl (cI, 14, .inl mAb)), (a_mkc, .inl (cI, 14, .inl mAc)), (a_mbit, .inl (cI, 224, .inl (nF B1))), (a_mxx, .inl (cI, 2600, .inl (nF mX1))), (a_myy, .inl (cI, 2600, .inl (nF mY1))), (a_mdepth, .inl (cI, 2600, .inl (nF mDe1)))]) (va_runV (As := [.int (nI Y), .int (nI b)]) (rest := [.int (nI (lit B1 mWd X b)), .ref a_mod]) ⟨hx, hb, hml, hown, hts⟩ (c_Mod_bitOf l dC dI cI cZ a_mod a_mkind a_mwidth a_mreset a_mop a_mka a_mkb a_mkc a_mheld a_msort a_mof a_mfrom a_mbit a_mdone a_mrests a_mxx a_myy a_mdepth a_mone a_mbefore a_mfirst a_mturned tt H.size mN mMs mG1 mCk mFw mRd mWd B1 Y b (by omega) (by omega) (by omega) (by omega) b_mWd b_B1 (by omega) (by omega)) (cwV 2 hts (gd_V in_tl (mw 690 rfl rfl) (mw 692 rfl rfl) (mw 29 rfl rfl) (mw 47 rfl rfl) (mw 693 rfl rfl)) rfl rfl rfl (by decide +kernel) ⟨Nat.le_of_ble_eq_true rfl, Nat.le_of_ble_eq_true rfl⟩) (k_preV hK hP hD hS hA hE [0, 1, 6] (by decide) rfl 6 0 rfl rfl) rfl rfl hl.1 rfl (lv_room (Nat.le_of_ble_eq_true rfl)) d_Mod_node1_148 ⟨Nat.zero_le _, Nat.zero_le _⟩) hP hD hS hA [0, 1, 6] [2, 3, 4, 5, 7, 8, 9] [7, 8, 0, 1, 2, 3, 9, 4, 5, 6] rfl rfl (by decide) (by decide) (by decide) (fun _ => rfl) (fun r_5 u H locs hw hP hD hS => ?_)
                  obtain rfl : (r_5 = nI (lit B1 mWd Y b)) := hw
                  have hP : va_P (dC, dI) classes [(a_mod, .inr (6, [.ref a_mkind, .ref a_mwidth, .ref a_mreset, .ref a_mop, .ref a_mka, .ref a_mkb, .ref a_mkc, .ref a_mheld, .int (nI mN), .ref a_msort, .ref a_mof, .ref a_mfrom, .int (nI mMs), .ref a_mbit, .ref a_mdone, .ref a_mrests, .ref a_mxx, .ref a_myy, .ref a_mdepth, .ref a_mone, .int (nI mG1), .int (nI mCk), .int mFw, .int (nI mRd), .ref a_mbefore, .ref a_mfirst, .ref a_mturned])), (a_mwidth, .inl (cI, 14, .inl (nF mWd))), (a_mop, .inl (cI, 14, .inl mOp)), (a_mka, .inl (cI, 14, .inl mAa)), (a_mkb, .inl (cI, 14, .inl mAb)), (a_mkc, .inl (cI, 14, .inl mAc)), (a_mbit, .inl (cI, 224, .inl (nF B1))), (a_mxx, .inl (cI, 2600, .inl (nF mX1))), (a_myy, .inl (cI, 2600, .inl (nF mY1))), (a_mdepth, .inl (cI, 2600, .inl (nF mDe1)))] H := hP
                  have hD : va_D A [(a_mod, .inr (6, [.ref a_mkind, .ref a_mwidth, .ref a_mreset, .ref a_mop, .ref a_mka, .ref a_mkb, .ref a_mkc, .ref a_mheld, .int (nI mN), .ref a_msort, .ref a_mof, .ref a_mfrom, .int (nI mMs), .ref a_mbit, .ref a_mdone, .ref a_mrests, .ref a_mxx, .ref a_myy, .ref a_mdepth, .ref a_mone, .int (nI mG1), .int (nI mCk), .int mFw, .int (nI mRd), .ref a_mbefore, .ref a_mfirst, .ref a_mturned])), (a_mwidth, .inl (cI, 14, .inl (nF mWd))), (a_mop, .inl (cI, 14, .inl mOp)), (a_mka, .inl (cI, 14, .inl mAa)), (a_mkb, .inl (cI, 14, .inl mAb)), (a_mkc, .inl (cI, 14, .inl mAc)), (a_mbit, .inl (cI, 224, .inl (nF B1))), (a_mxx, .inl (cI, 2600, .inl (nF mX1))), (a_myy, .inl (cI, 2600, .inl (nF mY1))), (a_mdepth, .inl (cI, 2600, .inl (nF mDe1)))] := hD
                  refine k_i (wr := [(a_mwidth, .inl (cI, 14, .inl (nF mWd))), (a_mop, .inl (cI, 14, .inl mOp)), (a_mka, .inl (cI, 14, .inl mAa)), (a_mkb, .inl (cI, 14, .inl mAb)), (a_mkc, .inl (cI, 14, .inl mAc)), (a_mbit, .inl (cI, 224, .inl (nF B1)))]) (w2 := fun (u : Nat × (Nat → Nat) × (Nat → Nat) × (Nat → Nat) × Nat × (Nat → Nat) × (Nat → Nat) × (Nat → Nat) × (Nat → Nat)) => [(a_mod, .inr (6, [.ref a_mkind, .ref a_mwidth, .ref a_mreset, .ref a_mop, .ref a_mka, .ref a_mkb, .ref a_mkc, .ref a_mheld, .int (nI mN), .ref a_msort, .ref a_mof, .ref a_mfrom, .int (nI mMs), .ref a_mbit, .ref a_mdone, .ref a_mrests, .ref a_mxx, .ref a_myy, .ref a_mdepth, .ref a_mone, .int (nI u.1), .int (nI mCk), .int mFw, .int (nI mRd), .ref a_mbefore, .ref a_mfirst, .ref a_mturned])), (a_mwidth, .inl (cI, 14, .inl (nF mWd))), (a_mop, .inl (cI, 14, .inl mOp)), (a_mka, .inl (cI, 14, .inl mAa)), (a_mkb, .inl (cI, 14, .inl mAb)), (a_mkc, .inl (cI, 14, .inl mAc)), (a_mbit, .inl (cI, 224, .inl (nF B1))), (a_mxx, .inl (cI, 2600, .inl (nF u.2.1))), (a_myy, .inl (cI, 2600, .inl (nF u.2.2.1))), (a_mdepth, .inl (cI, 2600, .inl (nF u.2.2.2.1)))]) (va_runV (As := [.int (nI (lit B1 mWd X b)), .int (nI (lit B1 mWd Y b))]) (rest := []) ⟨hx, hb, hml, hown, hts⟩ (c_Mod_join l dC dI cI cZ a_mod a_mkind a_mwidth a_mreset a_mop a_mka a_mkb a_mkc a_mheld a_msort a_mof a_mfrom a_mbit a_mdone a_mrests a_mxx a_myy a_mdepth a_mone a_mbefore a_mfirst a_mturned tt H.size mN mMs mG1 mCk mFw mRd mX1 mY1 mDe1 gd1 P1 Dp1 Sl1 T1 K (lit B1 mWd X b) (lit B1 mWd Y b) (by omega) (by omega) (by omega) (by omega) b_mX1 b_mY1 b_mDe1 hN1 hXY1 hAL1 hx7.1 hy8.1 (by rw [hx7.2, hy8.2]; intro c h; apply hgl; rw [eL]; exact catL_in _ (by omega) h)) (cwV 2 hts (gd_V in_tl (mw 702 rfl rfl) (mw 704 rfl rfl) (mw 32 rfl rfl) (mw 47 rfl rfl) (mw 705 rfl rfl)) rfl rfl rfl (by decide +kernel) ⟨Nat.le_of_ble_eq_true rfl, Nat.le_of_ble_eq_true rfl⟩) (k_preV hK hP hD hS hA hE [0, 7, 8, 9] (by decide) rfl 6 0 rfl rfl) rfl rfl hl.1 rfl (lv_room (Nat.le_of_ble_eq_true rfl)) d_Mod_node1_151 ⟨Nat.zero_le _, Nat.zero_le _⟩) hP hD hS hA [0, 7, 8, 9] [1, 2, 3, 4, 5, 6] [6, 0, 1, 2, 3, 4, 5, 7, 8, 9] rfl rfl (by decide) (by decide) (by decide) (fun _ => rfl) (fun r_15 u H locs hw hP hD hS => ?_)
                  obtain ⟨mGv_6, mXv_7, mYv_8, mDev_9, gdv_10, Pv_11, Dpv_12, Slv_13, Tv_14⟩ := u
                  obtain ⟨v_16, rfl, b_mGv_6, b_mXv_7, b_mYv_8, b_mDev_9, hN_151, hXY_151, hst_151, hrl_151, hc_151, hAL_151⟩ : ∃ rv : Nat, r_15 = nI rv ∧ (mGv_6 ≤ 1280) ∧ (∀ j, mXv_7 j < 2786) ∧ (∀ j, mYv_8 j < 2786) ∧ (∀ j, mDev_9 j < 1400) ∧ (NJ mGv_6 gdv_10 Pv_11 Dpv_12 Slv_13 Tv_14) ∧ (MXY mGv_6 mXv_7 mYv_8 mDev_9 Pv_11 Dpv_12) ∧ (ST T1 mG1 Tv_14 mGv_6 (jl (LT T1 (lit B1 mWd X b)) (LT T1 (lit B1 mWd Y b)))) ∧ (rv < 2 * (113 + mGv_6)) ∧ (LT Tv_14 rv = jn (LT T1 (lit B1 mWd X b)) (LT T1 (lit B1 mWd Y b))) ∧ (AL K Tv_14 mGv_6) := hw
                  have hP : va_P (dC, dI) classes [(a_mod, .inr (6, [.ref a_mkind, .ref a_mwidth, .ref a_mreset, .ref a_mop, .ref a_mka, .ref a_mkb, .ref a_mkc, .ref a_mheld, .int (nI mN), .ref a_msort, .ref a_mof, .ref a_mfrom, .int (nI mMs), .ref a_mbit, .ref a_mdone, .ref a_mrests, .ref a_mxx, .ref a_myy, .ref a_mdepth, .ref a_mone, .int (nI mGv_6), .int (nI mCk), .int mFw, .int (nI mRd), .ref a_mbefore, .ref a_mfirst, .ref a_mturned])), (a_mwidth, .inl (cI, 14, .inl (nF mWd))), (a_mop, .inl (cI, 14, .inl mOp)), (a_mka, .inl (cI, 14, .inl mAa)), (a_mkb, .inl (cI, 14, .inl mAb)), (a_mkc, .inl (cI, 14, .inl mAc)), (a_mbit, .inl (cI, 224, .inl (nF B1))), (a_mxx, .inl (cI, 2600, .inl (nF mXv_7))), (a_myy, .inl (cI, 2600, .inl (nF mYv_8))), (a_mdepth, .inl (cI, 2600, .inl (nF mDev_9)))] H := hP
                  have hD : va_D A [(a_mod, .inr (6, [.ref a_mkind, .ref a_mwidth, .ref a_mreset, .ref a_mop, .ref a_mka, .ref a_mkb, .ref a_mkc, .ref a_mheld, .int (nI mN), .ref a_msort, .ref a_mof, .ref a_mfrom, .int (nI mMs), .ref a_mbit, .ref a_mdone, .ref a_mrests, .ref a_mxx, .ref a_myy, .ref a_mdepth, .ref a_mone, .int (nI mGv_6), .int (nI mCk), .int mFw, .int (nI mRd), .ref a_mbefore, .ref a_mfirst, .ref a_mturned])), (a_mwidth, .inl (cI, 14, .inl (nF mWd))), (a_mop, .inl (cI, 14, .inl mOp)), (a_mka, .inl (cI, 14, .inl mAa)), (a_mkb, .inl (cI, 14, .inl mAb)), (a_mkc, .inl (cI, 14, .inl mAc)), (a_mbit, .inl (cI, 224, .inl (nF B1))), (a_mxx, .inl (cI, 2600, .inl (nF mXv_7))), (a_myy, .inl (cI, 2600, .inl (nF mYv_8))), (a_mdepth, .inl (cI, 2600, .inl (nF mDev_9)))] := hD
                  rw [hx7.2, hy8.2] at hst_151 hc_151
                  have hl9 := And.intro hrl_151 hc_151
                  refine lv_istore (lv' := [(9, .int (nI v_16)), (8, .int (nI b)), (7, .int (nI 1)), (6, .int (nI 0)), (5, .int (nI (mWd S))), (4, .int (nI Y)), (3, .int (nI X)), (2, .int (nI 1)), (0, .ref a_mod), (1, .int (nI S))]) hx hb d_Mod_node1_154 hl (by decide) rfl (fun ls hl => ?_)
                  refine lv_iload_n hx hb d_Mod_node1_156 rfl (lv_at hl 7 rfl) ?_
                  refine lv_iconst (v := nI 2) hx hb d_Mod_node1_157 rfl ?_
                  refine lv_icmp_ne (tgt := 182) hx hb d_Mod_node1_158 (by decide) (fun c158 => ?_) (fun c158 => ?_)
                  · skip
                    have c158 : ¬ (1 = 2) := fun h => c158 ((nI_eq (by omega) (by omega)).mpr h)
                    refine lv_iload_n hx hb d_Mod_node1_182 rfl (lv_at hl 7 rfl) ?_
                    refine lv_iconst (v := nI 3) hx hb d_Mod_node1_183 rfl ?_
                    refine lv_icmp_ne (tgt := 208) hx hb d_Mod_node1_184 (by decide) (fun c184 => ?_) (fun c184 => ?_)
                    · skip
                      have c184 : ¬ (1 = 3) := fun h => c184 ((nI_eq (by omega) (by omega)).mpr h)
                      refine lv_iload_n hx hb d_Mod_node1_208 rfl (lv_at hl 7 rfl) ?_
                      refine lv_iconst (v := nI 4) hx hb d_Mod_node1_209 rfl ?_
                      refine lv_icmp_ne (tgt := 226) hx hb d_Mod_node1_210 (by decide) (fun c210 => ?_) (fun c210 => ?_)
                      · skip
                        have c210 : ¬ (1 = 4) := fun h => c210 ((nI_eq (by omega) (by omega)).mpr h)
                        refine lv_iload_n hx hb d_Mod_node1_226 rfl (lv_at hl 7 rfl) ?_
                        refine lv_iconst (v := nI 4) hx hb d_Mod_node1_227 rfl ?_
                        refine lv_icmp_ne (tgt := 240) hx hb d_Mod_node1_228 (by decide) (fun c228 => ?_) (fun c228 => ?_)
                        · skip
                          have c228 : ¬ (1 = 4) := fun h => c228 ((nI_eq (by omega) (by omega)).mpr h)
                          refine lv_iload_n hx hb d_Mod_node1_240 rfl (lv_at hl 7 rfl) ?_
                          refine lv_iconst (v := nI 5) hx hb d_Mod_node1_241 rfl ?_
                          refine lv_icmp_eq (tgt := 251) hx hb d_Mod_node1_242 (by decide) (fun c242 => ?_) (fun c242 => ?_)
                          · skip
                            have c242 : 1 = 5 := (nI_eq (by omega) (by omega)).mp c242
                            omega
                          · skip
                            have c242 : ¬ (1 = 5) := fun h => c242 ((nI_eq (by omega) (by omega)).mpr h)
                            refine lv_iload_n hx hb d_Mod_node1_245 rfl (lv_at hl 7 rfl) ?_
                            refine lv_bipush (v := nI 7) hx hb d_Mod_node1_246 rfl ?_
                            refine lv_icmp_ne (tgt := 323) hx hb d_Mod_node1_248 (by decide) (fun c248 => ?_) (fun c248 => ?_)
                            · skip
                              have c248 : ¬ (1 = 7) := fun h => c248 ((nI_eq (by omega) (by omega)).mpr h)
                              refine lv_iload_n hx hb d_Mod_node1_323 rfl (lv_at hl 7 rfl) ?_
                              refine lv_bipush (v := nI 6) hx hb d_Mod_node1_324 rfl ?_
                              refine lv_icmp_ne (tgt := 358) hx hb d_Mod_node1_326 (by decide) (fun c326 => ?_) (fun c326 => ?_)
                              · skip
                                have c326 : ¬ (1 = 6) := fun h => c326 ((nI_eq (by omega) (by omega)).mpr h)
                                refine lv_iload_n hx hb d_Mod_node1_358 rfl (lv_at hl 7 rfl) ?_
                                refine lv_bipush (v := nI 8) hx hb d_Mod_node1_359 rfl ?_
                                refine lv_icmp_ne (tgt := 414) hx hb d_Mod_node1_361 (by decide) (fun c361 => ?_) (fun c361 => ?_)
                                · skip
                                  have c361 : ¬ (1 = 8) := fun h => c361 ((nI_eq (by omega) (by omega)).mpr h)
                                  refine lv_iload_n hx hb d_Mod_node1_414 rfl (lv_at hl 7 rfl) ?_
                                  refine lv_bipush (v := nI 9) hx hb d_Mod_node1_415 rfl ?_
                                  refine lv_icmp_ne (tgt := 437) hx hb d_Mod_node1_417 (by decide) (fun c417 => ?_) (fun c417 => ?_)
                                  · skip
                                    have c417 : ¬ (1 = 9) := fun h => c417 ((nI_eq (by omega) (by omega)).mpr h)
                                    refine lv_iload_n hx hb d_Mod_node1_437 rfl (lv_at hl 7 rfl) ?_
                                    refine lv_bipush (v := nI 10) hx hb d_Mod_node1_438 rfl ?_
                                    refine lv_icmp_ne (tgt := 478) hx hb d_Mod_node1_440 (by decide) (fun c440 => ?_) (fun c440 => ?_)
                                    · skip
                                      have c440 : ¬ (1 = 10) := fun h => c440 ((nI_eq (by omega) (by omega)).mpr h)
                                      refine lv_aload_n hx hb d_Mod_node1_478 rfl (lv_at hl 8 rfl) ?_
                                      refine va_get (D := (dC, dI)) (ci := 6) (v := .ref a_mbit) (C := R_Mod) (T := F_Mod) (N := 27) hx hb hts (wi i_Mod) hown hK hP 0 rfl rfl 13 (by decide) (hts _ (mt 555 rfl rfl)) (fun _ h9 => h9) rfl d_Mod_node1_479 ?_
                                      refine lv_bipush (v := nI 8) hx hb d_Mod_node1_482 rfl ?_
                                      refine lv_iload_n hx hb d_Mod_node1_484 rfl (lv_at hl 9 rfl) ?_
                                      refine lv_imul hx hb d_Mod_node1_485 ?_
                                      refine k_top (pk_mul _ _) ?_
                                      refine lv_iload hx hb d_Mod_node1_486 (lv_at hl 1 rfl) ?_
                                      refine lv_iadd hx hb d_Mod_node1_488 ?_
                                      refine k_top (nI_add _ _) ?_
                                      refine lv_iload hx hb d_Mod_node1_489 (lv_at hl 0 rfl) ?_
                                      refine k_ist hx hb hK hP hD hS 6 0 rfl rfl (by omega) (by decide) d_Mod_node1_491 (fun H locs hP hD hS => ?_)
                                      have bb_17 : ∀ j, upN B1 ((8 * S) + b) v_16 j < 2786 := upN_lt b_B1 (by have := hl9.1; omega)
                                      have hP : va_P (dC, dI) classes [(a_mod, .inr (6, [.ref a_mkind, .ref a_mwidth, .ref a_mreset, .ref a_mop, .ref a_mka, .ref a_mkb, .ref a_mkc, .ref a_mheld, .int (nI mN), .ref a_msort, .ref a_mof, .ref a_mfrom, .int (nI mMs), .ref a_mbit, .ref a_mdone, .ref a_mrests, .ref a_mxx, .ref a_myy, .ref a_mdepth, .ref a_mone, .int (nI mGv_6), .int (nI mCk), .int mFw, .int (nI mRd), .ref a_mbefore, .ref a_mfirst, .ref a_mturned])), (a_mwidth, .inl (cI, 14, .inl (nF mWd))), (a_mop, .inl (cI, 14, .inl mOp)), (a_mka, .inl (cI, 14, .inl mAa)), (a_mkb, .inl (cI, 14, .inl mAb)), (a_mkc, .inl (cI, 14, .inl mAc)), (a_mbit, .inl (cI, 224, .inl (nF (upN B1 ((8 * S) + b) v_16)))), (a_mxx, .inl (cI, 2600, .inl (nF mXv_7))), (a_myy, .inl (cI, 2600, .inl (nF mYv_8))), (a_mdepth, .inl (cI, 2600, .inl (nF mDev_9)))] H := hP
                                      have hD : va_D A [(a_mod, .inr (6, [.ref a_mkind, .ref a_mwidth, .ref a_mreset, .ref a_mop, .ref a_mka, .ref a_mkb, .ref a_mkc, .ref a_mheld, .int (nI mN), .ref a_msort, .ref a_mof, .ref a_mfrom, .int (nI mMs), .ref a_mbit, .ref a_mdone, .ref a_mrests, .ref a_mxx, .ref a_myy, .ref a_mdepth, .ref a_mone, .int (nI mGv_6), .int (nI mCk), .int mFw, .int (nI mRd), .ref a_mbefore, .ref a_mfirst, .ref a_mturned])), (a_mwidth, .inl (cI, 14, .inl (nF mWd))), (a_mop, .inl (cI, 14, .inl mOp)), (a_mka, .inl (cI, 14, .inl mAa)), (a_mkb, .inl (cI, 14, .inl mAb)), (a_mkc, .inl (cI, 14, .inl mAc)), (a_mbit, .inl (cI, 224, .inl (nF (upN B1 ((8 * S) + b) v_16)))), (a_mxx, .inl (cI, 2600, .inl (nF mXv_7))), (a_myy, .inl (cI, 2600, .inl (nF mYv_8))), (a_mdepth, .inl (cI, 2600, .inl (nF mDev_9)))] := hD
                                      refine lv_iinc (v := nI (b + 1)) (lv' := [(8, .int (nI (b + 1))), (9, .int (nI v_16)), (7, .int (nI 1)), (6, .int (nI 0)), (5, .int (nI (mWd S))), (4, .int (nI Y)), (3, .int (nI X)), (2, .int (nI 1)), (0, .ref a_mod), (1, .int (nI S))]) hx hb d_Mod_node1_492 hl (k := 1) rfl (k_inc _ 1) (by decide) rfl (fun ls hl => ?_)
                                      refine lv_goto (tgt := 85) hx hb d_Mod_node1_495 (by decide) ?_
                                      have hI_18 : (mGv_6 ≤ 1280) ∧ (∀ j, mXv_7 j < 2786) ∧ (∀ j, mYv_8 j < 2786) ∧ (∀ j, mDev_9 j < 1400) ∧ (∀ j, (upN B1 ((8 * S) + b) v_16) j < 2786) ∧ (NJ mGv_6 gdv_10 Pv_11 Dpv_12 Slv_13 Tv_14) ∧ (MXY mGv_6 mXv_7 mYv_8 mDev_9 Pv_11 Dpv_12) ∧ (AL K Tv_14 mGv_6) ∧ (ST T mG Tv_14 mGv_6 (catL (fun j => jl (CB X j) (CB Y j)) (b + 1))) ∧ (Out mBi (upN B1 ((8 * S) + b) v_16) S) ∧ (∀ j, j < (b + 1) → OKc Tv_14 mGv_6 ((upN B1 ((8 * S) + b) v_16) (8 * S + j)) (jn (CB X j) (CB Y j))) ∧ ((b + 1) ≤ mWd S) := ⟨(by omega), b_mXv_7, b_mYv_8, b_mDev_9, bb_17, hN_151, hXY_151, hAL_151, (ST_tr hst1 hst_151), (Out_up8 hO1 (by omega)), (fun j hj => by
      by_cases e : j = b
      · rw [e, upN_self]; exact hl9
      · rw [upN_ne _ _ (by omega)]; exact OKc_st (hB1 j (by omega)) hst_151), (by omega)⟩
                                      exact ih_3 (b + 1, mGv_6, mXv_7, mYv_8, mDev_9, gdv_10, Pv_11, Dpv_12, Slv_13, Tv_14, upN B1 ((8 * S) + b) v_16) hI_18 (show mWd S - (b + 1) < mWd S - b from by omega) _ _ _ hP hD hS (lv_sub hl [0, 2, 3, 4, 5, 6, 7, 8, 9] rfl)
                                    · skip
                                      have c440 : 1 = 10 := (nI_eq (by omega) (by omega)).mp c440
                                      omega
                                  · skip
                                    have c417 : 1 = 9 := (nI_eq (by omega) (by omega)).mp c417
                                    omega
                                · skip
                                  have c361 : 1 = 8 := (nI_eq (by omega) (by omega)).mp c361
                                  omega
                              · skip
                                have c326 : 1 = 6 := (nI_eq (by omega) (by omega)).mp c326
                                omega
                            · skip
                              have c248 : 1 = 7 := (nI_eq (by omega) (by omega)).mp c248
                              omega
                        · skip
                          have c228 : 1 = 4 := (nI_eq (by omega) (by omega)).mp c228
                          omega
                      · skip
                        have c210 : 1 = 4 := (nI_eq (by omega) (by omega)).mp c210
                        omega
                    · skip
                      have c184 : 1 = 3 := (nI_eq (by omega) (by omega)).mp c184
                      omega
                  · skip
                    have c158 : 1 = 2 := (nI_eq (by omega) (by omega)).mp c158
                    omega
              · skip
                have c111 : 1 = 0 := (nI_eq0 (by omega)).mp c111
                omega
            · skip
              have c95 : 1 = 11 := (nI_eq (by omega) (by omega)).mp c95
              omega
        · skip
          have c69 : 1 = 7 := (nI_eq (by omega) (by omega)).mp c69
          omega
    · skip
      have c31 : 1 = 7 := (nI_eq (by omega) (by omega)).mp c31
      omega
set_option maxHeartbeats 4000000 in
set_option maxRecDepth 100000 in
theorem c_Mod_node1o2 (l : Launch) (dC : Nat → ClassId) (dI : Nat → Nat → Nat) (cI cZ : ClassId) (a_mod a_mkind a_mwidth a_mreset a_mop a_mka a_mkb a_mkc a_mheld a_msort a_mof a_mfrom a_mbit a_mdone a_mrests a_mxx a_myy a_mdepth a_mone a_mbefore a_mfirst a_mturned : Nat) (tt sz : Nat) (mN : Nat) (mMs : Nat) (mG : Nat) (mCk : Nat) (mFw : Int32) (mRd : Nat) (mWd : Nat → Nat) (mOp : Nat → Int32) (mAa : Nat → Int32) (mAb : Nat → Int32) (mAc : Nat → Int32) (mBi : Nat → Nat) (mX : Nat → Nat) (mY : Nat → Nat) (mDe : Nat → Nat) (gd : Nat) (P : Nat → Nat) (Dp : Nat → Nat) (Sl : Nat → Nat) (T : Nat → Nat) (K : List Nat) (CB : Nat → Nat → Nat) (X : Nat) (Y : Nat) (S : Nat) (b_mN : mN ≤ 14) (b_mMs : mMs ≤ 20) (b_mG : mG ≤ 1280) (b_mRd : mRd ≤ 1) (b_mWd : ∀ j, mWd j < 9) (b_mBi : ∀ j, mBi j < 2786) (b_mX : ∀ j, mX j < 2786) (b_mY : ∀ j, mY j < 2786) (b_mDe : ∀ j, mDe j < 1400) (hN : NJ mG gd P Dp Sl T) (hXY : MXY mG mX mY mDe P Dp) (hAL : AL K T mG) (hS14 : S < 14) (hW1 : 1 ≤ mWd S) (hop : mOp S = nI 2) (hax : mAa S = nI X) (hx1 : X < 14 ∧ X ≠ S ∧ ∀ j, OKc T mG (lit mBi mWd X j) (CB X j)) (hay : mAb S = nI Y) (hy1 : Y < 14 ∧ Y ≠ S ∧ ∀ j, OKc T mG (lit mBi mWd Y j) (CB Y j)) (hgl : ∀ c, c ∈ ncL mWd CB 2 (mAa S) (mAb S) (mAc S) (mWd S) → c ∈ K) : Met l y_Mod_node1 w_Mod_node1 ({ frames := 6, cells := 0, slots := 0, locals := 200 }) (va_Pc [.ref a_mod, .int (nI S)] (PW (dC, dI) classes [(cI, .int), (cZ, .boolean)] tt [(a_mod, .inr (6, [.ref a_mkind, .ref a_mwidth, .ref a_mreset, .ref a_mop, .ref a_mka, .ref a_mkb, .ref a_mkc, .ref a_mheld, .int (nI mN), .ref a_msort, .ref a_mof, .ref a_mfrom, .int (nI mMs), .ref a_mbit, .ref a_mdone, .ref a_mrests, .ref a_mxx, .ref a_myy, .ref a_mdepth, .ref a_mone, .int (nI mG), .int (nI mCk), .int mFw, .int (nI mRd), .ref a_mbefore, .ref a_mfirst, .ref a_mturned])), (a_mwidth, .inl (cI, 14, .inl (nF mWd))), (a_mop, .inl (cI, 14, .inl mOp)), (a_mka, .inl (cI, 14, .inl mAa)), (a_mkb, .inl (cI, 14, .inl mAb)), (a_mkc, .inl (cI, 14, .inl mAc)), (a_mbit, .inl (cI, 224, .inl (nF mBi))), (a_mxx, .inl (cI, 2600, .inl (nF mX))), (a_myy, .inl (cI, 2600, .inl (nF mY))), (a_mdepth, .inl (cI, 2600, .inl (nF mDe)))] sz)) (va_Qv (fun (u : Nat × (Nat → Nat) × (Nat → Nat) × (Nat → Nat) × Nat × (Nat → Nat) × (Nat → Nat) × (Nat → Nat) × (Nat → Nat) × (Nat → Nat)) => (u.1 ≤ 1280) ∧ (∀ j, u.2.1 j < 2786) ∧ (∀ j, u.2.2.1 j < 2786) ∧ (∀ j, u.2.2.2.1 j < 1400) ∧ (∀ j, u.2.2.2.2.2.2.2.2.2 j < 2786) ∧ (NJ u.1 u.2.2.2.2.1 u.2.2.2.2.2.1 u.2.2.2.2.2.2.1 u.2.2.2.2.2.2.2.1 u.2.2.2.2.2.2.2.2.1) ∧ (MXY u.1 u.2.1 u.2.2.1 u.2.2.2.1 u.2.2.2.2.2.1 u.2.2.2.2.2.2.1) ∧ (AL K u.2.2.2.2.2.2.2.2.1 u.1) ∧ (ST T mG u.2.2.2.2.2.2.2.2.1 u.1 (ncL mWd CB 2 (mAa S) (mAb S) (mAc S) (mWd S))) ∧ (Out mBi u.2.2.2.2.2.2.2.2.2 S) ∧ (∀ j, j < mWd S → OKc u.2.2.2.2.2.2.2.2.1 u.1 (u.2.2.2.2.2.2.2.2.2 (8 * S + j)) (nc mWd CB 2 (mAa S) (mAb S) (mAc S) j))) (AT (dC, dI) classes [(cI, .int), (cZ, .boolean)] (va_A [(a_mod, .inr (6, [.ref a_mkind, .ref a_mwidth, .ref a_mreset, .ref a_mop, .ref a_mka, .ref a_mkb, .ref a_mkc, .ref a_mheld, .int (nI mN), .ref a_msort, .ref a_mof, .ref a_mfrom, .int (nI mMs), .ref a_mbit, .ref a_mdone, .ref a_mrests, .ref a_mxx, .ref a_myy, .ref a_mdepth, .ref a_mone, .int (nI mG), .int (nI mCk), .int mFw, .int (nI mRd), .ref a_mbefore, .ref a_mfirst, .ref a_mturned])), (a_mwidth, .inl (cI, 14, .inl (nF mWd))), (a_mop, .inl (cI, 14, .inl mOp)), (a_mka, .inl (cI, 14, .inl mAa)), (a_mkb, .inl (cI, 14, .inl mAb)), (a_mkc, .inl (cI, 14, .inl mAc)), (a_mbit, .inl (cI, 224, .inl (nF mBi))), (a_mxx, .inl (cI, 2600, .inl (nF mX))), (a_myy, .inl (cI, 2600, .inl (nF mY))), (a_mdepth, .inl (cI, 2600, .inl (nF mDe)))] sz) (fun (u : Nat × (Nat → Nat) × (Nat → Nat) × (Nat → Nat) × Nat × (Nat → Nat) × (Nat → Nat) × (Nat → Nat) × (Nat → Nat) × (Nat → Nat)) => [(a_mod, .inr (6, [.ref a_mkind, .ref a_mwidth, .ref a_mreset, .ref a_mop, .ref a_mka, .ref a_mkb, .ref a_mkc, .ref a_mheld, .int (nI mN), .ref a_msort, .ref a_mof, .ref a_mfrom, .int (nI mMs), .ref a_mbit, .ref a_mdone, .ref a_mrests, .ref a_mxx, .ref a_myy, .ref a_mdepth, .ref a_mone, .int (nI u.1), .int (nI mCk), .int mFw, .int (nI mRd), .ref a_mbefore, .ref a_mfirst, .ref a_mturned])), (a_mwidth, .inl (cI, 14, .inl (nF mWd))), (a_mop, .inl (cI, 14, .inl mOp)), (a_mka, .inl (cI, 14, .inl mAa)), (a_mkb, .inl (cI, 14, .inl mAb)), (a_mkc, .inl (cI, 14, .inl mAc)), (a_mbit, .inl (cI, 224, .inl (nF u.2.2.2.2.2.2.2.2.2))), (a_mxx, .inl (cI, 2600, .inl (nF u.2.1))), (a_myy, .inl (cI, 2600, .inl (nF u.2.2.1))), (a_mdepth, .inl (cI, 2600, .inl (nF u.2.2.2.1)))])) (va_A [(a_mod, .inr (6, [.ref a_mkind, .ref a_mwidth, .ref a_mreset, .ref a_mop, .ref a_mka, .ref a_mkb, .ref a_mkc, .ref a_mheld, .int (nI mN), .ref a_msort, .ref a_mof, .ref a_mfrom, .int (nI mMs), .ref a_mbit, .ref a_mdone, .ref a_mrests, .ref a_mxx, .ref a_myy, .ref a_mdepth, .ref a_mone, .int (nI mG), .int (nI mCk), .int mFw, .int (nI mRd), .ref a_mbefore, .ref a_mfirst, .ref a_mturned])), (a_mwidth, .inl (cI, 14, .inl (nF mWd))), (a_mop, .inl (cI, 14, .inl mOp)), (a_mka, .inl (cI, 14, .inl mAa)), (a_mkb, .inl (cI, 14, .inl mAb)), (a_mkc, .inl (cI, 14, .inl mAc)), (a_mbit, .inl (cI, 224, .inl (nF mBi))), (a_mxx, .inl (cI, 2600, .inl (nF mX))), (a_myy, .inl (cI, 2600, .inl (nF mY))), (a_mdepth, .inl (cI, 2600, .inl (nF mDe)))] sz)) 0 0 (va_A [(a_mod, .inr (6, [.ref a_mkind, .ref a_mwidth, .ref a_mreset, .ref a_mop, .ref a_mka, .ref a_mkb, .ref a_mkc, .ref a_mheld, .int (nI mN), .ref a_msort, .ref a_mof, .ref a_mfrom, .int (nI mMs), .ref a_mbit, .ref a_mdone, .ref a_mrests, .ref a_mxx, .ref a_myy, .ref a_mdepth, .ref a_mone, .int (nI mG), .int (nI mCk), .int mFw, .int (nI mRd), .ref a_mbefore, .ref a_mfirst, .ref a_mturned])), (a_mwidth, .inl (cI, 14, .inl (nF mWd))), (a_mop, .inl (cI, 14, .inl mOp)), (a_mka, .inl (cI, 14, .inl mAa)), (a_mkb, .inl (cI, 14, .inl mAb)), (a_mkc, .inl (cI, 14, .inl mAc)), (a_mbit, .inl (cI, 224, .inl (nF mBi))), (a_mxx, .inl (cI, 2600, .inl (nF mX))), (a_myy, .inl (cI, 2600, .inl (nF mY))), (a_mdepth, .inl (cI, 2600, .inl (nF mDe)))] sz) := by
  refine Met.ofW (cc := b_Mod_node1) (maxL := 13) (ret := none) (by decide) rfl ?_
  intro p e s m args below meth c s₁ B hml hv
  obtain ⟨rfl, hsz, hP, hK, hD0, hE⟩ := hv
  have hx := B.exec
  have hb := B.bytes
  have hr := B.returns
  have hts := atoms_spec (ws := w_Mod_node1) B.pre
  have hown : s.vm.findClass R_Mod = some m.cls := findClass_of_methodNamed B.named
  have hlocks := B.notSynchronized
  subst hsz
  have hD := hD0.self (sz := s.heap.size)
  generalize hAe : va_A [(a_mod, .inr (6, [.ref a_mkind, .ref a_mwidth, .ref a_mreset, .ref a_mop, .ref a_mka, .ref a_mkb, .ref a_mkc, .ref a_mheld, .int (nI mN), .ref a_msort, .ref a_mof, .ref a_mfrom, .int (nI mMs), .ref a_mbit, .ref a_mdone, .ref a_mrests, .ref a_mxx, .ref a_myy, .ref a_mdepth, .ref a_mone, .int (nI mG), .int (nI mCk), .int mFw, .int (nI mRd), .ref a_mbefore, .ref a_mfirst, .ref a_mturned])), (a_mwidth, .inl (cI, 14, .inl (nF mWd))), (a_mop, .inl (cI, 14, .inl mOp)), (a_mka, .inl (cI, 14, .inl mAa)), (a_mkb, .inl (cI, 14, .inl mAb)), (a_mkc, .inl (cI, 14, .inl mAc)), (a_mbit, .inl (cI, 224, .inl (nF mBi))), (a_mxx, .inl (cI, 2600, .inl (nF mX))), (a_myy, .inl (cI, 2600, .inl (nF mY))), (a_mdepth, .inl (cI, 2600, .inl (nF mDe)))] s.heap.size = A at hD hE ⊢
  have hA : ∀ q : Nat, s.heap.size ≤ q → A q := fun q h => by rw [← hAe]; exact Or.inr h
  have hS : va_S A s.heap s.heap [] := va_S.rf
  have hP : va_P (dC, dI) classes [(a_mod, .inr (6, [.ref a_mkind, .ref a_mwidth, .ref a_mreset, .ref a_mop, .ref a_mka, .ref a_mkb, .ref a_mkc, .ref a_mheld, .int (nI mN), .ref a_msort, .ref a_mof, .ref a_mfrom, .int (nI mMs), .ref a_mbit, .ref a_mdone, .ref a_mrests, .ref a_mxx, .ref a_myy, .ref a_mdepth, .ref a_mone, .int (nI mG), .int (nI mCk), .int mFw, .int (nI mRd), .ref a_mbefore, .ref a_mfirst, .ref a_mturned])), (a_mwidth, .inl (cI, 14, .inl (nF mWd))), (a_mop, .inl (cI, 14, .inl mOp)), (a_mka, .inl (cI, 14, .inl mAa)), (a_mkb, .inl (cI, 14, .inl mAb)), (a_mkc, .inl (cI, 14, .inl mAc)), (a_mbit, .inl (cI, 224, .inl (nF mBi))), (a_mxx, .inl (cI, 2600, .inl (nF mX))), (a_myy, .inl (cI, 2600, .inl (nF mY))), (a_mdepth, .inl (cI, 2600, .inl (nF mDe)))] s.heap := hP
  have hl := lv_entry ([.ref a_mod, .int (nI S)]) (n := 13) (Nat.le_of_ble_eq_true rfl)
  rw [lg_entry_eq]
  generalize (lg_sl ([.ref a_mod, .int (nI S)]) ++ List.replicate (13 - (lg_sl ([.ref a_mod, .int (nI S)])).length) Slot.unset).toArray = ls at hl ⊢
  have hl : lv_has ls 13 [(0, .ref a_mod), (1, .int (nI S))] := hl
  have eX : ix (mAa S) = X := ix_of hax (by omega)
  have eY : ix (mAb S) = Y := ix_of hay (by have := b_mWd X; omega)
  have hWs := b_mWd S
  have hWx := b_mWd X
  have hWy := b_mWd Y
  have eL : ncL mWd CB 2 (mAa S) (mAb S) (mAc S) (mWd S) = catL (fun j => eil (CB X j) (CB Y j)) (mWd S) := by show catL (fun j => eil (CB (ix (mAa S)) j) (CB (ix (mAb S)) j)) (mWd S) = _; rw [eX, eY]
  have eV : ∀ j, nc mWd CB 2 (mAa S) (mAb S) (mAc S) j = ei (CB X j) (CB Y j) := fun j => by show ei (CB (ix (mAa S)) j) (CB (ix (mAb S)) j) = _; rw [eX, eY]
  refine lv_aload_n hx hb d_Mod_node1_0 rfl (lv_at hl 0 rfl) ?_
  refine va_get (D := (dC, dI)) (ci := 6) (v := .ref a_mop) (C := R_Mod) (T := F_Mod) (N := 27) hx hb hts (wi i_Mod) hown hK hP 0 rfl rfl 3 (by decide) (hts _ (mt 545 rfl rfl)) (fun _ h9 => h9) rfl d_Mod_node1_1 ?_
  refine lv_iload_n hx hb d_Mod_node1_4 rfl (lv_at hl 1 rfl) ?_
  refine k_rld hx hb hK hP 2 0 rfl rfl (by omega) (by decide) d_Mod_node1_5 ?_
  refine k_top (show mOp S = nI 2 from hop) ?_
  refine lv_istore_n (lv' := [(2, .int (nI 2)), (0, .ref a_mod), (1, .int (nI S))]) hx hb d_Mod_node1_6 rfl hl (by decide) rfl (fun ls hl => ?_)
  refine lv_aload_n hx hb d_Mod_node1_7 rfl (lv_at hl 1 rfl) ?_
  refine va_get (D := (dC, dI)) (ci := 6) (v := .ref a_mka) (C := R_Mod) (T := F_Mod) (N := 27) hx hb hts (wi i_Mod) hown hK hP 0 rfl rfl 4 (by decide) (hts _ (mt 546 rfl rfl)) (fun _ h9 => h9) rfl d_Mod_node1_8 ?_
  refine lv_iload_n hx hb d_Mod_node1_11 rfl (lv_at hl 2 rfl) ?_
  refine k_rld hx hb hK hP 3 0 rfl rfl (by omega) (by decide) d_Mod_node1_12 ?_
  refine k_top (show mAa S = nI X from hax) ?_
  refine lv_istore_n (lv' := [(3, .int (nI X)), (2, .int (nI 2)), (0, .ref a_mod), (1, .int (nI S))]) hx hb d_Mod_node1_13 rfl hl (by decide) rfl (fun ls hl => ?_)
  refine lv_aload_n hx hb d_Mod_node1_14 rfl (lv_at hl 2 rfl) ?_
  refine va_get (D := (dC, dI)) (ci := 6) (v := .ref a_mkb) (C := R_Mod) (T := F_Mod) (N := 27) hx hb hts (wi i_Mod) hown hK hP 0 rfl rfl 5 (by decide) (hts _ (mt 547 rfl rfl)) (fun _ h9 => h9) rfl d_Mod_node1_15 ?_
  refine lv_iload_n hx hb d_Mod_node1_18 rfl (lv_at hl 3 rfl) ?_
  refine k_rld hx hb hK hP 4 0 rfl rfl (by omega) (by decide) d_Mod_node1_19 ?_
  refine k_top (show mAb S = nI Y from hay) ?_
  refine lv_istore (lv' := [(4, .int (nI Y)), (3, .int (nI X)), (2, .int (nI 2)), (0, .ref a_mod), (1, .int (nI S))]) hx hb d_Mod_node1_20 hl (by decide) rfl (fun ls hl => ?_)
  refine lv_iload_n hx hb d_Mod_node1_22 rfl (lv_at hl 2 rfl) ?_
  refine lv_bipush (v := nI 6) hx hb d_Mod_node1_23 rfl ?_
  refine lv_icmp_eq (tgt := 34) hx hb d_Mod_node1_25 (by decide) (fun c25 => ?_) (fun c25 => ?_)
  · skip
    have c25 : 2 = 6 := (nI_eq (by omega) (by omega)).mp c25
    omega
  · skip
    have c25 : ¬ (2 = 6) := fun h => c25 ((nI_eq (by omega) (by omega)).mpr h)
    refine lv_iload_n hx hb d_Mod_node1_28 rfl (lv_at hl 2 rfl) ?_
    refine lv_bipush (v := nI 7) hx hb d_Mod_node1_29 rfl ?_
    refine lv_icmp_ne (tgt := 53) hx hb d_Mod_node1_31 (by decide) (fun c31 => ?_) (fun c31 => ?_)
    · skip
      have c31 : ¬ (2 = 7) := fun h => c31 ((nI_eq (by omega) (by omega)).mpr h)
      refine lv_aload_n hx hb d_Mod_node1_53 rfl (lv_at hl 3 rfl) ?_
      refine va_get (D := (dC, dI)) (ci := 6) (v := .ref a_mwidth) (C := R_Mod) (T := F_Mod) (N := 27) hx hb hts (wi i_Mod) hown hK hP 0 rfl rfl 1 (by decide) (hts _ (mt 543 rfl rfl)) (fun _ h9 => h9) rfl d_Mod_node1_54 ?_
      refine lv_iload_n hx hb d_Mod_node1_57 rfl (lv_at hl 4 rfl) ?_
      refine k_ild hx hb hK hP 1 0 rfl rfl (by omega) (by decide) d_Mod_node1_58 ?_
      have hb_1 := b_mWd S
      refine lv_istore (lv' := [(5, .int (nI (mWd S))), (4, .int (nI Y)), (3, .int (nI X)), (2, .int (nI 2)), (0, .ref a_mod), (1, .int (nI S))]) hx hb d_Mod_node1_59 hl (by decide) rfl (fun ls hl => ?_)
      refine lv_iload_n hx hb d_Mod_node1_61 rfl (lv_at hl 3 rfl) ?_
      refine lv_iconst (v := nI 5) hx hb d_Mod_node1_62 rfl ?_
      refine lv_icmp_eq (tgt := 72) hx hb d_Mod_node1_63 (by decide) (fun c63 => ?_) (fun c63 => ?_)
      · skip
        have c63 : 2 = 5 := (nI_eq (by omega) (by omega)).mp c63
        omega
      · skip
        have c63 : ¬ (2 = 5) := fun h => c63 ((nI_eq (by omega) (by omega)).mpr h)
        refine lv_iload_n hx hb d_Mod_node1_66 rfl (lv_at hl 3 rfl) ?_
        refine lv_bipush (v := nI 7) hx hb d_Mod_node1_67 rfl ?_
        refine lv_icmp_ne (tgt := 76) hx hb d_Mod_node1_69 (by decide) (fun c69 => ?_) (fun c69 => ?_)
        · skip
          have c69 : ¬ (2 = 7) := fun h => c69 ((nI_eq (by omega) (by omega)).mpr h)
          refine lv_iconst (v := nI 0) hx hb d_Mod_node1_76 rfl ?_
          refine lv_istore (lv' := [(6, .int (nI 0)), (5, .int (nI (mWd S))), (4, .int (nI Y)), (3, .int (nI X)), (2, .int (nI 2)), (0, .ref a_mod), (1, .int (nI S))]) hx hb d_Mod_node1_77 hl (by decide) rfl (fun ls hl => ?_)
          refine lv_iconst (v := nI 1) hx hb d_Mod_node1_79 rfl ?_
          refine lv_istore (lv' := [(7, .int (nI 1)), (6, .int (nI 0)), (5, .int (nI (mWd S))), (4, .int (nI Y)), (3, .int (nI X)), (2, .int (nI 2)), (0, .ref a_mod), (1, .int (nI S))]) hx hb d_Mod_node1_80 hl (by decide) rfl (fun ls hl => ?_)
          refine lv_iconst (v := nI 0) hx hb d_Mod_node1_82 rfl ?_
          refine lv_istore (lv' := [(8, .int (nI 0)), (7, .int (nI 1)), (6, .int (nI 0)), (5, .int (nI (mWd S))), (4, .int (nI Y)), (3, .int (nI X)), (2, .int (nI 2)), (0, .ref a_mod), (1, .int (nI S))]) hx hb d_Mod_node1_83 hl (by decide) rfl (fun ls hl => ?_)
          have hI_2 : (mG ≤ 1280) ∧ (∀ j, mX j < 2786) ∧ (∀ j, mY j < 2786) ∧ (∀ j, mDe j < 1400) ∧ (∀ j, mBi j < 2786) ∧ (NJ mG gd P Dp Sl T) ∧ (MXY mG mX mY mDe P Dp) ∧ (AL K T mG) ∧ (ST T mG T mG (catL (fun j => eil (CB X j) (CB Y j)) 0)) ∧ (Out mBi mBi S) ∧ (∀ j, j < 0 → OKc T mG (mBi (8 * S + j)) (ei (CB X j) (CB Y j))) ∧ (0 ≤ mWd S) := ⟨(by omega), b_mX, b_mY, b_mDe, b_mBi, hN, hXY, hAL, (ST_rf rfl), (Out_rf mBi S), (fun j h => absurd h (by omega)), (by omega)⟩
          refine k_loop (σ := Nat × Nat × (Nat → Nat) × (Nat → Nat) × (Nat → Nat) × Nat × (Nat → Nat) × (Nat → Nat) × (Nat → Nat) × (Nat → Nat) × (Nat → Nat)) (D := (dC, dI)) (cl := classes) (A := A) (H0 := s.heap) (fun x => [(a_mod, .inr (6, [.ref a_mkind, .ref a_mwidth, .ref a_mreset, .ref a_mop, .ref a_mka, .ref a_mkb, .ref a_mkc, .ref a_mheld, .int (nI mN), .ref a_msort, .ref a_mof, .ref a_mfrom, .int (nI mMs), .ref a_mbit, .ref a_mdone, .ref a_mrests, .ref a_mxx, .ref a_myy, .ref a_mdepth, .ref a_mone, .int (nI x.2.1), .int (nI mCk), .int mFw, .int (nI mRd), .ref a_mbefore, .ref a_mfirst, .ref a_mturned])), (a_mwidth, .inl (cI, 14, .inl (nF mWd))), (a_mop, .inl (cI, 14, .inl mOp)), (a_mka, .inl (cI, 14, .inl mAa)), (a_mkb, .inl (cI, 14, .inl mAb)), (a_mkc, .inl (cI, 14, .inl mAc)), (a_mbit, .inl (cI, 224, .inl (nF x.2.2.2.2.2.2.2.2.2.2))), (a_mxx, .inl (cI, 2600, .inl (nF x.2.2.1))), (a_myy, .inl (cI, 2600, .inl (nF x.2.2.2.1))), (a_mdepth, .inl (cI, 2600, .inl (nF x.2.2.2.2.1)))]) (fun x => [(8, .int (nI x.1)), (7, .int (nI 1)), (6, .int (nI 0)), (5, .int (nI (mWd S))), (4, .int (nI Y)), (3, .int (nI X)), (2, .int (nI 2)), (0, .ref a_mod), (1, .int (nI S))]) (fun x => (x.2.1 ≤ 1280) ∧ (∀ j, x.2.2.1 j < 2786) ∧ (∀ j, x.2.2.2.1 j < 2786) ∧ (∀ j, x.2.2.2.2.1 j < 1400) ∧ (∀ j, x.2.2.2.2.2.2.2.2.2.2 j < 2786) ∧ (NJ x.2.1 x.2.2.2.2.2.1 x.2.2.2.2.2.2.1 x.2.2.2.2.2.2.2.1 x.2.2.2.2.2.2.2.2.1 x.2.2.2.2.2.2.2.2.2.1) ∧ (MXY x.2.1 x.2.2.1 x.2.2.2.1 x.2.2.2.2.1 x.2.2.2.2.2.2.1 x.2.2.2.2.2.2.2.1) ∧ (AL K x.2.2.2.2.2.2.2.2.2.1 x.2.1) ∧ (ST T mG x.2.2.2.2.2.2.2.2.2.1 x.2.1 (catL (fun j => eil (CB X j) (CB Y j)) x.1)) ∧ (Out mBi x.2.2.2.2.2.2.2.2.2.2 S) ∧ (∀ j, j < x.1 → OKc x.2.2.2.2.2.2.2.2.2.1 x.2.1 (x.2.2.2.2.2.2.2.2.2.2 (8 * S + j)) (ei (CB X j) (CB Y j))) ∧ (x.1 ≤ mWd S)) (fun x => mWd S - x.1) ?_ (0, mG, mX, mY, mDe, gd, P, Dp, Sl, T, mBi) hI_2 hP hD hS (lv_sub hl [0, 1, 2, 3, 4, 5, 6, 7, 8] rfl)
          rintro ⟨b, mG1, mX1, mY1, mDe1, gd1, P1, Dp1, Sl1, T1, B1⟩ hI ih_3 H locs ls hP hD hS hl
          obtain ⟨b_mG1, b_mX1, b_mY1, b_mDe1, b_B1, hN1, hXY1, hAL1, hst1, hO1, hB1, hbw⟩ : (mG1 ≤ 1280) ∧ (∀ j, mX1 j < 2786) ∧ (∀ j, mY1 j < 2786) ∧ (∀ j, mDe1 j < 1400) ∧ (∀ j, B1 j < 2786) ∧ (NJ mG1 gd1 P1 Dp1 Sl1 T1) ∧ (MXY mG1 mX1 mY1 mDe1 P1 Dp1) ∧ (AL K T1 mG1) ∧ (ST T mG T1 mG1 (catL (fun j => eil (CB X j) (CB Y j)) b)) ∧ (Out mBi B1 S) ∧ (∀ j, j < b → OKc T1 mG1 (B1 (8 * S + j)) (ei (CB X j) (CB Y j))) ∧ (b ≤ mWd S) := hI
          have hP : va_P (dC, dI) classes [(a_mod, .inr (6, [.ref a_mkind, .ref a_mwidth, .ref a_mreset, .ref a_mop, .ref a_mka, .ref a_mkb, .ref a_mkc, .ref a_mheld, .int (nI mN), .ref a_msort, .ref a_mof, .ref a_mfrom, .int (nI mMs), .ref a_mbit, .ref a_mdone, .ref a_mrests, .ref a_mxx, .ref a_myy, .ref a_mdepth, .ref a_mone, .int (nI mG1), .int (nI mCk), .int mFw, .int (nI mRd), .ref a_mbefore, .ref a_mfirst, .ref a_mturned])), (a_mwidth, .inl (cI, 14, .inl (nF mWd))), (a_mop, .inl (cI, 14, .inl mOp)), (a_mka, .inl (cI, 14, .inl mAa)), (a_mkb, .inl (cI, 14, .inl mAb)), (a_mkc, .inl (cI, 14, .inl mAc)), (a_mbit, .inl (cI, 224, .inl (nF B1))), (a_mxx, .inl (cI, 2600, .inl (nF mX1))), (a_myy, .inl (cI, 2600, .inl (nF mY1))), (a_mdepth, .inl (cI, 2600, .inl (nF mDe1)))] H := hP
          have hD : va_D A [(a_mod, .inr (6, [.ref a_mkind, .ref a_mwidth, .ref a_mreset, .ref a_mop, .ref a_mka, .ref a_mkb, .ref a_mkc, .ref a_mheld, .int (nI mN), .ref a_msort, .ref a_mof, .ref a_mfrom, .int (nI mMs), .ref a_mbit, .ref a_mdone, .ref a_mrests, .ref a_mxx, .ref a_myy, .ref a_mdepth, .ref a_mone, .int (nI mG1), .int (nI mCk), .int mFw, .int (nI mRd), .ref a_mbefore, .ref a_mfirst, .ref a_mturned])), (a_mwidth, .inl (cI, 14, .inl (nF mWd))), (a_mop, .inl (cI, 14, .inl mOp)), (a_mka, .inl (cI, 14, .inl mAa)), (a_mkb, .inl (cI, 14, .inl mAb)), (a_mkc, .inl (cI, 14, .inl mAc)), (a_mbit, .inl (cI, 224, .inl (nF B1))), (a_mxx, .inl (cI, 2600, .inl (nF mX1))), (a_myy, .inl (cI, 2600, .inl (nF mY1))), (a_mdepth, .inl (cI, 2600, .inl (nF mDe1)))] := hD
          have hl : lv_has ls 13 [(8, .int (nI b)), (7, .int (nI 1)), (6, .int (nI 0)), (5, .int (nI (mWd S))), (4, .int (nI Y)), (3, .int (nI X)), (2, .int (nI 2)), (0, .ref a_mod), (1, .int (nI S))] := hl
          refine lv_iload hx hb d_Mod_node1_85 (lv_at hl 0 rfl) ?_
          refine lv_iload hx hb d_Mod_node1_87 (lv_at hl 3 rfl) ?_
          refine lv_icmp_ge (tgt := 498) hx hb d_Mod_node1_89 (by decide) (fun c89 => ?_) (fun c89 => ?_)
          · skip
            have c89 : (mWd S) ≤ b := (nI_leI (by omega) (by omega)).mp c89
            refine lv_iload_n hx hb d_Mod_node1_498 rfl (lv_at hl 6 rfl) ?_
            refine lv_bipush (v := nI 6) hx hb d_Mod_node1_499 rfl ?_
            refine lv_icmp_ne (tgt := 515) hx hb d_Mod_node1_501 (by decide) (fun c501 => ?_) (fun c501 => ?_)
            · skip
              have c501 : ¬ (2 = 6) := fun h => c501 ((nI_eq (by omega) (by omega)).mpr h)
              refine lv_iload_n hx hb d_Mod_node1_515 rfl (lv_at hl 6 rfl) ?_
              refine lv_bipush (v := nI 7) hx hb d_Mod_node1_516 rfl ?_
              refine lv_icmp_ne (tgt := 534) hx hb d_Mod_node1_518 (by decide) (fun c518 => ?_) (fun c518 => ?_)
              · skip
                have c518 : ¬ (2 = 7) := fun h => c518 ((nI_eq (by omega) (by omega)).mpr h)
                exact W.vret hx hb hr (fun t ht hW => ⟨⟨(mG1, mX1, mY1, mDe1, gd1, P1, Dp1, Sl1, T1, B1), rfl, ⟨(show mG1 ≤ 1280 from by omega), b_mX1, b_mY1, b_mDe1, b_B1, (show NJ mG1 gd1 P1 Dp1 Sl1 T1 from hN1), (show MXY mG1 mX1 mY1 mDe1 P1 Dp1 from hXY1), (show AL K T1 mG1 from hAL1), (show ST T mG T1 mG1 (ncL mWd CB 2 (mAa S) (mAb S) (mAc S) (mWd S)) from by rw [eL, show mWd S = b by omega]; exact hst1), (show Out mBi B1 S from hO1), (show ∀ j, j < mWd S → OKc T1 mG1 (B1 (8 * S + j)) (nc mWd CB 2 (mAa S) (mAb S) (mAc S) j) from fun j hj => by rw [eV]; exact hB1 j (by omega))⟩, by rw [ht]; exact hP, va_K.moved hW.alike hK, hD⟩, hS.F ht⟩) hS.2.2 d_Mod_node1_534
              · skip
                have c518 : 2 = 7 := (nI_eq (by omega) (by omega)).mp c518
                omega
            · skip
              have c501 : 2 = 6 := (nI_eq (by omega) (by omega)).mp c501
              omega
          · skip
            have c89 : ¬ ((mWd S) ≤ b) := fun h => c89 ((nI_leI (by omega) (by omega)).mpr h)
            refine lv_iload_n hx hb d_Mod_node1_92 rfl (lv_at hl 6 rfl) ?_
            refine lv_bipush (v := nI 11) hx hb d_Mod_node1_93 rfl ?_
            refine lv_icmp_ne (tgt := 107) hx hb d_Mod_node1_95 (by decide) (fun c95 => ?_) (fun c95 => ?_)
            · skip
              have c95 : ¬ (2 = 11) := fun h => c95 ((nI_eq (by omega) (by omega)).mpr h)
              refine lv_iconst (v := nI 0) hx hb d_Mod_node1_107 rfl ?_
              refine lv_istore (lv' := [(9, .int (nI 0)), (8, .int (nI b)), (7, .int (nI 1)), (6, .int (nI 0)), (5, .int (nI (mWd S))), (4, .int (nI Y)), (3, .int (nI X)), (2, .int (nI 2)), (0, .ref a_mod), (1, .int (nI S))]) hx hb d_Mod_node1_108 hl (by decide) rfl (fun ls hl => ?_)
              refine lv_iload_n hx hb d_Mod_node1_110 rfl (lv_at hl 7 rfl) ?_
              refine lv_if_ne (tgt := 130) hx hb d_Mod_node1_111 (by decide) (fun c111 => ?_) (fun c111 => ?_)
              · skip
                have c111 : ¬ (2 = 0) := fun h => c111 ((nI_eq0 (by omega)).mpr h)
                refine lv_iload_n hx hb d_Mod_node1_130 rfl (lv_at hl 7 rfl) ?_
                refine lv_iconst (v := nI 1) hx hb d_Mod_node1_131 rfl ?_
                refine lv_icmp_ne (tgt := 156) hx hb d_Mod_node1_132 (by decide) (fun c132 => ?_) (fun c132 => ?_)
                · skip
                  have c132 : ¬ (2 = 1) := fun h => c132 ((nI_eq (by omega) (by omega)).mpr h)
                  refine lv_iload_n hx hb d_Mod_node1_156 rfl (lv_at hl 7 rfl) ?_
                  refine lv_iconst (v := nI 2) hx hb d_Mod_node1_157 rfl ?_
                  refine lv_icmp_ne (tgt := 182) hx hb d_Mod_node1_158 (by decide) (fun c158 => ?_) (fun c158 => ?_)
                  · skip
                    have c158 : ¬ (2 = 2) := fun h => c158 ((nI_eq (by omega) (by omega)).mpr h)
                    omega
                  · skip
                    have c158 : 2 = 2 := (nI_eq (by omega) (by omega)).mp c158
                    have hx7 := OK_out (hx1.2.2 b) hst1 hO1 b_mWd hx1.2.1
                    have hx7b := hx7.1
                    have hy8 := OK_out (hy1.2.2 b) hst1 hO1 b_mWd hy1.2.1
                    have hy8b := hy8.1
                    refine lv_aload_n hx hb d_Mod_node1_161 rfl (lv_at hl 8 rfl) ?_
                    refine lv_aload_n hx hb d_Mod_node1_162 rfl (lv_at hl 8 rfl) ?_
                    refine lv_iload_n hx hb d_Mod_node1_163 rfl (lv_at hl 6 rfl) ?_
                    refine lv_iload hx hb d_Mod_node1_164 (lv_at hl 1 rfl) ?_
                    refine k_i (wr := [(a_mop, .inl (cI, 14, .inl mOp)), (a_mka, .inl (cI, 14, .inl mAa)), (a_mkb, .inl (cI, 14, .inl mAb)), (a_mkc, .inl (cI, 14, .inl mAc)), (a_mxx, .inl (cI, 2600, .inl (nF mX1))), (a_myy, .inl (cI, 2600, .inl (nF mY1))), (a_mdepth, .inl (cI, 2600, .inl (nF mDe1)))]) (w2 := fun (u : Unit) => [(a_mod, .inr (6, [.ref a_mkind, .ref a_mwidth, .ref a_mreset, .ref a_mop, .ref a_mka, .ref a_mkb, .ref a_mkc, .ref a_mheld, .int (nI mN), .ref a_msort, .ref a_mof, .ref a_mfrom, .int (nI mMs), .ref a_mbit, .ref a_mdone, .ref a_mrests, .ref a_mxx, .ref a_myy, .ref a_mdepth, .ref a_mone, .int (nI mG1), .int (nI mCk), .int mFw, .int (nI mRd), .ref a_mbefore, .ref a_mfirst, .ref a_mturned])), (a_mwidth, .inl (cI, 14, .inl (nF mWd))), (a_mop, .inl (cI, 14, .inl mOp)), (a_mka, .inl (cI, 14, .inl mAa)), (a_mkb, .inl (cI, 14, .inl mAb)), (a_mkc, .inl (cI, 14, .inl mAc)), (a_mbit, .inl (cI, 224, .inl (nF B1))), (a_mxx, .inl (cI, 2600, .inl (nF mX1))), (a_myy, .inl (cI, 2600, .inl (nF mY1))), (a_mdepth, .inl (cI, 2600, .inl (nF mDe1)))]) (va_runV (As := [.int (nI X), .int (nI b)]) (rest := [.ref a_mod]) ⟨hx, hb, hml, hown, hts⟩ (c_Mod_bitOf l dC dI cI cZ a_mod a_mkind a_mwidth a_mreset a_mop a_mka a_mkb a_mkc a_mheld a_msort a_mof a_mfrom a_mbit a_mdone a_mrests a_mxx a_myy a_mdepth a_mone a_mbefore a_mfirst a_mturned tt H.size mN mMs mG1 mCk mFw mRd mWd B1 X b (by omega) (by omega) (by omega) (by omega) b_mWd b_B1 (by omega) (by omega)) (cwV 2 hts (gd_V in_tl (mw 690 rfl rfl) (mw 692 rfl rfl) (mw 29 rfl rfl) (mw 47 rfl rfl) (mw 693 rfl rfl)) rfl rfl rfl (by decide +kernel) ⟨Nat.le_of_ble_eq_true rfl, Nat.le_of_ble_eq_true rfl⟩) (k_preV hK hP hD hS hA hE [0, 1, 6] (by decide) rfl 6 0 rfl rfl) rfl rfl hl.1 rfl (lv_room (Nat.le_of_ble_eq_true rfl)) d_Mod_node1_166 ⟨Nat.zero_le _, Nat.zero_le _⟩) hP hD hS hA [0, 1, 6] [2, 3, 4, 5, 7, 8, 9] [7, 8, 0, 1, 2, 3, 9, 4, 5, 6] rfl rfl (by decide) (by decide) (by decide) (fun _ => rfl) (fun r_4 u H locs hw hP hD hS => ?_)
                    obtain rfl : (r_4 = nI (lit B1 mWd X b)) := hw
                    have hP : va_P (dC, dI) classes [(a_mod, .inr (6, [.ref a_mkind, .ref a_mwidth, .ref a_mreset, .ref a_mop, .ref a_mka, .ref a_mkb, .ref a_mkc, .ref a_mheld, .int (nI mN), .ref a_msort, .ref a_mof, .ref a_mfrom, .int (nI mMs), .ref a_mbit, .ref a_mdone, .ref a_mrests, .ref a_mxx, .ref a_myy, .ref a_mdepth, .ref a_mone, .int (nI mG1), .int (nI mCk), .int mFw, .int (nI mRd), .ref a_mbefore, .ref a_mfirst, .ref a_mturned])), (a_mwidth, .inl (cI, 14, .inl (nF mWd))), (a_mop, .inl (cI, 14, .inl mOp)), (a_mka, .inl (cI, 14, .inl mAa)), (a_mkb, .inl (cI, 14, .inl mAb)), (a_mkc, .inl (cI, 14, .inl mAc)), (a_mbit, .inl (cI, 224, .inl (nF B1))), (a_mxx, .inl (cI, 2600, .inl (nF mX1))), (a_myy, .inl (cI, 2600, .inl (nF mY1))), (a_mdepth, .inl (cI, 2600, .inl (nF mDe1)))] H := hP
                    have hD : va_D A [(a_mod, .inr (6, [.ref a_mkind, .ref a_mwidth, .ref a_mreset, .ref a_mop, .ref a_mka, .ref a_mkb, .ref a_mkc, .ref a_mheld, .int (nI mN), .ref a_msort, .ref a_mof, .ref a_mfrom, .int (nI mMs), .ref a_mbit, .ref a_mdone, .ref a_mrests, .ref a_mxx, .ref a_myy, .ref a_mdepth, .ref a_mone, .int (nI mG1), .int (nI mCk), .int mFw, .int (nI mRd), .ref a_mbefore, .ref a_mfirst, .ref a_mturned])), (a_mwidth, .inl (cI, 14, .inl (nF mWd))), (a_mop, .inl (cI, 14, .inl mOp)), (a_mka, .inl (cI, 14, .inl mAa)), (a_mkb, .inl (cI, 14, .inl mAb)), (a_mkc, .inl (cI, 14, .inl mAc)), (a_mbit, .inl (cI, 224, .inl (nF B1))), (a_mxx, .inl (cI, 2600, .inl (nF mX1))), (a_myy, .inl (cI, 2600, .inl (nF mY1))), (a_mdepth, .inl (cI, 2600, .inl (nF mDe1)))] := hD
                    refine lv_aload_n hx hb d_Mod_node1_169 rfl (lv_at hl 8 rfl) ?_
                    refine lv_iload hx hb d_Mod_node1_170 (lv_at hl 5 rfl) ?_
                    refine lv_iload hx hb d_Mod_node1_172 (lv_at hl 1 rfl) ?_
                    refine k_i (wr := [(a_mop, .inl (cI, 14, .inl mOp)), (a_mka, .inl (cI, 14, .inl mAa)), (a_mkb, .inl (cI, 14, .inl mAb)), (a_mkc, .inl (cI, 14, .inl mAc)), (a_mxx, .inl (cI, 2600, .inl (nF mX1))), (a_myy, .inl (cI, 2600, .inl (nF mY1))), (a_mdepth, .inl (cI, 2600, .inl (nF mDe1)))]) (w2 := fun (u : Unit) => [(a_mod, .inr (6, [.ref a_mkind, .ref a_mwidth, .ref a_mreset, .ref a_mop, .ref a_mka, .ref a_mkb, .ref a_mkc, .ref a_mheld, .int (nI mN), .ref a_msort, .ref a_mof, .ref a_mfrom, .int (nI mMs), .ref a_mbit, .ref a_mdone, .ref a_mrests, .ref a_mxx, .ref a_myy, .ref a_mdepth, .ref a_mone, .int (nI mG1), .int (nI mCk), .int mFw, .int (nI mRd), .ref a_mbefore, .ref a_mfirst, .ref a_mturned])), (a_mwidth, .inl (cI, 14, .inl (nF mWd))), (a_mop, .inl (cI, 14, .inl mOp)), (a_mka, .inl (cI, 14, .inl mAa)), (a_mkb, .inl (cI, 14, .inl mAb)), (a_mkc, .inl (cI, 14, .inl mAc)), (a_mbit, .inl (cI, 224, .inl (nF B1))), (a_mxx, .inl (cI, 2600, .inl (nF mX1))), (a_myy, .inl (cI, 2600, .inl (nF mY1))), (a_mdepth, .inl (cI, 2600, .inl (nF mDe1)))]) (va_runV (As := [.int (nI Y), .int (nI b)]) (rest := [.int (nI (lit B1 mWd X b)), .ref a_mod]) ⟨hx, hb, hml, hown, hts⟩ (c_Mod_bitOf l dC dI cI cZ a_mod a_mkind a_mwidth a_mreset a_mop a_mka a_mkb a_mkc a_mheld a_msort a_mof a_mfrom a_mbit a_mdone a_mrests a_mxx a_myy a_mdepth a_mone a_mbefore a_mfirst a_mturned tt H.size mN mMs mG1 mCk mFw mRd mWd B1 Y b (by omega) (by omega) (by omega) (by omega) b_mWd b_B1 (by omega) (by omega)) (cwV 2 hts (gd_V in_tl (mw 690 rfl rfl) (mw 692 rfl rfl) (mw 29 rfl rfl) (mw 47 rfl rfl) (mw 693 rfl rfl)) rfl rfl rfl (by decide +kernel) ⟨Nat.le_of_ble_eq_true rfl, Nat.le_of_ble_eq_true rfl⟩) (k_preV hK hP hD hS hA hE [0, 1, 6] (by decide) rfl 6 0 rfl rfl) rfl rfl hl.1 rfl (lv_room (Nat.le_of_ble_eq_true rfl)) d_Mod_node1_174 ⟨Nat.zero_le _, Nat.zero_le _⟩) hP hD hS hA [0, 1, 6] [2, 3, 4, 5, 7, 8, 9] [7, 8, 0, 1, 2, 3, 9, 4, 5, 6] rfl rfl (by decide) (by decide) (by decide) (fun _ => rfl) (fun r_5 u H locs hw hP hD hS => ?_)
                    obtain rfl : (r_5 = nI (lit B1 mWd Y b)) := hw
                    have hP : va_P (dC, dI) classes [(a_mod, .inr (6, [.ref a_mkind, .ref a_mwidth, .ref a_mreset, .ref a_mop, .ref a_mka, .ref a_mkb, .ref a_mkc, .ref a_mheld, .int (nI mN), .ref a_msort, .ref a_mof, .ref a_mfrom, .int (nI mMs), .ref a_mbit, .ref a_mdone, .ref a_mrests, .ref a_mxx, .ref a_myy, .ref a_mdepth, .ref a_mone, .int (nI mG1), .int (nI mCk), .int mFw, .int (nI mRd), .ref a_mbefore, .ref a_mfirst, .ref a_mturned])), (a_mwidth, .inl (cI, 14, .inl (nF mWd))), (a_mop, .inl (cI, 14, .inl mOp)), (a_mka, .inl (cI, 14, .inl mAa)), (a_mkb, .inl (cI, 14, .inl mAb)), (a_mkc, .inl (cI, 14, .inl mAc)), (a_mbit, .inl (cI, 224, .inl (nF B1))), (a_mxx, .inl (cI, 2600, .inl (nF mX1))), (a_myy, .inl (cI, 2600, .inl (nF mY1))), (a_mdepth, .inl (cI, 2600, .inl (nF mDe1)))] H := hP
                    have hD : va_D A [(a_mod, .inr (6, [.ref a_mkind, .ref a_mwidth, .ref a_mreset, .ref a_mop, .ref a_mka, .ref a_mkb, .ref a_mkc, .ref a_mheld, .int (nI mN), .ref a_msort, .ref a_mof, .ref a_mfrom, .int (nI mMs), .ref a_mbit, .ref a_mdone, .ref a_mrests, .ref a_mxx, .ref a_myy, .ref a_mdepth, .ref a_mone, .int (nI mG1), .int (nI mCk), .int mFw, .int (nI mRd), .ref a_mbefore, .ref a_mfirst, .ref a_mturned])), (a_mwidth, .inl (cI, 14, .inl (nF mWd))), (a_mop, .inl (cI, 14, .inl mOp)), (a_mka, .inl (cI, 14, .inl mAa)), (a_mkb, .inl (cI, 14, .inl mAb)), (a_mkc, .inl (cI, 14, .inl mAc)), (a_mbit, .inl (cI, 224, .inl (nF B1))), (a_mxx, .inl (cI, 2600, .inl (nF mX1))), (a_myy, .inl (cI, 2600, .inl (nF mY1))), (a_mdepth, .inl (cI, 2600, .inl (nF mDe1)))] := hD
                    refine k_i (wr := [(a_mwidth, .inl (cI, 14, .inl (nF mWd))), (a_mop, .inl (cI, 14, .inl mOp)), (a_mka, .inl (cI, 14, .inl mAa)), (a_mkb, .inl (cI, 14, .inl mAb)), (a_mkc, .inl (cI, 14, .inl mAc)), (a_mbit, .inl (cI, 224, .inl (nF B1)))]) (w2 := fun (u : Nat × (Nat → Nat) × (Nat → Nat) × (Nat → Nat) × Nat × (Nat → Nat) × (Nat → Nat) × (Nat → Nat) × (Nat → Nat)) => [(a_mod, .inr (6, [.ref a_mkind, .ref a_mwidth, .ref a_mreset, .ref a_mop, .ref a_mka, .ref a_mkb, .ref a_mkc, .ref a_mheld, .int (nI mN), .ref a_msort, .ref a_mof, .ref a_mfrom, .int (nI mMs), .ref a_mbit, .ref a_mdone, .ref a_mrests, .ref a_mxx, .ref a_myy, .ref a_mdepth, .ref a_mone, .int (nI u.1), .int (nI mCk), .int mFw, .int (nI mRd), .ref a_mbefore, .ref a_mfirst, .ref a_mturned])), (a_mwidth, .inl (cI, 14, .inl (nF mWd))), (a_mop, .inl (cI, 14, .inl mOp)), (a_mka, .inl (cI, 14, .inl mAa)), (a_mkb, .inl (cI, 14, .inl mAb)), (a_mkc, .inl (cI, 14, .inl mAc)), (a_mbit, .inl (cI, 224, .inl (nF B1))), (a_mxx, .inl (cI, 2600, .inl (nF u.2.1))), (a_myy, .inl (cI, 2600, .inl (nF u.2.2.1))), (a_mdepth, .inl (cI, 2600, .inl (nF u.2.2.2.1)))]) (va_runV (As := [.int (nI (lit B1 mWd X b)), .int (nI (lit B1 mWd Y b))]) (rest := []) ⟨hx, hb, hml, hown, hts⟩ (c_Mod_either l dC dI cI cZ a_mod a_mkind a_mwidth a_mreset a_mop a_mka a_mkb a_mkc a_mheld a_msort a_mof a_mfrom a_mbit a_mdone a_mrests a_mxx a_myy a_mdepth a_mone a_mbefore a_mfirst a_mturned tt H.size mN mMs mG1 mCk mFw mRd mX1 mY1 mDe1 gd1 P1 Dp1 Sl1 T1 K (lit B1 mWd X b) (lit B1 mWd Y b) (by omega) (by omega) (by omega) (by omega) b_mX1 b_mY1 b_mDe1 hN1 hXY1 hAL1 hx7.1 hy8.1 (by rw [hx7.2, hy8.2]; intro c h; apply hgl; rw [eL]; exact catL_in _ (by omega) h)) (cwV 2 hts (gd_V in_tl (mw 710 rfl rfl) (mw 712 rfl rfl) (mw 34 rfl rfl) (mw 47 rfl rfl) (mw 713 rfl rfl)) rfl rfl rfl (by decide +kernel) ⟨Nat.le_of_ble_eq_true rfl, Nat.le_of_ble_eq_true rfl⟩) (k_preV hK hP hD hS hA hE [0, 7, 8, 9] (by decide) rfl 6 0 rfl rfl) rfl rfl hl.1 rfl (lv_room (Nat.le_of_ble_eq_true rfl)) d_Mod_node1_177 ⟨Nat.zero_le _, Nat.zero_le _⟩) hP hD hS hA [0, 7, 8, 9] [1, 2, 3, 4, 5, 6] [6, 0, 1, 2, 3, 4, 5, 7, 8, 9] rfl rfl (by decide) (by decide) (by decide) (fun _ => rfl) (fun r_15 u H locs hw hP hD hS => ?_)
                    obtain ⟨mGv_6, mXv_7, mYv_8, mDev_9, gdv_10, Pv_11, Dpv_12, Slv_13, Tv_14⟩ := u
                    obtain ⟨v_16, rfl, b_mGv_6, b_mXv_7, b_mYv_8, b_mDev_9, hN_177, hXY_177, hst_177, hrl_177, hc_177, hAL_177⟩ : ∃ rv : Nat, r_15 = nI rv ∧ (mGv_6 ≤ 1280) ∧ (∀ j, mXv_7 j < 2786) ∧ (∀ j, mYv_8 j < 2786) ∧ (∀ j, mDev_9 j < 1400) ∧ (NJ mGv_6 gdv_10 Pv_11 Dpv_12 Slv_13 Tv_14) ∧ (MXY mGv_6 mXv_7 mYv_8 mDev_9 Pv_11 Dpv_12) ∧ (ST T1 mG1 Tv_14 mGv_6 (eil (LT T1 (lit B1 mWd X b)) (LT T1 (lit B1 mWd Y b)))) ∧ (rv < 2 * (113 + mGv_6)) ∧ (LT Tv_14 rv = ei (LT T1 (lit B1 mWd X b)) (LT T1 (lit B1 mWd Y b))) ∧ (AL K Tv_14 mGv_6) := hw
                    have hP : va_P (dC, dI) classes [(a_mod, .inr (6, [.ref a_mkind, .ref a_mwidth, .ref a_mreset, .ref a_mop, .ref a_mka, .ref a_mkb, .ref a_mkc, .ref a_mheld, .int (nI mN), .ref a_msort, .ref a_mof, .ref a_mfrom, .int (nI mMs), .ref a_mbit, .ref a_mdone, .ref a_mrests, .ref a_mxx, .ref a_myy, .ref a_mdepth, .ref a_mone, .int (nI mGv_6), .int (nI mCk), .int mFw, .int (nI mRd), .ref a_mbefore, .ref a_mfirst, .ref a_mturned])), (a_mwidth, .inl (cI, 14, .inl (nF mWd))), (a_mop, .inl (cI, 14, .inl mOp)), (a_mka, .inl (cI, 14, .inl mAa)), (a_mkb, .inl (cI, 14, .inl mAb)), (a_mkc, .inl (cI, 14, .inl mAc)), (a_mbit, .inl (cI, 224, .inl (nF B1))), (a_mxx, .inl (cI, 2600, .inl (nF mXv_7))), (a_myy, .inl (cI, 2600, .inl (nF mYv_8))), (a_mdepth, .inl (cI, 2600, .inl (nF mDev_9)))] H := hP
                    have hD : va_D A [(a_mod, .inr (6, [.ref a_mkind, .ref a_mwidth, .ref a_mreset, .ref a_mop, .ref a_mka, .ref a_mkb, .ref a_mkc, .ref a_mheld, .int (nI mN), .ref a_msort, .ref a_mof, .ref a_mfrom, .int (nI mMs), .ref a_mbit, .ref a_mdone, .ref a_mrests, .ref a_mxx, .ref a_myy, .ref a_mdepth, .ref a_mone, .int (nI mGv_6), .int (nI mCk), .int mFw, .int (nI mRd), .ref a_mbefore, .ref a_mfirst, .ref a_mturned])), (a_mwidth, .inl (cI, 14, .inl (nF mWd))), (a_mop, .inl (cI, 14, .inl mOp)), (a_mka, .inl (cI, 14, .inl mAa)), (a_mkb, .inl (cI, 14, .inl mAb)), (a_mkc, .inl (cI, 14, .inl mAc)), (a_mbit, .inl (cI, 224, .inl (nF B1))), (a_mxx, .inl (cI, 2600, .inl (nF mXv_7))), (a_myy, .inl (cI, 2600, .inl (nF mYv_8))), (a_mdepth, .inl (cI, 2600, .inl (nF mDev_9)))] := hD
                    rw [hx7.2, hy8.2] at hst_177 hc_177
                    have hl9 := And.intro hrl_177 hc_177
                    refine lv_istore (lv' := [(9, .int (nI v_16)), (8, .int (nI b)), (7, .int (nI 1)), (6, .int (nI 0)), (5, .int (nI (mWd S))), (4, .int (nI Y)), (3, .int (nI X)), (2, .int (nI 2)), (0, .ref a_mod), (1, .int (nI S))]) hx hb d_Mod_node1_180 hl (by decide) rfl (fun ls hl => ?_)
                    refine lv_iload_n hx hb d_Mod_node1_182 rfl (lv_at hl 7 rfl) ?_
                    refine lv_iconst (v := nI 3) hx hb d_Mod_node1_183 rfl ?_
                    refine lv_icmp_ne (tgt := 208) hx hb d_Mod_node1_184 (by decide) (fun c184 => ?_) (fun c184 => ?_)
                    · skip
                      have c184 : ¬ (2 = 3) := fun h => c184 ((nI_eq (by omega) (by omega)).mpr h)
                      refine lv_iload_n hx hb d_Mod_node1_208 rfl (lv_at hl 7 rfl) ?_
                      refine lv_iconst (v := nI 4) hx hb d_Mod_node1_209 rfl ?_
                      refine lv_icmp_ne (tgt := 226) hx hb d_Mod_node1_210 (by decide) (fun c210 => ?_) (fun c210 => ?_)
                      · skip
                        have c210 : ¬ (2 = 4) := fun h => c210 ((nI_eq (by omega) (by omega)).mpr h)
                        refine lv_iload_n hx hb d_Mod_node1_226 rfl (lv_at hl 7 rfl) ?_
                        refine lv_iconst (v := nI 4) hx hb d_Mod_node1_227 rfl ?_
                        refine lv_icmp_ne (tgt := 240) hx hb d_Mod_node1_228 (by decide) (fun c228 => ?_) (fun c228 => ?_)
                        · skip
                          have c228 : ¬ (2 = 4) := fun h => c228 ((nI_eq (by omega) (by omega)).mpr h)
                          refine lv_iload_n hx hb d_Mod_node1_240 rfl (lv_at hl 7 rfl) ?_
                          refine lv_iconst (v := nI 5) hx hb d_Mod_node1_241 rfl ?_
                          refine lv_icmp_eq (tgt := 251) hx hb d_Mod_node1_242 (by decide) (fun c242 => ?_) (fun c242 => ?_)
                          · skip
                            have c242 : 2 = 5 := (nI_eq (by omega) (by omega)).mp c242
                            omega
                          · skip
                            have c242 : ¬ (2 = 5) := fun h => c242 ((nI_eq (by omega) (by omega)).mpr h)
                            refine lv_iload_n hx hb d_Mod_node1_245 rfl (lv_at hl 7 rfl) ?_
                            refine lv_bipush (v := nI 7) hx hb d_Mod_node1_246 rfl ?_
                            refine lv_icmp_ne (tgt := 323) hx hb d_Mod_node1_248 (by decide) (fun c248 => ?_) (fun c248 => ?_)
                            · skip
                              have c248 : ¬ (2 = 7) := fun h => c248 ((nI_eq (by omega) (by omega)).mpr h)
                              refine lv_iload_n hx hb d_Mod_node1_323 rfl (lv_at hl 7 rfl) ?_
                              refine lv_bipush (v := nI 6) hx hb d_Mod_node1_324 rfl ?_
                              refine lv_icmp_ne (tgt := 358) hx hb d_Mod_node1_326 (by decide) (fun c326 => ?_) (fun c326 => ?_)
                              · skip
                                have c326 : ¬ (2 = 6) := fun h => c326 ((nI_eq (by omega) (by omega)).mpr h)
                                refine lv_iload_n hx hb d_Mod_node1_358 rfl (lv_at hl 7 rfl) ?_
                                refine lv_bipush (v := nI 8) hx hb d_Mod_node1_359 rfl ?_
                                refine lv_icmp_ne (tgt := 414) hx hb d_Mod_node1_361 (by decide) (fun c361 => ?_) (fun c361 => ?_)
                                · skip
                                  have c361 : ¬ (2 = 8) := fun h => c361 ((nI_eq (by omega) (by omega)).mpr h)
                                  refine lv_iload_n hx hb d_Mod_node1_414 rfl (lv_at hl 7 rfl) ?_
                                  refine lv_bipush (v := nI 9) hx hb d_Mod_node1_415 rfl ?_
                                  refine lv_icmp_ne (tgt := 437) hx hb d_Mod_node1_417 (by decide) (fun c417 => ?_) (fun c417 => ?_)
                                  · skip
                                    have c417 : ¬ (2 = 9) := fun h => c417 ((nI_eq (by omega) (by omega)).mpr h)
                                    refine lv_iload_n hx hb d_Mod_node1_437 rfl (lv_at hl 7 rfl) ?_
                                    refine lv_bipush (v := nI 10) hx hb d_Mod_node1_438 rfl ?_
                                    refine lv_icmp_ne (tgt := 478) hx hb d_Mod_node1_440 (by decide) (fun c440 => ?_) (fun c440 => ?_)
                                    · skip
                                      have c440 : ¬ (2 = 10) := fun h => c440 ((nI_eq (by omega) (by omega)).mpr h)
                                      refine lv_aload_n hx hb d_Mod_node1_478 rfl (lv_at hl 8 rfl) ?_
                                      refine va_get (D := (dC, dI)) (ci := 6) (v := .ref a_mbit) (C := R_Mod) (T := F_Mod) (N := 27) hx hb hts (wi i_Mod) hown hK hP 0 rfl rfl 13 (by decide) (hts _ (mt 555 rfl rfl)) (fun _ h9 => h9) rfl d_Mod_node1_479 ?_
                                      refine lv_bipush (v := nI 8) hx hb d_Mod_node1_482 rfl ?_
                                      refine lv_iload_n hx hb d_Mod_node1_484 rfl (lv_at hl 9 rfl) ?_
                                      refine lv_imul hx hb d_Mod_node1_485 ?_
                                      refine k_top (pk_mul _ _) ?_
                                      refine lv_iload hx hb d_Mod_node1_486 (lv_at hl 1 rfl) ?_
                                      refine lv_iadd hx hb d_Mod_node1_488 ?_
                                      refine k_top (nI_add _ _) ?_
                                      refine lv_iload hx hb d_Mod_node1_489 (lv_at hl 0 rfl) ?_
                                      refine k_ist hx hb hK hP hD hS 6 0 rfl rfl (by omega) (by decide) d_Mod_node1_491 (fun H locs hP hD hS => ?_)
                                      have bb_17 : ∀ j, upN B1 ((8 * S) + b) v_16 j < 2786 := upN_lt b_B1 (by have := hl9.1; omega)
                                      have hP : va_P (dC, dI) classes [(a_mod, .inr (6, [.ref a_mkind, .ref a_mwidth, .ref a_mreset, .ref a_mop, .ref a_mka, .ref a_mkb, .ref a_mkc, .ref a_mheld, .int (nI mN), .ref a_msort, .ref a_mof, .ref a_mfrom, .int (nI mMs), .ref a_mbit, .ref a_mdone, .ref a_mrests, .ref a_mxx, .ref a_myy, .ref a_mdepth, .ref a_mone, .int (nI mGv_6), .int (nI mCk), .int mFw, .int (nI mRd), .ref a_mbefore, .ref a_mfirst, .ref a_mturned])), (a_mwidth, .inl (cI, 14, .inl (nF mWd))), (a_mop, .inl (cI, 14, .inl mOp)), (a_mka, .inl (cI, 14, .inl mAa)), (a_mkb, .inl (cI, 14, .inl mAb)), (a_mkc, .inl (cI, 14, .inl mAc)), (a_mbit, .inl (cI, 224, .inl (nF (upN B1 ((8 * S) + b) v_16)))), (a_mxx, .inl (cI, 2600, .inl (nF mXv_7))), (a_myy, .inl (cI, 2600, .inl (nF mYv_8))), (a_mdepth, .inl (cI, 2600, .inl (nF mDev_9)))] H := hP
                                      have hD : va_D A [(a_mod, .inr (6, [.ref a_mkind, .ref a_mwidth, .ref a_mreset, .ref a_mop, .ref a_mka, .ref a_mkb, .ref a_mkc, .ref a_mheld, .int (nI mN), .ref a_msort, .ref a_mof, .ref a_mfrom, .int (nI mMs), .ref a_mbit, .ref a_mdone, .ref a_mrests, .ref a_mxx, .ref a_myy, .ref a_mdepth, .ref a_mone, .int (nI mGv_6), .int (nI mCk), .int mFw, .int (nI mRd), .ref a_mbefore, .ref a_mfirst, .ref a_mturned])), (a_mwidth, .inl (cI, 14, .inl (nF mWd))), (a_mop, .inl (cI, 14, .inl mOp)), (a_mka, .inl (cI, 14, .inl mAa)), (a_mkb, .inl (cI, 14, .inl mAb)), (a_mkc, .inl (cI, 14, .inl mAc)), (a_mbit, .inl (cI, 224, .inl (nF (upN B1 ((8 * S) + b) v_16)))), (a_mxx, .inl (cI, 2600, .inl (nF mXv_7))), (a_myy, .inl (cI, 2600, .inl (nF mYv_8))), (a_mdepth, .inl (cI, 2600, .inl (nF mDev_9)))] := hD
                                      refine lv_iinc (v := nI (b + 1)) (lv' := [(8, .int (nI (b + 1))), (9, .int (nI v_16)), (7, .int (nI 1)), (6, .int (nI 0)), (5, .int (nI (mWd S))), (4, .int (nI Y)), (3, .int (nI X)), (2, .int (nI 2)), (0, .ref a_mod), (1, .int (nI S))]) hx hb d_Mod_node1_492 hl (k := 1) rfl (k_inc _ 1) (by decide) rfl (fun ls hl => ?_)
                                      refine lv_goto (tgt := 85) hx hb d_Mod_node1_495 (by decide) ?_
                                      have hI_18 : (mGv_6 ≤ 1280) ∧ (∀ j, mXv_7 j < 2786) ∧ (∀ j, mYv_8 j < 2786) ∧ (∀ j, mDev_9 j < 1400) ∧ (∀ j, (upN B1 ((8 * S) + b) v_16) j < 2786) ∧ (NJ mGv_6 gdv_10 Pv_11 Dpv_12 Slv_13 Tv_14) ∧ (MXY mGv_6 mXv_7 mYv_8 mDev_9 Pv_11 Dpv_12) ∧ (AL K Tv_14 mGv_6) ∧ (ST T mG Tv_14 mGv_6 (catL (fun j => eil (CB X j) (CB Y j)) (b + 1))) ∧ (Out mBi (upN B1 ((8 * S) + b) v_16) S) ∧ (∀ j, j < (b + 1) → OKc Tv_14 mGv_6 ((upN B1 ((8 * S) + b) v_16) (8 * S + j)) (ei (CB X j) (CB Y j))) ∧ ((b + 1) ≤ mWd S) := ⟨(by omega), b_mXv_7, b_mYv_8, b_mDev_9, bb_17, hN_177, hXY_177, hAL_177, (ST_tr hst1 hst_177), (Out_up8 hO1 (by omega)), (fun j hj => by
      by_cases e : j = b
      · rw [e, upN_self]; exact hl9
      · rw [upN_ne _ _ (by omega)]; exact OKc_st (hB1 j (by omega)) hst_177), (by omega)⟩
                                      exact ih_3 (b + 1, mGv_6, mXv_7, mYv_8, mDev_9, gdv_10, Pv_11, Dpv_12, Slv_13, Tv_14, upN B1 ((8 * S) + b) v_16) hI_18 (show mWd S - (b + 1) < mWd S - b from by omega) _ _ _ hP hD hS (lv_sub hl [0, 2, 3, 4, 5, 6, 7, 8, 9] rfl)
                                    · skip
                                      have c440 : 2 = 10 := (nI_eq (by omega) (by omega)).mp c440
                                      omega
                                  · skip
                                    have c417 : 2 = 9 := (nI_eq (by omega) (by omega)).mp c417
                                    omega
                                · skip
                                  have c361 : 2 = 8 := (nI_eq (by omega) (by omega)).mp c361
                                  omega
                              · skip
                                have c326 : 2 = 6 := (nI_eq (by omega) (by omega)).mp c326
                                omega
                            · skip
                              have c248 : 2 = 7 := (nI_eq (by omega) (by omega)).mp c248
                              omega
                        · skip
                          have c228 : 2 = 4 := (nI_eq (by omega) (by omega)).mp c228
                          omega
                      · skip
                        have c210 : 2 = 4 := (nI_eq (by omega) (by omega)).mp c210
                        omega
                    · skip
                      have c184 : 2 = 3 := (nI_eq (by omega) (by omega)).mp c184
                      omega
                · skip
                  have c132 : 2 = 1 := (nI_eq (by omega) (by omega)).mp c132
                  omega
              · skip
                have c111 : 2 = 0 := (nI_eq0 (by omega)).mp c111
                omega
            · skip
              have c95 : 2 = 11 := (nI_eq (by omega) (by omega)).mp c95
              omega
        · skip
          have c69 : 2 = 7 := (nI_eq (by omega) (by omega)).mp c69
          omega
    · skip
      have c31 : 2 = 7 := (nI_eq (by omega) (by omega)).mp c31
      omega
set_option maxHeartbeats 4000000 in
set_option maxRecDepth 100000 in
theorem c_Mod_node1o3 (l : Launch) (dC : Nat → ClassId) (dI : Nat → Nat → Nat) (cI cZ : ClassId) (a_mod a_mkind a_mwidth a_mreset a_mop a_mka a_mkb a_mkc a_mheld a_msort a_mof a_mfrom a_mbit a_mdone a_mrests a_mxx a_myy a_mdepth a_mone a_mbefore a_mfirst a_mturned : Nat) (tt sz : Nat) (mN : Nat) (mMs : Nat) (mG : Nat) (mCk : Nat) (mFw : Int32) (mRd : Nat) (mWd : Nat → Nat) (mOp : Nat → Int32) (mAa : Nat → Int32) (mAb : Nat → Int32) (mAc : Nat → Int32) (mBi : Nat → Nat) (mX : Nat → Nat) (mY : Nat → Nat) (mDe : Nat → Nat) (gd : Nat) (P : Nat → Nat) (Dp : Nat → Nat) (Sl : Nat → Nat) (T : Nat → Nat) (K : List Nat) (CB : Nat → Nat → Nat) (X : Nat) (Y : Nat) (S : Nat) (b_mN : mN ≤ 14) (b_mMs : mMs ≤ 20) (b_mG : mG ≤ 1280) (b_mRd : mRd ≤ 1) (b_mWd : ∀ j, mWd j < 9) (b_mBi : ∀ j, mBi j < 2786) (b_mX : ∀ j, mX j < 2786) (b_mY : ∀ j, mY j < 2786) (b_mDe : ∀ j, mDe j < 1400) (hN : NJ mG gd P Dp Sl T) (hXY : MXY mG mX mY mDe P Dp) (hAL : AL K T mG) (hS14 : S < 14) (hW1 : 1 ≤ mWd S) (hop : mOp S = nI 3) (hax : mAa S = nI X) (hx1 : X < 14 ∧ X ≠ S ∧ ∀ j, OKc T mG (lit mBi mWd X j) (CB X j)) (hay : mAb S = nI Y) (hy1 : Y < 14 ∧ Y ≠ S ∧ ∀ j, OKc T mG (lit mBi mWd Y j) (CB Y j)) (hgl : ∀ c, c ∈ ncL mWd CB 3 (mAa S) (mAb S) (mAc S) (mWd S) → c ∈ K) : Met l y_Mod_node1 w_Mod_node1 ({ frames := 6, cells := 0, slots := 0, locals := 200 }) (va_Pc [.ref a_mod, .int (nI S)] (PW (dC, dI) classes [(cI, .int), (cZ, .boolean)] tt [(a_mod, .inr (6, [.ref a_mkind, .ref a_mwidth, .ref a_mreset, .ref a_mop, .ref a_mka, .ref a_mkb, .ref a_mkc, .ref a_mheld, .int (nI mN), .ref a_msort, .ref a_mof, .ref a_mfrom, .int (nI mMs), .ref a_mbit, .ref a_mdone, .ref a_mrests, .ref a_mxx, .ref a_myy, .ref a_mdepth, .ref a_mone, .int (nI mG), .int (nI mCk), .int mFw, .int (nI mRd), .ref a_mbefore, .ref a_mfirst, .ref a_mturned])), (a_mwidth, .inl (cI, 14, .inl (nF mWd))), (a_mop, .inl (cI, 14, .inl mOp)), (a_mka, .inl (cI, 14, .inl mAa)), (a_mkb, .inl (cI, 14, .inl mAb)), (a_mkc, .inl (cI, 14, .inl mAc)), (a_mbit, .inl (cI, 224, .inl (nF mBi))), (a_mxx, .inl (cI, 2600, .inl (nF mX))), (a_myy, .inl (cI, 2600, .inl (nF mY))), (a_mdepth, .inl (cI, 2600, .inl (nF mDe)))] sz)) (va_Qv (fun (u : Nat × (Nat → Nat) × (Nat → Nat) × (Nat → Nat) × Nat × (Nat → Nat) × (Nat → Nat) × (Nat → Nat) × (Nat → Nat) × (Nat → Nat)) => (u.1 ≤ 1280) ∧ (∀ j, u.2.1 j < 2786) ∧ (∀ j, u.2.2.1 j < 2786) ∧ (∀ j, u.2.2.2.1 j < 1400) ∧ (∀ j, u.2.2.2.2.2.2.2.2.2 j < 2786) ∧ (NJ u.1 u.2.2.2.2.1 u.2.2.2.2.2.1 u.2.2.2.2.2.2.1 u.2.2.2.2.2.2.2.1 u.2.2.2.2.2.2.2.2.1) ∧ (MXY u.1 u.2.1 u.2.2.1 u.2.2.2.1 u.2.2.2.2.2.1 u.2.2.2.2.2.2.1) ∧ (AL K u.2.2.2.2.2.2.2.2.1 u.1) ∧ (ST T mG u.2.2.2.2.2.2.2.2.1 u.1 (ncL mWd CB 3 (mAa S) (mAb S) (mAc S) (mWd S))) ∧ (Out mBi u.2.2.2.2.2.2.2.2.2 S) ∧ (∀ j, j < mWd S → OKc u.2.2.2.2.2.2.2.2.1 u.1 (u.2.2.2.2.2.2.2.2.2 (8 * S + j)) (nc mWd CB 3 (mAa S) (mAb S) (mAc S) j))) (AT (dC, dI) classes [(cI, .int), (cZ, .boolean)] (va_A [(a_mod, .inr (6, [.ref a_mkind, .ref a_mwidth, .ref a_mreset, .ref a_mop, .ref a_mka, .ref a_mkb, .ref a_mkc, .ref a_mheld, .int (nI mN), .ref a_msort, .ref a_mof, .ref a_mfrom, .int (nI mMs), .ref a_mbit, .ref a_mdone, .ref a_mrests, .ref a_mxx, .ref a_myy, .ref a_mdepth, .ref a_mone, .int (nI mG), .int (nI mCk), .int mFw, .int (nI mRd), .ref a_mbefore, .ref a_mfirst, .ref a_mturned])), (a_mwidth, .inl (cI, 14, .inl (nF mWd))), (a_mop, .inl (cI, 14, .inl mOp)), (a_mka, .inl (cI, 14, .inl mAa)), (a_mkb, .inl (cI, 14, .inl mAb)), (a_mkc, .inl (cI, 14, .inl mAc)), (a_mbit, .inl (cI, 224, .inl (nF mBi))), (a_mxx, .inl (cI, 2600, .inl (nF mX))), (a_myy, .inl (cI, 2600, .inl (nF mY))), (a_mdepth, .inl (cI, 2600, .inl (nF mDe)))] sz) (fun (u : Nat × (Nat → Nat) × (Nat → Nat) × (Nat → Nat) × Nat × (Nat → Nat) × (Nat → Nat) × (Nat → Nat) × (Nat → Nat) × (Nat → Nat)) => [(a_mod, .inr (6, [.ref a_mkind, .ref a_mwidth, .ref a_mreset, .ref a_mop, .ref a_mka, .ref a_mkb, .ref a_mkc, .ref a_mheld, .int (nI mN), .ref a_msort, .ref a_mof, .ref a_mfrom, .int (nI mMs), .ref a_mbit, .ref a_mdone, .ref a_mrests, .ref a_mxx, .ref a_myy, .ref a_mdepth, .ref a_mone, .int (nI u.1), .int (nI mCk), .int mFw, .int (nI mRd), .ref a_mbefore, .ref a_mfirst, .ref a_mturned])), (a_mwidth, .inl (cI, 14, .inl (nF mWd))), (a_mop, .inl (cI, 14, .inl mOp)), (a_mka, .inl (cI, 14, .inl mAa)), (a_mkb, .inl (cI, 14, .inl mAb)), (a_mkc, .inl (cI, 14, .inl mAc)), (a_mbit, .inl (cI, 224, .inl (nF u.2.2.2.2.2.2.2.2.2))), (a_mxx, .inl (cI, 2600, .inl (nF u.2.1))), (a_myy, .inl (cI, 2600, .inl (nF u.2.2.1))), (a_mdepth, .inl (cI, 2600, .inl (nF u.2.2.2.1)))])) (va_A [(a_mod, .inr (6, [.ref a_mkind, .ref a_mwidth, .ref a_mreset, .ref a_mop, .ref a_mka, .ref a_mkb, .ref a_mkc, .ref a_mheld, .int (nI mN), .ref a_msort, .ref a_mof, .ref a_mfrom, .int (nI mMs), .ref a_mbit, .ref a_mdone, .ref a_mrests, .ref a_mxx, .ref a_myy, .ref a_mdepth, .ref a_mone, .int (nI mG), .int (nI mCk), .int mFw, .int (nI mRd), .ref a_mbefore, .ref a_mfirst, .ref a_mturned])), (a_mwidth, .inl (cI, 14, .inl (nF mWd))), (a_mop, .inl (cI, 14, .inl mOp)), (a_mka, .inl (cI, 14, .inl mAa)), (a_mkb, .inl (cI, 14, .inl mAb)), (a_mkc, .inl (cI, 14, .inl mAc)), (a_mbit, .inl (cI, 224, .inl (nF mBi))), (a_mxx, .inl (cI, 2600, .inl (nF mX))), (a_myy, .inl (cI, 2600, .inl (nF mY))), (a_mdepth, .inl (cI, 2600, .inl (nF mDe)))] sz)) 0 0 (va_A [(a_mod, .inr (6, [.ref a_mkind, .ref a_mwidth, .ref a_mreset, .ref a_mop, .ref a_mka, .ref a_mkb, .ref a_mkc, .ref a_mheld, .int (nI mN), .ref a_msort, .ref a_mof, .ref a_mfrom, .int (nI mMs), .ref a_mbit, .ref a_mdone, .ref a_mrests, .ref a_mxx, .ref a_myy, .ref a_mdepth, .ref a_mone, .int (nI mG), .int (nI mCk), .int mFw, .int (nI mRd), .ref a_mbefore, .ref a_mfirst, .ref a_mturned])), (a_mwidth, .inl (cI, 14, .inl (nF mWd))), (a_mop, .inl (cI, 14, .inl mOp)), (a_mka, .inl (cI, 14, .inl mAa)), (a_mkb, .inl (cI, 14, .inl mAb)), (a_mkc, .inl (cI, 14, .inl mAc)), (a_mbit, .inl (cI, 224, .inl (nF mBi))), (a_mxx, .inl (cI, 2600, .inl (nF mX))), (a_myy, .inl (cI, 2600, .inl (nF mY))), (a_mdepth, .inl (cI, 2600, .inl (nF mDe)))] sz) := by
  refine Met.ofW (cc := b_Mod_node1) (maxL := 13) (ret := none) (by decide) rfl ?_
  intro p e s m args below meth c s₁ B hml hv
  obtain ⟨rfl, hsz, hP, hK, hD0, hE⟩ := hv
  have hx := B.exec
  have hb := B.bytes
  have hr := B.returns
  have hts := atoms_spec (ws := w_Mod_node1) B.pre
  have hown : s.vm.findClass R_Mod = some m.cls := findClass_of_methodNamed B.named
  have hlocks := B.notSynchronized
  subst hsz
  have hD := hD0.self (sz := s.heap.size)
  generalize hAe : va_A [(a_mod, .inr (6, [.ref a_mkind, .ref a_mwidth, .ref a_mreset, .ref a_mop, .ref a_mka, .ref a_mkb, .ref a_mkc, .ref a_mheld, .int (nI mN), .ref a_msort, .ref a_mof, .ref a_mfrom, .int (nI mMs), .ref a_mbit, .ref a_mdone, .ref a_mrests, .ref a_mxx, .ref a_myy, .ref a_mdepth, .ref a_mone, .int (nI mG), .int (nI mCk), .int mFw, .int (nI mRd), .ref a_mbefore, .ref a_mfirst, .ref a_mturned])), (a_mwidth, .inl (cI, 14, .inl (nF mWd))), (a_mop, .inl (cI, 14, .inl mOp)), (a_mka, .inl (cI, 14, .inl mAa)), (a_mkb, .inl (cI, 14, .inl mAb)), (a_mkc, .inl (cI, 14, .inl mAc)), (a_mbit, .inl (cI, 224, .inl (nF mBi))), (a_mxx, .inl (cI, 2600, .inl (nF mX))), (a_myy, .inl (cI, 2600, .inl (nF mY))), (a_mdepth, .inl (cI, 2600, .inl (nF mDe)))] s.heap.size = A at hD hE ⊢
  have hA : ∀ q : Nat, s.heap.size ≤ q → A q := fun q h => by rw [← hAe]; exact Or.inr h
  have hS : va_S A s.heap s.heap [] := va_S.rf
  have hP : va_P (dC, dI) classes [(a_mod, .inr (6, [.ref a_mkind, .ref a_mwidth, .ref a_mreset, .ref a_mop, .ref a_mka, .ref a_mkb, .ref a_mkc, .ref a_mheld, .int (nI mN), .ref a_msort, .ref a_mof, .ref a_mfrom, .int (nI mMs), .ref a_mbit, .ref a_mdone, .ref a_mrests, .ref a_mxx, .ref a_myy, .ref a_mdepth, .ref a_mone, .int (nI mG), .int (nI mCk), .int mFw, .int (nI mRd), .ref a_mbefore, .ref a_mfirst, .ref a_mturned])), (a_mwidth, .inl (cI, 14, .inl (nF mWd))), (a_mop, .inl (cI, 14, .inl mOp)), (a_mka, .inl (cI, 14, .inl mAa)), (a_mkb, .inl (cI, 14, .inl mAb)), (a_mkc, .inl (cI, 14, .inl mAc)), (a_mbit, .inl (cI, 224, .inl (nF mBi))), (a_mxx, .inl (cI, 2600, .inl (nF mX))), (a_myy, .inl (cI, 2600, .inl (nF mY))), (a_mdepth, .inl (cI, 2600, .inl (nF mDe)))] s.heap := hP
  have hl := lv_entry ([.ref a_mod, .int (nI S)]) (n := 13) (Nat.le_of_ble_eq_true rfl)
  rw [lg_entry_eq]
  generalize (lg_sl ([.ref a_mod, .int (nI S)]) ++ List.replicate (13 - (lg_sl ([.ref a_mod, .int (nI S)])).length) Slot.unset).toArray = ls at hl ⊢
  have hl : lv_has ls 13 [(0, .ref a_mod), (1, .int (nI S))] := hl
  have eX : ix (mAa S) = X := ix_of hax (by omega)
  have eY : ix (mAb S) = Y := ix_of hay (by have := b_mWd X; omega)
  have hWs := b_mWd S
  have hWx := b_mWd X
  have hWy := b_mWd Y
  have eL : ncL mWd CB 3 (mAa S) (mAb S) (mAc S) (mWd S) = catL (fun j => dfl (CB X j) (CB Y j)) (mWd S) := by show catL (fun j => dfl (CB (ix (mAa S)) j) (CB (ix (mAb S)) j)) (mWd S) = _; rw [eX, eY]
  have eV : ∀ j, nc mWd CB 3 (mAa S) (mAb S) (mAc S) j = df (CB X j) (CB Y j) := fun j => by show df (CB (ix (mAa S)) j) (CB (ix (mAb S)) j) = _; rw [eX, eY]
  refine lv_aload_n hx hb d_Mod_node1_0 rfl (lv_at hl 0 rfl) ?_
  refine va_get (D := (dC, dI)) (ci := 6) (v := .ref a_mop) (C := R_Mod) (T := F_Mod) (N := 27) hx hb hts (wi i_Mod) hown hK hP 0 rfl rfl 3 (by decide) (hts _ (mt 545 rfl rfl)) (fun _ h9 => h9) rfl d_Mod_node1_1 ?_
  refine lv_iload_n hx hb d_Mod_node1_4 rfl (lv_at hl 1 rfl) ?_
  refine k_rld hx hb hK hP 2 0 rfl rfl (by omega) (by decide) d_Mod_node1_5 ?_
  refine k_top (show mOp S = nI 3 from hop) ?_
  refine lv_istore_n (lv' := [(2, .int (nI 3)), (0, .ref a_mod), (1, .int (nI S))]) hx hb d_Mod_node1_6 rfl hl (by decide) rfl (fun ls hl => ?_)
  refine lv_aload_n hx hb d_Mod_node1_7 rfl (lv_at hl 1 rfl) ?_
  refine va_get (D := (dC, dI)) (ci := 6) (v := .ref a_mka) (C := R_Mod) (T := F_Mod) (N := 27) hx hb hts (wi i_Mod) hown hK hP 0 rfl rfl 4 (by decide) (hts _ (mt 546 rfl rfl)) (fun _ h9 => h9) rfl d_Mod_node1_8 ?_
  refine lv_iload_n hx hb d_Mod_node1_11 rfl (lv_at hl 2 rfl) ?_
  refine k_rld hx hb hK hP 3 0 rfl rfl (by omega) (by decide) d_Mod_node1_12 ?_
  refine k_top (show mAa S = nI X from hax) ?_
  refine lv_istore_n (lv' := [(3, .int (nI X)), (2, .int (nI 3)), (0, .ref a_mod), (1, .int (nI S))]) hx hb d_Mod_node1_13 rfl hl (by decide) rfl (fun ls hl => ?_)
  refine lv_aload_n hx hb d_Mod_node1_14 rfl (lv_at hl 2 rfl) ?_
  refine va_get (D := (dC, dI)) (ci := 6) (v := .ref a_mkb) (C := R_Mod) (T := F_Mod) (N := 27) hx hb hts (wi i_Mod) hown hK hP 0 rfl rfl 5 (by decide) (hts _ (mt 547 rfl rfl)) (fun _ h9 => h9) rfl d_Mod_node1_15 ?_
  refine lv_iload_n hx hb d_Mod_node1_18 rfl (lv_at hl 3 rfl) ?_
  refine k_rld hx hb hK hP 4 0 rfl rfl (by omega) (by decide) d_Mod_node1_19 ?_
  refine k_top (show mAb S = nI Y from hay) ?_
  refine lv_istore (lv' := [(4, .int (nI Y)), (3, .int (nI X)), (2, .int (nI 3)), (0, .ref a_mod), (1, .int (nI S))]) hx hb d_Mod_node1_20 hl (by decide) rfl (fun ls hl => ?_)
  refine lv_iload_n hx hb d_Mod_node1_22 rfl (lv_at hl 2 rfl) ?_
  refine lv_bipush (v := nI 6) hx hb d_Mod_node1_23 rfl ?_
  refine lv_icmp_eq (tgt := 34) hx hb d_Mod_node1_25 (by decide) (fun c25 => ?_) (fun c25 => ?_)
  · skip
    have c25 : 3 = 6 := (nI_eq (by omega) (by omega)).mp c25
    omega
  · skip
    have c25 : ¬ (3 = 6) := fun h => c25 ((nI_eq (by omega) (by omega)).mpr h)
    refine lv_iload_n hx hb d_Mod_node1_28 rfl (lv_at hl 2 rfl) ?_
    refine lv_bipush (v := nI 7) hx hb d_Mod_node1_29 rfl ?_
    refine lv_icmp_ne (tgt := 53) hx hb d_Mod_node1_31 (by decide) (fun c31 => ?_) (fun c31 => ?_)
    · skip
      have c31 : ¬ (3 = 7) := fun h => c31 ((nI_eq (by omega) (by omega)).mpr h)
      refine lv_aload_n hx hb d_Mod_node1_53 rfl (lv_at hl 3 rfl) ?_
      refine va_get (D := (dC, dI)) (ci := 6) (v := .ref a_mwidth) (C := R_Mod) (T := F_Mod) (N := 27) hx hb hts (wi i_Mod) hown hK hP 0 rfl rfl 1 (by decide) (hts _ (mt 543 rfl rfl)) (fun _ h9 => h9) rfl d_Mod_node1_54 ?_
      refine lv_iload_n hx hb d_Mod_node1_57 rfl (lv_at hl 4 rfl) ?_
      refine k_ild hx hb hK hP 1 0 rfl rfl (by omega) (by decide) d_Mod_node1_58 ?_
      have hb_1 := b_mWd S
      refine lv_istore (lv' := [(5, .int (nI (mWd S))), (4, .int (nI Y)), (3, .int (nI X)), (2, .int (nI 3)), (0, .ref a_mod), (1, .int (nI S))]) hx hb d_Mod_node1_59 hl (by decide) rfl (fun ls hl => ?_)
      refine lv_iload_n hx hb d_Mod_node1_61 rfl (lv_at hl 3 rfl) ?_
      refine lv_iconst (v := nI 5) hx hb d_Mod_node1_62 rfl ?_
      refine lv_icmp_eq (tgt := 72) hx hb d_Mod_node1_63 (by decide) (fun c63 => ?_) (fun c63 => ?_)
      · skip
        have c63 : 3 = 5 := (nI_eq (by omega) (by omega)).mp c63
        omega
      · skip
        have c63 : ¬ (3 = 5) := fun h => c63 ((nI_eq (by omega) (by omega)).mpr h)
        refine lv_iload_n hx hb d_Mod_node1_66 rfl (lv_at hl 3 rfl) ?_
        refine lv_bipush (v := nI 7) hx hb d_Mod_node1_67 rfl ?_
        refine lv_icmp_ne (tgt := 76) hx hb d_Mod_node1_69 (by decide) (fun c69 => ?_) (fun c69 => ?_)
        · skip
          have c69 : ¬ (3 = 7) := fun h => c69 ((nI_eq (by omega) (by omega)).mpr h)
          refine lv_iconst (v := nI 0) hx hb d_Mod_node1_76 rfl ?_
          refine lv_istore (lv' := [(6, .int (nI 0)), (5, .int (nI (mWd S))), (4, .int (nI Y)), (3, .int (nI X)), (2, .int (nI 3)), (0, .ref a_mod), (1, .int (nI S))]) hx hb d_Mod_node1_77 hl (by decide) rfl (fun ls hl => ?_)
          refine lv_iconst (v := nI 1) hx hb d_Mod_node1_79 rfl ?_
          refine lv_istore (lv' := [(7, .int (nI 1)), (6, .int (nI 0)), (5, .int (nI (mWd S))), (4, .int (nI Y)), (3, .int (nI X)), (2, .int (nI 3)), (0, .ref a_mod), (1, .int (nI S))]) hx hb d_Mod_node1_80 hl (by decide) rfl (fun ls hl => ?_)
          refine lv_iconst (v := nI 0) hx hb d_Mod_node1_82 rfl ?_
          refine lv_istore (lv' := [(8, .int (nI 0)), (7, .int (nI 1)), (6, .int (nI 0)), (5, .int (nI (mWd S))), (4, .int (nI Y)), (3, .int (nI X)), (2, .int (nI 3)), (0, .ref a_mod), (1, .int (nI S))]) hx hb d_Mod_node1_83 hl (by decide) rfl (fun ls hl => ?_)
          have hI_2 : (mG ≤ 1280) ∧ (∀ j, mX j < 2786) ∧ (∀ j, mY j < 2786) ∧ (∀ j, mDe j < 1400) ∧ (∀ j, mBi j < 2786) ∧ (NJ mG gd P Dp Sl T) ∧ (MXY mG mX mY mDe P Dp) ∧ (AL K T mG) ∧ (ST T mG T mG (catL (fun j => dfl (CB X j) (CB Y j)) 0)) ∧ (Out mBi mBi S) ∧ (∀ j, j < 0 → OKc T mG (mBi (8 * S + j)) (df (CB X j) (CB Y j))) ∧ (0 ≤ mWd S) := ⟨(by omega), b_mX, b_mY, b_mDe, b_mBi, hN, hXY, hAL, (ST_rf rfl), (Out_rf mBi S), (fun j h => absurd h (by omega)), (by omega)⟩
          refine k_loop (σ := Nat × Nat × (Nat → Nat) × (Nat → Nat) × (Nat → Nat) × Nat × (Nat → Nat) × (Nat → Nat) × (Nat → Nat) × (Nat → Nat) × (Nat → Nat)) (D := (dC, dI)) (cl := classes) (A := A) (H0 := s.heap) (fun x => [(a_mod, .inr (6, [.ref a_mkind, .ref a_mwidth, .ref a_mreset, .ref a_mop, .ref a_mka, .ref a_mkb, .ref a_mkc, .ref a_mheld, .int (nI mN), .ref a_msort, .ref a_mof, .ref a_mfrom, .int (nI mMs), .ref a_mbit, .ref a_mdone, .ref a_mrests, .ref a_mxx, .ref a_myy, .ref a_mdepth, .ref a_mone, .int (nI x.2.1), .int (nI mCk), .int mFw, .int (nI mRd), .ref a_mbefore, .ref a_mfirst, .ref a_mturned])), (a_mwidth, .inl (cI, 14, .inl (nF mWd))), (a_mop, .inl (cI, 14, .inl mOp)), (a_mka, .inl (cI, 14, .inl mAa)), (a_mkb, .inl (cI, 14, .inl mAb)), (a_mkc, .inl (cI, 14, .inl mAc)), (a_mbit, .inl (cI, 224, .inl (nF x.2.2.2.2.2.2.2.2.2.2))), (a_mxx, .inl (cI, 2600, .inl (nF x.2.2.1))), (a_myy, .inl (cI, 2600, .inl (nF x.2.2.2.1))), (a_mdepth, .inl (cI, 2600, .inl (nF x.2.2.2.2.1)))]) (fun x => [(8, .int (nI x.1)), (7, .int (nI 1)), (6, .int (nI 0)), (5, .int (nI (mWd S))), (4, .int (nI Y)), (3, .int (nI X)), (2, .int (nI 3)), (0, .ref a_mod), (1, .int (nI S))]) (fun x => (x.2.1 ≤ 1280) ∧ (∀ j, x.2.2.1 j < 2786) ∧ (∀ j, x.2.2.2.1 j < 2786) ∧ (∀ j, x.2.2.2.2.1 j < 1400) ∧ (∀ j, x.2.2.2.2.2.2.2.2.2.2 j < 2786) ∧ (NJ x.2.1 x.2.2.2.2.2.1 x.2.2.2.2.2.2.1 x.2.2.2.2.2.2.2.1 x.2.2.2.2.2.2.2.2.1 x.2.2.2.2.2.2.2.2.2.1) ∧ (MXY x.2.1 x.2.2.1 x.2.2.2.1 x.2.2.2.2.1 x.2.2.2.2.2.2.1 x.2.2.2.2.2.2.2.1) ∧ (AL K x.2.2.2.2.2.2.2.2.2.1 x.2.1) ∧ (ST T mG x.2.2.2.2.2.2.2.2.2.1 x.2.1 (catL (fun j => dfl (CB X j) (CB Y j)) x.1)) ∧ (Out mBi x.2.2.2.2.2.2.2.2.2.2 S) ∧ (∀ j, j < x.1 → OKc x.2.2.2.2.2.2.2.2.2.1 x.2.1 (x.2.2.2.2.2.2.2.2.2.2 (8 * S + j)) (df (CB X j) (CB Y j))) ∧ (x.1 ≤ mWd S)) (fun x => mWd S - x.1) ?_ (0, mG, mX, mY, mDe, gd, P, Dp, Sl, T, mBi) hI_2 hP hD hS (lv_sub hl [0, 1, 2, 3, 4, 5, 6, 7, 8] rfl)
          rintro ⟨b, mG1, mX1, mY1, mDe1, gd1, P1, Dp1, Sl1, T1, B1⟩ hI ih_3 H locs ls hP hD hS hl
          obtain ⟨b_mG1, b_mX1, b_mY1, b_mDe1, b_B1, hN1, hXY1, hAL1, hst1, hO1, hB1, hbw⟩ : (mG1 ≤ 1280) ∧ (∀ j, mX1 j < 2786) ∧ (∀ j, mY1 j < 2786) ∧ (∀ j, mDe1 j < 1400) ∧ (∀ j, B1 j < 2786) ∧ (NJ mG1 gd1 P1 Dp1 Sl1 T1) ∧ (MXY mG1 mX1 mY1 mDe1 P1 Dp1) ∧ (AL K T1 mG1) ∧ (ST T mG T1 mG1 (catL (fun j => dfl (CB X j) (CB Y j)) b)) ∧ (Out mBi B1 S) ∧ (∀ j, j < b → OKc T1 mG1 (B1 (8 * S + j)) (df (CB X j) (CB Y j))) ∧ (b ≤ mWd S) := hI
          have hP : va_P (dC, dI) classes [(a_mod, .inr (6, [.ref a_mkind, .ref a_mwidth, .ref a_mreset, .ref a_mop, .ref a_mka, .ref a_mkb, .ref a_mkc, .ref a_mheld, .int (nI mN), .ref a_msort, .ref a_mof, .ref a_mfrom, .int (nI mMs), .ref a_mbit, .ref a_mdone, .ref a_mrests, .ref a_mxx, .ref a_myy, .ref a_mdepth, .ref a_mone, .int (nI mG1), .int (nI mCk), .int mFw, .int (nI mRd), .ref a_mbefore, .ref a_mfirst, .ref a_mturned])), (a_mwidth, .inl (cI, 14, .inl (nF mWd))), (a_mop, .inl (cI, 14, .inl mOp)), (a_mka, .inl (cI, 14, .inl mAa)), (a_mkb, .inl (cI, 14, .inl mAb)), (a_mkc, .inl (cI, 14, .inl mAc)), (a_mbit, .inl (cI, 224, .inl (nF B1))), (a_mxx, .inl (cI, 2600, .inl (nF mX1))), (a_myy, .inl (cI, 2600, .inl (nF mY1))), (a_mdepth, .inl (cI, 2600, .inl (nF mDe1)))] H := hP
          have hD : va_D A [(a_mod, .inr (6, [.ref a_mkind, .ref a_mwidth, .ref a_mreset, .ref a_mop, .ref a_mka, .ref a_mkb, .ref a_mkc, .ref a_mheld, .int (nI mN), .ref a_msort, .ref a_mof, .ref a_mfrom, .int (nI mMs), .ref a_mbit, .ref a_mdone, .ref a_mrests, .ref a_mxx, .ref a_myy, .ref a_mdepth, .ref a_mone, .int (nI mG1), .int (nI mCk), .int mFw, .int (nI mRd), .ref a_mbefore, .ref a_mfirst, .ref a_mturned])), (a_mwidth, .inl (cI, 14, .inl (nF mWd))), (a_mop, .inl (cI, 14, .inl mOp)), (a_mka, .inl (cI, 14, .inl mAa)), (a_mkb, .inl (cI, 14, .inl mAb)), (a_mkc, .inl (cI, 14, .inl mAc)), (a_mbit, .inl (cI, 224, .inl (nF B1))), (a_mxx, .inl (cI, 2600, .inl (nF mX1))), (a_myy, .inl (cI, 2600, .inl (nF mY1))), (a_mdepth, .inl (cI, 2600, .inl (nF mDe1)))] := hD
          have hl : lv_has ls 13 [(8, .int (nI b)), (7, .int (nI 1)), (6, .int (nI 0)), (5, .int (nI (mWd S))), (4, .int (nI Y)), (3, .int (nI X)), (2, .int (nI 3)), (0, .ref a_mod), (1, .int (nI S))] := hl
          refine lv_iload hx hb d_Mod_node1_85 (lv_at hl 0 rfl) ?_
          refine lv_iload hx hb d_Mod_node1_87 (lv_at hl 3 rfl) ?_
          refine lv_icmp_ge (tgt := 498) hx hb d_Mod_node1_89 (by decide) (fun c89 => ?_) (fun c89 => ?_)
          · skip
            have c89 : (mWd S) ≤ b := (nI_leI (by omega) (by omega)).mp c89
            refine lv_iload_n hx hb d_Mod_node1_498 rfl (lv_at hl 6 rfl) ?_
            refine lv_bipush (v := nI 6) hx hb d_Mod_node1_499 rfl ?_
            refine lv_icmp_ne (tgt := 515) hx hb d_Mod_node1_501 (by decide) (fun c501 => ?_) (fun c501 => ?_)
            · skip
              have c501 : ¬ (3 = 6) := fun h => c501 ((nI_eq (by omega) (by omega)).mpr h)
              refine lv_iload_n hx hb d_Mod_node1_515 rfl (lv_at hl 6 rfl) ?_
              refine lv_bipush (v := nI 7) hx hb d_Mod_node1_516 rfl ?_
              refine lv_icmp_ne (tgt := 534) hx hb d_Mod_node1_518 (by decide) (fun c518 => ?_) (fun c518 => ?_)
              · skip
                have c518 : ¬ (3 = 7) := fun h => c518 ((nI_eq (by omega) (by omega)).mpr h)
                exact W.vret hx hb hr (fun t ht hW => ⟨⟨(mG1, mX1, mY1, mDe1, gd1, P1, Dp1, Sl1, T1, B1), rfl, ⟨(show mG1 ≤ 1280 from by omega), b_mX1, b_mY1, b_mDe1, b_B1, (show NJ mG1 gd1 P1 Dp1 Sl1 T1 from hN1), (show MXY mG1 mX1 mY1 mDe1 P1 Dp1 from hXY1), (show AL K T1 mG1 from hAL1), (show ST T mG T1 mG1 (ncL mWd CB 3 (mAa S) (mAb S) (mAc S) (mWd S)) from by rw [eL, show mWd S = b by omega]; exact hst1), (show Out mBi B1 S from hO1), (show ∀ j, j < mWd S → OKc T1 mG1 (B1 (8 * S + j)) (nc mWd CB 3 (mAa S) (mAb S) (mAc S) j) from fun j hj => by rw [eV]; exact hB1 j (by omega))⟩, by rw [ht]; exact hP, va_K.moved hW.alike hK, hD⟩, hS.F ht⟩) hS.2.2 d_Mod_node1_534
              · skip
                have c518 : 3 = 7 := (nI_eq (by omega) (by omega)).mp c518
                omega
            · skip
              have c501 : 3 = 6 := (nI_eq (by omega) (by omega)).mp c501
              omega
          · skip
            have c89 : ¬ ((mWd S) ≤ b) := fun h => c89 ((nI_leI (by omega) (by omega)).mpr h)
            refine lv_iload_n hx hb d_Mod_node1_92 rfl (lv_at hl 6 rfl) ?_
            refine lv_bipush (v := nI 11) hx hb d_Mod_node1_93 rfl ?_
            refine lv_icmp_ne (tgt := 107) hx hb d_Mod_node1_95 (by decide) (fun c95 => ?_) (fun c95 => ?_)
            · skip
              have c95 : ¬ (3 = 11) := fun h => c95 ((nI_eq (by omega) (by omega)).mpr h)
              refine lv_iconst (v := nI 0) hx hb d_Mod_node1_107 rfl ?_
              refine lv_istore (lv' := [(9, .int (nI 0)), (8, .int (nI b)), (7, .int (nI 1)), (6, .int (nI 0)), (5, .int (nI (mWd S))), (4, .int (nI Y)), (3, .int (nI X)), (2, .int (nI 3)), (0, .ref a_mod), (1, .int (nI S))]) hx hb d_Mod_node1_108 hl (by decide) rfl (fun ls hl => ?_)
              refine lv_iload_n hx hb d_Mod_node1_110 rfl (lv_at hl 7 rfl) ?_
              refine lv_if_ne (tgt := 130) hx hb d_Mod_node1_111 (by decide) (fun c111 => ?_) (fun c111 => ?_)
              · skip
                have c111 : ¬ (3 = 0) := fun h => c111 ((nI_eq0 (by omega)).mpr h)
                refine lv_iload_n hx hb d_Mod_node1_130 rfl (lv_at hl 7 rfl) ?_
                refine lv_iconst (v := nI 1) hx hb d_Mod_node1_131 rfl ?_
                refine lv_icmp_ne (tgt := 156) hx hb d_Mod_node1_132 (by decide) (fun c132 => ?_) (fun c132 => ?_)
                · skip
                  have c132 : ¬ (3 = 1) := fun h => c132 ((nI_eq (by omega) (by omega)).mpr h)
                  refine lv_iload_n hx hb d_Mod_node1_156 rfl (lv_at hl 7 rfl) ?_
                  refine lv_iconst (v := nI 2) hx hb d_Mod_node1_157 rfl ?_
                  refine lv_icmp_ne (tgt := 182) hx hb d_Mod_node1_158 (by decide) (fun c158 => ?_) (fun c158 => ?_)
                  · skip
                    have c158 : ¬ (3 = 2) := fun h => c158 ((nI_eq (by omega) (by omega)).mpr h)
                    refine lv_iload_n hx hb d_Mod_node1_182 rfl (lv_at hl 7 rfl) ?_
                    refine lv_iconst (v := nI 3) hx hb d_Mod_node1_183 rfl ?_
                    refine lv_icmp_ne (tgt := 208) hx hb d_Mod_node1_184 (by decide) (fun c184 => ?_) (fun c184 => ?_)
                    · skip
                      have c184 : ¬ (3 = 3) := fun h => c184 ((nI_eq (by omega) (by omega)).mpr h)
                      omega
                    · skip
                      have c184 : 3 = 3 := (nI_eq (by omega) (by omega)).mp c184
                      have hx7 := OK_out (hx1.2.2 b) hst1 hO1 b_mWd hx1.2.1
                      have hx7b := hx7.1
                      have hy8 := OK_out (hy1.2.2 b) hst1 hO1 b_mWd hy1.2.1
                      have hy8b := hy8.1
                      refine lv_aload_n hx hb d_Mod_node1_187 rfl (lv_at hl 8 rfl) ?_
                      refine lv_aload_n hx hb d_Mod_node1_188 rfl (lv_at hl 8 rfl) ?_
                      refine lv_iload_n hx hb d_Mod_node1_189 rfl (lv_at hl 6 rfl) ?_
                      refine lv_iload hx hb d_Mod_node1_190 (lv_at hl 1 rfl) ?_
                      refine k_i (wr := [(a_mop, .inl (cI, 14, .inl mOp)), (a_mka, .inl (cI, 14, .inl mAa)), (a_mkb, .inl (cI, 14, .inl mAb)), (a_mkc, .inl (cI, 14, .inl mAc)), (a_mxx, .inl (cI, 2600, .inl (nF mX1))), (a_myy, .inl (cI, 2600, .inl (nF mY1))), (a_mdepth, .inl (cI, 2600, .inl (nF mDe1)))]) (w2 := fun (u : Unit) => [(a_mod, .inr (6, [.ref a_mkind, .ref a_mwidth, .ref a_mreset, .ref a_mop, .ref a_mka, .ref a_mkb, .ref a_mkc, .ref a_mheld, .int (nI mN), .ref a_msort, .ref a_mof, .ref a_mfrom, .int (nI mMs), .ref a_mbit, .ref a_mdone, .ref a_mrests, .ref a_mxx, .ref a_myy, .ref a_mdepth, .ref a_mone, .int (nI mG1), .int (nI mCk), .int mFw, .int (nI mRd), .ref a_mbefore, .ref a_mfirst, .ref a_mturned])), (a_mwidth, .inl (cI, 14, .inl (nF mWd))), (a_mop, .inl (cI, 14, .inl mOp)), (a_mka, .inl (cI, 14, .inl mAa)), (a_mkb, .inl (cI, 14, .inl mAb)), (a_mkc, .inl (cI, 14, .inl mAc)), (a_mbit, .inl (cI, 224, .inl (nF B1))), (a_mxx, .inl (cI, 2600, .inl (nF mX1))), (a_myy, .inl (cI, 2600, .inl (nF mY1))), (a_mdepth, .inl (cI, 2600, .inl (nF mDe1)))]) (va_runV (As := [.int (nI X), .int (nI b)]) (rest := [.ref a_mod]) ⟨hx, hb, hml, hown, hts⟩ (c_Mod_bitOf l dC dI cI cZ a_mod a_mkind a_mwidth a_mreset a_mop a_mka a_mkb a_mkc a_mheld a_msort a_mof a_mfrom a_mbit a_mdone a_mrests a_mxx a_myy a_mdepth a_mone a_mbefore a_mfirst a_mturned tt H.size mN mMs mG1 mCk mFw mRd mWd B1 X b (by omega) (by omega) (by omega) (by omega) b_mWd b_B1 (by omega) (by omega)) (cwV 2 hts (gd_V in_tl (mw 690 rfl rfl) (mw 692 rfl rfl) (mw 29 rfl rfl) (mw 47 rfl rfl) (mw 693 rfl rfl)) rfl rfl rfl (by decide +kernel) ⟨Nat.le_of_ble_eq_true rfl, Nat.le_of_ble_eq_true rfl⟩) (k_preV hK hP hD hS hA hE [0, 1, 6] (by decide) rfl 6 0 rfl rfl) rfl rfl hl.1 rfl (lv_room (Nat.le_of_ble_eq_true rfl)) d_Mod_node1_192 ⟨Nat.zero_le _, Nat.zero_le _⟩) hP hD hS hA [0, 1, 6] [2, 3, 4, 5, 7, 8, 9] [7, 8, 0, 1, 2, 3, 9, 4, 5, 6] rfl rfl (by decide) (by decide) (by decide) (fun _ => rfl) (fun r_4 u H locs hw hP hD hS => ?_)
                      obtain rfl : (r_4 = nI (lit B1 mWd X b)) := hw
                      have hP : va_P (dC, dI) classes [(a_mod, .inr (6, [.ref a_mkind, .ref a_mwidth, .ref a_mreset, .ref a_mop, .ref a_mka, .ref a_mkb, .ref a_mkc, .ref a_mheld, .int (nI mN), .ref a_msort, .ref a_mof, .ref a_mfrom, .int (nI mMs), .ref a_mbit, .ref a_mdone, .ref a_mrests, .ref a_mxx, .ref a_myy, .ref a_mdepth, .ref a_mone, .int (nI mG1), .int (nI mCk), .int mFw, .int (nI mRd), .ref a_mbefore, .ref a_mfirst, .ref a_mturned])), (a_mwidth, .inl (cI, 14, .inl (nF mWd))), (a_mop, .inl (cI, 14, .inl mOp)), (a_mka, .inl (cI, 14, .inl mAa)), (a_mkb, .inl (cI, 14, .inl mAb)), (a_mkc, .inl (cI, 14, .inl mAc)), (a_mbit, .inl (cI, 224, .inl (nF B1))), (a_mxx, .inl (cI, 2600, .inl (nF mX1))), (a_myy, .inl (cI, 2600, .inl (nF mY1))), (a_mdepth, .inl (cI, 2600, .inl (nF mDe1)))] H := hP
                      have hD : va_D A [(a_mod, .inr (6, [.ref a_mkind, .ref a_mwidth, .ref a_mreset, .ref a_mop, .ref a_mka, .ref a_mkb, .ref a_mkc, .ref a_mheld, .int (nI mN), .ref a_msort, .ref a_mof, .ref a_mfrom, .int (nI mMs), .ref a_mbit, .ref a_mdone, .ref a_mrests, .ref a_mxx, .ref a_myy, .ref a_mdepth, .ref a_mone, .int (nI mG1), .int (nI mCk), .int mFw, .int (nI mRd), .ref a_mbefore, .ref a_mfirst, .ref a_mturned])), (a_mwidth, .inl (cI, 14, .inl (nF mWd))), (a_mop, .inl (cI, 14, .inl mOp)), (a_mka, .inl (cI, 14, .inl mAa)), (a_mkb, .inl (cI, 14, .inl mAb)), (a_mkc, .inl (cI, 14, .inl mAc)), (a_mbit, .inl (cI, 224, .inl (nF B1))), (a_mxx, .inl (cI, 2600, .inl (nF mX1))), (a_myy, .inl (cI, 2600, .inl (nF mY1))), (a_mdepth, .inl (cI, 2600, .inl (nF mDe1)))] := hD
                      refine lv_aload_n hx hb d_Mod_node1_195 rfl (lv_at hl 8 rfl) ?_
                      refine lv_iload hx hb d_Mod_node1_196 (lv_at hl 5 rfl) ?_
                      refine lv_iload hx hb d_Mod_node1_198 (lv_at hl 1 rfl) ?_
                      refine k_i (wr := [(a_mop, .inl (cI, 14, .inl mOp)), (a_mka, .inl (cI, 14, .inl mAa)), (a_mkb, .inl (cI, 14, .inl mAb)), (a_mkc, .inl (cI, 14, .inl mAc)), (a_mxx, .inl (cI, 2600, .inl (nF mX1))), (a_myy, .inl (cI, 2600, .inl (nF mY1))), (a_mdepth, .inl (cI, 2600, .inl (nF mDe1)))]) (w2 := fun (u : Unit) => [(a_mod, .inr (6, [.ref a_mkind, .ref a_mwidth, .ref a_mreset, .ref a_mop, .ref a_mka, .ref a_mkb, .ref a_mkc, .ref a_mheld, .int (nI mN), .ref a_msort, .ref a_mof, .ref a_mfrom, .int (nI mMs), .ref a_mbit, .ref a_mdone, .ref a_mrests, .ref a_mxx, .ref a_myy, .ref a_mdepth, .ref a_mone, .int (nI mG1), .int (nI mCk), .int mFw, .int (nI mRd), .ref a_mbefore, .ref a_mfirst, .ref a_mturned])), (a_mwidth, .inl (cI, 14, .inl (nF mWd))), (a_mop, .inl (cI, 14, .inl mOp)), (a_mka, .inl (cI, 14, .inl mAa)), (a_mkb, .inl (cI, 14, .inl mAb)), (a_mkc, .inl (cI, 14, .inl mAc)), (a_mbit, .inl (cI, 224, .inl (nF B1))), (a_mxx, .inl (cI, 2600, .inl (nF mX1))), (a_myy, .inl (cI, 2600, .inl (nF mY1))), (a_mdepth, .inl (cI, 2600, .inl (nF mDe1)))]) (va_runV (As := [.int (nI Y), .int (nI b)]) (rest := [.int (nI (lit B1 mWd X b)), .ref a_mod]) ⟨hx, hb, hml, hown, hts⟩ (c_Mod_bitOf l dC dI cI cZ a_mod a_mkind a_mwidth a_mreset a_mop a_mka a_mkb a_mkc a_mheld a_msort a_mof a_mfrom a_mbit a_mdone a_mrests a_mxx a_myy a_mdepth a_mone a_mbefore a_mfirst a_mturned tt H.size mN mMs mG1 mCk mFw mRd mWd B1 Y b (by omega) (by omega) (by omega) (by omega) b_mWd b_B1 (by omega) (by omega)) (cwV 2 hts (gd_V in_tl (mw 690 rfl rfl) (mw 692 rfl rfl) (mw 29 rfl rfl) (mw 47 rfl rfl) (mw 693 rfl rfl)) rfl rfl rfl (by decide +kernel) ⟨Nat.le_of_ble_eq_true rfl, Nat.le_of_ble_eq_true rfl⟩) (k_preV hK hP hD hS hA hE [0, 1, 6] (by decide) rfl 6 0 rfl rfl) rfl rfl hl.1 rfl (lv_room (Nat.le_of_ble_eq_true rfl)) d_Mod_node1_200 ⟨Nat.zero_le _, Nat.zero_le _⟩) hP hD hS hA [0, 1, 6] [2, 3, 4, 5, 7, 8, 9] [7, 8, 0, 1, 2, 3, 9, 4, 5, 6] rfl rfl (by decide) (by decide) (by decide) (fun _ => rfl) (fun r_5 u H locs hw hP hD hS => ?_)
                      obtain rfl : (r_5 = nI (lit B1 mWd Y b)) := hw
                      have hP : va_P (dC, dI) classes [(a_mod, .inr (6, [.ref a_mkind, .ref a_mwidth, .ref a_mreset, .ref a_mop, .ref a_mka, .ref a_mkb, .ref a_mkc, .ref a_mheld, .int (nI mN), .ref a_msort, .ref a_mof, .ref a_mfrom, .int (nI mMs), .ref a_mbit, .ref a_mdone, .ref a_mrests, .ref a_mxx, .ref a_myy, .ref a_mdepth, .ref a_mone, .int (nI mG1), .int (nI mCk), .int mFw, .int (nI mRd), .ref a_mbefore, .ref a_mfirst, .ref a_mturned])), (a_mwidth, .inl (cI, 14, .inl (nF mWd))), (a_mop, .inl (cI, 14, .inl mOp)), (a_mka, .inl (cI, 14, .inl mAa)), (a_mkb, .inl (cI, 14, .inl mAb)), (a_mkc, .inl (cI, 14, .inl mAc)), (a_mbit, .inl (cI, 224, .inl (nF B1))), (a_mxx, .inl (cI, 2600, .inl (nF mX1))), (a_myy, .inl (cI, 2600, .inl (nF mY1))), (a_mdepth, .inl (cI, 2600, .inl (nF mDe1)))] H := hP
                      have hD : va_D A [(a_mod, .inr (6, [.ref a_mkind, .ref a_mwidth, .ref a_mreset, .ref a_mop, .ref a_mka, .ref a_mkb, .ref a_mkc, .ref a_mheld, .int (nI mN), .ref a_msort, .ref a_mof, .ref a_mfrom, .int (nI mMs), .ref a_mbit, .ref a_mdone, .ref a_mrests, .ref a_mxx, .ref a_myy, .ref a_mdepth, .ref a_mone, .int (nI mG1), .int (nI mCk), .int mFw, .int (nI mRd), .ref a_mbefore, .ref a_mfirst, .ref a_mturned])), (a_mwidth, .inl (cI, 14, .inl (nF mWd))), (a_mop, .inl (cI, 14, .inl mOp)), (a_mka, .inl (cI, 14, .inl mAa)), (a_mkb, .inl (cI, 14, .inl mAb)), (a_mkc, .inl (cI, 14, .inl mAc)), (a_mbit, .inl (cI, 224, .inl (nF B1))), (a_mxx, .inl (cI, 2600, .inl (nF mX1))), (a_myy, .inl (cI, 2600, .inl (nF mY1))), (a_mdepth, .inl (cI, 2600, .inl (nF mDe1)))] := hD
                      refine k_i (wr := [(a_mwidth, .inl (cI, 14, .inl (nF mWd))), (a_mop, .inl (cI, 14, .inl mOp)), (a_mka, .inl (cI, 14, .inl mAa)), (a_mkb, .inl (cI, 14, .inl mAb)), (a_mkc, .inl (cI, 14, .inl mAc)), (a_mbit, .inl (cI, 224, .inl (nF B1)))]) (w2 := fun (u : Nat × (Nat → Nat) × (Nat → Nat) × (Nat → Nat) × Nat × (Nat → Nat) × (Nat → Nat) × (Nat → Nat) × (Nat → Nat)) => [(a_mod, .inr (6, [.ref a_mkind, .ref a_mwidth, .ref a_mreset, .ref a_mop, .ref a_mka, .ref a_mkb, .ref a_mkc, .ref a_mheld, .int (nI mN), .ref a_msort, .ref a_mof, .ref a_mfrom, .int (nI mMs), .ref a_mbit, .ref a_mdone, .ref a_mrests, .ref a_mxx, .ref a_myy, .ref a_mdepth, .ref a_mone, .int (nI u.1), .int (nI mCk), .int mFw, .int (nI mRd), .ref a_mbefore, .ref a_mfirst, .ref a_mturned])), (a_mwidth, .inl (cI, 14, .inl (nF mWd))), (a_mop, .inl (cI, 14, .inl mOp)), (a_mka, .inl (cI, 14, .inl mAa)), (a_mkb, .inl (cI, 14, .inl mAb)), (a_mkc, .inl (cI, 14, .inl mAc)), (a_mbit, .inl (cI, 224, .inl (nF B1))), (a_mxx, .inl (cI, 2600, .inl (nF u.2.1))), (a_myy, .inl (cI, 2600, .inl (nF u.2.2.1))), (a_mdepth, .inl (cI, 2600, .inl (nF u.2.2.2.1)))]) (va_runV (As := [.int (nI (lit B1 mWd X b)), .int (nI (lit B1 mWd Y b))]) (rest := []) ⟨hx, hb, hml, hown, hts⟩ (c_Mod_differ l dC dI cI cZ a_mod a_mkind a_mwidth a_mreset a_mop a_mka a_mkb a_mkc a_mheld a_msort a_mof a_mfrom a_mbit a_mdone a_mrests a_mxx a_myy a_mdepth a_mone a_mbefore a_mfirst a_mturned tt H.size mN mMs mG1 mCk mFw mRd mX1 mY1 mDe1 gd1 P1 Dp1 Sl1 T1 K (lit B1 mWd X b) (lit B1 mWd Y b) (by omega) (by omega) (by omega) (by omega) b_mX1 b_mY1 b_mDe1 hN1 hXY1 hAL1 hx7.1 hy8.1 (by rw [hx7.2, hy8.2]; intro c h; apply hgl; rw [eL]; exact catL_in _ (by omega) h)) (cwV 2 hts (gd_V in_tl (mw 718 rfl rfl) (mw 720 rfl rfl) (mw 36 rfl rfl) (mw 47 rfl rfl) (mw 721 rfl rfl)) rfl rfl rfl (by decide +kernel) ⟨Nat.le_of_ble_eq_true rfl, Nat.le_of_ble_eq_true rfl⟩) (k_preV hK hP hD hS hA hE [0, 7, 8, 9] (by decide) rfl 6 0 rfl rfl) rfl rfl hl.1 rfl (lv_room (Nat.le_of_ble_eq_true rfl)) d_Mod_node1_203 ⟨Nat.zero_le _, Nat.zero_le _⟩) hP hD hS hA [0, 7, 8, 9] [1, 2, 3, 4, 5, 6] [6, 0, 1, 2, 3, 4, 5, 7, 8, 9] rfl rfl (by decide) (by decide) (by decide) (fun _ => rfl) (fun r_15 u H locs hw hP hD hS => ?_)
                      obtain ⟨mGv_6, mXv_7, mYv_8, mDev_9, gdv_10, Pv_11, Dpv_12, Slv_13, Tv_14⟩ := u
                      obtain ⟨v_16, rfl, b_mGv_6, b_mXv_7, b_mYv_8, b_mDev_9, hN_203, hXY_203, hst_203, hrl_203, hc_203, hAL_203⟩ : ∃ rv : Nat, r_15 = nI rv ∧ (mGv_6 ≤ 1280) ∧ (∀ j, mXv_7 j < 2786) ∧ (∀ j, mYv_8 j < 2786) ∧ (∀ j, mDev_9 j < 1400) ∧ (NJ mGv_6 gdv_10 Pv_11 Dpv_12 Slv_13 Tv_14) ∧ (MXY mGv_6 mXv_7 mYv_8 mDev_9 Pv_11 Dpv_12) ∧ (ST T1 mG1 Tv_14 mGv_6 (dfl (LT T1 (lit B1 mWd X b)) (LT T1 (lit B1 mWd Y b)))) ∧ (rv < 2 * (113 + mGv_6)) ∧ (LT Tv_14 rv = df (LT T1 (lit B1 mWd X b)) (LT T1 (lit B1 mWd Y b))) ∧ (AL K Tv_14 mGv_6) := hw
                      have hP : va_P (dC, dI) classes [(a_mod, .inr (6, [.ref a_mkind, .ref a_mwidth, .ref a_mreset, .ref a_mop, .ref a_mka, .ref a_mkb, .ref a_mkc, .ref a_mheld, .int (nI mN), .ref a_msort, .ref a_mof, .ref a_mfrom, .int (nI mMs), .ref a_mbit, .ref a_mdone, .ref a_mrests, .ref a_mxx, .ref a_myy, .ref a_mdepth, .ref a_mone, .int (nI mGv_6), .int (nI mCk), .int mFw, .int (nI mRd), .ref a_mbefore, .ref a_mfirst, .ref a_mturned])), (a_mwidth, .inl (cI, 14, .inl (nF mWd))), (a_mop, .inl (cI, 14, .inl mOp)), (a_mka, .inl (cI, 14, .inl mAa)), (a_mkb, .inl (cI, 14, .inl mAb)), (a_mkc, .inl (cI, 14, .inl mAc)), (a_mbit, .inl (cI, 224, .inl (nF B1))), (a_mxx, .inl (cI, 2600, .inl (nF mXv_7))), (a_myy, .inl (cI, 2600, .inl (nF mYv_8))), (a_mdepth, .inl (cI, 2600, .inl (nF mDev_9)))] H := hP
                      have hD : va_D A [(a_mod, .inr (6, [.ref a_mkind, .ref a_mwidth, .ref a_mreset, .ref a_mop, .ref a_mka, .ref a_mkb, .ref a_mkc, .ref a_mheld, .int (nI mN), .ref a_msort, .ref a_mof, .ref a_mfrom, .int (nI mMs), .ref a_mbit, .ref a_mdone, .ref a_mrests, .ref a_mxx, .ref a_myy, .ref a_mdepth, .ref a_mone, .int (nI mGv_6), .int (nI mCk), .int mFw, .int (nI mRd), .ref a_mbefore, .ref a_mfirst, .ref a_mturned])), (a_mwidth, .inl (cI, 14, .inl (nF mWd))), (a_mop, .inl (cI, 14, .inl mOp)), (a_mka, .inl (cI, 14, .inl mAa)), (a_mkb, .inl (cI, 14, .inl mAb)), (a_mkc, .inl (cI, 14, .inl mAc)), (a_mbit, .inl (cI, 224, .inl (nF B1))), (a_mxx, .inl (cI, 2600, .inl (nF mXv_7))), (a_myy, .inl (cI, 2600, .inl (nF mYv_8))), (a_mdepth, .inl (cI, 2600, .inl (nF mDev_9)))] := hD
                      rw [hx7.2, hy8.2] at hst_203 hc_203
                      have hl9 := And.intro hrl_203 hc_203
                      refine lv_istore (lv' := [(9, .int (nI v_16)), (8, .int (nI b)), (7, .int (nI 1)), (6, .int (nI 0)), (5, .int (nI (mWd S))), (4, .int (nI Y)), (3, .int (nI X)), (2, .int (nI 3)), (0, .ref a_mod), (1, .int (nI S))]) hx hb d_Mod_node1_206 hl (by decide) rfl (fun ls hl => ?_)
                      refine lv_iload_n hx hb d_Mod_node1_208 rfl (lv_at hl 7 rfl) ?_
                      refine lv_iconst (v := nI 4) hx hb d_Mod_node1_209 rfl ?_
                      refine lv_icmp_ne (tgt := 226) hx hb d_Mod_node1_210 (by decide) (fun c210 => ?_) (fun c210 => ?_)
                      · skip
                        have c210 : ¬ (3 = 4) := fun h => c210 ((nI_eq (by omega) (by omega)).mpr h)
                        refine lv_iload_n hx hb d_Mod_node1_226 rfl (lv_at hl 7 rfl) ?_
                        refine lv_iconst (v := nI 4) hx hb d_Mod_node1_227 rfl ?_
                        refine lv_icmp_ne (tgt := 240) hx hb d_Mod_node1_228 (by decide) (fun c228 => ?_) (fun c228 => ?_)
                        · skip
                          have c228 : ¬ (3 = 4) := fun h => c228 ((nI_eq (by omega) (by omega)).mpr h)
                          refine lv_iload_n hx hb d_Mod_node1_240 rfl (lv_at hl 7 rfl) ?_
                          refine lv_iconst (v := nI 5) hx hb d_Mod_node1_241 rfl ?_
                          refine lv_icmp_eq (tgt := 251) hx hb d_Mod_node1_242 (by decide) (fun c242 => ?_) (fun c242 => ?_)
                          · skip
                            have c242 : 3 = 5 := (nI_eq (by omega) (by omega)).mp c242
                            omega
                          · skip
                            have c242 : ¬ (3 = 5) := fun h => c242 ((nI_eq (by omega) (by omega)).mpr h)
                            refine lv_iload_n hx hb d_Mod_node1_245 rfl (lv_at hl 7 rfl) ?_
                            refine lv_bipush (v := nI 7) hx hb d_Mod_node1_246 rfl ?_
                            refine lv_icmp_ne (tgt := 323) hx hb d_Mod_node1_248 (by decide) (fun c248 => ?_) (fun c248 => ?_)
                            · skip
                              have c248 : ¬ (3 = 7) := fun h => c248 ((nI_eq (by omega) (by omega)).mpr h)
                              refine lv_iload_n hx hb d_Mod_node1_323 rfl (lv_at hl 7 rfl) ?_
                              refine lv_bipush (v := nI 6) hx hb d_Mod_node1_324 rfl ?_
                              refine lv_icmp_ne (tgt := 358) hx hb d_Mod_node1_326 (by decide) (fun c326 => ?_) (fun c326 => ?_)
                              · skip
                                have c326 : ¬ (3 = 6) := fun h => c326 ((nI_eq (by omega) (by omega)).mpr h)
                                refine lv_iload_n hx hb d_Mod_node1_358 rfl (lv_at hl 7 rfl) ?_
                                refine lv_bipush (v := nI 8) hx hb d_Mod_node1_359 rfl ?_
                                refine lv_icmp_ne (tgt := 414) hx hb d_Mod_node1_361 (by decide) (fun c361 => ?_) (fun c361 => ?_)
                                · skip
                                  have c361 : ¬ (3 = 8) := fun h => c361 ((nI_eq (by omega) (by omega)).mpr h)
                                  refine lv_iload_n hx hb d_Mod_node1_414 rfl (lv_at hl 7 rfl) ?_
                                  refine lv_bipush (v := nI 9) hx hb d_Mod_node1_415 rfl ?_
                                  refine lv_icmp_ne (tgt := 437) hx hb d_Mod_node1_417 (by decide) (fun c417 => ?_) (fun c417 => ?_)
                                  · skip
                                    have c417 : ¬ (3 = 9) := fun h => c417 ((nI_eq (by omega) (by omega)).mpr h)
                                    refine lv_iload_n hx hb d_Mod_node1_437 rfl (lv_at hl 7 rfl) ?_
                                    refine lv_bipush (v := nI 10) hx hb d_Mod_node1_438 rfl ?_
                                    refine lv_icmp_ne (tgt := 478) hx hb d_Mod_node1_440 (by decide) (fun c440 => ?_) (fun c440 => ?_)
                                    · skip
                                      have c440 : ¬ (3 = 10) := fun h => c440 ((nI_eq (by omega) (by omega)).mpr h)
                                      refine lv_aload_n hx hb d_Mod_node1_478 rfl (lv_at hl 8 rfl) ?_
                                      refine va_get (D := (dC, dI)) (ci := 6) (v := .ref a_mbit) (C := R_Mod) (T := F_Mod) (N := 27) hx hb hts (wi i_Mod) hown hK hP 0 rfl rfl 13 (by decide) (hts _ (mt 555 rfl rfl)) (fun _ h9 => h9) rfl d_Mod_node1_479 ?_
                                      refine lv_bipush (v := nI 8) hx hb d_Mod_node1_482 rfl ?_
                                      refine lv_iload_n hx hb d_Mod_node1_484 rfl (lv_at hl 9 rfl) ?_
                                      refine lv_imul hx hb d_Mod_node1_485 ?_
                                      refine k_top (pk_mul _ _) ?_
                                      refine lv_iload hx hb d_Mod_node1_486 (lv_at hl 1 rfl) ?_
                                      refine lv_iadd hx hb d_Mod_node1_488 ?_
                                      refine k_top (nI_add _ _) ?_
                                      refine lv_iload hx hb d_Mod_node1_489 (lv_at hl 0 rfl) ?_
                                      refine k_ist hx hb hK hP hD hS 6 0 rfl rfl (by omega) (by decide) d_Mod_node1_491 (fun H locs hP hD hS => ?_)
                                      have bb_17 : ∀ j, upN B1 ((8 * S) + b) v_16 j < 2786 := upN_lt b_B1 (by have := hl9.1; omega)
                                      have hP : va_P (dC, dI) classes [(a_mod, .inr (6, [.ref a_mkind, .ref a_mwidth, .ref a_mreset, .ref a_mop, .ref a_mka, .ref a_mkb, .ref a_mkc, .ref a_mheld, .int (nI mN), .ref a_msort, .ref a_mof, .ref a_mfrom, .int (nI mMs), .ref a_mbit, .ref a_mdone, .ref a_mrests, .ref a_mxx, .ref a_myy, .ref a_mdepth, .ref a_mone, .int (nI mGv_6), .int (nI mCk), .int mFw, .int (nI mRd), .ref a_mbefore, .ref a_mfirst, .ref a_mturned])), (a_mwidth, .inl (cI, 14, .inl (nF mWd))), (a_mop, .inl (cI, 14, .inl mOp)), (a_mka, .inl (cI, 14, .inl mAa)), (a_mkb, .inl (cI, 14, .inl mAb)), (a_mkc, .inl (cI, 14, .inl mAc)), (a_mbit, .inl (cI, 224, .inl (nF (upN B1 ((8 * S) + b) v_16)))), (a_mxx, .inl (cI, 2600, .inl (nF mXv_7))), (a_myy, .inl (cI, 2600, .inl (nF mYv_8))), (a_mdepth, .inl (cI, 2600, .inl (nF mDev_9)))] H := hP
                                      have hD : va_D A [(a_mod, .inr (6, [.ref a_mkind, .ref a_mwidth, .ref a_mreset, .ref a_mop, .ref a_mka, .ref a_mkb, .ref a_mkc, .ref a_mheld, .int (nI mN), .ref a_msort, .ref a_mof, .ref a_mfrom, .int (nI mMs), .ref a_mbit, .ref a_mdone, .ref a_mrests, .ref a_mxx, .ref a_myy, .ref a_mdepth, .ref a_mone, .int (nI mGv_6), .int (nI mCk), .int mFw, .int (nI mRd), .ref a_mbefore, .ref a_mfirst, .ref a_mturned])), (a_mwidth, .inl (cI, 14, .inl (nF mWd))), (a_mop, .inl (cI, 14, .inl mOp)), (a_mka, .inl (cI, 14, .inl mAa)), (a_mkb, .inl (cI, 14, .inl mAb)), (a_mkc, .inl (cI, 14, .inl mAc)), (a_mbit, .inl (cI, 224, .inl (nF (upN B1 ((8 * S) + b) v_16)))), (a_mxx, .inl (cI, 2600, .inl (nF mXv_7))), (a_myy, .inl (cI, 2600, .inl (nF mYv_8))), (a_mdepth, .inl (cI, 2600, .inl (nF mDev_9)))] := hD
                                      refine lv_iinc (v := nI (b + 1)) (lv' := [(8, .int (nI (b + 1))), (9, .int (nI v_16)), (7, .int (nI 1)), (6, .int (nI 0)), (5, .int (nI (mWd S))), (4, .int (nI Y)), (3, .int (nI X)), (2, .int (nI 3)), (0, .ref a_mod), (1, .int (nI S))]) hx hb d_Mod_node1_492 hl (k := 1) rfl (k_inc _ 1) (by decide) rfl (fun ls hl => ?_)
                                      refine lv_goto (tgt := 85) hx hb d_Mod_node1_495 (by decide) ?_
                                      have hI_18 : (mGv_6 ≤ 1280) ∧ (∀ j, mXv_7 j < 2786) ∧ (∀ j, mYv_8 j < 2786) ∧ (∀ j, mDev_9 j < 1400) ∧ (∀ j, (upN B1 ((8 * S) + b) v_16) j < 2786) ∧ (NJ mGv_6 gdv_10 Pv_11 Dpv_12 Slv_13 Tv_14) ∧ (MXY mGv_6 mXv_7 mYv_8 mDev_9 Pv_11 Dpv_12) ∧ (AL K Tv_14 mGv_6) ∧ (ST T mG Tv_14 mGv_6 (catL (fun j => dfl (CB X j) (CB Y j)) (b + 1))) ∧ (Out mBi (upN B1 ((8 * S) + b) v_16) S) ∧ (∀ j, j < (b + 1) → OKc Tv_14 mGv_6 ((upN B1 ((8 * S) + b) v_16) (8 * S + j)) (df (CB X j) (CB Y j))) ∧ ((b + 1) ≤ mWd S) := ⟨(by omega), b_mXv_7, b_mYv_8, b_mDev_9, bb_17, hN_203, hXY_203, hAL_203, (ST_tr hst1 hst_203), (Out_up8 hO1 (by omega)), (fun j hj => by
      by_cases e : j = b
      · rw [e, upN_self]; exact hl9
      · rw [upN_ne _ _ (by omega)]; exact OKc_st (hB1 j (by omega)) hst_203), (by omega)⟩
                                      exact ih_3 (b + 1, mGv_6, mXv_7, mYv_8, mDev_9, gdv_10, Pv_11, Dpv_12, Slv_13, Tv_14, upN B1 ((8 * S) + b) v_16) hI_18 (show mWd S - (b + 1) < mWd S - b from by omega) _ _ _ hP hD hS (lv_sub hl [0, 2, 3, 4, 5, 6, 7, 8, 9] rfl)
                                    · skip
                                      have c440 : 3 = 10 := (nI_eq (by omega) (by omega)).mp c440
                                      omega
                                  · skip
                                    have c417 : 3 = 9 := (nI_eq (by omega) (by omega)).mp c417
                                    omega
                                · skip
                                  have c361 : 3 = 8 := (nI_eq (by omega) (by omega)).mp c361
                                  omega
                              · skip
                                have c326 : 3 = 6 := (nI_eq (by omega) (by omega)).mp c326
                                omega
                            · skip
                              have c248 : 3 = 7 := (nI_eq (by omega) (by omega)).mp c248
                              omega
                        · skip
                          have c228 : 3 = 4 := (nI_eq (by omega) (by omega)).mp c228
                          omega
                      · skip
                        have c210 : 3 = 4 := (nI_eq (by omega) (by omega)).mp c210
                        omega
                  · skip
                    have c158 : 3 = 2 := (nI_eq (by omega) (by omega)).mp c158
                    omega
                · skip
                  have c132 : 3 = 1 := (nI_eq (by omega) (by omega)).mp c132
                  omega
              · skip
                have c111 : 3 = 0 := (nI_eq0 (by omega)).mp c111
                omega
            · skip
              have c95 : 3 = 11 := (nI_eq (by omega) (by omega)).mp c95
              omega
        · skip
          have c69 : 3 = 7 := (nI_eq (by omega) (by omega)).mp c69
          omega
    · skip
      have c31 : 3 = 7 := (nI_eq (by omega) (by omega)).mp c31
      omega
