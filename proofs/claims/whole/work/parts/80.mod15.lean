abbrev b_Mod_rest : ByteArray := prog_8_method_14_code
def y_Mod_rest : MethodName := ⟨"CircuitDeskModel", "rest", "()V"⟩
def w_Mod_rest : List Cond := .code y_Mod_rest b_Mod_rest 4 none :: lw_gw
theorem d_Mod_rest_0 : decode b_Mod_rest 0 = .ok (.iconst 0, 1) := by decide +kernel
theorem d_Mod_rest_1 : decode b_Mod_rest 1 = .ok (.istore_n 1, 1) := by decide +kernel
theorem d_Mod_rest_2 : decode b_Mod_rest 2 = .ok (.iload_n 1, 1) := by decide +kernel
theorem d_Mod_rest_3 : decode b_Mod_rest 3 = .ok (.sipush 196, 3) := by decide +kernel
theorem d_Mod_rest_6 : decode b_Mod_rest 6 = .ok (.if_icmp .ge 16, 3) := by decide +kernel
theorem d_Mod_rest_9 : decode b_Mod_rest 9 = .ok (.aload_n 0, 1) := by decide +kernel
theorem d_Mod_rest_10 : decode b_Mod_rest 10 = .ok (.getfield 50, 3) := by decide +kernel
theorem d_Mod_rest_13 : decode b_Mod_rest 13 = .ok (.iload_n 1, 1) := by decide +kernel
theorem d_Mod_rest_14 : decode b_Mod_rest 14 = .ok (.iconst 0, 1) := by decide +kernel
theorem d_Mod_rest_15 : decode b_Mod_rest 15 = .ok (.bastore, 1) := by decide +kernel
theorem d_Mod_rest_16 : decode b_Mod_rest 16 = .ok (.iinc 1 1, 3) := by decide +kernel
theorem d_Mod_rest_19 : decode b_Mod_rest 19 = .ok (.goto (-17), 3) := by decide +kernel
theorem d_Mod_rest_22 : decode b_Mod_rest 22 = .ok (.iconst 0, 1) := by decide +kernel
theorem d_Mod_rest_23 : decode b_Mod_rest 23 = .ok (.istore_n 1, 1) := by decide +kernel
theorem d_Mod_rest_24 : decode b_Mod_rest 24 = .ok (.iload_n 1, 1) := by decide +kernel
theorem d_Mod_rest_25 : decode b_Mod_rest 25 = .ok (.aload_n 0, 1) := by decide +kernel
theorem d_Mod_rest_26 : decode b_Mod_rest 26 = .ok (.getfield 78, 3) := by decide +kernel
theorem d_Mod_rest_29 : decode b_Mod_rest 29 = .ok (.if_icmp .ge 115, 3) := by decide +kernel
theorem d_Mod_rest_32 : decode b_Mod_rest 32 = .ok (.aload_n 0, 1) := by decide +kernel
theorem d_Mod_rest_33 : decode b_Mod_rest 33 = .ok (.getfield 7, 3) := by decide +kernel
theorem d_Mod_rest_36 : decode b_Mod_rest 36 = .ok (.iload_n 1, 1) := by decide +kernel
theorem d_Mod_rest_37 : decode b_Mod_rest 37 = .ok (.iaload, 1) := by decide +kernel
theorem d_Mod_rest_38 : decode b_Mod_rest 38 = .ok (.iconst 3, 1) := by decide +kernel
theorem d_Mod_rest_39 : decode b_Mod_rest 39 = .ok (.if_icmp .ne 99, 3) := by decide +kernel
theorem d_Mod_rest_42 : decode b_Mod_rest 42 = .ok (.aload_n 0, 1) := by decide +kernel
theorem d_Mod_rest_43 : decode b_Mod_rest 43 = .ok (.getfield 19, 3) := by decide +kernel
theorem d_Mod_rest_46 : decode b_Mod_rest 46 = .ok (.iload_n 1, 1) := by decide +kernel
theorem d_Mod_rest_47 : decode b_Mod_rest 47 = .ok (.iaload, 1) := by decide +kernel
theorem d_Mod_rest_48 : decode b_Mod_rest 48 = .ok (.bipush 11, 2) := by decide +kernel
theorem d_Mod_rest_50 : decode b_Mod_rest 50 = .ok (.if_icmp .ne 6, 3) := by decide +kernel
theorem d_Mod_rest_53 : decode b_Mod_rest 53 = .ok (.goto 85, 3) := by decide +kernel
theorem d_Mod_rest_56 : decode b_Mod_rest 56 = .ok (.aload_n 0, 1) := by decide +kernel
theorem d_Mod_rest_57 : decode b_Mod_rest 57 = .ok (.getfield 50, 3) := by decide +kernel
theorem d_Mod_rest_60 : decode b_Mod_rest 60 = .ok (.bipush 14, 2) := by decide +kernel
theorem d_Mod_rest_62 : decode b_Mod_rest 62 = .ok (.iload_n 1, 1) := by decide +kernel
theorem d_Mod_rest_63 : decode b_Mod_rest 63 = .ok (.imul, 1) := by decide +kernel
theorem d_Mod_rest_64 : decode b_Mod_rest 64 = .ok (.aload_n 0, 1) := by decide +kernel
theorem d_Mod_rest_65 : decode b_Mod_rest 65 = .ok (.getfield 22, 3) := by decide +kernel
theorem d_Mod_rest_68 : decode b_Mod_rest 68 = .ok (.iload_n 1, 1) := by decide +kernel
theorem d_Mod_rest_69 : decode b_Mod_rest 69 = .ok (.iaload, 1) := by decide +kernel
theorem d_Mod_rest_70 : decode b_Mod_rest 70 = .ok (.iadd, 1) := by decide +kernel
theorem d_Mod_rest_71 : decode b_Mod_rest 71 = .ok (.iconst 1, 1) := by decide +kernel
theorem d_Mod_rest_72 : decode b_Mod_rest 72 = .ok (.bastore, 1) := by decide +kernel
theorem d_Mod_rest_73 : decode b_Mod_rest 73 = .ok (.aload_n 0, 1) := by decide +kernel
theorem d_Mod_rest_74 : decode b_Mod_rest 74 = .ok (.getfield 19, 3) := by decide +kernel
theorem d_Mod_rest_77 : decode b_Mod_rest 77 = .ok (.iload_n 1, 1) := by decide +kernel
theorem d_Mod_rest_78 : decode b_Mod_rest 78 = .ok (.iaload, 1) := by decide +kernel
theorem d_Mod_rest_79 : decode b_Mod_rest 79 = .ok (.ifCond .eq 31, 3) := by decide +kernel
theorem d_Mod_rest_82 : decode b_Mod_rest 82 = .ok (.aload_n 0, 1) := by decide +kernel
theorem d_Mod_rest_83 : decode b_Mod_rest 83 = .ok (.getfield 19, 3) := by decide +kernel
theorem d_Mod_rest_86 : decode b_Mod_rest 86 = .ok (.iload_n 1, 1) := by decide +kernel
theorem d_Mod_rest_87 : decode b_Mod_rest 87 = .ok (.iaload, 1) := by decide +kernel
theorem d_Mod_rest_88 : decode b_Mod_rest 88 = .ok (.bipush 9, 2) := by decide +kernel
theorem d_Mod_rest_90 : decode b_Mod_rest 90 = .ok (.if_icmp .eq 20, 3) := by decide +kernel
theorem d_Mod_rest_93 : decode b_Mod_rest 93 = .ok (.aload_n 0, 1) := by decide +kernel
theorem d_Mod_rest_94 : decode b_Mod_rest 94 = .ok (.getfield 50, 3) := by decide +kernel
theorem d_Mod_rest_97 : decode b_Mod_rest 97 = .ok (.bipush 14, 2) := by decide +kernel
theorem d_Mod_rest_99 : decode b_Mod_rest 99 = .ok (.iload_n 1, 1) := by decide +kernel
theorem d_Mod_rest_100 : decode b_Mod_rest 100 = .ok (.imul, 1) := by decide +kernel
theorem d_Mod_rest_101 : decode b_Mod_rest 101 = .ok (.aload_n 0, 1) := by decide +kernel
theorem d_Mod_rest_102 : decode b_Mod_rest 102 = .ok (.getfield 25, 3) := by decide +kernel
theorem d_Mod_rest_105 : decode b_Mod_rest 105 = .ok (.iload_n 1, 1) := by decide +kernel
theorem d_Mod_rest_106 : decode b_Mod_rest 106 = .ok (.iaload, 1) := by decide +kernel
theorem d_Mod_rest_107 : decode b_Mod_rest 107 = .ok (.iadd, 1) := by decide +kernel
theorem d_Mod_rest_108 : decode b_Mod_rest 108 = .ok (.iconst 1, 1) := by decide +kernel
theorem d_Mod_rest_109 : decode b_Mod_rest 109 = .ok (.bastore, 1) := by decide +kernel
theorem d_Mod_rest_110 : decode b_Mod_rest 110 = .ok (.aload_n 0, 1) := by decide +kernel
theorem d_Mod_rest_111 : decode b_Mod_rest 111 = .ok (.getfield 19, 3) := by decide +kernel
theorem d_Mod_rest_114 : decode b_Mod_rest 114 = .ok (.iload_n 1, 1) := by decide +kernel
theorem d_Mod_rest_115 : decode b_Mod_rest 115 = .ok (.iaload, 1) := by decide +kernel
theorem d_Mod_rest_116 : decode b_Mod_rest 116 = .ok (.bipush 10, 2) := by decide +kernel
theorem d_Mod_rest_118 : decode b_Mod_rest 118 = .ok (.if_icmp .ne 20, 3) := by decide +kernel
theorem d_Mod_rest_121 : decode b_Mod_rest 121 = .ok (.aload_n 0, 1) := by decide +kernel
theorem d_Mod_rest_122 : decode b_Mod_rest 122 = .ok (.getfield 50, 3) := by decide +kernel
theorem d_Mod_rest_125 : decode b_Mod_rest 125 = .ok (.bipush 14, 2) := by decide +kernel
theorem d_Mod_rest_127 : decode b_Mod_rest 127 = .ok (.iload_n 1, 1) := by decide +kernel
theorem d_Mod_rest_128 : decode b_Mod_rest 128 = .ok (.imul, 1) := by decide +kernel
theorem d_Mod_rest_129 : decode b_Mod_rest 129 = .ok (.aload_n 0, 1) := by decide +kernel
theorem d_Mod_rest_130 : decode b_Mod_rest 130 = .ok (.getfield 28, 3) := by decide +kernel
theorem d_Mod_rest_133 : decode b_Mod_rest 133 = .ok (.iload_n 1, 1) := by decide +kernel
theorem d_Mod_rest_134 : decode b_Mod_rest 134 = .ok (.iaload, 1) := by decide +kernel
theorem d_Mod_rest_135 : decode b_Mod_rest 135 = .ok (.iadd, 1) := by decide +kernel
theorem d_Mod_rest_136 : decode b_Mod_rest 136 = .ok (.iconst 1, 1) := by decide +kernel
theorem d_Mod_rest_137 : decode b_Mod_rest 137 = .ok (.bastore, 1) := by decide +kernel
theorem d_Mod_rest_138 : decode b_Mod_rest 138 = .ok (.iinc 1 1, 3) := by decide +kernel
theorem d_Mod_rest_141 : decode b_Mod_rest 141 = .ok (.goto (-117), 3) := by decide +kernel
theorem d_Mod_rest_144 : decode b_Mod_rest 144 = .ok (.iconst 0, 1) := by decide +kernel
theorem d_Mod_rest_145 : decode b_Mod_rest 145 = .ok (.istore_n 1, 1) := by decide +kernel
theorem d_Mod_rest_146 : decode b_Mod_rest 146 = .ok (.iload_n 1, 1) := by decide +kernel
theorem d_Mod_rest_147 : decode b_Mod_rest 147 = .ok (.aload_n 0, 1) := by decide +kernel
theorem d_Mod_rest_148 : decode b_Mod_rest 148 = .ok (.getfield 104, 3) := by decide +kernel
theorem d_Mod_rest_151 : decode b_Mod_rest 151 = .ok (.if_icmp .ge 127, 3) := by decide +kernel
theorem d_Mod_rest_154 : decode b_Mod_rest 154 = .ok (.aload_n 0, 1) := by decide +kernel
theorem d_Mod_rest_155 : decode b_Mod_rest 155 = .ok (.getfield 34, 3) := by decide +kernel
theorem d_Mod_rest_158 : decode b_Mod_rest 158 = .ok (.iload_n 1, 1) := by decide +kernel
theorem d_Mod_rest_159 : decode b_Mod_rest 159 = .ok (.iaload, 1) := by decide +kernel
theorem d_Mod_rest_160 : decode b_Mod_rest 160 = .ok (.ifCond .ne 112, 3) := by decide +kernel
theorem d_Mod_rest_163 : decode b_Mod_rest 163 = .ok (.aload_n 0, 1) := by decide +kernel
theorem d_Mod_rest_164 : decode b_Mod_rest 164 = .ok (.getfield 7, 3) := by decide +kernel
theorem d_Mod_rest_167 : decode b_Mod_rest 167 = .ok (.aload_n 0, 1) := by decide +kernel
theorem d_Mod_rest_168 : decode b_Mod_rest 168 = .ok (.getfield 37, 3) := by decide +kernel
theorem d_Mod_rest_171 : decode b_Mod_rest 171 = .ok (.iload_n 1, 1) := by decide +kernel
theorem d_Mod_rest_172 : decode b_Mod_rest 172 = .ok (.iaload, 1) := by decide +kernel
theorem d_Mod_rest_173 : decode b_Mod_rest 173 = .ok (.iaload, 1) := by decide +kernel
theorem d_Mod_rest_174 : decode b_Mod_rest 174 = .ok (.iconst 1, 1) := by decide +kernel
theorem d_Mod_rest_175 : decode b_Mod_rest 175 = .ok (.if_icmp .eq 6, 3) := by decide +kernel
theorem d_Mod_rest_178 : decode b_Mod_rest 178 = .ok (.goto 94, 3) := by decide +kernel
theorem d_Mod_rest_181 : decode b_Mod_rest 181 = .ok (.aload_n 0, 1) := by decide +kernel
theorem d_Mod_rest_182 : decode b_Mod_rest 182 = .ok (.getfield 50, 3) := by decide +kernel
theorem d_Mod_rest_185 : decode b_Mod_rest 185 = .ok (.bipush 14, 2) := by decide +kernel
theorem d_Mod_rest_187 : decode b_Mod_rest 187 = .ok (.aload_n 0, 1) := by decide +kernel
theorem d_Mod_rest_188 : decode b_Mod_rest 188 = .ok (.getfield 37, 3) := by decide +kernel
theorem d_Mod_rest_191 : decode b_Mod_rest 191 = .ok (.iload_n 1, 1) := by decide +kernel
theorem d_Mod_rest_192 : decode b_Mod_rest 192 = .ok (.iaload, 1) := by decide +kernel
theorem d_Mod_rest_193 : decode b_Mod_rest 193 = .ok (.imul, 1) := by decide +kernel
theorem d_Mod_rest_194 : decode b_Mod_rest 194 = .ok (.aload_n 0, 1) := by decide +kernel
theorem d_Mod_rest_195 : decode b_Mod_rest 195 = .ok (.getfield 40, 3) := by decide +kernel
theorem d_Mod_rest_198 : decode b_Mod_rest 198 = .ok (.iload_n 1, 1) := by decide +kernel
theorem d_Mod_rest_199 : decode b_Mod_rest 199 = .ok (.iaload, 1) := by decide +kernel
theorem d_Mod_rest_200 : decode b_Mod_rest 200 = .ok (.iadd, 1) := by decide +kernel
theorem d_Mod_rest_201 : decode b_Mod_rest 201 = .ok (.iconst 1, 1) := by decide +kernel
theorem d_Mod_rest_202 : decode b_Mod_rest 202 = .ok (.bastore, 1) := by decide +kernel
theorem d_Mod_rest_203 : decode b_Mod_rest 203 = .ok (.aload_n 0, 1) := by decide +kernel
theorem d_Mod_rest_204 : decode b_Mod_rest 204 = .ok (.iload_n 1, 1) := by decide +kernel
theorem d_Mod_rest_205 : decode b_Mod_rest 205 = .ok (.invokevirtual 107, 3) := by decide +kernel
theorem d_Mod_rest_208 : decode b_Mod_rest 208 = .ok (.istore_n 2, 1) := by decide +kernel
theorem d_Mod_rest_209 : decode b_Mod_rest 209 = .ok (.iload_n 1, 1) := by decide +kernel
theorem d_Mod_rest_210 : decode b_Mod_rest 210 = .ok (.iconst 1, 1) := by decide +kernel
theorem d_Mod_rest_211 : decode b_Mod_rest 211 = .ok (.isub, 1) := by decide +kernel
theorem d_Mod_rest_212 : decode b_Mod_rest 212 = .ok (.istore_n 3, 1) := by decide +kernel
theorem d_Mod_rest_213 : decode b_Mod_rest 213 = .ok (.iload_n 3, 1) := by decide +kernel
theorem d_Mod_rest_214 : decode b_Mod_rest 214 = .ok (.ifCond .lt 58, 3) := by decide +kernel
theorem d_Mod_rest_217 : decode b_Mod_rest 217 = .ok (.aload_n 0, 1) := by decide +kernel
theorem d_Mod_rest_218 : decode b_Mod_rest 218 = .ok (.getfield 34, 3) := by decide +kernel
theorem d_Mod_rest_221 : decode b_Mod_rest 221 = .ok (.iload_n 3, 1) := by decide +kernel
theorem d_Mod_rest_222 : decode b_Mod_rest 222 = .ok (.iaload, 1) := by decide +kernel
theorem d_Mod_rest_223 : decode b_Mod_rest 223 = .ok (.iconst 1, 1) := by decide +kernel
theorem d_Mod_rest_224 : decode b_Mod_rest 224 = .ok (.if_icmp .ne 42, 3) := by decide +kernel
theorem d_Mod_rest_227 : decode b_Mod_rest 227 = .ok (.aload_n 0, 1) := by decide +kernel
theorem d_Mod_rest_228 : decode b_Mod_rest 228 = .ok (.iload_n 3, 1) := by decide +kernel
theorem d_Mod_rest_229 : decode b_Mod_rest 229 = .ok (.invokevirtual 107, 3) := by decide +kernel
theorem d_Mod_rest_232 : decode b_Mod_rest 232 = .ok (.iload_n 2, 1) := by decide +kernel
theorem d_Mod_rest_233 : decode b_Mod_rest 233 = .ok (.iconst 1, 1) := by decide +kernel
theorem d_Mod_rest_234 : decode b_Mod_rest 234 = .ok (.isub, 1) := by decide +kernel
theorem d_Mod_rest_235 : decode b_Mod_rest 235 = .ok (.if_icmp .eq 6, 3) := by decide +kernel
theorem d_Mod_rest_238 : decode b_Mod_rest 238 = .ok (.goto 28, 3) := by decide +kernel
theorem d_Mod_rest_241 : decode b_Mod_rest 241 = .ok (.aload_n 0, 1) := by decide +kernel
theorem d_Mod_rest_242 : decode b_Mod_rest 242 = .ok (.getfield 50, 3) := by decide +kernel
theorem d_Mod_rest_245 : decode b_Mod_rest 245 = .ok (.bipush 14, 2) := by decide +kernel
theorem d_Mod_rest_247 : decode b_Mod_rest 247 = .ok (.aload_n 0, 1) := by decide +kernel
theorem d_Mod_rest_248 : decode b_Mod_rest 248 = .ok (.getfield 37, 3) := by decide +kernel
theorem d_Mod_rest_251 : decode b_Mod_rest 251 = .ok (.iload_n 1, 1) := by decide +kernel
theorem d_Mod_rest_252 : decode b_Mod_rest 252 = .ok (.iaload, 1) := by decide +kernel
theorem d_Mod_rest_253 : decode b_Mod_rest 253 = .ok (.imul, 1) := by decide +kernel
theorem d_Mod_rest_254 : decode b_Mod_rest 254 = .ok (.aload_n 0, 1) := by decide +kernel
theorem d_Mod_rest_255 : decode b_Mod_rest 255 = .ok (.getfield 37, 3) := by decide +kernel
theorem d_Mod_rest_258 : decode b_Mod_rest 258 = .ok (.iload_n 3, 1) := by decide +kernel
theorem d_Mod_rest_259 : decode b_Mod_rest 259 = .ok (.iaload, 1) := by decide +kernel
theorem d_Mod_rest_260 : decode b_Mod_rest 260 = .ok (.iadd, 1) := by decide +kernel
theorem d_Mod_rest_261 : decode b_Mod_rest 261 = .ok (.iconst 1, 1) := by decide +kernel
theorem d_Mod_rest_262 : decode b_Mod_rest 262 = .ok (.bastore, 1) := by decide +kernel
theorem d_Mod_rest_263 : decode b_Mod_rest 263 = .ok (.iinc 2 (-1), 3) := by decide +kernel
theorem d_Mod_rest_266 : decode b_Mod_rest 266 = .ok (.iinc 3 (-1), 3) := by decide +kernel
theorem d_Mod_rest_269 : decode b_Mod_rest 269 = .ok (.goto (-56), 3) := by decide +kernel
theorem d_Mod_rest_272 : decode b_Mod_rest 272 = .ok (.iinc 1 1, 3) := by decide +kernel
theorem d_Mod_rest_275 : decode b_Mod_rest 275 = .ok (.goto (-129), 3) := by decide +kernel
theorem d_Mod_rest_278 : decode b_Mod_rest 278 = .ok (.return_, 1) := by decide +kernel
set_option maxHeartbeats 4000000 in
set_option maxRecDepth 100000 in
theorem c_Mod_rest (l : Launch) (dC : Nat → ClassId) (dI : Nat → Nat → Nat) (cI cZ : ClassId) (a_mod a_mkind a_mwidth a_mreset a_mop a_mka a_mkb a_mkc a_mheld a_msort a_mof a_mfrom a_mbit a_mdone a_mrests a_mxx a_myy a_mdepth a_mone a_mbefore a_mfirst a_mturned : Nat) (tt sz : Nat) (mN : Nat) (mMs : Nat) (mG : Nat) (mCk : Nat) (mFw : Int32) (mRd : Nat) (mKd : Nat → Nat) (mOp : Nat → Int32) (mAa : Nat → Int32) (mAb : Nat → Int32) (mAc : Nat → Int32) (mSo : Nat → Nat) (mOf : Nat → Int32) (mFr : Nat → Int32) (mRe : Nat → Nat) (Op : Nat → Nat) (Aa : Nat → Int32) (Ab : Nat → Int32) (Ac : Nat → Int32) (Su : Nat → Nat) (Sr : Nat → Nat) (b_mN : mN ≤ 14) (b_mMs : mMs ≤ 20) (b_mG : mG ≤ 1280) (b_mRd : mRd ≤ 1) (b_mKd : ∀ j, mKd j < 4) (b_mSo : ∀ j, mSo j < 4) (b_mRe : ∀ j, mRe j < 2) (hLG : LG mSo mMs) (hMS : ∀ z, z < mN → mKd z = 3 → mOp z = nI (Op z) ∧ Op z ≤ 11 ∧ mAa z = Aa z ∧ mAb z = Ab z ∧ mAc z = Ac z) (ha1 : ∀ z, z < mN → mKd z = 3 → (1 ≤ tab (Op z) → ∃ X, X < 14 ∧ Aa z = nI X) ∧ (2 ≤ tab (Op z) → ∃ X, X < 14 ∧ Ab z = nI X) ∧ (3 ≤ tab (Op z) → ∃ X, X < 14 ∧ Ac z = nI X)) (hOf : ∀ k, k < mMs → (mSo k = 0 ∨ mSo k = 1) → mOf k = nI (Su k) ∧ Su k < mN) (hFr : ∀ k, k < mMs → mSo k = 0 → mFr k = nI (Sr k) ∧ Sr k < mN) : Met l y_Mod_rest w_Mod_rest ({ frames := 1, cells := 0, slots := 0, locals := 23 }) (va_Pc [.ref a_mod] (PW (dC, dI) classes [(cI, .int), (cZ, .boolean)] tt [(a_mod, .inr (6, [.ref a_mkind, .ref a_mwidth, .ref a_mreset, .ref a_mop, .ref a_mka, .ref a_mkb, .ref a_mkc, .ref a_mheld, .int (nI mN), .ref a_msort, .ref a_mof, .ref a_mfrom, .int (nI mMs), .ref a_mbit, .ref a_mdone, .ref a_mrests, .ref a_mxx, .ref a_myy, .ref a_mdepth, .ref a_mone, .int (nI mG), .int (nI mCk), .int mFw, .int (nI mRd), .ref a_mbefore, .ref a_mfirst, .ref a_mturned])), (a_mkind, .inl (cI, 14, .inl (nF mKd))), (a_mop, .inl (cI, 14, .inl mOp)), (a_mka, .inl (cI, 14, .inl mAa)), (a_mkb, .inl (cI, 14, .inl mAb)), (a_mkc, .inl (cI, 14, .inl mAc)), (a_msort, .inl (cI, 20, .inl (nF mSo))), (a_mof, .inl (cI, 20, .inl mOf)), (a_mfrom, .inl (cI, 20, .inl mFr)), (a_mrests, .inl (cZ, 196, .inl (nF mRe)))] sz)) (va_Qv (fun (u : (Nat → Nat)) => (∀ j, u j < 2) ∧ (TB u (fun z t => z < mN ∧ bt (raM (raB mKd Op Aa Ab Ac) mKd mSo Su Sr mMs z) t = 1))) (AT (dC, dI) classes [(cI, .int), (cZ, .boolean)] (va_A [(a_mod, .inr (6, [.ref a_mkind, .ref a_mwidth, .ref a_mreset, .ref a_mop, .ref a_mka, .ref a_mkb, .ref a_mkc, .ref a_mheld, .int (nI mN), .ref a_msort, .ref a_mof, .ref a_mfrom, .int (nI mMs), .ref a_mbit, .ref a_mdone, .ref a_mrests, .ref a_mxx, .ref a_myy, .ref a_mdepth, .ref a_mone, .int (nI mG), .int (nI mCk), .int mFw, .int (nI mRd), .ref a_mbefore, .ref a_mfirst, .ref a_mturned])), (a_mkind, .inl (cI, 14, .inl (nF mKd))), (a_mop, .inl (cI, 14, .inl mOp)), (a_mka, .inl (cI, 14, .inl mAa)), (a_mkb, .inl (cI, 14, .inl mAb)), (a_mkc, .inl (cI, 14, .inl mAc)), (a_msort, .inl (cI, 20, .inl (nF mSo))), (a_mof, .inl (cI, 20, .inl mOf)), (a_mfrom, .inl (cI, 20, .inl mFr)), (a_mrests, .inl (cZ, 196, .inl (nF mRe)))] sz) (fun (u : (Nat → Nat)) => [(a_mod, .inr (6, [.ref a_mkind, .ref a_mwidth, .ref a_mreset, .ref a_mop, .ref a_mka, .ref a_mkb, .ref a_mkc, .ref a_mheld, .int (nI mN), .ref a_msort, .ref a_mof, .ref a_mfrom, .int (nI mMs), .ref a_mbit, .ref a_mdone, .ref a_mrests, .ref a_mxx, .ref a_myy, .ref a_mdepth, .ref a_mone, .int (nI mG), .int (nI mCk), .int mFw, .int (nI mRd), .ref a_mbefore, .ref a_mfirst, .ref a_mturned])), (a_mkind, .inl (cI, 14, .inl (nF mKd))), (a_mop, .inl (cI, 14, .inl mOp)), (a_mka, .inl (cI, 14, .inl mAa)), (a_mkb, .inl (cI, 14, .inl mAb)), (a_mkc, .inl (cI, 14, .inl mAc)), (a_msort, .inl (cI, 20, .inl (nF mSo))), (a_mof, .inl (cI, 20, .inl mOf)), (a_mfrom, .inl (cI, 20, .inl mFr)), (a_mrests, .inl (cZ, 196, .inl (nF u)))])) (va_A [(a_mod, .inr (6, [.ref a_mkind, .ref a_mwidth, .ref a_mreset, .ref a_mop, .ref a_mka, .ref a_mkb, .ref a_mkc, .ref a_mheld, .int (nI mN), .ref a_msort, .ref a_mof, .ref a_mfrom, .int (nI mMs), .ref a_mbit, .ref a_mdone, .ref a_mrests, .ref a_mxx, .ref a_myy, .ref a_mdepth, .ref a_mone, .int (nI mG), .int (nI mCk), .int mFw, .int (nI mRd), .ref a_mbefore, .ref a_mfirst, .ref a_mturned])), (a_mkind, .inl (cI, 14, .inl (nF mKd))), (a_mop, .inl (cI, 14, .inl mOp)), (a_mka, .inl (cI, 14, .inl mAa)), (a_mkb, .inl (cI, 14, .inl mAb)), (a_mkc, .inl (cI, 14, .inl mAc)), (a_msort, .inl (cI, 20, .inl (nF mSo))), (a_mof, .inl (cI, 20, .inl mOf)), (a_mfrom, .inl (cI, 20, .inl mFr)), (a_mrests, .inl (cZ, 196, .inl (nF mRe)))] sz)) 0 0 (va_A [(a_mod, .inr (6, [.ref a_mkind, .ref a_mwidth, .ref a_mreset, .ref a_mop, .ref a_mka, .ref a_mkb, .ref a_mkc, .ref a_mheld, .int (nI mN), .ref a_msort, .ref a_mof, .ref a_mfrom, .int (nI mMs), .ref a_mbit, .ref a_mdone, .ref a_mrests, .ref a_mxx, .ref a_myy, .ref a_mdepth, .ref a_mone, .int (nI mG), .int (nI mCk), .int mFw, .int (nI mRd), .ref a_mbefore, .ref a_mfirst, .ref a_mturned])), (a_mkind, .inl (cI, 14, .inl (nF mKd))), (a_mop, .inl (cI, 14, .inl mOp)), (a_mka, .inl (cI, 14, .inl mAa)), (a_mkb, .inl (cI, 14, .inl mAb)), (a_mkc, .inl (cI, 14, .inl mAc)), (a_msort, .inl (cI, 20, .inl (nF mSo))), (a_mof, .inl (cI, 20, .inl mOf)), (a_mfrom, .inl (cI, 20, .inl mFr)), (a_mrests, .inl (cZ, 196, .inl (nF mRe)))] sz) := by
  refine Met.ofW (cc := b_Mod_rest) (maxL := 4) (ret := none) (by decide) rfl ?_
  intro p e s m args below meth c s₁ B hml hv
  obtain ⟨rfl, hsz, hP, hK, hD0, hE⟩ := hv
  have hx := B.exec
  have hb := B.bytes
  have hr := B.returns
  have hts := atoms_spec (ws := w_Mod_rest) B.pre
  have hown : s.vm.findClass R_Mod = some m.cls := findClass_of_methodNamed B.named
  have hlocks := B.notSynchronized
  subst hsz
  have hD := hD0.self (sz := s.heap.size)
  generalize hAe : va_A [(a_mod, .inr (6, [.ref a_mkind, .ref a_mwidth, .ref a_mreset, .ref a_mop, .ref a_mka, .ref a_mkb, .ref a_mkc, .ref a_mheld, .int (nI mN), .ref a_msort, .ref a_mof, .ref a_mfrom, .int (nI mMs), .ref a_mbit, .ref a_mdone, .ref a_mrests, .ref a_mxx, .ref a_myy, .ref a_mdepth, .ref a_mone, .int (nI mG), .int (nI mCk), .int mFw, .int (nI mRd), .ref a_mbefore, .ref a_mfirst, .ref a_mturned])), (a_mkind, .inl (cI, 14, .inl (nF mKd))), (a_mop, .inl (cI, 14, .inl mOp)), (a_mka, .inl (cI, 14, .inl mAa)), (a_mkb, .inl (cI, 14, .inl mAb)), (a_mkc, .inl (cI, 14, .inl mAc)), (a_msort, .inl (cI, 20, .inl (nF mSo))), (a_mof, .inl (cI, 20, .inl mOf)), (a_mfrom, .inl (cI, 20, .inl mFr)), (a_mrests, .inl (cZ, 196, .inl (nF mRe)))] s.heap.size = A at hD hE ⊢
  have hA : ∀ q : Nat, s.heap.size ≤ q → A q := fun q h => by rw [← hAe]; exact Or.inr h
  have hS : va_S A s.heap s.heap [] := va_S.rf
  have hP : va_P (dC, dI) classes [(a_mod, .inr (6, [.ref a_mkind, .ref a_mwidth, .ref a_mreset, .ref a_mop, .ref a_mka, .ref a_mkb, .ref a_mkc, .ref a_mheld, .int (nI mN), .ref a_msort, .ref a_mof, .ref a_mfrom, .int (nI mMs), .ref a_mbit, .ref a_mdone, .ref a_mrests, .ref a_mxx, .ref a_myy, .ref a_mdepth, .ref a_mone, .int (nI mG), .int (nI mCk), .int mFw, .int (nI mRd), .ref a_mbefore, .ref a_mfirst, .ref a_mturned])), (a_mkind, .inl (cI, 14, .inl (nF mKd))), (a_mop, .inl (cI, 14, .inl mOp)), (a_mka, .inl (cI, 14, .inl mAa)), (a_mkb, .inl (cI, 14, .inl mAb)), (a_mkc, .inl (cI, 14, .inl mAc)), (a_msort, .inl (cI, 20, .inl (nF mSo))), (a_mof, .inl (cI, 20, .inl mOf)), (a_mfrom, .inl (cI, 20, .inl mFr)), (a_mrests, .inl (cZ, 196, .inl (nF mRe)))] s.heap := hP
  have hl := lv_entry ([.ref a_mod]) (n := 4) (Nat.le_of_ble_eq_true rfl)
  rw [lg_entry_eq]
  generalize (lg_sl ([.ref a_mod]) ++ List.replicate (4 - (lg_sl ([.ref a_mod])).length) Slot.unset).toArray = ls at hl ⊢
  have hl : lv_has ls 4 [(0, .ref a_mod)] := hl
  refine lv_iconst (v := nI 0) hx hb d_Mod_rest_0 rfl ?_
  refine lv_istore_n (lv' := [(1, .int (nI 0)), (0, .ref a_mod)]) hx hb d_Mod_rest_1 rfl hl (by decide) rfl (fun ls hl => ?_)
  have hI_1 : (∀ j, mRe j < 2) ∧ (∀ j, j < 0 → mRe j = 0) ∧ (0 ≤ 196) := ⟨b_mRe, (fun j h => absurd h (by omega)), (by omega)⟩
  refine k_loop (σ := Nat × (Nat → Nat)) (D := (dC, dI)) (cl := classes) (A := A) (H0 := s.heap) (fun x => [(a_mod, .inr (6, [.ref a_mkind, .ref a_mwidth, .ref a_mreset, .ref a_mop, .ref a_mka, .ref a_mkb, .ref a_mkc, .ref a_mheld, .int (nI mN), .ref a_msort, .ref a_mof, .ref a_mfrom, .int (nI mMs), .ref a_mbit, .ref a_mdone, .ref a_mrests, .ref a_mxx, .ref a_myy, .ref a_mdepth, .ref a_mone, .int (nI mG), .int (nI mCk), .int mFw, .int (nI mRd), .ref a_mbefore, .ref a_mfirst, .ref a_mturned])), (a_mkind, .inl (cI, 14, .inl (nF mKd))), (a_mop, .inl (cI, 14, .inl mOp)), (a_mka, .inl (cI, 14, .inl mAa)), (a_mkb, .inl (cI, 14, .inl mAb)), (a_mkc, .inl (cI, 14, .inl mAc)), (a_msort, .inl (cI, 20, .inl (nF mSo))), (a_mof, .inl (cI, 20, .inl mOf)), (a_mfrom, .inl (cI, 20, .inl mFr)), (a_mrests, .inl (cZ, 196, .inl (nF x.2)))]) (fun x => [(1, .int (nI x.1)), (0, .ref a_mod)]) (fun x => (∀ j, x.2 j < 2) ∧ (∀ j, j < x.1 → x.2 j = 0) ∧ (x.1 ≤ 196)) (fun x => 196 - x.1) ?_ (0, mRe) hI_1 hP hD hS (lv_sub hl [0, 1] rfl)
  rintro ⟨i, R1⟩ hI ih_2 H locs ls hP hD hS hl
  obtain ⟨b_R1, hi, hi2⟩ : (∀ j, R1 j < 2) ∧ (∀ j, j < i → R1 j = 0) ∧ (i ≤ 196) := hI
  have hP : va_P (dC, dI) classes [(a_mod, .inr (6, [.ref a_mkind, .ref a_mwidth, .ref a_mreset, .ref a_mop, .ref a_mka, .ref a_mkb, .ref a_mkc, .ref a_mheld, .int (nI mN), .ref a_msort, .ref a_mof, .ref a_mfrom, .int (nI mMs), .ref a_mbit, .ref a_mdone, .ref a_mrests, .ref a_mxx, .ref a_myy, .ref a_mdepth, .ref a_mone, .int (nI mG), .int (nI mCk), .int mFw, .int (nI mRd), .ref a_mbefore, .ref a_mfirst, .ref a_mturned])), (a_mkind, .inl (cI, 14, .inl (nF mKd))), (a_mop, .inl (cI, 14, .inl mOp)), (a_mka, .inl (cI, 14, .inl mAa)), (a_mkb, .inl (cI, 14, .inl mAb)), (a_mkc, .inl (cI, 14, .inl mAc)), (a_msort, .inl (cI, 20, .inl (nF mSo))), (a_mof, .inl (cI, 20, .inl mOf)), (a_mfrom, .inl (cI, 20, .inl mFr)), (a_mrests, .inl (cZ, 196, .inl (nF R1)))] H := hP
  have hD : va_D A [(a_mod, .inr (6, [.ref a_mkind, .ref a_mwidth, .ref a_mreset, .ref a_mop, .ref a_mka, .ref a_mkb, .ref a_mkc, .ref a_mheld, .int (nI mN), .ref a_msort, .ref a_mof, .ref a_mfrom, .int (nI mMs), .ref a_mbit, .ref a_mdone, .ref a_mrests, .ref a_mxx, .ref a_myy, .ref a_mdepth, .ref a_mone, .int (nI mG), .int (nI mCk), .int mFw, .int (nI mRd), .ref a_mbefore, .ref a_mfirst, .ref a_mturned])), (a_mkind, .inl (cI, 14, .inl (nF mKd))), (a_mop, .inl (cI, 14, .inl mOp)), (a_mka, .inl (cI, 14, .inl mAa)), (a_mkb, .inl (cI, 14, .inl mAb)), (a_mkc, .inl (cI, 14, .inl mAc)), (a_msort, .inl (cI, 20, .inl (nF mSo))), (a_mof, .inl (cI, 20, .inl mOf)), (a_mfrom, .inl (cI, 20, .inl mFr)), (a_mrests, .inl (cZ, 196, .inl (nF R1)))] := hD
  have hl : lv_has ls 4 [(1, .int (nI i)), (0, .ref a_mod)] := hl
  refine lv_iload_n hx hb d_Mod_rest_2 rfl (lv_at hl 0 rfl) ?_
  refine lv_sipush (v := nI 196) hx hb d_Mod_rest_3 rfl ?_
  refine lv_icmp_ge (tgt := 22) hx hb d_Mod_rest_6 (by decide) (fun c6 => ?_) (fun c6 => ?_)
  · skip
    have c6 : 196 ≤ i := (nI_leI (by omega) (by omega)).mp c6
    refine lv_iconst (v := nI 0) hx hb d_Mod_rest_22 rfl ?_
    refine lv_istore_n (lv' := [(1, .int (nI 0)), (0, .ref a_mod)]) hx hb d_Mod_rest_23 rfl hl (by decide) rfl (fun ls hl => ?_)
    have hI_3 : (∀ j, R1 j < 2) ∧ (TB R1 (fun z t => z < 0 ∧ bt (raB mKd Op Aa Ab Ac z) t = 1)) ∧ (0 ≤ mN) := ⟨b_R1, (fun z t hz ht => ⟨fun h => by rw [hi (14 * z + t) (by omega)] at h; omega, fun h => absurd h.1 (by omega)⟩), (by omega)⟩
    refine k_loop (σ := Nat × (Nat → Nat)) (D := (dC, dI)) (cl := classes) (A := A) (H0 := s.heap) (fun x => [(a_mod, .inr (6, [.ref a_mkind, .ref a_mwidth, .ref a_mreset, .ref a_mop, .ref a_mka, .ref a_mkb, .ref a_mkc, .ref a_mheld, .int (nI mN), .ref a_msort, .ref a_mof, .ref a_mfrom, .int (nI mMs), .ref a_mbit, .ref a_mdone, .ref a_mrests, .ref a_mxx, .ref a_myy, .ref a_mdepth, .ref a_mone, .int (nI mG), .int (nI mCk), .int mFw, .int (nI mRd), .ref a_mbefore, .ref a_mfirst, .ref a_mturned])), (a_mkind, .inl (cI, 14, .inl (nF mKd))), (a_mop, .inl (cI, 14, .inl mOp)), (a_mka, .inl (cI, 14, .inl mAa)), (a_mkb, .inl (cI, 14, .inl mAb)), (a_mkc, .inl (cI, 14, .inl mAc)), (a_msort, .inl (cI, 20, .inl (nF mSo))), (a_mof, .inl (cI, 20, .inl mOf)), (a_mfrom, .inl (cI, 20, .inl mFr)), (a_mrests, .inl (cZ, 196, .inl (nF x.2)))]) (fun x => [(1, .int (nI x.1)), (0, .ref a_mod)]) (fun x => (∀ j, x.2 j < 2) ∧ (TB x.2 (fun z t => z < x.1 ∧ bt (raB mKd Op Aa Ab Ac z) t = 1)) ∧ (x.1 ≤ mN)) (fun x => mN - x.1) ?_ (0, R1) hI_3 hP hD hS (lv_sub hl [0, 1] rfl)
    rintro ⟨z1, R2⟩ hI ih_4 H locs ls hP hD hS hl
    obtain ⟨b_R2, hR2, hz⟩ : (∀ j, R2 j < 2) ∧ (TB R2 (fun z t => z < z1 ∧ bt (raB mKd Op Aa Ab Ac z) t = 1)) ∧ (z1 ≤ mN) := hI
    have hP : va_P (dC, dI) classes [(a_mod, .inr (6, [.ref a_mkind, .ref a_mwidth, .ref a_mreset, .ref a_mop, .ref a_mka, .ref a_mkb, .ref a_mkc, .ref a_mheld, .int (nI mN), .ref a_msort, .ref a_mof, .ref a_mfrom, .int (nI mMs), .ref a_mbit, .ref a_mdone, .ref a_mrests, .ref a_mxx, .ref a_myy, .ref a_mdepth, .ref a_mone, .int (nI mG), .int (nI mCk), .int mFw, .int (nI mRd), .ref a_mbefore, .ref a_mfirst, .ref a_mturned])), (a_mkind, .inl (cI, 14, .inl (nF mKd))), (a_mop, .inl (cI, 14, .inl mOp)), (a_mka, .inl (cI, 14, .inl mAa)), (a_mkb, .inl (cI, 14, .inl mAb)), (a_mkc, .inl (cI, 14, .inl mAc)), (a_msort, .inl (cI, 20, .inl (nF mSo))), (a_mof, .inl (cI, 20, .inl mOf)), (a_mfrom, .inl (cI, 20, .inl mFr)), (a_mrests, .inl (cZ, 196, .inl (nF R2)))] H := hP
    have hD : va_D A [(a_mod, .inr (6, [.ref a_mkind, .ref a_mwidth, .ref a_mreset, .ref a_mop, .ref a_mka, .ref a_mkb, .ref a_mkc, .ref a_mheld, .int (nI mN), .ref a_msort, .ref a_mof, .ref a_mfrom, .int (nI mMs), .ref a_mbit, .ref a_mdone, .ref a_mrests, .ref a_mxx, .ref a_myy, .ref a_mdepth, .ref a_mone, .int (nI mG), .int (nI mCk), .int mFw, .int (nI mRd), .ref a_mbefore, .ref a_mfirst, .ref a_mturned])), (a_mkind, .inl (cI, 14, .inl (nF mKd))), (a_mop, .inl (cI, 14, .inl mOp)), (a_mka, .inl (cI, 14, .inl mAa)), (a_mkb, .inl (cI, 14, .inl mAb)), (a_mkc, .inl (cI, 14, .inl mAc)), (a_msort, .inl (cI, 20, .inl (nF mSo))), (a_mof, .inl (cI, 20, .inl mOf)), (a_mfrom, .inl (cI, 20, .inl mFr)), (a_mrests, .inl (cZ, 196, .inl (nF R2)))] := hD
    have hl : lv_has ls 4 [(1, .int (nI z1)), (0, .ref a_mod)] := hl
    refine lv_iload_n hx hb d_Mod_rest_24 rfl (lv_at hl 0 rfl) ?_
    refine lv_aload_n hx hb d_Mod_rest_25 rfl (lv_at hl 1 rfl) ?_
    refine va_get (D := (dC, dI)) (ci := 6) (v := .int (nI mN)) (C := R_Mod) (T := F_Mod) (N := 27) hx hb hts (wi i_Mod) hown hK hP 0 rfl rfl 8 (by decide) (hts _ (mt 550 rfl rfl)) (fun _ h9 => h9) rfl d_Mod_rest_26 ?_
    refine lv_icmp_ge (tgt := 144) hx hb d_Mod_rest_29 (by decide) (fun c29 => ?_) (fun c29 => ?_)
    · skip
      have c29 : mN ≤ z1 := (nI_leI (by omega) (by omega)).mp c29
      refine lv_iconst (v := nI 0) hx hb d_Mod_rest_144 rfl ?_
      refine lv_istore_n (lv' := [(1, .int (nI 0)), (0, .ref a_mod)]) hx hb d_Mod_rest_145 rfl hl (by decide) rfl (fun ls hl => ?_)
      have hI_5 : (∀ j, R2 j < 2) ∧ (TB R2 (fun z t => z < mN ∧ bt (raM (raB mKd Op Aa Ab Ac) mKd mSo Su Sr 0 z) t = 1)) ∧ (0 ≤ mMs) := ⟨b_R2, (TB_congr hR2 (fun z t _ _ => by show (z < mN ∧ bt (raB mKd Op Aa Ab Ac z) t = 1) ↔ _; rw [show z1 = mN by omega])), (by omega)⟩
      refine k_loop (σ := Nat × (Nat → Nat)) (D := (dC, dI)) (cl := classes) (A := A) (H0 := s.heap) (fun x => [(a_mod, .inr (6, [.ref a_mkind, .ref a_mwidth, .ref a_mreset, .ref a_mop, .ref a_mka, .ref a_mkb, .ref a_mkc, .ref a_mheld, .int (nI mN), .ref a_msort, .ref a_mof, .ref a_mfrom, .int (nI mMs), .ref a_mbit, .ref a_mdone, .ref a_mrests, .ref a_mxx, .ref a_myy, .ref a_mdepth, .ref a_mone, .int (nI mG), .int (nI mCk), .int mFw, .int (nI mRd), .ref a_mbefore, .ref a_mfirst, .ref a_mturned])), (a_mkind, .inl (cI, 14, .inl (nF mKd))), (a_mop, .inl (cI, 14, .inl mOp)), (a_mka, .inl (cI, 14, .inl mAa)), (a_mkb, .inl (cI, 14, .inl mAb)), (a_mkc, .inl (cI, 14, .inl mAc)), (a_msort, .inl (cI, 20, .inl (nF mSo))), (a_mof, .inl (cI, 20, .inl mOf)), (a_mfrom, .inl (cI, 20, .inl mFr)), (a_mrests, .inl (cZ, 196, .inl (nF x.2)))]) (fun x => [(1, .int (nI x.1)), (0, .ref a_mod)]) (fun x => (∀ j, x.2 j < 2) ∧ (TB x.2 (fun z t => z < mN ∧ bt (raM (raB mKd Op Aa Ab Ac) mKd mSo Su Sr x.1 z) t = 1)) ∧ (x.1 ≤ mMs)) (fun x => mMs - x.1) ?_ (0, R2) hI_5 hP hD hS (lv_sub hl [0, 1] rfl)
      rintro ⟨k, R3⟩ hI ih_6 H locs ls hP hD hS hl
      obtain ⟨b_R3, hR3, hk⟩ : (∀ j, R3 j < 2) ∧ (TB R3 (fun z t => z < mN ∧ bt (raM (raB mKd Op Aa Ab Ac) mKd mSo Su Sr k z) t = 1)) ∧ (k ≤ mMs) := hI
      have hP : va_P (dC, dI) classes [(a_mod, .inr (6, [.ref a_mkind, .ref a_mwidth, .ref a_mreset, .ref a_mop, .ref a_mka, .ref a_mkb, .ref a_mkc, .ref a_mheld, .int (nI mN), .ref a_msort, .ref a_mof, .ref a_mfrom, .int (nI mMs), .ref a_mbit, .ref a_mdone, .ref a_mrests, .ref a_mxx, .ref a_myy, .ref a_mdepth, .ref a_mone, .int (nI mG), .int (nI mCk), .int mFw, .int (nI mRd), .ref a_mbefore, .ref a_mfirst, .ref a_mturned])), (a_mkind, .inl (cI, 14, .inl (nF mKd))), (a_mop, .inl (cI, 14, .inl mOp)), (a_mka, .inl (cI, 14, .inl mAa)), (a_mkb, .inl (cI, 14, .inl mAb)), (a_mkc, .inl (cI, 14, .inl mAc)), (a_msort, .inl (cI, 20, .inl (nF mSo))), (a_mof, .inl (cI, 20, .inl mOf)), (a_mfrom, .inl (cI, 20, .inl mFr)), (a_mrests, .inl (cZ, 196, .inl (nF R3)))] H := hP
      have hD : va_D A [(a_mod, .inr (6, [.ref a_mkind, .ref a_mwidth, .ref a_mreset, .ref a_mop, .ref a_mka, .ref a_mkb, .ref a_mkc, .ref a_mheld, .int (nI mN), .ref a_msort, .ref a_mof, .ref a_mfrom, .int (nI mMs), .ref a_mbit, .ref a_mdone, .ref a_mrests, .ref a_mxx, .ref a_myy, .ref a_mdepth, .ref a_mone, .int (nI mG), .int (nI mCk), .int mFw, .int (nI mRd), .ref a_mbefore, .ref a_mfirst, .ref a_mturned])), (a_mkind, .inl (cI, 14, .inl (nF mKd))), (a_mop, .inl (cI, 14, .inl mOp)), (a_mka, .inl (cI, 14, .inl mAa)), (a_mkb, .inl (cI, 14, .inl mAb)), (a_mkc, .inl (cI, 14, .inl mAc)), (a_msort, .inl (cI, 20, .inl (nF mSo))), (a_mof, .inl (cI, 20, .inl mOf)), (a_mfrom, .inl (cI, 20, .inl mFr)), (a_mrests, .inl (cZ, 196, .inl (nF R3)))] := hD
      have hl : lv_has ls 4 [(1, .int (nI k)), (0, .ref a_mod)] := hl
      refine lv_iload_n hx hb d_Mod_rest_146 rfl (lv_at hl 0 rfl) ?_
      refine lv_aload_n hx hb d_Mod_rest_147 rfl (lv_at hl 1 rfl) ?_
      refine va_get (D := (dC, dI)) (ci := 6) (v := .int (nI mMs)) (C := R_Mod) (T := F_Mod) (N := 27) hx hb hts (wi i_Mod) hown hK hP 0 rfl rfl 12 (by decide) (hts _ (mt 554 rfl rfl)) (fun _ h9 => h9) rfl d_Mod_rest_148 ?_
      refine lv_icmp_ge (tgt := 278) hx hb d_Mod_rest_151 (by decide) (fun c151 => ?_) (fun c151 => ?_)
      · skip
        have c151 : mMs ≤ k := (nI_leI (by omega) (by omega)).mp c151
        exact W.vret hx hb hr (fun t ht hW => ⟨⟨(R3), rfl, ⟨b_R3, (show TB R3 (fun z t => z < mN ∧ bt (raM (raB mKd Op Aa Ab Ac) mKd mSo Su Sr mMs z) t = 1) from (by rw [show mMs = k by omega]; exact hR3))⟩, by rw [ht]; exact hP, va_K.moved hW.alike hK, hD⟩, hS.F ht⟩) hS.2.2 d_Mod_rest_278
      · skip
        have c151 : ¬ (mMs ≤ k) := fun h => c151 ((nI_leI (by omega) (by omega)).mpr h)
        have hs4 := b_mSo k
        refine lv_aload_n hx hb d_Mod_rest_154 rfl (lv_at hl 1 rfl) ?_
        refine va_get (D := (dC, dI)) (ci := 6) (v := .ref a_msort) (C := R_Mod) (T := F_Mod) (N := 27) hx hb hts (wi i_Mod) hown hK hP 0 rfl rfl 9 (by decide) (hts _ (mt 551 rfl rfl)) (fun _ h9 => h9) rfl d_Mod_rest_155 ?_
        refine lv_iload_n hx hb d_Mod_rest_158 rfl (lv_at hl 0 rfl) ?_
        refine k_ild hx hb hK hP 6 0 rfl rfl (by omega) (by decide) d_Mod_rest_159 ?_
        have hb_7 := b_mSo k
        refine lv_if_ne (tgt := 272) hx hb d_Mod_rest_160 (by decide) (fun c160 => ?_) (fun c160 => ?_)
        · skip
          have c160 : ¬ ((mSo k) = 0) := fun h => c160 ((nI_eq0 (by omega)).mpr h)
          refine lv_iinc (v := nI (k + 1)) (lv' := [(1, .int (nI (k + 1))), (0, .ref a_mod)]) hx hb d_Mod_rest_272 hl (k := 0) rfl (k_inc _ 1) (by decide) rfl (fun ls hl => ?_)
          refine lv_goto (tgt := 146) hx hb d_Mod_rest_275 (by decide) ?_
          have hI_8 : (∀ j, R3 j < 2) ∧ (TB R3 (fun z t => z < mN ∧ bt (raM (raB mKd Op Aa Ab Ac) mKd mSo Su Sr (k + 1) z) t = 1)) ∧ ((k + 1) ≤ mMs) := ⟨b_R3, (TB_congr hR3 (fun z t _ _ => by rw [raM_n (by omega)])), (by omega)⟩
          exact ih_6 (k + 1, R3) hI_8 (show mMs - (k + 1) < mMs - k from by omega) _ _ _ hP hD hS (lv_sub hl [0, 1] rfl)
        · skip
          have c160 : (mSo k) = 0 := (nI_eq0 (by omega)).mp c160
          have hof := hOf k (by omega) (Or.inl c160)
          have hfr := hFr k (by omega) c160
          have hSu := hof.2
          have hSr := hfr.2
          refine lv_aload_n hx hb d_Mod_rest_163 rfl (lv_at hl 1 rfl) ?_
          refine va_get (D := (dC, dI)) (ci := 6) (v := .ref a_mkind) (C := R_Mod) (T := F_Mod) (N := 27) hx hb hts (wi i_Mod) hown hK hP 0 rfl rfl 0 (by decide) (hts _ (mt 542 rfl rfl)) (fun _ h9 => h9) rfl d_Mod_rest_164 ?_
          refine lv_aload_n hx hb d_Mod_rest_167 rfl (lv_at hl 1 rfl) ?_
          refine va_get (D := (dC, dI)) (ci := 6) (v := .ref a_mof) (C := R_Mod) (T := F_Mod) (N := 27) hx hb hts (wi i_Mod) hown hK hP 0 rfl rfl 10 (by decide) (hts _ (mt 552 rfl rfl)) (fun _ h9 => h9) rfl d_Mod_rest_168 ?_
          refine lv_iload_n hx hb d_Mod_rest_171 rfl (lv_at hl 0 rfl) ?_
          refine k_rld hx hb hK hP 7 0 rfl rfl (by omega) (by decide) d_Mod_rest_172 ?_
          refine k_top (show mOf k = nI (Su k) from hof.1) ?_
          refine k_ild hx hb hK hP 1 0 rfl rfl (by omega) (by decide) d_Mod_rest_173 ?_
          have hb_9 := b_mKd (Su k)
          refine lv_iconst (v := nI 1) hx hb d_Mod_rest_174 rfl ?_
          refine lv_icmp_eq (tgt := 181) hx hb d_Mod_rest_175 (by decide) (fun c175 => ?_) (fun c175 => ?_)
          · skip
            have c175 : (mKd (Su k)) = 1 := (nI_eq (by omega) (by omega)).mp c175
            refine lv_aload_n hx hb d_Mod_rest_181 rfl (lv_at hl 1 rfl) ?_
            refine va_get (D := (dC, dI)) (ci := 6) (v := .ref a_mrests) (C := R_Mod) (T := F_Mod) (N := 27) hx hb hts (wi i_Mod) hown hK hP 0 rfl rfl 15 (by decide) (hts _ (mt 557 rfl rfl)) (fun _ h9 => h9) rfl d_Mod_rest_182 ?_
            refine lv_bipush (v := nI 14) hx hb d_Mod_rest_185 rfl ?_
            refine lv_aload_n hx hb d_Mod_rest_187 rfl (lv_at hl 1 rfl) ?_
            refine va_get (D := (dC, dI)) (ci := 6) (v := .ref a_mof) (C := R_Mod) (T := F_Mod) (N := 27) hx hb hts (wi i_Mod) hown hK hP 0 rfl rfl 10 (by decide) (hts _ (mt 552 rfl rfl)) (fun _ h9 => h9) rfl d_Mod_rest_188 ?_
            refine lv_iload_n hx hb d_Mod_rest_191 rfl (lv_at hl 0 rfl) ?_
            refine k_rld hx hb hK hP 7 0 rfl rfl (by omega) (by decide) d_Mod_rest_192 ?_
            refine k_top (show mOf k = nI (Su k) from hof.1) ?_
            refine lv_imul hx hb d_Mod_rest_193 ?_
            refine k_top (pk_mul _ _) ?_
            refine lv_aload_n hx hb d_Mod_rest_194 rfl (lv_at hl 1 rfl) ?_
            refine va_get (D := (dC, dI)) (ci := 6) (v := .ref a_mfrom) (C := R_Mod) (T := F_Mod) (N := 27) hx hb hts (wi i_Mod) hown hK hP 0 rfl rfl 11 (by decide) (hts _ (mt 553 rfl rfl)) (fun _ h9 => h9) rfl d_Mod_rest_195 ?_
            refine lv_iload_n hx hb d_Mod_rest_198 rfl (lv_at hl 0 rfl) ?_
            refine k_rld hx hb hK hP 8 0 rfl rfl (by omega) (by decide) d_Mod_rest_199 ?_
            refine k_top (show mFr k = nI (Sr k) from hfr.1) ?_
            refine lv_iadd hx hb d_Mod_rest_200 ?_
            refine k_top (nI_add _ _) ?_
            refine lv_iconst (v := nI 1) hx hb d_Mod_rest_201 rfl ?_
            refine k_zst hx hb hK hP hD hS 9 1 rfl rfl (by omega) (by decide) (by omega) d_Mod_rest_202 (fun H locs hP hD hS => ?_)
            have bb_10 : ∀ j, upN R3 ((14 * (Su k)) + (Sr k)) 1 j < 2 := upN_lt b_R3 (by omega)
            have hP : va_P (dC, dI) classes [(a_mod, .inr (6, [.ref a_mkind, .ref a_mwidth, .ref a_mreset, .ref a_mop, .ref a_mka, .ref a_mkb, .ref a_mkc, .ref a_mheld, .int (nI mN), .ref a_msort, .ref a_mof, .ref a_mfrom, .int (nI mMs), .ref a_mbit, .ref a_mdone, .ref a_mrests, .ref a_mxx, .ref a_myy, .ref a_mdepth, .ref a_mone, .int (nI mG), .int (nI mCk), .int mFw, .int (nI mRd), .ref a_mbefore, .ref a_mfirst, .ref a_mturned])), (a_mkind, .inl (cI, 14, .inl (nF mKd))), (a_mop, .inl (cI, 14, .inl mOp)), (a_mka, .inl (cI, 14, .inl mAa)), (a_mkb, .inl (cI, 14, .inl mAb)), (a_mkc, .inl (cI, 14, .inl mAc)), (a_msort, .inl (cI, 20, .inl (nF mSo))), (a_mof, .inl (cI, 20, .inl mOf)), (a_mfrom, .inl (cI, 20, .inl mFr)), (a_mrests, .inl (cZ, 196, .inl (nF (upN R3 ((14 * (Su k)) + (Sr k)) 1))))] H := hP
            have hD : va_D A [(a_mod, .inr (6, [.ref a_mkind, .ref a_mwidth, .ref a_mreset, .ref a_mop, .ref a_mka, .ref a_mkb, .ref a_mkc, .ref a_mheld, .int (nI mN), .ref a_msort, .ref a_mof, .ref a_mfrom, .int (nI mMs), .ref a_mbit, .ref a_mdone, .ref a_mrests, .ref a_mxx, .ref a_myy, .ref a_mdepth, .ref a_mone, .int (nI mG), .int (nI mCk), .int mFw, .int (nI mRd), .ref a_mbefore, .ref a_mfirst, .ref a_mturned])), (a_mkind, .inl (cI, 14, .inl (nF mKd))), (a_mop, .inl (cI, 14, .inl mOp)), (a_mka, .inl (cI, 14, .inl mAa)), (a_mkb, .inl (cI, 14, .inl mAb)), (a_mkc, .inl (cI, 14, .inl mAc)), (a_msort, .inl (cI, 20, .inl (nF mSo))), (a_mof, .inl (cI, 20, .inl mOf)), (a_mfrom, .inl (cI, 20, .inl mFr)), (a_mrests, .inl (cZ, 196, .inl (nF (upN R3 ((14 * (Su k)) + (Sr k)) 1))))] := hD
            have t4 : TB (upN R3 ((14 * (Su k)) + (Sr k)) 1) (fun z t => (z < mN ∧ bt (raM (raB mKd Op Aa Ab Ac) mKd mSo Su Sr k z) t = 1) ∨ (z = Su k ∧ (t = Sr k ∨ bt 0 t = 1))) := TB_up hR3 (by omega) (by omega) (fun z t _ _ => by have := bt_0 t; omega)
            refine lv_aload_n hx hb d_Mod_rest_203 rfl (lv_at hl 1 rfl) ?_
            refine lv_iload_n hx hb d_Mod_rest_204 rfl (lv_at hl 0 rfl) ?_
            refine k_i (wr := [(a_mkind, .inl (cI, 14, .inl (nF mKd))), (a_mop, .inl (cI, 14, .inl mOp)), (a_mka, .inl (cI, 14, .inl mAa)), (a_mkb, .inl (cI, 14, .inl mAb)), (a_mkc, .inl (cI, 14, .inl mAc)), (a_mof, .inl (cI, 20, .inl mOf)), (a_mfrom, .inl (cI, 20, .inl mFr)), (a_mrests, .inl (cZ, 196, .inl (nF (upN R3 ((14 * (Su k)) + (Sr k)) 1))))]) (w2 := fun (u : Unit) => [(a_mod, .inr (6, [.ref a_mkind, .ref a_mwidth, .ref a_mreset, .ref a_mop, .ref a_mka, .ref a_mkb, .ref a_mkc, .ref a_mheld, .int (nI mN), .ref a_msort, .ref a_mof, .ref a_mfrom, .int (nI mMs), .ref a_mbit, .ref a_mdone, .ref a_mrests, .ref a_mxx, .ref a_myy, .ref a_mdepth, .ref a_mone, .int (nI mG), .int (nI mCk), .int mFw, .int (nI mRd), .ref a_mbefore, .ref a_mfirst, .ref a_mturned])), (a_mkind, .inl (cI, 14, .inl (nF mKd))), (a_mop, .inl (cI, 14, .inl mOp)), (a_mka, .inl (cI, 14, .inl mAa)), (a_mkb, .inl (cI, 14, .inl mAb)), (a_mkc, .inl (cI, 14, .inl mAc)), (a_msort, .inl (cI, 20, .inl (nF mSo))), (a_mof, .inl (cI, 20, .inl mOf)), (a_mfrom, .inl (cI, 20, .inl mFr)), (a_mrests, .inl (cZ, 196, .inl (nF (upN R3 ((14 * (Su k)) + (Sr k)) 1))))]) (va_runV (As := [.int (nI k)]) (rest := []) ⟨hx, hb, hml, hown, hts⟩ (c_Mod_deep l dC dI cI cZ a_mod a_mkind a_mwidth a_mreset a_mop a_mka a_mkb a_mkc a_mheld a_msort a_mof a_mfrom a_mbit a_mdone a_mrests a_mxx a_myy a_mdepth a_mone a_mbefore a_mfirst a_mturned tt H.size mN mMs mG mCk mFw mRd mSo k (by omega) (by omega) (by omega) (by omega) b_mSo hLG (by omega)) (cwV 1 hts (gd_V in_tl (mw 654 rfl rfl) (mw 656 rfl rfl) (mw 22 rfl rfl) (mw 47 rfl rfl) (mw 657 rfl rfl)) rfl rfl rfl (by decide +kernel) ⟨Nat.le_of_ble_eq_true rfl, Nat.le_of_ble_eq_true rfl⟩) (k_preV hK hP hD hS hA hE [0, 6] (by decide) rfl 6 0 rfl rfl) rfl rfl hl.1 rfl (lv_room (Nat.le_of_ble_eq_true rfl)) d_Mod_rest_205 ⟨Nat.zero_le _, Nat.zero_le _⟩) hP hD hS hA [0, 6] [1, 2, 3, 4, 5, 7, 8, 9] [8, 0, 1, 2, 3, 4, 9, 5, 6, 7] rfl rfl (by decide) (by decide) (by decide) (fun _ => rfl) (fun r_11 u H locs hw hP hD hS => ?_)
            obtain rfl : (r_11 = nI (dp mSo k)) := hw
            have hP : va_P (dC, dI) classes [(a_mod, .inr (6, [.ref a_mkind, .ref a_mwidth, .ref a_mreset, .ref a_mop, .ref a_mka, .ref a_mkb, .ref a_mkc, .ref a_mheld, .int (nI mN), .ref a_msort, .ref a_mof, .ref a_mfrom, .int (nI mMs), .ref a_mbit, .ref a_mdone, .ref a_mrests, .ref a_mxx, .ref a_myy, .ref a_mdepth, .ref a_mone, .int (nI mG), .int (nI mCk), .int mFw, .int (nI mRd), .ref a_mbefore, .ref a_mfirst, .ref a_mturned])), (a_mkind, .inl (cI, 14, .inl (nF mKd))), (a_mop, .inl (cI, 14, .inl mOp)), (a_mka, .inl (cI, 14, .inl mAa)), (a_mkb, .inl (cI, 14, .inl mAb)), (a_mkc, .inl (cI, 14, .inl mAc)), (a_msort, .inl (cI, 20, .inl (nF mSo))), (a_mof, .inl (cI, 20, .inl mOf)), (a_mfrom, .inl (cI, 20, .inl mFr)), (a_mrests, .inl (cZ, 196, .inl (nF (upN R3 ((14 * (Su k)) + (Sr k)) 1))))] H := hP
            have hD : va_D A [(a_mod, .inr (6, [.ref a_mkind, .ref a_mwidth, .ref a_mreset, .ref a_mop, .ref a_mka, .ref a_mkb, .ref a_mkc, .ref a_mheld, .int (nI mN), .ref a_msort, .ref a_mof, .ref a_mfrom, .int (nI mMs), .ref a_mbit, .ref a_mdone, .ref a_mrests, .ref a_mxx, .ref a_myy, .ref a_mdepth, .ref a_mone, .int (nI mG), .int (nI mCk), .int mFw, .int (nI mRd), .ref a_mbefore, .ref a_mfirst, .ref a_mturned])), (a_mkind, .inl (cI, 14, .inl (nF mKd))), (a_mop, .inl (cI, 14, .inl mOp)), (a_mka, .inl (cI, 14, .inl mAa)), (a_mkb, .inl (cI, 14, .inl mAb)), (a_mkc, .inl (cI, 14, .inl mAc)), (a_msort, .inl (cI, 20, .inl (nF mSo))), (a_mof, .inl (cI, 20, .inl mOf)), (a_mfrom, .inl (cI, 20, .inl mFr)), (a_mrests, .inl (cZ, 196, .inl (nF (upN R3 ((14 * (Su k)) + (Sr k)) 1))))] := hD
            have g4 := dp_le hLG k (by omega)
            refine lv_istore_n (lv' := [(2, .int (nI (dp mSo k))), (1, .int (nI k)), (0, .ref a_mod)]) hx hb d_Mod_rest_208 rfl hl (by decide) rfl (fun ls hl => ?_)
            refine lv_iload_n hx hb d_Mod_rest_209 rfl (lv_at hl 1 rfl) ?_
            refine lv_iconst (v := nI 1) hx hb d_Mod_rest_210 rfl ?_
            refine lv_isub hx hb d_Mod_rest_211 ?_
            refine lv_istore_n (lv' := [(3, .int ((nI k) - (nI 1))), (2, .int (nI (dp mSo k))), (1, .int (nI k)), (0, .ref a_mod)]) hx hb d_Mod_rest_212 rfl hl (by decide) rfl (fun ls hl => ?_)
            have hI_12 : (∀ j, (upN R3 ((14 * (Su k)) + (Sr k)) 1) j < 2) ∧ (((nI k) - (nI 1)) = nI k - nI 1) ∧ (k ≤ k) ∧ ((dp mSo k) ≤ dp mSo k) ∧ (∀ t, bt (arM mSo Su k (dp mSo k)) t = 1 ↔ bt (arM mSo Su k (dp mSo k)) t = 1 ∨ bt 0 t = 1) ∧ (TB (upN R3 ((14 * (Su k)) + (Sr k)) 1) (fun z t => (z < mN ∧ bt (raM (raB mKd Op Aa Ab Ac) mKd mSo Su Sr k z) t = 1) ∨ (z = Su k ∧ (t = Sr k ∨ bt 0 t = 1)))) := ⟨bb_10, rfl, (by omega), (Nat.le_refl _), (fun t => by have := bt_0 t; omega), t4⟩
            refine k_loop (σ := Nat × Int32 × Nat × Nat × (Nat → Nat)) (D := (dC, dI)) (cl := classes) (A := A) (H0 := s.heap) (fun x => [(a_mod, .inr (6, [.ref a_mkind, .ref a_mwidth, .ref a_mreset, .ref a_mop, .ref a_mka, .ref a_mkb, .ref a_mkc, .ref a_mheld, .int (nI mN), .ref a_msort, .ref a_mof, .ref a_mfrom, .int (nI mMs), .ref a_mbit, .ref a_mdone, .ref a_mrests, .ref a_mxx, .ref a_myy, .ref a_mdepth, .ref a_mone, .int (nI mG), .int (nI mCk), .int mFw, .int (nI mRd), .ref a_mbefore, .ref a_mfirst, .ref a_mturned])), (a_mkind, .inl (cI, 14, .inl (nF mKd))), (a_mop, .inl (cI, 14, .inl mOp)), (a_mka, .inl (cI, 14, .inl mAa)), (a_mkb, .inl (cI, 14, .inl mAb)), (a_mkc, .inl (cI, 14, .inl mAc)), (a_msort, .inl (cI, 20, .inl (nF mSo))), (a_mof, .inl (cI, 20, .inl mOf)), (a_mfrom, .inl (cI, 20, .inl mFr)), (a_mrests, .inl (cZ, 196, .inl (nF x.2.2.2.2)))]) (fun x => [(3, .int x.2.1), (2, .int (nI x.1)), (1, .int (nI k)), (0, .ref a_mod)]) (fun x => (∀ j, x.2.2.2.2 j < 2) ∧ (x.2.1 = nI x.2.2.1 - nI 1) ∧ (x.2.2.1 ≤ k) ∧ (x.1 ≤ dp mSo x.2.2.1) ∧ (∀ t, bt (arM mSo Su k (dp mSo k)) t = 1 ↔ bt (arM mSo Su x.2.2.1 x.1) t = 1 ∨ bt x.2.2.2.1 t = 1) ∧ (TB x.2.2.2.2 (fun z t => (z < mN ∧ bt (raM (raB mKd Op Aa Ab Ac) mKd mSo Su Sr k z) t = 1) ∨ (z = Su k ∧ (t = Sr k ∨ bt x.2.2.2.1 t = 1))))) (fun x => x.2.2.1) ?_ (dp mSo k, (nI k) - (nI 1), k, 0, upN R3 ((14 * (Su k)) + (Sr k)) 1) hI_12 hP hD hS (lv_sub hl [0, 1, 2, 3] rfl)
            rintro ⟨o, jj, q, C, R4⟩ hI ih_13 H locs ls hP hD hS hl
            obtain ⟨b_R4, hjj, hq, ho, hAr, hR4⟩ : (∀ j, R4 j < 2) ∧ (jj = nI q - nI 1) ∧ (q ≤ k) ∧ (o ≤ dp mSo q) ∧ (∀ t, bt (arM mSo Su k (dp mSo k)) t = 1 ↔ bt (arM mSo Su q o) t = 1 ∨ bt C t = 1) ∧ (TB R4 (fun z t => (z < mN ∧ bt (raM (raB mKd Op Aa Ab Ac) mKd mSo Su Sr k z) t = 1) ∨ (z = Su k ∧ (t = Sr k ∨ bt C t = 1)))) := hI
            have hP : va_P (dC, dI) classes [(a_mod, .inr (6, [.ref a_mkind, .ref a_mwidth, .ref a_mreset, .ref a_mop, .ref a_mka, .ref a_mkb, .ref a_mkc, .ref a_mheld, .int (nI mN), .ref a_msort, .ref a_mof, .ref a_mfrom, .int (nI mMs), .ref a_mbit, .ref a_mdone, .ref a_mrests, .ref a_mxx, .ref a_myy, .ref a_mdepth, .ref a_mone, .int (nI mG), .int (nI mCk), .int mFw, .int (nI mRd), .ref a_mbefore, .ref a_mfirst, .ref a_mturned])), (a_mkind, .inl (cI, 14, .inl (nF mKd))), (a_mop, .inl (cI, 14, .inl mOp)), (a_mka, .inl (cI, 14, .inl mAa)), (a_mkb, .inl (cI, 14, .inl mAb)), (a_mkc, .inl (cI, 14, .inl mAc)), (a_msort, .inl (cI, 20, .inl (nF mSo))), (a_mof, .inl (cI, 20, .inl mOf)), (a_mfrom, .inl (cI, 20, .inl mFr)), (a_mrests, .inl (cZ, 196, .inl (nF R4)))] H := hP
            have hD : va_D A [(a_mod, .inr (6, [.ref a_mkind, .ref a_mwidth, .ref a_mreset, .ref a_mop, .ref a_mka, .ref a_mkb, .ref a_mkc, .ref a_mheld, .int (nI mN), .ref a_msort, .ref a_mof, .ref a_mfrom, .int (nI mMs), .ref a_mbit, .ref a_mdone, .ref a_mrests, .ref a_mxx, .ref a_myy, .ref a_mdepth, .ref a_mone, .int (nI mG), .int (nI mCk), .int mFw, .int (nI mRd), .ref a_mbefore, .ref a_mfirst, .ref a_mturned])), (a_mkind, .inl (cI, 14, .inl (nF mKd))), (a_mop, .inl (cI, 14, .inl mOp)), (a_mka, .inl (cI, 14, .inl mAa)), (a_mkb, .inl (cI, 14, .inl mAb)), (a_mkc, .inl (cI, 14, .inl mAc)), (a_msort, .inl (cI, 20, .inl (nF mSo))), (a_mof, .inl (cI, 20, .inl mOf)), (a_mfrom, .inl (cI, 20, .inl mFr)), (a_mrests, .inl (cZ, 196, .inl (nF R4)))] := hD
            have hl : lv_has ls 4 [(3, .int jj), (2, .int (nI o)), (1, .int (nI k)), (0, .ref a_mod)] := hl
            refine lv_iload_n hx hb d_Mod_rest_213 rfl (lv_at hl 0 rfl) ?_
            refine lv_if_lt (tgt := 272) hx hb d_Mod_rest_214 (by decide) (fun c214 => ?_) (fun c214 => ?_)
            · skip
              have c214 : jj.toInt < 0 := (ri_lt rfl rfl).mp c214
              rw [hjj, jj_ti (by omega)] at c214
              obtain rfl : q = 0 := by omega
              refine lv_iinc (v := nI (k + 1)) (lv' := [(1, .int (nI (k + 1))), (3, .int jj), (2, .int (nI o)), (0, .ref a_mod)]) hx hb d_Mod_rest_272 hl (k := 2) rfl (k_inc _ 1) (by decide) rfl (fun ls hl => ?_)
              refine lv_goto (tgt := 146) hx hb d_Mod_rest_275 (by decide) ?_
              have hI_14 : (∀ j, R4 j < 2) ∧ (TB R4 (fun z t => z < mN ∧ bt (raM (raB mKd Op Aa Ab Ac) mKd mSo Su Sr (k + 1) z) t = 1)) ∧ ((k + 1) ≤ mMs) := ⟨b_R4, (TB_congr hR4 (fun z t _ _ => by have h1 := raM_b (B := raB mKd Op Aa Ab Ac) (Sr := Sr) (s := z) (t := t) c160 c175; have h2 := hAr t; have h3 : bt (arM mSo Su 0 o) t = 0 := bt_0 t; omega)), (by omega)⟩
              exact ih_6 (k + 1, R4) hI_14 (show mMs - (k + 1) < mMs - k from by omega) _ _ _ hP hD hS (lv_sub hl [0, 3] rfl)
            · skip
              have c214 : ¬ (jj.toInt < 0) := fun h => c214 ((ri_lt rfl rfl).mpr h)
              rw [hjj, jj_ti (by omega)] at c214
              have hq1 : 0 < q := by omega
              have ejj : jj = nI (q - 1) := by rw [hjj, pk_sub (by omega)]
              rw [ejj] at hl
              have g5 := dp_le hLG (q - 1) (by omega)
              have g6 := dp_le hLG q (by omega)
              refine lv_aload_n hx hb d_Mod_rest_217 rfl (lv_at hl 3 rfl) ?_
              refine va_get (D := (dC, dI)) (ci := 6) (v := .ref a_msort) (C := R_Mod) (T := F_Mod) (N := 27) hx hb hts (wi i_Mod) hown hK hP 0 rfl rfl 9 (by decide) (hts _ (mt 551 rfl rfl)) (fun _ h9 => h9) rfl d_Mod_rest_218 ?_
              refine lv_iload_n hx hb d_Mod_rest_221 rfl (lv_at hl 0 rfl) ?_
              refine k_ild hx hb hK hP 6 0 rfl rfl (by omega) (by decide) d_Mod_rest_222 ?_
              have hb_15 := b_mSo (q - 1)
              refine lv_iconst (v := nI 1) hx hb d_Mod_rest_223 rfl ?_
              refine lv_icmp_ne (tgt := 266) hx hb d_Mod_rest_224 (by decide) (fun c224 => ?_) (fun c224 => ?_)
              · skip
                have c224 : ¬ ((mSo (q - 1)) = 1) := fun h => c224 ((nI_eq (by omega) (by omega)).mpr h)
                have hba := back_ar (So := mSo) (Su := Su) (k := q - 1) (N := o) (by rw [show q - 1 + 1 = q by omega]; exact ho) (fun h => c224 h.1)
                rw [show q - 1 + 1 = q by omega] at hba
                refine lv_iinc (v := nI (q - 1) + Int32.ofInt (-1)) (lv' := [(3, .int (nI (q - 1) + Int32.ofInt (-1))), (2, .int (nI o)), (1, .int (nI k)), (0, .ref a_mod)]) hx hb d_Mod_rest_266 hl (k := 0) rfl (rfl) (by decide) rfl (fun ls hl => ?_)
                refine lv_goto (tgt := 213) hx hb d_Mod_rest_269 (by decide) ?_
                have hI_16 : (∀ j, R4 j < 2) ∧ ((nI (q - 1) + Int32.ofInt (-1)) = nI (q - 1) - nI 1) ∧ ((q - 1) ≤ k) ∧ (o ≤ dp mSo (q - 1)) ∧ (∀ t, bt (arM mSo Su k (dp mSo k)) t = 1 ↔ bt (arM mSo Su (q - 1) o) t = 1 ∨ bt C t = 1) ∧ (TB R4 (fun z t => (z < mN ∧ bt (raM (raB mKd Op Aa Ab Ac) mKd mSo Su Sr k z) t = 1) ∨ (z = Su k ∧ (t = Sr k ∨ bt C t = 1)))) := ⟨b_R4, (jj_m1 _), (by omega), hba.1, (fun t => by rw [← hba.2]; exact hAr t), hR4⟩
                exact ih_13 (o, nI (q - 1) + Int32.ofInt (-1), q - 1, C, R4) hI_16 (show (q - 1) < q from by omega) _ _ _ hP hD hS (lv_sub hl [0, 1, 2, 3] rfl)
              · skip
                have c224 : (mSo (q - 1)) = 1 := (nI_eq (by omega) (by omega)).mp c224
                refine lv_aload_n hx hb d_Mod_rest_227 rfl (lv_at hl 3 rfl) ?_
                refine lv_iload_n hx hb d_Mod_rest_228 rfl (lv_at hl 0 rfl) ?_
                refine k_i (wr := [(a_mkind, .inl (cI, 14, .inl (nF mKd))), (a_mop, .inl (cI, 14, .inl mOp)), (a_mka, .inl (cI, 14, .inl mAa)), (a_mkb, .inl (cI, 14, .inl mAb)), (a_mkc, .inl (cI, 14, .inl mAc)), (a_mof, .inl (cI, 20, .inl mOf)), (a_mfrom, .inl (cI, 20, .inl mFr)), (a_mrests, .inl (cZ, 196, .inl (nF R4)))]) (w2 := fun (u : Unit) => [(a_mod, .inr (6, [.ref a_mkind, .ref a_mwidth, .ref a_mreset, .ref a_mop, .ref a_mka, .ref a_mkb, .ref a_mkc, .ref a_mheld, .int (nI mN), .ref a_msort, .ref a_mof, .ref a_mfrom, .int (nI mMs), .ref a_mbit, .ref a_mdone, .ref a_mrests, .ref a_mxx, .ref a_myy, .ref a_mdepth, .ref a_mone, .int (nI mG), .int (nI mCk), .int mFw, .int (nI mRd), .ref a_mbefore, .ref a_mfirst, .ref a_mturned])), (a_mkind, .inl (cI, 14, .inl (nF mKd))), (a_mop, .inl (cI, 14, .inl mOp)), (a_mka, .inl (cI, 14, .inl mAa)), (a_mkb, .inl (cI, 14, .inl mAb)), (a_mkc, .inl (cI, 14, .inl mAc)), (a_msort, .inl (cI, 20, .inl (nF mSo))), (a_mof, .inl (cI, 20, .inl mOf)), (a_mfrom, .inl (cI, 20, .inl mFr)), (a_mrests, .inl (cZ, 196, .inl (nF R4)))]) (va_runV (As := [.int (nI (q - 1))]) (rest := []) ⟨hx, hb, hml, hown, hts⟩ (c_Mod_deep l dC dI cI cZ a_mod a_mkind a_mwidth a_mreset a_mop a_mka a_mkb a_mkc a_mheld a_msort a_mof a_mfrom a_mbit a_mdone a_mrests a_mxx a_myy a_mdepth a_mone a_mbefore a_mfirst a_mturned tt H.size mN mMs mG mCk mFw mRd mSo (q - 1) (by omega) (by omega) (by omega) (by omega) b_mSo hLG (by omega)) (cwV 1 hts (gd_V in_tl (mw 654 rfl rfl) (mw 656 rfl rfl) (mw 22 rfl rfl) (mw 47 rfl rfl) (mw 657 rfl rfl)) rfl rfl rfl (by decide +kernel) ⟨Nat.le_of_ble_eq_true rfl, Nat.le_of_ble_eq_true rfl⟩) (k_preV hK hP hD hS hA hE [0, 6] (by decide) rfl 6 0 rfl rfl) rfl rfl hl.1 rfl (lv_room (Nat.le_of_ble_eq_true rfl)) d_Mod_rest_229 ⟨Nat.zero_le _, Nat.zero_le _⟩) hP hD hS hA [0, 6] [1, 2, 3, 4, 5, 7, 8, 9] [8, 0, 1, 2, 3, 4, 9, 5, 6, 7] rfl rfl (by decide) (by decide) (by decide) (fun _ => rfl) (fun r_17 u H locs hw hP hD hS => ?_)
                obtain rfl : (r_17 = nI (dp mSo (q - 1))) := hw
                have hP : va_P (dC, dI) classes [(a_mod, .inr (6, [.ref a_mkind, .ref a_mwidth, .ref a_mreset, .ref a_mop, .ref a_mka, .ref a_mkb, .ref a_mkc, .ref a_mheld, .int (nI mN), .ref a_msort, .ref a_mof, .ref a_mfrom, .int (nI mMs), .ref a_mbit, .ref a_mdone, .ref a_mrests, .ref a_mxx, .ref a_myy, .ref a_mdepth, .ref a_mone, .int (nI mG), .int (nI mCk), .int mFw, .int (nI mRd), .ref a_mbefore, .ref a_mfirst, .ref a_mturned])), (a_mkind, .inl (cI, 14, .inl (nF mKd))), (a_mop, .inl (cI, 14, .inl mOp)), (a_mka, .inl (cI, 14, .inl mAa)), (a_mkb, .inl (cI, 14, .inl mAb)), (a_mkc, .inl (cI, 14, .inl mAc)), (a_msort, .inl (cI, 20, .inl (nF mSo))), (a_mof, .inl (cI, 20, .inl mOf)), (a_mfrom, .inl (cI, 20, .inl mFr)), (a_mrests, .inl (cZ, 196, .inl (nF R4)))] H := hP
                have hD : va_D A [(a_mod, .inr (6, [.ref a_mkind, .ref a_mwidth, .ref a_mreset, .ref a_mop, .ref a_mka, .ref a_mkb, .ref a_mkc, .ref a_mheld, .int (nI mN), .ref a_msort, .ref a_mof, .ref a_mfrom, .int (nI mMs), .ref a_mbit, .ref a_mdone, .ref a_mrests, .ref a_mxx, .ref a_myy, .ref a_mdepth, .ref a_mone, .int (nI mG), .int (nI mCk), .int mFw, .int (nI mRd), .ref a_mbefore, .ref a_mfirst, .ref a_mturned])), (a_mkind, .inl (cI, 14, .inl (nF mKd))), (a_mop, .inl (cI, 14, .inl mOp)), (a_mka, .inl (cI, 14, .inl mAa)), (a_mkb, .inl (cI, 14, .inl mAb)), (a_mkc, .inl (cI, 14, .inl mAc)), (a_msort, .inl (cI, 20, .inl (nF mSo))), (a_mof, .inl (cI, 20, .inl mOf)), (a_mfrom, .inl (cI, 20, .inl mFr)), (a_mrests, .inl (cZ, 196, .inl (nF R4)))] := hD
                refine lv_iload_n hx hb d_Mod_rest_232 rfl (lv_at hl 1 rfl) ?_
                refine lv_iconst (v := nI 1) hx hb d_Mod_rest_233 rfl ?_
                refine lv_isub hx hb d_Mod_rest_234 ?_
                refine lv_icmp_eq (tgt := 241) hx hb d_Mod_rest_235 (by decide) (fun c235 => ?_) (fun c235 => ?_)
                · skip
                  have c235 : ((dp mSo (q - 1) : Nat) : Int) = ((nI o) - (nI 1)).toInt := (ri_eq (nI_toInt (show _ < 2 ^ 31 by omega)) rfl).mp c235
                  rw [jj_ti (by omega)] at c235
                  have ho1 : o = dp mSo (q - 1) + 1 := by omega
                  have hof2 := hOf (q - 1) (by omega) (Or.inr c224)
                  have hSu2 := hof2.2
                  refine lv_aload_n hx hb d_Mod_rest_241 rfl (lv_at hl 3 rfl) ?_
                  refine va_get (D := (dC, dI)) (ci := 6) (v := .ref a_mrests) (C := R_Mod) (T := F_Mod) (N := 27) hx hb hts (wi i_Mod) hown hK hP 0 rfl rfl 15 (by decide) (hts _ (mt 557 rfl rfl)) (fun _ h9 => h9) rfl d_Mod_rest_242 ?_
                  refine lv_bipush (v := nI 14) hx hb d_Mod_rest_245 rfl ?_
                  refine lv_aload_n hx hb d_Mod_rest_247 rfl (lv_at hl 3 rfl) ?_
                  refine va_get (D := (dC, dI)) (ci := 6) (v := .ref a_mof) (C := R_Mod) (T := F_Mod) (N := 27) hx hb hts (wi i_Mod) hown hK hP 0 rfl rfl 10 (by decide) (hts _ (mt 552 rfl rfl)) (fun _ h9 => h9) rfl d_Mod_rest_248 ?_
                  refine lv_iload_n hx hb d_Mod_rest_251 rfl (lv_at hl 2 rfl) ?_
                  refine k_rld hx hb hK hP 7 0 rfl rfl (by omega) (by decide) d_Mod_rest_252 ?_
                  refine k_top (show mOf k = nI (Su k) from hof.1) ?_
                  refine lv_imul hx hb d_Mod_rest_253 ?_
                  refine k_top (pk_mul _ _) ?_
                  refine lv_aload_n hx hb d_Mod_rest_254 rfl (lv_at hl 3 rfl) ?_
                  refine va_get (D := (dC, dI)) (ci := 6) (v := .ref a_mof) (C := R_Mod) (T := F_Mod) (N := 27) hx hb hts (wi i_Mod) hown hK hP 0 rfl rfl 10 (by decide) (hts _ (mt 552 rfl rfl)) (fun _ h9 => h9) rfl d_Mod_rest_255 ?_
                  refine lv_iload_n hx hb d_Mod_rest_258 rfl (lv_at hl 0 rfl) ?_
                  refine k_rld hx hb hK hP 7 0 rfl rfl (by omega) (by decide) d_Mod_rest_259 ?_
                  refine k_top (show mOf (q - 1) = nI (Su (q - 1)) from hof2.1) ?_
                  refine lv_iadd hx hb d_Mod_rest_260 ?_
                  refine k_top (nI_add _ _) ?_
                  refine lv_iconst (v := nI 1) hx hb d_Mod_rest_261 rfl ?_
                  refine k_zst hx hb hK hP hD hS 9 1 rfl rfl (by omega) (by decide) (by omega) d_Mod_rest_262 (fun H locs hP hD hS => ?_)
                  have bb_18 : ∀ j, upN R4 ((14 * (Su k)) + (Su (q - 1))) 1 j < 2 := upN_lt b_R4 (by omega)
                  have hP : va_P (dC, dI) classes [(a_mod, .inr (6, [.ref a_mkind, .ref a_mwidth, .ref a_mreset, .ref a_mop, .ref a_mka, .ref a_mkb, .ref a_mkc, .ref a_mheld, .int (nI mN), .ref a_msort, .ref a_mof, .ref a_mfrom, .int (nI mMs), .ref a_mbit, .ref a_mdone, .ref a_mrests, .ref a_mxx, .ref a_myy, .ref a_mdepth, .ref a_mone, .int (nI mG), .int (nI mCk), .int mFw, .int (nI mRd), .ref a_mbefore, .ref a_mfirst, .ref a_mturned])), (a_mkind, .inl (cI, 14, .inl (nF mKd))), (a_mop, .inl (cI, 14, .inl mOp)), (a_mka, .inl (cI, 14, .inl mAa)), (a_mkb, .inl (cI, 14, .inl mAb)), (a_mkc, .inl (cI, 14, .inl mAc)), (a_msort, .inl (cI, 20, .inl (nF mSo))), (a_mof, .inl (cI, 20, .inl mOf)), (a_mfrom, .inl (cI, 20, .inl mFr)), (a_mrests, .inl (cZ, 196, .inl (nF (upN R4 ((14 * (Su k)) + (Su (q - 1))) 1))))] H := hP
                  have hD : va_D A [(a_mod, .inr (6, [.ref a_mkind, .ref a_mwidth, .ref a_mreset, .ref a_mop, .ref a_mka, .ref a_mkb, .ref a_mkc, .ref a_mheld, .int (nI mN), .ref a_msort, .ref a_mof, .ref a_mfrom, .int (nI mMs), .ref a_mbit, .ref a_mdone, .ref a_mrests, .ref a_mxx, .ref a_myy, .ref a_mdepth, .ref a_mone, .int (nI mG), .int (nI mCk), .int mFw, .int (nI mRd), .ref a_mbefore, .ref a_mfirst, .ref a_mturned])), (a_mkind, .inl (cI, 14, .inl (nF mKd))), (a_mop, .inl (cI, 14, .inl mOp)), (a_mka, .inl (cI, 14, .inl mAa)), (a_mkb, .inl (cI, 14, .inl mAb)), (a_mkc, .inl (cI, 14, .inl mAc)), (a_msort, .inl (cI, 20, .inl (nF mSo))), (a_mof, .inl (cI, 20, .inl mOf)), (a_mfrom, .inl (cI, 20, .inl mFr)), (a_mrests, .inl (cZ, 196, .inl (nF (upN R4 ((14 * (Su k)) + (Su (q - 1))) 1))))] := hD
                  refine lv_iinc (v := nI (o - 1)) (lv' := [(2, .int (nI (o - 1))), (3, .int (nI (q - 1))), (1, .int (nI k)), (0, .ref a_mod)]) hx hb d_Mod_rest_263 hl (k := 1) rfl (k_dec (by omega)) (by decide) rfl (fun ls hl => ?_)
                  refine lv_iinc (v := nI (q - 1) + Int32.ofInt (-1)) (lv' := [(3, .int (nI (q - 1) + Int32.ofInt (-1))), (2, .int (nI (o - 1))), (1, .int (nI k)), (0, .ref a_mod)]) hx hb d_Mod_rest_266 hl (k := 1) rfl (rfl) (by decide) rfl (fun ls hl => ?_)
                  refine lv_goto (tgt := 213) hx hb d_Mod_rest_269 (by decide) ?_
                  have hI_19 : (∀ j, (upN R4 ((14 * (Su k)) + (Su (q - 1))) 1) j < 2) ∧ ((nI (q - 1) + Int32.ofInt (-1)) = nI (q - 1) - nI 1) ∧ ((q - 1) ≤ k) ∧ ((o - 1) ≤ dp mSo (q - 1)) ∧ (∀ t, bt (arM mSo Su k (dp mSo k)) t = 1 ↔ bt (arM mSo Su (q - 1) (o - 1)) t = 1 ∨ bt (C ||| 2 ^ Su (q - 1)) t = 1) ∧ (TB (upN R4 ((14 * (Su k)) + (Su (q - 1))) 1) (fun z t => (z < mN ∧ bt (raM (raB mKd Op Aa Ab Ac) mKd mSo Su Sr k z) t = 1) ∨ (z = Su k ∧ (t = Sr k ∨ bt (C ||| 2 ^ Su (q - 1)) t = 1)))) := ⟨bb_18, (jj_m1 _), (by omega), (by omega), (fun t => by have h1 := hAr t; have h2 := arM_bt (Su := Su) (t := t) c224 ho1; rw [show q - 1 + 1 = q by omega] at h2; have h3 := bt_o1 C (Su (q - 1)) t; omega), (TB_up hR4 (by omega) (by omega) (fun z t _ _ => by have h3 := bt_o1 C (Su (q - 1)) t; omega))⟩
                  exact ih_13 (o - 1, nI (q - 1) + Int32.ofInt (-1), q - 1, C ||| 2 ^ Su (q - 1), upN R4 ((14 * (Su k)) + (Su (q - 1))) 1) hI_19 (show (q - 1) < q from by omega) _ _ _ hP hD hS (lv_sub hl [0, 1, 2, 3] rfl)
                · skip
                  have c235 : ¬ (((dp mSo (q - 1) : Nat) : Int) = ((nI o) - (nI 1)).toInt) := fun h => c235 ((ri_eq (nI_toInt (show _ < 2 ^ 31 by omega)) rfl).mpr h)
                  rw [jj_ti (by omega)] at c235
                  have hba := back_ar (So := mSo) (Su := Su) (k := q - 1) (N := o) (by rw [show q - 1 + 1 = q by omega]; exact ho) (fun h => by omega)
                  rw [show q - 1 + 1 = q by omega] at hba
                  refine lv_goto (tgt := 266) hx hb d_Mod_rest_238 (by decide) ?_
                  refine lv_iinc (v := nI (q - 1) + Int32.ofInt (-1)) (lv' := [(3, .int (nI (q - 1) + Int32.ofInt (-1))), (2, .int (nI o)), (1, .int (nI k)), (0, .ref a_mod)]) hx hb d_Mod_rest_266 hl (k := 0) rfl (rfl) (by decide) rfl (fun ls hl => ?_)
                  refine lv_goto (tgt := 213) hx hb d_Mod_rest_269 (by decide) ?_
                  have hI_20 : (∀ j, R4 j < 2) ∧ ((nI (q - 1) + Int32.ofInt (-1)) = nI (q - 1) - nI 1) ∧ ((q - 1) ≤ k) ∧ (o ≤ dp mSo (q - 1)) ∧ (∀ t, bt (arM mSo Su k (dp mSo k)) t = 1 ↔ bt (arM mSo Su (q - 1) o) t = 1 ∨ bt C t = 1) ∧ (TB R4 (fun z t => (z < mN ∧ bt (raM (raB mKd Op Aa Ab Ac) mKd mSo Su Sr k z) t = 1) ∨ (z = Su k ∧ (t = Sr k ∨ bt C t = 1)))) := ⟨b_R4, (jj_m1 _), (by omega), hba.1, (fun t => by rw [← hba.2]; exact hAr t), hR4⟩
                  exact ih_13 (o, nI (q - 1) + Int32.ofInt (-1), q - 1, C, R4) hI_20 (show (q - 1) < q from by omega) _ _ _ hP hD hS (lv_sub hl [0, 1, 2, 3] rfl)
          · skip
            have c175 : ¬ ((mKd (Su k)) = 1) := fun h => c175 ((nI_eq (by omega) (by omega)).mpr h)
            refine lv_goto (tgt := 272) hx hb d_Mod_rest_178 (by decide) ?_
            refine lv_iinc (v := nI (k + 1)) (lv' := [(1, .int (nI (k + 1))), (0, .ref a_mod)]) hx hb d_Mod_rest_272 hl (k := 0) rfl (k_inc _ 1) (by decide) rfl (fun ls hl => ?_)
            refine lv_goto (tgt := 146) hx hb d_Mod_rest_275 (by decide) ?_
            have hI_21 : (∀ j, R3 j < 2) ∧ (TB R3 (fun z t => z < mN ∧ bt (raM (raB mKd Op Aa Ab Ac) mKd mSo Su Sr (k + 1) z) t = 1)) ∧ ((k + 1) ≤ mMs) := ⟨b_R3, (TB_congr hR3 (fun z t _ _ => by rw [raM_n (by omega)])), (by omega)⟩
            exact ih_6 (k + 1, R3) hI_21 (show mMs - (k + 1) < mMs - k from by omega) _ _ _ hP hD hS (lv_sub hl [0, 1] rfl)
    · skip
      have c29 : ¬ (mN ≤ z1) := fun h => c29 ((nI_leI (by omega) (by omega)).mpr h)
      refine lv_aload_n hx hb d_Mod_rest_32 rfl (lv_at hl 1 rfl) ?_
      refine va_get (D := (dC, dI)) (ci := 6) (v := .ref a_mkind) (C := R_Mod) (T := F_Mod) (N := 27) hx hb hts (wi i_Mod) hown hK hP 0 rfl rfl 0 (by decide) (hts _ (mt 542 rfl rfl)) (fun _ h9 => h9) rfl d_Mod_rest_33 ?_
      refine lv_iload_n hx hb d_Mod_rest_36 rfl (lv_at hl 0 rfl) ?_
      refine k_ild hx hb hK hP 1 0 rfl rfl (by omega) (by decide) d_Mod_rest_37 ?_
      have hb_22 := b_mKd z1
      refine lv_iconst (v := nI 3) hx hb d_Mod_rest_38 rfl ?_
      refine lv_icmp_ne (tgt := 138) hx hb d_Mod_rest_39 (by decide) (fun c39 => ?_) (fun c39 => ?_)
      · skip
        have c39 : ¬ ((mKd z1) = 3) := fun h => c39 ((nI_eq (by omega) (by omega)).mpr h)
        refine lv_iinc (v := nI (z1 + 1)) (lv' := [(1, .int (nI (z1 + 1))), (0, .ref a_mod)]) hx hb d_Mod_rest_138 hl (k := 0) rfl (k_inc _ 1) (by decide) rfl (fun ls hl => ?_)
        refine lv_goto (tgt := 24) hx hb d_Mod_rest_141 (by decide) ?_
        have hI_23 : (∀ j, R2 j < 2) ∧ (TB R2 (fun z t => z < (z1 + 1) ∧ bt (raB mKd Op Aa Ab Ac z) t = 1)) ∧ ((z1 + 1) ≤ mN) := ⟨b_R2, (TB_congr hR2 (fun z t _ _ => by by_cases e : z = z1; (have := raB_n (Op := Op) (Aa := Aa) (Ab := Ab) (Ac := Ac) c39 t; subst e; omega); omega)), (by omega)⟩
        exact ih_4 (z1 + 1, R2) hI_23 (show mN - (z1 + 1) < mN - z1 from by omega) _ _ _ hP hD hS (lv_sub hl [0, 1] rfl)
      · skip
        have c39 : (mKd z1) = 3 := (nI_eq (by omega) (by omega)).mp c39
        have hms := hMS z1 (by omega) c39
        have ha2 := ha1 z1 (by omega) c39
        have hob := hms.2.1
        refine lv_aload_n hx hb d_Mod_rest_42 rfl (lv_at hl 1 rfl) ?_
        refine va_get (D := (dC, dI)) (ci := 6) (v := .ref a_mop) (C := R_Mod) (T := F_Mod) (N := 27) hx hb hts (wi i_Mod) hown hK hP 0 rfl rfl 3 (by decide) (hts _ (mt 545 rfl rfl)) (fun _ h9 => h9) rfl d_Mod_rest_43 ?_
        refine lv_iload_n hx hb d_Mod_rest_46 rfl (lv_at hl 0 rfl) ?_
        refine k_rld hx hb hK hP 2 0 rfl rfl (by omega) (by decide) d_Mod_rest_47 ?_
        refine k_top (show mOp z1 = nI (Op z1) from hms.1) ?_
        refine lv_bipush (v := nI 11) hx hb d_Mod_rest_48 rfl ?_
        refine lv_icmp_ne (tgt := 56) hx hb d_Mod_rest_50 (by decide) (fun c50 => ?_) (fun c50 => ?_)
        · skip
          have c50 : ¬ ((Op z1) = 11) := fun h => c50 ((nI_eq (by omega) (by omega)).mpr h)
          have ht1 := tab_10 (o := Op z1) (by omega)
          have hx14 := ix_lt (ha2.1 ht1)
          have ex : mAa z1 = nI (ix (Aa z1)) := by obtain ⟨X, h1, h2⟩ := ha2.1 ht1; rw [hms.2.2.1, ix_of h2 (by omega), h2]
          refine lv_aload_n hx hb d_Mod_rest_56 rfl (lv_at hl 1 rfl) ?_
          refine va_get (D := (dC, dI)) (ci := 6) (v := .ref a_mrests) (C := R_Mod) (T := F_Mod) (N := 27) hx hb hts (wi i_Mod) hown hK hP 0 rfl rfl 15 (by decide) (hts _ (mt 557 rfl rfl)) (fun _ h9 => h9) rfl d_Mod_rest_57 ?_
          refine lv_bipush (v := nI 14) hx hb d_Mod_rest_60 rfl ?_
          refine lv_iload_n hx hb d_Mod_rest_62 rfl (lv_at hl 0 rfl) ?_
          refine lv_imul hx hb d_Mod_rest_63 ?_
          refine k_top (pk_mul _ _) ?_
          refine lv_aload_n hx hb d_Mod_rest_64 rfl (lv_at hl 1 rfl) ?_
          refine va_get (D := (dC, dI)) (ci := 6) (v := .ref a_mka) (C := R_Mod) (T := F_Mod) (N := 27) hx hb hts (wi i_Mod) hown hK hP 0 rfl rfl 4 (by decide) (hts _ (mt 546 rfl rfl)) (fun _ h9 => h9) rfl d_Mod_rest_65 ?_
          refine lv_iload_n hx hb d_Mod_rest_68 rfl (lv_at hl 0 rfl) ?_
          refine k_rld hx hb hK hP 3 0 rfl rfl (by omega) (by decide) d_Mod_rest_69 ?_
          refine k_top (show mAa z1 = nI (ix (Aa z1)) from ex) ?_
          refine lv_iadd hx hb d_Mod_rest_70 ?_
          refine k_top (nI_add _ _) ?_
          refine lv_iconst (v := nI 1) hx hb d_Mod_rest_71 rfl ?_
          refine k_zst hx hb hK hP hD hS 9 1 rfl rfl (by omega) (by decide) (by omega) d_Mod_rest_72 (fun H locs hP hD hS => ?_)
          have bb_24 : ∀ j, upN R2 ((14 * z1) + (ix (Aa z1))) 1 j < 2 := upN_lt b_R2 (by omega)
          have hP : va_P (dC, dI) classes [(a_mod, .inr (6, [.ref a_mkind, .ref a_mwidth, .ref a_mreset, .ref a_mop, .ref a_mka, .ref a_mkb, .ref a_mkc, .ref a_mheld, .int (nI mN), .ref a_msort, .ref a_mof, .ref a_mfrom, .int (nI mMs), .ref a_mbit, .ref a_mdone, .ref a_mrests, .ref a_mxx, .ref a_myy, .ref a_mdepth, .ref a_mone, .int (nI mG), .int (nI mCk), .int mFw, .int (nI mRd), .ref a_mbefore, .ref a_mfirst, .ref a_mturned])), (a_mkind, .inl (cI, 14, .inl (nF mKd))), (a_mop, .inl (cI, 14, .inl mOp)), (a_mka, .inl (cI, 14, .inl mAa)), (a_mkb, .inl (cI, 14, .inl mAb)), (a_mkc, .inl (cI, 14, .inl mAc)), (a_msort, .inl (cI, 20, .inl (nF mSo))), (a_mof, .inl (cI, 20, .inl mOf)), (a_mfrom, .inl (cI, 20, .inl mFr)), (a_mrests, .inl (cZ, 196, .inl (nF (upN R2 ((14 * z1) + (ix (Aa z1))) 1))))] H := hP
          have hD : va_D A [(a_mod, .inr (6, [.ref a_mkind, .ref a_mwidth, .ref a_mreset, .ref a_mop, .ref a_mka, .ref a_mkb, .ref a_mkc, .ref a_mheld, .int (nI mN), .ref a_msort, .ref a_mof, .ref a_mfrom, .int (nI mMs), .ref a_mbit, .ref a_mdone, .ref a_mrests, .ref a_mxx, .ref a_myy, .ref a_mdepth, .ref a_mone, .int (nI mG), .int (nI mCk), .int mFw, .int (nI mRd), .ref a_mbefore, .ref a_mfirst, .ref a_mturned])), (a_mkind, .inl (cI, 14, .inl (nF mKd))), (a_mop, .inl (cI, 14, .inl mOp)), (a_mka, .inl (cI, 14, .inl mAa)), (a_mkb, .inl (cI, 14, .inl mAb)), (a_mkc, .inl (cI, 14, .inl mAc)), (a_msort, .inl (cI, 20, .inl (nF mSo))), (a_mof, .inl (cI, 20, .inl mOf)), (a_mfrom, .inl (cI, 20, .inl mFr)), (a_mrests, .inl (cZ, 196, .inl (nF (upN R2 ((14 * z1) + (ix (Aa z1))) 1))))] := hD
          have t1 : TB (upN R2 ((14 * z1) + (ix (Aa z1))) 1) (fun z t => (z < z1 ∧ bt (raB mKd Op Aa Ab Ac z) t = 1) ∨ (z = z1 ∧ t = ix (Aa z1))) := TB_up hR2 (by omega) hx14 (fun z t _ _ => Iff.rfl)
          refine lv_aload_n hx hb d_Mod_rest_73 rfl (lv_at hl 1 rfl) ?_
          refine va_get (D := (dC, dI)) (ci := 6) (v := .ref a_mop) (C := R_Mod) (T := F_Mod) (N := 27) hx hb hts (wi i_Mod) hown hK hP 0 rfl rfl 3 (by decide) (hts _ (mt 545 rfl rfl)) (fun _ h9 => h9) rfl d_Mod_rest_74 ?_
          refine lv_iload_n hx hb d_Mod_rest_77 rfl (lv_at hl 0 rfl) ?_
          refine k_rld hx hb hK hP 2 0 rfl rfl (by omega) (by decide) d_Mod_rest_78 ?_
          refine k_top (show mOp z1 = nI (Op z1) from hms.1) ?_
          refine lv_if_eq (tgt := 110) hx hb d_Mod_rest_79 (by decide) (fun c79 => ?_) (fun c79 => ?_)
          · skip
            have c79 : (Op z1) = 0 := (nI_eq0 (by omega)).mp c79
            have t2 : TB (upN R2 ((14 * z1) + (ix (Aa z1))) 1) (fun z t => (z < z1 ∧ bt (raB mKd Op Aa Ab Ac z) t = 1) ∨ (z = z1 ∧ (t = ix (Aa z1) ∨ (2 ≤ tab (Op z1) ∧ t = ix (Ab z1))))) := by
              first
                | exact TB_up t1 (by omega) hy14 (fun z t _ _ => by omega)
                | (have hn2 : tab (Op z1) = 1 := (by first | (rw [c79]; rfl) | (rw [c90]; rfl)); exact TB_congr t1 (fun z t _ _ => by omega))
            refine lv_aload_n hx hb d_Mod_rest_110 rfl (lv_at hl 1 rfl) ?_
            refine va_get (D := (dC, dI)) (ci := 6) (v := .ref a_mop) (C := R_Mod) (T := F_Mod) (N := 27) hx hb hts (wi i_Mod) hown hK hP 0 rfl rfl 3 (by decide) (hts _ (mt 545 rfl rfl)) (fun _ h9 => h9) rfl d_Mod_rest_111 ?_
            refine lv_iload_n hx hb d_Mod_rest_114 rfl (lv_at hl 0 rfl) ?_
            refine k_rld hx hb hK hP 2 0 rfl rfl (by omega) (by decide) d_Mod_rest_115 ?_
            refine k_top (show mOp z1 = nI (Op z1) from hms.1) ?_
            refine lv_bipush (v := nI 10) hx hb d_Mod_rest_116 rfl ?_
            refine lv_icmp_ne (tgt := 138) hx hb d_Mod_rest_118 (by decide) (fun c118 => ?_) (fun c118 => ?_)
            · skip
              have c118 : ¬ ((Op z1) = 10) := fun h => c118 ((nI_eq (by omega) (by omega)).mpr h)
              refine lv_iinc (v := nI (z1 + 1)) (lv' := [(1, .int (nI (z1 + 1))), (0, .ref a_mod)]) hx hb d_Mod_rest_138 hl (k := 0) rfl (k_inc _ 1) (by decide) rfl (fun ls hl => ?_)
              refine lv_goto (tgt := 24) hx hb d_Mod_rest_141 (by decide) ?_
              have hI_25 : (∀ j, (upN R2 ((14 * z1) + (ix (Aa z1))) 1) j < 2) ∧ (TB (upN R2 ((14 * z1) + (ix (Aa z1))) 1) (fun z t => z < (z1 + 1) ∧ bt (raB mKd Op Aa Ab Ac z) t = 1)) ∧ ((z1 + 1) ≤ mN) := ⟨bb_24, (by have t3 : TB (upN R2 ((14 * z1) + (ix (Aa z1))) 1) (fun z t => (z < z1 ∧ bt (raB mKd Op Aa Ab Ac z) t = 1) ∨ (z = z1 ∧ (t = ix (Aa z1) ∨ (2 ≤ tab (Op z1) ∧ t = ix (Ab z1)) ∨ (3 ≤ tab (Op z1) ∧ t = ix (Ac z1))))) := (by have h3 := tab_3 hob c118; exact TB_congr t2 (fun z t _ _ => by omega)); exact TB_congr t3 (fun z t _ _ => by by_cases e : z = z1; (have := raB_3 (Op := Op) (Aa := Aa) (Ab := Ab) (Ac := Ac) c39 t; subst e; omega); omega)), (by omega)⟩
              exact ih_4 (z1 + 1, upN R2 ((14 * z1) + (ix (Aa z1))) 1) hI_25 (show mN - (z1 + 1) < mN - z1 from by omega) _ _ _ hP hD hS (lv_sub hl [0, 1] rfl)
            · skip
              have c118 : (Op z1) = 10 := (nI_eq (by omega) (by omega)).mp c118
              have ht3 : tab (Op z1) = 3 := (by rw [c118]; rfl)
              have hz14 := ix_lt (ha2.2.2 (by omega))
              have ez : mAc z1 = nI (ix (Ac z1)) := by obtain ⟨X, h1, h2⟩ := ha2.2.2 (by omega); rw [hms.2.2.2.2, ix_of h2 (by omega), h2]
              refine lv_aload_n hx hb d_Mod_rest_121 rfl (lv_at hl 1 rfl) ?_
              refine va_get (D := (dC, dI)) (ci := 6) (v := .ref a_mrests) (C := R_Mod) (T := F_Mod) (N := 27) hx hb hts (wi i_Mod) hown hK hP 0 rfl rfl 15 (by decide) (hts _ (mt 557 rfl rfl)) (fun _ h9 => h9) rfl d_Mod_rest_122 ?_
              refine lv_bipush (v := nI 14) hx hb d_Mod_rest_125 rfl ?_
              refine lv_iload_n hx hb d_Mod_rest_127 rfl (lv_at hl 0 rfl) ?_
              refine lv_imul hx hb d_Mod_rest_128 ?_
              refine k_top (pk_mul _ _) ?_
              refine lv_aload_n hx hb d_Mod_rest_129 rfl (lv_at hl 1 rfl) ?_
              refine va_get (D := (dC, dI)) (ci := 6) (v := .ref a_mkc) (C := R_Mod) (T := F_Mod) (N := 27) hx hb hts (wi i_Mod) hown hK hP 0 rfl rfl 6 (by decide) (hts _ (mt 548 rfl rfl)) (fun _ h9 => h9) rfl d_Mod_rest_130 ?_
              refine lv_iload_n hx hb d_Mod_rest_133 rfl (lv_at hl 0 rfl) ?_
              refine k_rld hx hb hK hP 5 0 rfl rfl (by omega) (by decide) d_Mod_rest_134 ?_
              refine k_top (show mAc z1 = nI (ix (Ac z1)) from ez) ?_
              refine lv_iadd hx hb d_Mod_rest_135 ?_
              refine k_top (nI_add _ _) ?_
              refine lv_iconst (v := nI 1) hx hb d_Mod_rest_136 rfl ?_
              refine k_zst hx hb hK hP hD hS 9 1 rfl rfl (by omega) (by decide) (by omega) d_Mod_rest_137 (fun H locs hP hD hS => ?_)
              have bb_26 : ∀ j, upN (upN R2 ((14 * z1) + (ix (Aa z1))) 1) ((14 * z1) + (ix (Ac z1))) 1 j < 2 := upN_lt bb_24 (by omega)
              have hP : va_P (dC, dI) classes [(a_mod, .inr (6, [.ref a_mkind, .ref a_mwidth, .ref a_mreset, .ref a_mop, .ref a_mka, .ref a_mkb, .ref a_mkc, .ref a_mheld, .int (nI mN), .ref a_msort, .ref a_mof, .ref a_mfrom, .int (nI mMs), .ref a_mbit, .ref a_mdone, .ref a_mrests, .ref a_mxx, .ref a_myy, .ref a_mdepth, .ref a_mone, .int (nI mG), .int (nI mCk), .int mFw, .int (nI mRd), .ref a_mbefore, .ref a_mfirst, .ref a_mturned])), (a_mkind, .inl (cI, 14, .inl (nF mKd))), (a_mop, .inl (cI, 14, .inl mOp)), (a_mka, .inl (cI, 14, .inl mAa)), (a_mkb, .inl (cI, 14, .inl mAb)), (a_mkc, .inl (cI, 14, .inl mAc)), (a_msort, .inl (cI, 20, .inl (nF mSo))), (a_mof, .inl (cI, 20, .inl mOf)), (a_mfrom, .inl (cI, 20, .inl mFr)), (a_mrests, .inl (cZ, 196, .inl (nF (upN (upN R2 ((14 * z1) + (ix (Aa z1))) 1) ((14 * z1) + (ix (Ac z1))) 1))))] H := hP
              have hD : va_D A [(a_mod, .inr (6, [.ref a_mkind, .ref a_mwidth, .ref a_mreset, .ref a_mop, .ref a_mka, .ref a_mkb, .ref a_mkc, .ref a_mheld, .int (nI mN), .ref a_msort, .ref a_mof, .ref a_mfrom, .int (nI mMs), .ref a_mbit, .ref a_mdone, .ref a_mrests, .ref a_mxx, .ref a_myy, .ref a_mdepth, .ref a_mone, .int (nI mG), .int (nI mCk), .int mFw, .int (nI mRd), .ref a_mbefore, .ref a_mfirst, .ref a_mturned])), (a_mkind, .inl (cI, 14, .inl (nF mKd))), (a_mop, .inl (cI, 14, .inl mOp)), (a_mka, .inl (cI, 14, .inl mAa)), (a_mkb, .inl (cI, 14, .inl mAb)), (a_mkc, .inl (cI, 14, .inl mAc)), (a_msort, .inl (cI, 20, .inl (nF mSo))), (a_mof, .inl (cI, 20, .inl mOf)), (a_mfrom, .inl (cI, 20, .inl mFr)), (a_mrests, .inl (cZ, 196, .inl (nF (upN (upN R2 ((14 * z1) + (ix (Aa z1))) 1) ((14 * z1) + (ix (Ac z1))) 1))))] := hD
              refine lv_iinc (v := nI (z1 + 1)) (lv' := [(1, .int (nI (z1 + 1))), (0, .ref a_mod)]) hx hb d_Mod_rest_138 hl (k := 0) rfl (k_inc _ 1) (by decide) rfl (fun ls hl => ?_)
              refine lv_goto (tgt := 24) hx hb d_Mod_rest_141 (by decide) ?_
              have hI_27 : (∀ j, (upN (upN R2 ((14 * z1) + (ix (Aa z1))) 1) ((14 * z1) + (ix (Ac z1))) 1) j < 2) ∧ (TB (upN (upN R2 ((14 * z1) + (ix (Aa z1))) 1) ((14 * z1) + (ix (Ac z1))) 1) (fun z t => z < (z1 + 1) ∧ bt (raB mKd Op Aa Ab Ac z) t = 1)) ∧ ((z1 + 1) ≤ mN) := ⟨bb_26, (by have t3 : TB (upN (upN R2 ((14 * z1) + (ix (Aa z1))) 1) ((14 * z1) + (ix (Ac z1))) 1) (fun z t => (z < z1 ∧ bt (raB mKd Op Aa Ab Ac z) t = 1) ∨ (z = z1 ∧ (t = ix (Aa z1) ∨ (2 ≤ tab (Op z1) ∧ t = ix (Ab z1)) ∨ (3 ≤ tab (Op z1) ∧ t = ix (Ac z1))))) := (by exact TB_up t2 (by omega) hz14 (fun z t _ _ => by omega)); exact TB_congr t3 (fun z t _ _ => by by_cases e : z = z1; (have := raB_3 (Op := Op) (Aa := Aa) (Ab := Ab) (Ac := Ac) c39 t; subst e; omega); omega)), (by omega)⟩
              exact ih_4 (z1 + 1, upN (upN R2 ((14 * z1) + (ix (Aa z1))) 1) ((14 * z1) + (ix (Ac z1))) 1) hI_27 (show mN - (z1 + 1) < mN - z1 from by omega) _ _ _ hP hD hS (lv_sub hl [0, 1] rfl)
          · skip
            have c79 : ¬ ((Op z1) = 0) := fun h => c79 ((nI_eq0 (by omega)).mpr h)
            refine lv_aload_n hx hb d_Mod_rest_82 rfl (lv_at hl 1 rfl) ?_
            refine va_get (D := (dC, dI)) (ci := 6) (v := .ref a_mop) (C := R_Mod) (T := F_Mod) (N := 27) hx hb hts (wi i_Mod) hown hK hP 0 rfl rfl 3 (by decide) (hts _ (mt 545 rfl rfl)) (fun _ h9 => h9) rfl d_Mod_rest_83 ?_
            refine lv_iload_n hx hb d_Mod_rest_86 rfl (lv_at hl 0 rfl) ?_
            refine k_rld hx hb hK hP 2 0 rfl rfl (by omega) (by decide) d_Mod_rest_87 ?_
            refine k_top (show mOp z1 = nI (Op z1) from hms.1) ?_
            refine lv_bipush (v := nI 9) hx hb d_Mod_rest_88 rfl ?_
            refine lv_icmp_eq (tgt := 110) hx hb d_Mod_rest_90 (by decide) (fun c90 => ?_) (fun c90 => ?_)
            · skip
              have c90 : (Op z1) = 9 := (nI_eq (by omega) (by omega)).mp c90
              have t2 : TB (upN R2 ((14 * z1) + (ix (Aa z1))) 1) (fun z t => (z < z1 ∧ bt (raB mKd Op Aa Ab Ac z) t = 1) ∨ (z = z1 ∧ (t = ix (Aa z1) ∨ (2 ≤ tab (Op z1) ∧ t = ix (Ab z1))))) := by
                first
                  | exact TB_up t1 (by omega) hy14 (fun z t _ _ => by omega)
                  | (have hn2 : tab (Op z1) = 1 := (by first | (rw [c79]; rfl) | (rw [c90]; rfl)); exact TB_congr t1 (fun z t _ _ => by omega))
              refine lv_aload_n hx hb d_Mod_rest_110 rfl (lv_at hl 1 rfl) ?_
              refine va_get (D := (dC, dI)) (ci := 6) (v := .ref a_mop) (C := R_Mod) (T := F_Mod) (N := 27) hx hb hts (wi i_Mod) hown hK hP 0 rfl rfl 3 (by decide) (hts _ (mt 545 rfl rfl)) (fun _ h9 => h9) rfl d_Mod_rest_111 ?_
              refine lv_iload_n hx hb d_Mod_rest_114 rfl (lv_at hl 0 rfl) ?_
              refine k_rld hx hb hK hP 2 0 rfl rfl (by omega) (by decide) d_Mod_rest_115 ?_
              refine k_top (show mOp z1 = nI (Op z1) from hms.1) ?_
              refine lv_bipush (v := nI 10) hx hb d_Mod_rest_116 rfl ?_
              refine lv_icmp_ne (tgt := 138) hx hb d_Mod_rest_118 (by decide) (fun c118 => ?_) (fun c118 => ?_)
              · skip
                have c118 : ¬ ((Op z1) = 10) := fun h => c118 ((nI_eq (by omega) (by omega)).mpr h)
                refine lv_iinc (v := nI (z1 + 1)) (lv' := [(1, .int (nI (z1 + 1))), (0, .ref a_mod)]) hx hb d_Mod_rest_138 hl (k := 0) rfl (k_inc _ 1) (by decide) rfl (fun ls hl => ?_)
                refine lv_goto (tgt := 24) hx hb d_Mod_rest_141 (by decide) ?_
                have hI_28 : (∀ j, (upN R2 ((14 * z1) + (ix (Aa z1))) 1) j < 2) ∧ (TB (upN R2 ((14 * z1) + (ix (Aa z1))) 1) (fun z t => z < (z1 + 1) ∧ bt (raB mKd Op Aa Ab Ac z) t = 1)) ∧ ((z1 + 1) ≤ mN) := ⟨bb_24, (by have t3 : TB (upN R2 ((14 * z1) + (ix (Aa z1))) 1) (fun z t => (z < z1 ∧ bt (raB mKd Op Aa Ab Ac z) t = 1) ∨ (z = z1 ∧ (t = ix (Aa z1) ∨ (2 ≤ tab (Op z1) ∧ t = ix (Ab z1)) ∨ (3 ≤ tab (Op z1) ∧ t = ix (Ac z1))))) := (by have h3 := tab_3 hob c118; exact TB_congr t2 (fun z t _ _ => by omega)); exact TB_congr t3 (fun z t _ _ => by by_cases e : z = z1; (have := raB_3 (Op := Op) (Aa := Aa) (Ab := Ab) (Ac := Ac) c39 t; subst e; omega); omega)), (by omega)⟩
                exact ih_4 (z1 + 1, upN R2 ((14 * z1) + (ix (Aa z1))) 1) hI_28 (show mN - (z1 + 1) < mN - z1 from by omega) _ _ _ hP hD hS (lv_sub hl [0, 1] rfl)
              · skip
                have c118 : (Op z1) = 10 := (nI_eq (by omega) (by omega)).mp c118
                have ht3 : tab (Op z1) = 3 := (by rw [c118]; rfl)
                have hz14 := ix_lt (ha2.2.2 (by omega))
                have ez : mAc z1 = nI (ix (Ac z1)) := by obtain ⟨X, h1, h2⟩ := ha2.2.2 (by omega); rw [hms.2.2.2.2, ix_of h2 (by omega), h2]
                refine lv_aload_n hx hb d_Mod_rest_121 rfl (lv_at hl 1 rfl) ?_
                refine va_get (D := (dC, dI)) (ci := 6) (v := .ref a_mrests) (C := R_Mod) (T := F_Mod) (N := 27) hx hb hts (wi i_Mod) hown hK hP 0 rfl rfl 15 (by decide) (hts _ (mt 557 rfl rfl)) (fun _ h9 => h9) rfl d_Mod_rest_122 ?_
                refine lv_bipush (v := nI 14) hx hb d_Mod_rest_125 rfl ?_
                refine lv_iload_n hx hb d_Mod_rest_127 rfl (lv_at hl 0 rfl) ?_
                refine lv_imul hx hb d_Mod_rest_128 ?_
                refine k_top (pk_mul _ _) ?_
                refine lv_aload_n hx hb d_Mod_rest_129 rfl (lv_at hl 1 rfl) ?_
                refine va_get (D := (dC, dI)) (ci := 6) (v := .ref a_mkc) (C := R_Mod) (T := F_Mod) (N := 27) hx hb hts (wi i_Mod) hown hK hP 0 rfl rfl 6 (by decide) (hts _ (mt 548 rfl rfl)) (fun _ h9 => h9) rfl d_Mod_rest_130 ?_
                refine lv_iload_n hx hb d_Mod_rest_133 rfl (lv_at hl 0 rfl) ?_
                refine k_rld hx hb hK hP 5 0 rfl rfl (by omega) (by decide) d_Mod_rest_134 ?_
                refine k_top (show mAc z1 = nI (ix (Ac z1)) from ez) ?_
                refine lv_iadd hx hb d_Mod_rest_135 ?_
                refine k_top (nI_add _ _) ?_
                refine lv_iconst (v := nI 1) hx hb d_Mod_rest_136 rfl ?_
                refine k_zst hx hb hK hP hD hS 9 1 rfl rfl (by omega) (by decide) (by omega) d_Mod_rest_137 (fun H locs hP hD hS => ?_)
                have bb_29 : ∀ j, upN (upN R2 ((14 * z1) + (ix (Aa z1))) 1) ((14 * z1) + (ix (Ac z1))) 1 j < 2 := upN_lt bb_24 (by omega)
                have hP : va_P (dC, dI) classes [(a_mod, .inr (6, [.ref a_mkind, .ref a_mwidth, .ref a_mreset, .ref a_mop, .ref a_mka, .ref a_mkb, .ref a_mkc, .ref a_mheld, .int (nI mN), .ref a_msort, .ref a_mof, .ref a_mfrom, .int (nI mMs), .ref a_mbit, .ref a_mdone, .ref a_mrests, .ref a_mxx, .ref a_myy, .ref a_mdepth, .ref a_mone, .int (nI mG), .int (nI mCk), .int mFw, .int (nI mRd), .ref a_mbefore, .ref a_mfirst, .ref a_mturned])), (a_mkind, .inl (cI, 14, .inl (nF mKd))), (a_mop, .inl (cI, 14, .inl mOp)), (a_mka, .inl (cI, 14, .inl mAa)), (a_mkb, .inl (cI, 14, .inl mAb)), (a_mkc, .inl (cI, 14, .inl mAc)), (a_msort, .inl (cI, 20, .inl (nF mSo))), (a_mof, .inl (cI, 20, .inl mOf)), (a_mfrom, .inl (cI, 20, .inl mFr)), (a_mrests, .inl (cZ, 196, .inl (nF (upN (upN R2 ((14 * z1) + (ix (Aa z1))) 1) ((14 * z1) + (ix (Ac z1))) 1))))] H := hP
                have hD : va_D A [(a_mod, .inr (6, [.ref a_mkind, .ref a_mwidth, .ref a_mreset, .ref a_mop, .ref a_mka, .ref a_mkb, .ref a_mkc, .ref a_mheld, .int (nI mN), .ref a_msort, .ref a_mof, .ref a_mfrom, .int (nI mMs), .ref a_mbit, .ref a_mdone, .ref a_mrests, .ref a_mxx, .ref a_myy, .ref a_mdepth, .ref a_mone, .int (nI mG), .int (nI mCk), .int mFw, .int (nI mRd), .ref a_mbefore, .ref a_mfirst, .ref a_mturned])), (a_mkind, .inl (cI, 14, .inl (nF mKd))), (a_mop, .inl (cI, 14, .inl mOp)), (a_mka, .inl (cI, 14, .inl mAa)), (a_mkb, .inl (cI, 14, .inl mAb)), (a_mkc, .inl (cI, 14, .inl mAc)), (a_msort, .inl (cI, 20, .inl (nF mSo))), (a_mof, .inl (cI, 20, .inl mOf)), (a_mfrom, .inl (cI, 20, .inl mFr)), (a_mrests, .inl (cZ, 196, .inl (nF (upN (upN R2 ((14 * z1) + (ix (Aa z1))) 1) ((14 * z1) + (ix (Ac z1))) 1))))] := hD
                refine lv_iinc (v := nI (z1 + 1)) (lv' := [(1, .int (nI (z1 + 1))), (0, .ref a_mod)]) hx hb d_Mod_rest_138 hl (k := 0) rfl (k_inc _ 1) (by decide) rfl (fun ls hl => ?_)
                refine lv_goto (tgt := 24) hx hb d_Mod_rest_141 (by decide) ?_
                have hI_30 : (∀ j, (upN (upN R2 ((14 * z1) + (ix (Aa z1))) 1) ((14 * z1) + (ix (Ac z1))) 1) j < 2) ∧ (TB (upN (upN R2 ((14 * z1) + (ix (Aa z1))) 1) ((14 * z1) + (ix (Ac z1))) 1) (fun z t => z < (z1 + 1) ∧ bt (raB mKd Op Aa Ab Ac z) t = 1)) ∧ ((z1 + 1) ≤ mN) := ⟨bb_29, (by have t3 : TB (upN (upN R2 ((14 * z1) + (ix (Aa z1))) 1) ((14 * z1) + (ix (Ac z1))) 1) (fun z t => (z < z1 ∧ bt (raB mKd Op Aa Ab Ac z) t = 1) ∨ (z = z1 ∧ (t = ix (Aa z1) ∨ (2 ≤ tab (Op z1) ∧ t = ix (Ab z1)) ∨ (3 ≤ tab (Op z1) ∧ t = ix (Ac z1))))) := (by exact TB_up t2 (by omega) hz14 (fun z t _ _ => by omega)); exact TB_congr t3 (fun z t _ _ => by by_cases e : z = z1; (have := raB_3 (Op := Op) (Aa := Aa) (Ab := Ab) (Ac := Ac) c39 t; subst e; omega); omega)), (by omega)⟩
                exact ih_4 (z1 + 1, upN (upN R2 ((14 * z1) + (ix (Aa z1))) 1) ((14 * z1) + (ix (Ac z1))) 1) hI_30 (show mN - (z1 + 1) < mN - z1 from by omega) _ _ _ hP hD hS (lv_sub hl [0, 1] rfl)
            · skip
              have c90 : ¬ ((Op z1) = 9) := fun h => c90 ((nI_eq (by omega) (by omega)).mpr h)
              have ht2 := tab_2 (o := Op z1) (by omega) (by omega) (by omega)
              have hy14 := ix_lt (ha2.2.1 ht2)
              have ey : mAb z1 = nI (ix (Ab z1)) := by obtain ⟨X, h1, h2⟩ := ha2.2.1 ht2; rw [hms.2.2.2.1, ix_of h2 (by omega), h2]
              refine lv_aload_n hx hb d_Mod_rest_93 rfl (lv_at hl 1 rfl) ?_
              refine va_get (D := (dC, dI)) (ci := 6) (v := .ref a_mrests) (C := R_Mod) (T := F_Mod) (N := 27) hx hb hts (wi i_Mod) hown hK hP 0 rfl rfl 15 (by decide) (hts _ (mt 557 rfl rfl)) (fun _ h9 => h9) rfl d_Mod_rest_94 ?_
              refine lv_bipush (v := nI 14) hx hb d_Mod_rest_97 rfl ?_
              refine lv_iload_n hx hb d_Mod_rest_99 rfl (lv_at hl 0 rfl) ?_
              refine lv_imul hx hb d_Mod_rest_100 ?_
              refine k_top (pk_mul _ _) ?_
              refine lv_aload_n hx hb d_Mod_rest_101 rfl (lv_at hl 1 rfl) ?_
              refine va_get (D := (dC, dI)) (ci := 6) (v := .ref a_mkb) (C := R_Mod) (T := F_Mod) (N := 27) hx hb hts (wi i_Mod) hown hK hP 0 rfl rfl 5 (by decide) (hts _ (mt 547 rfl rfl)) (fun _ h9 => h9) rfl d_Mod_rest_102 ?_
              refine lv_iload_n hx hb d_Mod_rest_105 rfl (lv_at hl 0 rfl) ?_
              refine k_rld hx hb hK hP 4 0 rfl rfl (by omega) (by decide) d_Mod_rest_106 ?_
              refine k_top (show mAb z1 = nI (ix (Ab z1)) from ey) ?_
              refine lv_iadd hx hb d_Mod_rest_107 ?_
              refine k_top (nI_add _ _) ?_
              refine lv_iconst (v := nI 1) hx hb d_Mod_rest_108 rfl ?_
              refine k_zst hx hb hK hP hD hS 9 1 rfl rfl (by omega) (by decide) (by omega) d_Mod_rest_109 (fun H locs hP hD hS => ?_)
              have bb_31 : ∀ j, upN (upN R2 ((14 * z1) + (ix (Aa z1))) 1) ((14 * z1) + (ix (Ab z1))) 1 j < 2 := upN_lt bb_24 (by omega)
              have hP : va_P (dC, dI) classes [(a_mod, .inr (6, [.ref a_mkind, .ref a_mwidth, .ref a_mreset, .ref a_mop, .ref a_mka, .ref a_mkb, .ref a_mkc, .ref a_mheld, .int (nI mN), .ref a_msort, .ref a_mof, .ref a_mfrom, .int (nI mMs), .ref a_mbit, .ref a_mdone, .ref a_mrests, .ref a_mxx, .ref a_myy, .ref a_mdepth, .ref a_mone, .int (nI mG), .int (nI mCk), .int mFw, .int (nI mRd), .ref a_mbefore, .ref a_mfirst, .ref a_mturned])), (a_mkind, .inl (cI, 14, .inl (nF mKd))), (a_mop, .inl (cI, 14, .inl mOp)), (a_mka, .inl (cI, 14, .inl mAa)), (a_mkb, .inl (cI, 14, .inl mAb)), (a_mkc, .inl (cI, 14, .inl mAc)), (a_msort, .inl (cI, 20, .inl (nF mSo))), (a_mof, .inl (cI, 20, .inl mOf)), (a_mfrom, .inl (cI, 20, .inl mFr)), (a_mrests, .inl (cZ, 196, .inl (nF (upN (upN R2 ((14 * z1) + (ix (Aa z1))) 1) ((14 * z1) + (ix (Ab z1))) 1))))] H := hP
              have hD : va_D A [(a_mod, .inr (6, [.ref a_mkind, .ref a_mwidth, .ref a_mreset, .ref a_mop, .ref a_mka, .ref a_mkb, .ref a_mkc, .ref a_mheld, .int (nI mN), .ref a_msort, .ref a_mof, .ref a_mfrom, .int (nI mMs), .ref a_mbit, .ref a_mdone, .ref a_mrests, .ref a_mxx, .ref a_myy, .ref a_mdepth, .ref a_mone, .int (nI mG), .int (nI mCk), .int mFw, .int (nI mRd), .ref a_mbefore, .ref a_mfirst, .ref a_mturned])), (a_mkind, .inl (cI, 14, .inl (nF mKd))), (a_mop, .inl (cI, 14, .inl mOp)), (a_mka, .inl (cI, 14, .inl mAa)), (a_mkb, .inl (cI, 14, .inl mAb)), (a_mkc, .inl (cI, 14, .inl mAc)), (a_msort, .inl (cI, 20, .inl (nF mSo))), (a_mof, .inl (cI, 20, .inl mOf)), (a_mfrom, .inl (cI, 20, .inl mFr)), (a_mrests, .inl (cZ, 196, .inl (nF (upN (upN R2 ((14 * z1) + (ix (Aa z1))) 1) ((14 * z1) + (ix (Ab z1))) 1))))] := hD
              have t2 : TB (upN (upN R2 ((14 * z1) + (ix (Aa z1))) 1) ((14 * z1) + (ix (Ab z1))) 1) (fun z t => (z < z1 ∧ bt (raB mKd Op Aa Ab Ac z) t = 1) ∨ (z = z1 ∧ (t = ix (Aa z1) ∨ (2 ≤ tab (Op z1) ∧ t = ix (Ab z1))))) := by
                first
                  | exact TB_up t1 (by omega) hy14 (fun z t _ _ => by omega)
                  | (have hn2 : tab (Op z1) = 1 := (by first | (rw [c79]; rfl) | (rw [c90]; rfl)); exact TB_congr t1 (fun z t _ _ => by omega))
              refine lv_aload_n hx hb d_Mod_rest_110 rfl (lv_at hl 1 rfl) ?_
              refine va_get (D := (dC, dI)) (ci := 6) (v := .ref a_mop) (C := R_Mod) (T := F_Mod) (N := 27) hx hb hts (wi i_Mod) hown hK hP 0 rfl rfl 3 (by decide) (hts _ (mt 545 rfl rfl)) (fun _ h9 => h9) rfl d_Mod_rest_111 ?_
              refine lv_iload_n hx hb d_Mod_rest_114 rfl (lv_at hl 0 rfl) ?_
              refine k_rld hx hb hK hP 2 0 rfl rfl (by omega) (by decide) d_Mod_rest_115 ?_
              refine k_top (show mOp z1 = nI (Op z1) from hms.1) ?_
              refine lv_bipush (v := nI 10) hx hb d_Mod_rest_116 rfl ?_
              refine lv_icmp_ne (tgt := 138) hx hb d_Mod_rest_118 (by decide) (fun c118 => ?_) (fun c118 => ?_)
              · skip
                have c118 : ¬ ((Op z1) = 10) := fun h => c118 ((nI_eq (by omega) (by omega)).mpr h)
                refine lv_iinc (v := nI (z1 + 1)) (lv' := [(1, .int (nI (z1 + 1))), (0, .ref a_mod)]) hx hb d_Mod_rest_138 hl (k := 0) rfl (k_inc _ 1) (by decide) rfl (fun ls hl => ?_)
                refine lv_goto (tgt := 24) hx hb d_Mod_rest_141 (by decide) ?_
                have hI_32 : (∀ j, (upN (upN R2 ((14 * z1) + (ix (Aa z1))) 1) ((14 * z1) + (ix (Ab z1))) 1) j < 2) ∧ (TB (upN (upN R2 ((14 * z1) + (ix (Aa z1))) 1) ((14 * z1) + (ix (Ab z1))) 1) (fun z t => z < (z1 + 1) ∧ bt (raB mKd Op Aa Ab Ac z) t = 1)) ∧ ((z1 + 1) ≤ mN) := ⟨bb_31, (by have t3 : TB (upN (upN R2 ((14 * z1) + (ix (Aa z1))) 1) ((14 * z1) + (ix (Ab z1))) 1) (fun z t => (z < z1 ∧ bt (raB mKd Op Aa Ab Ac z) t = 1) ∨ (z = z1 ∧ (t = ix (Aa z1) ∨ (2 ≤ tab (Op z1) ∧ t = ix (Ab z1)) ∨ (3 ≤ tab (Op z1) ∧ t = ix (Ac z1))))) := (by have h3 := tab_3 hob c118; exact TB_congr t2 (fun z t _ _ => by omega)); exact TB_congr t3 (fun z t _ _ => by by_cases e : z = z1; (have := raB_3 (Op := Op) (Aa := Aa) (Ab := Ab) (Ac := Ac) c39 t; subst e; omega); omega)), (by omega)⟩
                exact ih_4 (z1 + 1, upN (upN R2 ((14 * z1) + (ix (Aa z1))) 1) ((14 * z1) + (ix (Ab z1))) 1) hI_32 (show mN - (z1 + 1) < mN - z1 from by omega) _ _ _ hP hD hS (lv_sub hl [0, 1] rfl)
              · skip
                have c118 : (Op z1) = 10 := (nI_eq (by omega) (by omega)).mp c118
                have ht3 : tab (Op z1) = 3 := (by rw [c118]; rfl)
                have hz14 := ix_lt (ha2.2.2 (by omega))
                have ez : mAc z1 = nI (ix (Ac z1)) := by obtain ⟨X, h1, h2⟩ := ha2.2.2 (by omega); rw [hms.2.2.2.2, ix_of h2 (by omega), h2]
                refine lv_aload_n hx hb d_Mod_rest_121 rfl (lv_at hl 1 rfl) ?_
                refine va_get (D := (dC, dI)) (ci := 6) (v := .ref a_mrests) (C := R_Mod) (T := F_Mod) (N := 27) hx hb hts (wi i_Mod) hown hK hP 0 rfl rfl 15 (by decide) (hts _ (mt 557 rfl rfl)) (fun _ h9 => h9) rfl d_Mod_rest_122 ?_
                refine lv_bipush (v := nI 14) hx hb d_Mod_rest_125 rfl ?_
                refine lv_iload_n hx hb d_Mod_rest_127 rfl (lv_at hl 0 rfl) ?_
                refine lv_imul hx hb d_Mod_rest_128 ?_
                refine k_top (pk_mul _ _) ?_
                refine lv_aload_n hx hb d_Mod_rest_129 rfl (lv_at hl 1 rfl) ?_
                refine va_get (D := (dC, dI)) (ci := 6) (v := .ref a_mkc) (C := R_Mod) (T := F_Mod) (N := 27) hx hb hts (wi i_Mod) hown hK hP 0 rfl rfl 6 (by decide) (hts _ (mt 548 rfl rfl)) (fun _ h9 => h9) rfl d_Mod_rest_130 ?_
                refine lv_iload_n hx hb d_Mod_rest_133 rfl (lv_at hl 0 rfl) ?_
                refine k_rld hx hb hK hP 5 0 rfl rfl (by omega) (by decide) d_Mod_rest_134 ?_
                refine k_top (show mAc z1 = nI (ix (Ac z1)) from ez) ?_
                refine lv_iadd hx hb d_Mod_rest_135 ?_
                refine k_top (nI_add _ _) ?_
                refine lv_iconst (v := nI 1) hx hb d_Mod_rest_136 rfl ?_
                refine k_zst hx hb hK hP hD hS 9 1 rfl rfl (by omega) (by decide) (by omega) d_Mod_rest_137 (fun H locs hP hD hS => ?_)
                have bb_33 : ∀ j, upN (upN (upN R2 ((14 * z1) + (ix (Aa z1))) 1) ((14 * z1) + (ix (Ab z1))) 1) ((14 * z1) + (ix (Ac z1))) 1 j < 2 := upN_lt bb_31 (by omega)
                have hP : va_P (dC, dI) classes [(a_mod, .inr (6, [.ref a_mkind, .ref a_mwidth, .ref a_mreset, .ref a_mop, .ref a_mka, .ref a_mkb, .ref a_mkc, .ref a_mheld, .int (nI mN), .ref a_msort, .ref a_mof, .ref a_mfrom, .int (nI mMs), .ref a_mbit, .ref a_mdone, .ref a_mrests, .ref a_mxx, .ref a_myy, .ref a_mdepth, .ref a_mone, .int (nI mG), .int (nI mCk), .int mFw, .int (nI mRd), .ref a_mbefore, .ref a_mfirst, .ref a_mturned])), (a_mkind, .inl (cI, 14, .inl (nF mKd))), (a_mop, .inl (cI, 14, .inl mOp)), (a_mka, .inl (cI, 14, .inl mAa)), (a_mkb, .inl (cI, 14, .inl mAb)), (a_mkc, .inl (cI, 14, .inl mAc)), (a_msort, .inl (cI, 20, .inl (nF mSo))), (a_mof, .inl (cI, 20, .inl mOf)), (a_mfrom, .inl (cI, 20, .inl mFr)), (a_mrests, .inl (cZ, 196, .inl (nF (upN (upN (upN R2 ((14 * z1) + (ix (Aa z1))) 1) ((14 * z1) + (ix (Ab z1))) 1) ((14 * z1) + (ix (Ac z1))) 1))))] H := hP
                have hD : va_D A [(a_mod, .inr (6, [.ref a_mkind, .ref a_mwidth, .ref a_mreset, .ref a_mop, .ref a_mka, .ref a_mkb, .ref a_mkc, .ref a_mheld, .int (nI mN), .ref a_msort, .ref a_mof, .ref a_mfrom, .int (nI mMs), .ref a_mbit, .ref a_mdone, .ref a_mrests, .ref a_mxx, .ref a_myy, .ref a_mdepth, .ref a_mone, .int (nI mG), .int (nI mCk), .int mFw, .int (nI mRd), .ref a_mbefore, .ref a_mfirst, .ref a_mturned])), (a_mkind, .inl (cI, 14, .inl (nF mKd))), (a_mop, .inl (cI, 14, .inl mOp)), (a_mka, .inl (cI, 14, .inl mAa)), (a_mkb, .inl (cI, 14, .inl mAb)), (a_mkc, .inl (cI, 14, .inl mAc)), (a_msort, .inl (cI, 20, .inl (nF mSo))), (a_mof, .inl (cI, 20, .inl mOf)), (a_mfrom, .inl (cI, 20, .inl mFr)), (a_mrests, .inl (cZ, 196, .inl (nF (upN (upN (upN R2 ((14 * z1) + (ix (Aa z1))) 1) ((14 * z1) + (ix (Ab z1))) 1) ((14 * z1) + (ix (Ac z1))) 1))))] := hD
                refine lv_iinc (v := nI (z1 + 1)) (lv' := [(1, .int (nI (z1 + 1))), (0, .ref a_mod)]) hx hb d_Mod_rest_138 hl (k := 0) rfl (k_inc _ 1) (by decide) rfl (fun ls hl => ?_)
                refine lv_goto (tgt := 24) hx hb d_Mod_rest_141 (by decide) ?_
                have hI_34 : (∀ j, (upN (upN (upN R2 ((14 * z1) + (ix (Aa z1))) 1) ((14 * z1) + (ix (Ab z1))) 1) ((14 * z1) + (ix (Ac z1))) 1) j < 2) ∧ (TB (upN (upN (upN R2 ((14 * z1) + (ix (Aa z1))) 1) ((14 * z1) + (ix (Ab z1))) 1) ((14 * z1) + (ix (Ac z1))) 1) (fun z t => z < (z1 + 1) ∧ bt (raB mKd Op Aa Ab Ac z) t = 1)) ∧ ((z1 + 1) ≤ mN) := ⟨bb_33, (by have t3 : TB (upN (upN (upN R2 ((14 * z1) + (ix (Aa z1))) 1) ((14 * z1) + (ix (Ab z1))) 1) ((14 * z1) + (ix (Ac z1))) 1) (fun z t => (z < z1 ∧ bt (raB mKd Op Aa Ab Ac z) t = 1) ∨ (z = z1 ∧ (t = ix (Aa z1) ∨ (2 ≤ tab (Op z1) ∧ t = ix (Ab z1)) ∨ (3 ≤ tab (Op z1) ∧ t = ix (Ac z1))))) := (by exact TB_up t2 (by omega) hz14 (fun z t _ _ => by omega)); exact TB_congr t3 (fun z t _ _ => by by_cases e : z = z1; (have := raB_3 (Op := Op) (Aa := Aa) (Ab := Ab) (Ac := Ac) c39 t; subst e; omega); omega)), (by omega)⟩
                exact ih_4 (z1 + 1, upN (upN (upN R2 ((14 * z1) + (ix (Aa z1))) 1) ((14 * z1) + (ix (Ab z1))) 1) ((14 * z1) + (ix (Ac z1))) 1) hI_34 (show mN - (z1 + 1) < mN - z1 from by omega) _ _ _ hP hD hS (lv_sub hl [0, 1] rfl)
        · skip
          have c50 : (Op z1) = 11 := (nI_eq (by omega) (by omega)).mp c50
          refine lv_goto (tgt := 138) hx hb d_Mod_rest_53 (by decide) ?_
          refine lv_iinc (v := nI (z1 + 1)) (lv' := [(1, .int (nI (z1 + 1))), (0, .ref a_mod)]) hx hb d_Mod_rest_138 hl (k := 0) rfl (k_inc _ 1) (by decide) rfl (fun ls hl => ?_)
          refine lv_goto (tgt := 24) hx hb d_Mod_rest_141 (by decide) ?_
          have hI_35 : (∀ j, R2 j < 2) ∧ (TB R2 (fun z t => z < (z1 + 1) ∧ bt (raB mKd Op Aa Ab Ac z) t = 1)) ∧ ((z1 + 1) ≤ mN) := ⟨b_R2, (TB_congr hR2 (fun z t _ _ => by by_cases e : z = z1; (have := raB_3 (Op := Op) (Aa := Aa) (Ab := Ab) (Ac := Ac) c39 t; have h0 : tab (Op z1) = 0 := (by rw [c50]; rfl); subst e; omega); omega)), (by omega)⟩
          exact ih_4 (z1 + 1, R2) hI_35 (show mN - (z1 + 1) < mN - z1 from by omega) _ _ _ hP hD hS (lv_sub hl [0, 1] rfl)
  · skip
    have c6 : ¬ (196 ≤ i) := fun h => c6 ((nI_leI (by omega) (by omega)).mpr h)
    refine lv_aload_n hx hb d_Mod_rest_9 rfl (lv_at hl 1 rfl) ?_
    refine va_get (D := (dC, dI)) (ci := 6) (v := .ref a_mrests) (C := R_Mod) (T := F_Mod) (N := 27) hx hb hts (wi i_Mod) hown hK hP 0 rfl rfl 15 (by decide) (hts _ (mt 557 rfl rfl)) (fun _ h9 => h9) rfl d_Mod_rest_10 ?_
    refine lv_iload_n hx hb d_Mod_rest_13 rfl (lv_at hl 0 rfl) ?_
    refine lv_iconst (v := nI 0) hx hb d_Mod_rest_14 rfl ?_
    refine k_zst hx hb hK hP hD hS 9 1 rfl rfl (by omega) (by decide) (by omega) d_Mod_rest_15 (fun H locs hP hD hS => ?_)
    have bb_36 : ∀ j, upN R1 i 0 j < 2 := upN_lt b_R1 (by omega)
    have hP : va_P (dC, dI) classes [(a_mod, .inr (6, [.ref a_mkind, .ref a_mwidth, .ref a_mreset, .ref a_mop, .ref a_mka, .ref a_mkb, .ref a_mkc, .ref a_mheld, .int (nI mN), .ref a_msort, .ref a_mof, .ref a_mfrom, .int (nI mMs), .ref a_mbit, .ref a_mdone, .ref a_mrests, .ref a_mxx, .ref a_myy, .ref a_mdepth, .ref a_mone, .int (nI mG), .int (nI mCk), .int mFw, .int (nI mRd), .ref a_mbefore, .ref a_mfirst, .ref a_mturned])), (a_mkind, .inl (cI, 14, .inl (nF mKd))), (a_mop, .inl (cI, 14, .inl mOp)), (a_mka, .inl (cI, 14, .inl mAa)), (a_mkb, .inl (cI, 14, .inl mAb)), (a_mkc, .inl (cI, 14, .inl mAc)), (a_msort, .inl (cI, 20, .inl (nF mSo))), (a_mof, .inl (cI, 20, .inl mOf)), (a_mfrom, .inl (cI, 20, .inl mFr)), (a_mrests, .inl (cZ, 196, .inl (nF (upN R1 i 0))))] H := hP
    have hD : va_D A [(a_mod, .inr (6, [.ref a_mkind, .ref a_mwidth, .ref a_mreset, .ref a_mop, .ref a_mka, .ref a_mkb, .ref a_mkc, .ref a_mheld, .int (nI mN), .ref a_msort, .ref a_mof, .ref a_mfrom, .int (nI mMs), .ref a_mbit, .ref a_mdone, .ref a_mrests, .ref a_mxx, .ref a_myy, .ref a_mdepth, .ref a_mone, .int (nI mG), .int (nI mCk), .int mFw, .int (nI mRd), .ref a_mbefore, .ref a_mfirst, .ref a_mturned])), (a_mkind, .inl (cI, 14, .inl (nF mKd))), (a_mop, .inl (cI, 14, .inl mOp)), (a_mka, .inl (cI, 14, .inl mAa)), (a_mkb, .inl (cI, 14, .inl mAb)), (a_mkc, .inl (cI, 14, .inl mAc)), (a_msort, .inl (cI, 20, .inl (nF mSo))), (a_mof, .inl (cI, 20, .inl mOf)), (a_mfrom, .inl (cI, 20, .inl mFr)), (a_mrests, .inl (cZ, 196, .inl (nF (upN R1 i 0))))] := hD
    refine lv_iinc (v := nI (i + 1)) (lv' := [(1, .int (nI (i + 1))), (0, .ref a_mod)]) hx hb d_Mod_rest_16 hl (k := 0) rfl (k_inc _ 1) (by decide) rfl (fun ls hl => ?_)
    refine lv_goto (tgt := 2) hx hb d_Mod_rest_19 (by decide) ?_
    have hI_37 : (∀ j, (upN R1 i 0) j < 2) ∧ (∀ j, j < (i + 1) → (upN R1 i 0) j = 0) ∧ ((i + 1) ≤ 196) := ⟨bb_36, (fun j hj => by by_cases e : j = i; (rw [e, upN_self]); (rw [upN_ne _ _ e]; exact hi j (by omega))), (by omega)⟩
    exact ih_2 (i + 1, upN R1 i 0) hI_37 (show 196 - (i + 1) < 196 - i from by omega) _ _ _ hP hD hS (lv_sub hl [0, 1] rfl)
