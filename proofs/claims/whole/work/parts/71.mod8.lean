abbrev b_Mod_settled : ByteArray := prog_8_method_24_code
def y_Mod_settled : MethodName := ⟨"CircuitDeskModel", "settled", "(III)I"⟩
def w_Mod_settled : List Cond := .code y_Mod_settled b_Mod_settled 8 (some .int) :: lw_gw
theorem d_Mod_settled_0 : decode b_Mod_settled 0 = .ok (.iload_n 3, 1) := by decide +kernel
theorem d_Mod_settled_1 : decode b_Mod_settled 1 = .ok (.istore 4, 2) := by decide +kernel
theorem d_Mod_settled_3 : decode b_Mod_settled 3 = .ok (.iconst 0, 1) := by decide +kernel
theorem d_Mod_settled_4 : decode b_Mod_settled 4 = .ok (.istore 5, 2) := by decide +kernel
theorem d_Mod_settled_6 : decode b_Mod_settled 6 = .ok (.iconst 0, 1) := by decide +kernel
theorem d_Mod_settled_7 : decode b_Mod_settled 7 = .ok (.istore 6, 2) := by decide +kernel
theorem d_Mod_settled_9 : decode b_Mod_settled 9 = .ok (.iload 6, 2) := by decide +kernel
theorem d_Mod_settled_11 : decode b_Mod_settled 11 = .ok (.aload_n 0, 1) := by decide +kernel
theorem d_Mod_settled_12 : decode b_Mod_settled 12 = .ok (.getfield 104, 3) := by decide +kernel
theorem d_Mod_settled_15 : decode b_Mod_settled 15 = .ok (.if_icmp .ge 201, 3) := by decide +kernel
theorem d_Mod_settled_18 : decode b_Mod_settled 18 = .ok (.aload_n 0, 1) := by decide +kernel
theorem d_Mod_settled_19 : decode b_Mod_settled 19 = .ok (.getfield 34, 3) := by decide +kernel
theorem d_Mod_settled_22 : decode b_Mod_settled 22 = .ok (.iload 6, 2) := by decide +kernel
theorem d_Mod_settled_24 : decode b_Mod_settled 24 = .ok (.iaload, 1) := by decide +kernel
theorem d_Mod_settled_25 : decode b_Mod_settled 25 = .ok (.ifCond .ne 28, 3) := by decide +kernel
theorem d_Mod_settled_28 : decode b_Mod_settled 28 = .ok (.aload_n 0, 1) := by decide +kernel
theorem d_Mod_settled_29 : decode b_Mod_settled 29 = .ok (.getfield 37, 3) := by decide +kernel
theorem d_Mod_settled_32 : decode b_Mod_settled 32 = .ok (.iload 6, 2) := by decide +kernel
theorem d_Mod_settled_34 : decode b_Mod_settled 34 = .ok (.iaload, 1) := by decide +kernel
theorem d_Mod_settled_35 : decode b_Mod_settled 35 = .ok (.iload_n 1, 1) := by decide +kernel
theorem d_Mod_settled_36 : decode b_Mod_settled 36 = .ok (.if_icmp .ne 17, 3) := by decide +kernel
theorem d_Mod_settled_39 : decode b_Mod_settled 39 = .ok (.aload_n 0, 1) := by decide +kernel
theorem d_Mod_settled_40 : decode b_Mod_settled 40 = .ok (.aload_n 0, 1) := by decide +kernel
theorem d_Mod_settled_41 : decode b_Mod_settled 41 = .ok (.getfield 40, 3) := by decide +kernel
theorem d_Mod_settled_44 : decode b_Mod_settled 44 = .ok (.iload 6, 2) := by decide +kernel
theorem d_Mod_settled_46 : decode b_Mod_settled 46 = .ok (.iaload, 1) := by decide +kernel
theorem d_Mod_settled_47 : decode b_Mod_settled 47 = .ok (.iload_n 2, 1) := by decide +kernel
theorem d_Mod_settled_48 : decode b_Mod_settled 48 = .ok (.invokevirtual 150, 3) := by decide +kernel
theorem d_Mod_settled_51 : decode b_Mod_settled 51 = .ok (.istore 4, 2) := by decide +kernel
theorem d_Mod_settled_53 : decode b_Mod_settled 53 = .ok (.aload_n 0, 1) := by decide +kernel
theorem d_Mod_settled_54 : decode b_Mod_settled 54 = .ok (.getfield 34, 3) := by decide +kernel
theorem d_Mod_settled_57 : decode b_Mod_settled 57 = .ok (.iload 6, 2) := by decide +kernel
theorem d_Mod_settled_59 : decode b_Mod_settled 59 = .ok (.iaload, 1) := by decide +kernel
theorem d_Mod_settled_60 : decode b_Mod_settled 60 = .ok (.iconst 1, 1) := by decide +kernel
theorem d_Mod_settled_61 : decode b_Mod_settled 61 = .ok (.if_icmp .ne 23, 3) := by decide +kernel
theorem d_Mod_settled_64 : decode b_Mod_settled 64 = .ok (.aload_n 0, 1) := by decide +kernel
theorem d_Mod_settled_65 : decode b_Mod_settled 65 = .ok (.getfield 69, 3) := by decide +kernel
theorem d_Mod_settled_68 : decode b_Mod_settled 68 = .ok (.iload 5, 2) := by decide +kernel
theorem d_Mod_settled_70 : decode b_Mod_settled 70 = .ok (.iload 4, 2) := by decide +kernel
theorem d_Mod_settled_72 : decode b_Mod_settled 72 = .ok (.iastore, 1) := by decide +kernel
theorem d_Mod_settled_73 : decode b_Mod_settled 73 = .ok (.aload_n 0, 1) := by decide +kernel
theorem d_Mod_settled_74 : decode b_Mod_settled 74 = .ok (.getfield 75, 3) := by decide +kernel
theorem d_Mod_settled_77 : decode b_Mod_settled 77 = .ok (.iload 5, 2) := by decide +kernel
theorem d_Mod_settled_79 : decode b_Mod_settled 79 = .ok (.iconst 0, 1) := by decide +kernel
theorem d_Mod_settled_80 : decode b_Mod_settled 80 = .ok (.bastore, 1) := by decide +kernel
theorem d_Mod_settled_81 : decode b_Mod_settled 81 = .ok (.iinc 5 1, 3) := by decide +kernel
theorem d_Mod_settled_84 : decode b_Mod_settled 84 = .ok (.aload_n 0, 1) := by decide +kernel
theorem d_Mod_settled_85 : decode b_Mod_settled 85 = .ok (.getfield 34, 3) := by decide +kernel
theorem d_Mod_settled_88 : decode b_Mod_settled 88 = .ok (.iload 6, 2) := by decide +kernel
theorem d_Mod_settled_90 : decode b_Mod_settled 90 = .ok (.iaload, 1) := by decide +kernel
theorem d_Mod_settled_91 : decode b_Mod_settled 91 = .ok (.iconst 2, 1) := by decide +kernel
theorem d_Mod_settled_92 : decode b_Mod_settled 92 = .ok (.if_icmp .ne 35, 3) := by decide +kernel
theorem d_Mod_settled_95 : decode b_Mod_settled 95 = .ok (.aload_n 0, 1) := by decide +kernel
theorem d_Mod_settled_96 : decode b_Mod_settled 96 = .ok (.getfield 72, 3) := by decide +kernel
theorem d_Mod_settled_99 : decode b_Mod_settled 99 = .ok (.iload 5, 2) := by decide +kernel
theorem d_Mod_settled_101 : decode b_Mod_settled 101 = .ok (.iconst 1, 1) := by decide +kernel
theorem d_Mod_settled_102 : decode b_Mod_settled 102 = .ok (.isub, 1) := by decide +kernel
theorem d_Mod_settled_103 : decode b_Mod_settled 103 = .ok (.iload 4, 2) := by decide +kernel
theorem d_Mod_settled_105 : decode b_Mod_settled 105 = .ok (.iastore, 1) := by decide +kernel
theorem d_Mod_settled_106 : decode b_Mod_settled 106 = .ok (.aload_n 0, 1) := by decide +kernel
theorem d_Mod_settled_107 : decode b_Mod_settled 107 = .ok (.getfield 75, 3) := by decide +kernel
theorem d_Mod_settled_110 : decode b_Mod_settled 110 = .ok (.iload 5, 2) := by decide +kernel
theorem d_Mod_settled_112 : decode b_Mod_settled 112 = .ok (.iconst 1, 1) := by decide +kernel
theorem d_Mod_settled_113 : decode b_Mod_settled 113 = .ok (.isub, 1) := by decide +kernel
theorem d_Mod_settled_114 : decode b_Mod_settled 114 = .ok (.iconst 1, 1) := by decide +kernel
theorem d_Mod_settled_115 : decode b_Mod_settled 115 = .ok (.bastore, 1) := by decide +kernel
theorem d_Mod_settled_116 : decode b_Mod_settled 116 = .ok (.aload_n 0, 1) := by decide +kernel
theorem d_Mod_settled_117 : decode b_Mod_settled 117 = .ok (.getfield 69, 3) := by decide +kernel
theorem d_Mod_settled_120 : decode b_Mod_settled 120 = .ok (.iload 5, 2) := by decide +kernel
theorem d_Mod_settled_122 : decode b_Mod_settled 122 = .ok (.iconst 1, 1) := by decide +kernel
theorem d_Mod_settled_123 : decode b_Mod_settled 123 = .ok (.isub, 1) := by decide +kernel
theorem d_Mod_settled_124 : decode b_Mod_settled 124 = .ok (.iaload, 1) := by decide +kernel
theorem d_Mod_settled_125 : decode b_Mod_settled 125 = .ok (.istore 4, 2) := by decide +kernel
theorem d_Mod_settled_127 : decode b_Mod_settled 127 = .ok (.aload_n 0, 1) := by decide +kernel
theorem d_Mod_settled_128 : decode b_Mod_settled 128 = .ok (.getfield 34, 3) := by decide +kernel
theorem d_Mod_settled_131 : decode b_Mod_settled 131 = .ok (.iload 6, 2) := by decide +kernel
theorem d_Mod_settled_133 : decode b_Mod_settled 133 = .ok (.iaload, 1) := by decide +kernel
theorem d_Mod_settled_134 : decode b_Mod_settled 134 = .ok (.iconst 3, 1) := by decide +kernel
theorem d_Mod_settled_135 : decode b_Mod_settled 135 = .ok (.if_icmp .ne 75, 3) := by decide +kernel
theorem d_Mod_settled_138 : decode b_Mod_settled 138 = .ok (.iinc 5 (-1), 3) := by decide +kernel
theorem d_Mod_settled_141 : decode b_Mod_settled 141 = .ok (.aload_n 0, 1) := by decide +kernel
theorem d_Mod_settled_142 : decode b_Mod_settled 142 = .ok (.iload 6, 2) := by decide +kernel
theorem d_Mod_settled_144 : decode b_Mod_settled 144 = .ok (.invokevirtual 153, 3) := by decide +kernel
theorem d_Mod_settled_147 : decode b_Mod_settled 147 = .ok (.istore 7, 2) := by decide +kernel
theorem d_Mod_settled_149 : decode b_Mod_settled 149 = .ok (.aload_n 0, 1) := by decide +kernel
theorem d_Mod_settled_150 : decode b_Mod_settled 150 = .ok (.getfield 75, 3) := by decide +kernel
theorem d_Mod_settled_153 : decode b_Mod_settled 153 = .ok (.iload 5, 2) := by decide +kernel
theorem d_Mod_settled_155 : decode b_Mod_settled 155 = .ok (.baload, 1) := by decide +kernel
theorem d_Mod_settled_156 : decode b_Mod_settled 156 = .ok (.ifCond .eq 29, 3) := by decide +kernel
theorem d_Mod_settled_159 : decode b_Mod_settled 159 = .ok (.aload_n 0, 1) := by decide +kernel
theorem d_Mod_settled_160 : decode b_Mod_settled 160 = .ok (.aload_n 0, 1) := by decide +kernel
theorem d_Mod_settled_161 : decode b_Mod_settled 161 = .ok (.getfield 43, 3) := by decide +kernel
theorem d_Mod_settled_164 : decode b_Mod_settled 164 = .ok (.bipush 8, 2) := by decide +kernel
theorem d_Mod_settled_166 : decode b_Mod_settled 166 = .ok (.iload 7, 2) := by decide +kernel
theorem d_Mod_settled_168 : decode b_Mod_settled 168 = .ok (.imul, 1) := by decide +kernel
theorem d_Mod_settled_169 : decode b_Mod_settled 169 = .ok (.iaload, 1) := by decide +kernel
theorem d_Mod_settled_170 : decode b_Mod_settled 170 = .ok (.aload_n 0, 1) := by decide +kernel
theorem d_Mod_settled_171 : decode b_Mod_settled 171 = .ok (.getfield 72, 3) := by decide +kernel
theorem d_Mod_settled_174 : decode b_Mod_settled 174 = .ok (.iload 5, 2) := by decide +kernel
theorem d_Mod_settled_176 : decode b_Mod_settled 176 = .ok (.iaload, 1) := by decide +kernel
theorem d_Mod_settled_177 : decode b_Mod_settled 177 = .ok (.iload 4, 2) := by decide +kernel
theorem d_Mod_settled_179 : decode b_Mod_settled 179 = .ok (.invokevirtual 156, 3) := by decide +kernel
theorem d_Mod_settled_182 : decode b_Mod_settled 182 = .ok (.goto 26, 3) := by decide +kernel
theorem d_Mod_settled_185 : decode b_Mod_settled 185 = .ok (.aload_n 0, 1) := by decide +kernel
theorem d_Mod_settled_186 : decode b_Mod_settled 186 = .ok (.aload_n 0, 1) := by decide +kernel
theorem d_Mod_settled_187 : decode b_Mod_settled 187 = .ok (.getfield 43, 3) := by decide +kernel
theorem d_Mod_settled_190 : decode b_Mod_settled 190 = .ok (.bipush 8, 2) := by decide +kernel
theorem d_Mod_settled_192 : decode b_Mod_settled 192 = .ok (.iload 7, 2) := by decide +kernel
theorem d_Mod_settled_194 : decode b_Mod_settled 194 = .ok (.imul, 1) := by decide +kernel
theorem d_Mod_settled_195 : decode b_Mod_settled 195 = .ok (.iaload, 1) := by decide +kernel
theorem d_Mod_settled_196 : decode b_Mod_settled 196 = .ok (.iload 4, 2) := by decide +kernel
theorem d_Mod_settled_198 : decode b_Mod_settled 198 = .ok (.aload_n 0, 1) := by decide +kernel
theorem d_Mod_settled_199 : decode b_Mod_settled 199 = .ok (.getfield 69, 3) := by decide +kernel
theorem d_Mod_settled_202 : decode b_Mod_settled 202 = .ok (.iload 5, 2) := by decide +kernel
theorem d_Mod_settled_204 : decode b_Mod_settled 204 = .ok (.iaload, 1) := by decide +kernel
theorem d_Mod_settled_205 : decode b_Mod_settled 205 = .ok (.invokevirtual 156, 3) := by decide +kernel
theorem d_Mod_settled_208 : decode b_Mod_settled 208 = .ok (.istore 4, 2) := by decide +kernel
theorem d_Mod_settled_210 : decode b_Mod_settled 210 = .ok (.iinc 6 1, 3) := by decide +kernel
theorem d_Mod_settled_213 : decode b_Mod_settled 213 = .ok (.goto (-204), 3) := by decide +kernel
theorem d_Mod_settled_216 : decode b_Mod_settled 216 = .ok (.iload 4, 2) := by decide +kernel
theorem d_Mod_settled_218 : decode b_Mod_settled 218 = .ok (.ireturn, 1) := by decide +kernel
set_option maxHeartbeats 4000000 in
set_option maxRecDepth 100000 in
theorem c_Mod_settled (l : Launch) (dC : Nat → ClassId) (dI : Nat → Nat → Nat) (cI cZ : ClassId) (a_mod a_mkind a_mwidth a_mreset a_mop a_mka a_mkb a_mkc a_mheld a_msort a_mof a_mfrom a_mbit a_mdone a_mrests a_mxx a_myy a_mdepth a_mone a_mbefore a_mfirst a_mturned : Nat) (tt sz : Nat) (mN : Nat) (mMs : Nat) (mG : Nat) (mCk : Nat) (mFw : Int32) (mRd : Nat) (mWd : Nat → Nat) (mSo : Nat → Nat) (mOf : Nat → Int32) (mFr : Nat → Int32) (mBi : Nat → Nat) (mBe : Nat → Nat) (mFi : Nat → Nat) (mTu : Nat → Nat) (mX : Nat → Nat) (mY : Nat → Nat) (mDe : Nat → Nat) (gd : Nat) (P : Nat → Nat) (Dp : Nat → Nat) (Sl : Nat → Nat) (T : Nat → Nat) (K : List Nat) (CB : Nat → Nat → Nat) (Su : Nat → Nat) (Sr : Nat → Nat) (v0 : Nat) (S : Nat) (J : Nat) (x0 : Nat) (b_mN : mN ≤ 14) (b_mMs : mMs ≤ 20) (b_mG : mG ≤ 1280) (b_mRd : mRd ≤ 1) (b_mWd : ∀ j, mWd j < 9) (b_mSo : ∀ j, mSo j < 4) (b_mBi : ∀ j, mBi j < 2786) (b_mBe : ∀ j, mBe j < 2786) (b_mFi : ∀ j, mFi j < 2786) (b_mTu : ∀ j, mTu j < 2) (b_mX : ∀ j, mX j < 2786) (b_mY : ∀ j, mY j < 2786) (b_mDe : ∀ j, mDe j < 1400) (hN : NJ mG gd P Dp Sl T) (hXY : MXY mG mX mY mDe P Dp) (hAL : AL K T mG) (hLG : LG mSo mMs) (hd0 : dp mSo mMs = 0) (hOf : ∀ k, k < mMs → (mSo k = 0 ∨ mSo k = 1) → mOf k = nI (Su k) ∧ Su k < 14) (hFr : ∀ k, k < mMs → mSo k = 0 → mFr k = nI (Sr k) ∧ Sr k < 14) (hS14 : S < 14) (hJ : J < 8) (hx0 : OKc T mG x0 v0) (hsrc : ∀ k, k < mMs → mSo k = 0 → Su k = S → OKc T mG (lit mBi mWd (Sr k) J) (CB (Sr k) J)) (hcnd : ∀ k, k < mMs → mSo k = 0 → Su k = S → ∀ z, 0 < z → z ≤ dp mSo k → OKc T mG (mBi (8 * cL mSo Su k z)) (CB (cL mSo Su k z) 0)) (hgl : ∀ c, c ∈ gL mSo Su Sr S (fun z => CB z J) (fun z => CB z 0) v0 mMs → c ∈ K) : Met l y_Mod_settled w_Mod_settled ({ frames := 4, cells := 0, slots := 0, locals := 91 }) (va_Pc [.ref a_mod, .int (nI S), .int (nI J), .int (nI x0)] (PW (dC, dI) classes [(cI, .int), (cZ, .boolean)] tt [(a_mod, .inr (6, [.ref a_mkind, .ref a_mwidth, .ref a_mreset, .ref a_mop, .ref a_mka, .ref a_mkb, .ref a_mkc, .ref a_mheld, .int (nI mN), .ref a_msort, .ref a_mof, .ref a_mfrom, .int (nI mMs), .ref a_mbit, .ref a_mdone, .ref a_mrests, .ref a_mxx, .ref a_myy, .ref a_mdepth, .ref a_mone, .int (nI mG), .int (nI mCk), .int mFw, .int (nI mRd), .ref a_mbefore, .ref a_mfirst, .ref a_mturned])), (a_mwidth, .inl (cI, 14, .inl (nF mWd))), (a_msort, .inl (cI, 20, .inl (nF mSo))), (a_mof, .inl (cI, 20, .inl mOf)), (a_mfrom, .inl (cI, 20, .inl mFr)), (a_mbit, .inl (cI, 224, .inl (nF mBi))), (a_mbefore, .inl (cI, 6, .inl (nF mBe))), (a_mfirst, .inl (cI, 6, .inl (nF mFi))), (a_mturned, .inl (cZ, 6, .inl (nF mTu))), (a_mxx, .inl (cI, 2600, .inl (nF mX))), (a_myy, .inl (cI, 2600, .inl (nF mY))), (a_mdepth, .inl (cI, 2600, .inl (nF mDe)))] sz)) (va_Qi (fun (r : Int32) (u : Nat × (Nat → Nat) × (Nat → Nat) × (Nat → Nat) × Nat × (Nat → Nat) × (Nat → Nat) × (Nat → Nat) × (Nat → Nat) × (Nat → Nat) × (Nat → Nat) × (Nat → Nat)) => ∃ rv : Nat, r = nI rv ∧ (u.1 ≤ 1280) ∧ (∀ j, u.2.1 j < 2786) ∧ (∀ j, u.2.2.1 j < 2786) ∧ (∀ j, u.2.2.2.1 j < 1400) ∧ (∀ j, u.2.2.2.2.2.2.2.2.2.1 j < 2786) ∧ (∀ j, u.2.2.2.2.2.2.2.2.2.2.1 j < 2786) ∧ (∀ j, u.2.2.2.2.2.2.2.2.2.2.2 j < 2) ∧ (NJ u.1 u.2.2.2.2.1 u.2.2.2.2.2.1 u.2.2.2.2.2.2.1 u.2.2.2.2.2.2.2.1 u.2.2.2.2.2.2.2.2.1) ∧ (MXY u.1 u.2.1 u.2.2.1 u.2.2.2.1 u.2.2.2.2.2.1 u.2.2.2.2.2.2.1) ∧ (AL K u.2.2.2.2.2.2.2.2.1 u.1) ∧ (ST T mG u.2.2.2.2.2.2.2.2.1 u.1 (gL mSo Su Sr S (fun z => CB z J) (fun z => CB z 0) v0 mMs)) ∧ (OKc u.2.2.2.2.2.2.2.2.1 u.1 rv (gVF mSo Su Sr S (fun z => CB z J) (fun z => CB z 0) v0 mMs 0).1)) (AT (dC, dI) classes [(cI, .int), (cZ, .boolean)] (va_A [(a_mod, .inr (6, [.ref a_mkind, .ref a_mwidth, .ref a_mreset, .ref a_mop, .ref a_mka, .ref a_mkb, .ref a_mkc, .ref a_mheld, .int (nI mN), .ref a_msort, .ref a_mof, .ref a_mfrom, .int (nI mMs), .ref a_mbit, .ref a_mdone, .ref a_mrests, .ref a_mxx, .ref a_myy, .ref a_mdepth, .ref a_mone, .int (nI mG), .int (nI mCk), .int mFw, .int (nI mRd), .ref a_mbefore, .ref a_mfirst, .ref a_mturned])), (a_mwidth, .inl (cI, 14, .inl (nF mWd))), (a_msort, .inl (cI, 20, .inl (nF mSo))), (a_mof, .inl (cI, 20, .inl mOf)), (a_mfrom, .inl (cI, 20, .inl mFr)), (a_mbit, .inl (cI, 224, .inl (nF mBi))), (a_mbefore, .inl (cI, 6, .inl (nF mBe))), (a_mfirst, .inl (cI, 6, .inl (nF mFi))), (a_mturned, .inl (cZ, 6, .inl (nF mTu))), (a_mxx, .inl (cI, 2600, .inl (nF mX))), (a_myy, .inl (cI, 2600, .inl (nF mY))), (a_mdepth, .inl (cI, 2600, .inl (nF mDe)))] sz) (fun (u : Nat × (Nat → Nat) × (Nat → Nat) × (Nat → Nat) × Nat × (Nat → Nat) × (Nat → Nat) × (Nat → Nat) × (Nat → Nat) × (Nat → Nat) × (Nat → Nat) × (Nat → Nat)) => [(a_mod, .inr (6, [.ref a_mkind, .ref a_mwidth, .ref a_mreset, .ref a_mop, .ref a_mka, .ref a_mkb, .ref a_mkc, .ref a_mheld, .int (nI mN), .ref a_msort, .ref a_mof, .ref a_mfrom, .int (nI mMs), .ref a_mbit, .ref a_mdone, .ref a_mrests, .ref a_mxx, .ref a_myy, .ref a_mdepth, .ref a_mone, .int (nI u.1), .int (nI mCk), .int mFw, .int (nI mRd), .ref a_mbefore, .ref a_mfirst, .ref a_mturned])), (a_mwidth, .inl (cI, 14, .inl (nF mWd))), (a_msort, .inl (cI, 20, .inl (nF mSo))), (a_mof, .inl (cI, 20, .inl mOf)), (a_mfrom, .inl (cI, 20, .inl mFr)), (a_mbit, .inl (cI, 224, .inl (nF mBi))), (a_mbefore, .inl (cI, 6, .inl (nF u.2.2.2.2.2.2.2.2.2.1))), (a_mfirst, .inl (cI, 6, .inl (nF u.2.2.2.2.2.2.2.2.2.2.1))), (a_mturned, .inl (cZ, 6, .inl (nF u.2.2.2.2.2.2.2.2.2.2.2))), (a_mxx, .inl (cI, 2600, .inl (nF u.2.1))), (a_myy, .inl (cI, 2600, .inl (nF u.2.2.1))), (a_mdepth, .inl (cI, 2600, .inl (nF u.2.2.2.1)))])) (va_A [(a_mod, .inr (6, [.ref a_mkind, .ref a_mwidth, .ref a_mreset, .ref a_mop, .ref a_mka, .ref a_mkb, .ref a_mkc, .ref a_mheld, .int (nI mN), .ref a_msort, .ref a_mof, .ref a_mfrom, .int (nI mMs), .ref a_mbit, .ref a_mdone, .ref a_mrests, .ref a_mxx, .ref a_myy, .ref a_mdepth, .ref a_mone, .int (nI mG), .int (nI mCk), .int mFw, .int (nI mRd), .ref a_mbefore, .ref a_mfirst, .ref a_mturned])), (a_mwidth, .inl (cI, 14, .inl (nF mWd))), (a_msort, .inl (cI, 20, .inl (nF mSo))), (a_mof, .inl (cI, 20, .inl mOf)), (a_mfrom, .inl (cI, 20, .inl mFr)), (a_mbit, .inl (cI, 224, .inl (nF mBi))), (a_mbefore, .inl (cI, 6, .inl (nF mBe))), (a_mfirst, .inl (cI, 6, .inl (nF mFi))), (a_mturned, .inl (cZ, 6, .inl (nF mTu))), (a_mxx, .inl (cI, 2600, .inl (nF mX))), (a_myy, .inl (cI, 2600, .inl (nF mY))), (a_mdepth, .inl (cI, 2600, .inl (nF mDe)))] sz)) 0 0 (va_A [(a_mod, .inr (6, [.ref a_mkind, .ref a_mwidth, .ref a_mreset, .ref a_mop, .ref a_mka, .ref a_mkb, .ref a_mkc, .ref a_mheld, .int (nI mN), .ref a_msort, .ref a_mof, .ref a_mfrom, .int (nI mMs), .ref a_mbit, .ref a_mdone, .ref a_mrests, .ref a_mxx, .ref a_myy, .ref a_mdepth, .ref a_mone, .int (nI mG), .int (nI mCk), .int mFw, .int (nI mRd), .ref a_mbefore, .ref a_mfirst, .ref a_mturned])), (a_mwidth, .inl (cI, 14, .inl (nF mWd))), (a_msort, .inl (cI, 20, .inl (nF mSo))), (a_mof, .inl (cI, 20, .inl mOf)), (a_mfrom, .inl (cI, 20, .inl mFr)), (a_mbit, .inl (cI, 224, .inl (nF mBi))), (a_mbefore, .inl (cI, 6, .inl (nF mBe))), (a_mfirst, .inl (cI, 6, .inl (nF mFi))), (a_mturned, .inl (cZ, 6, .inl (nF mTu))), (a_mxx, .inl (cI, 2600, .inl (nF mX))), (a_myy, .inl (cI, 2600, .inl (nF mY))), (a_mdepth, .inl (cI, 2600, .inl (nF mDe)))] sz) := by
  refine Met.ofW (cc := b_Mod_settled) (maxL := 8) (ret := (some .int)) (by decide) rfl ?_
  intro p e s m args below meth c s₁ B hml hv
  obtain ⟨rfl, hsz, hP, hK, hD0, hE⟩ := hv
  have hx := B.exec
  have hb := B.bytes
  have hr := B.returns
  have hts := atoms_spec (ws := w_Mod_settled) B.pre
  have hown : s.vm.findClass R_Mod = some m.cls := findClass_of_methodNamed B.named
  have hlocks := B.notSynchronized
  subst hsz
  have hD := hD0.self (sz := s.heap.size)
  generalize hAe : va_A [(a_mod, .inr (6, [.ref a_mkind, .ref a_mwidth, .ref a_mreset, .ref a_mop, .ref a_mka, .ref a_mkb, .ref a_mkc, .ref a_mheld, .int (nI mN), .ref a_msort, .ref a_mof, .ref a_mfrom, .int (nI mMs), .ref a_mbit, .ref a_mdone, .ref a_mrests, .ref a_mxx, .ref a_myy, .ref a_mdepth, .ref a_mone, .int (nI mG), .int (nI mCk), .int mFw, .int (nI mRd), .ref a_mbefore, .ref a_mfirst, .ref a_mturned])), (a_mwidth, .inl (cI, 14, .inl (nF mWd))), (a_msort, .inl (cI, 20, .inl (nF mSo))), (a_mof, .inl (cI, 20, .inl mOf)), (a_mfrom, .inl (cI, 20, .inl mFr)), (a_mbit, .inl (cI, 224, .inl (nF mBi))), (a_mbefore, .inl (cI, 6, .inl (nF mBe))), (a_mfirst, .inl (cI, 6, .inl (nF mFi))), (a_mturned, .inl (cZ, 6, .inl (nF mTu))), (a_mxx, .inl (cI, 2600, .inl (nF mX))), (a_myy, .inl (cI, 2600, .inl (nF mY))), (a_mdepth, .inl (cI, 2600, .inl (nF mDe)))] s.heap.size = A at hD hE ⊢
  have hA : ∀ q : Nat, s.heap.size ≤ q → A q := fun q h => by rw [← hAe]; exact Or.inr h
  have hS : va_S A s.heap s.heap [] := va_S.rf
  have hP : va_P (dC, dI) classes [(a_mod, .inr (6, [.ref a_mkind, .ref a_mwidth, .ref a_mreset, .ref a_mop, .ref a_mka, .ref a_mkb, .ref a_mkc, .ref a_mheld, .int (nI mN), .ref a_msort, .ref a_mof, .ref a_mfrom, .int (nI mMs), .ref a_mbit, .ref a_mdone, .ref a_mrests, .ref a_mxx, .ref a_myy, .ref a_mdepth, .ref a_mone, .int (nI mG), .int (nI mCk), .int mFw, .int (nI mRd), .ref a_mbefore, .ref a_mfirst, .ref a_mturned])), (a_mwidth, .inl (cI, 14, .inl (nF mWd))), (a_msort, .inl (cI, 20, .inl (nF mSo))), (a_mof, .inl (cI, 20, .inl mOf)), (a_mfrom, .inl (cI, 20, .inl mFr)), (a_mbit, .inl (cI, 224, .inl (nF mBi))), (a_mbefore, .inl (cI, 6, .inl (nF mBe))), (a_mfirst, .inl (cI, 6, .inl (nF mFi))), (a_mturned, .inl (cZ, 6, .inl (nF mTu))), (a_mxx, .inl (cI, 2600, .inl (nF mX))), (a_myy, .inl (cI, 2600, .inl (nF mY))), (a_mdepth, .inl (cI, 2600, .inl (nF mDe)))] s.heap := hP
  have hl := lv_entry ([.ref a_mod, .int (nI S), .int (nI J), .int (nI x0)]) (n := 8) (Nat.le_of_ble_eq_true rfl)
  rw [lg_entry_eq]
  generalize (lg_sl ([.ref a_mod, .int (nI S), .int (nI J), .int (nI x0)]) ++ List.replicate (8 - (lg_sl ([.ref a_mod, .int (nI S), .int (nI J), .int (nI x0)])).length) Slot.unset).toArray = ls at hl ⊢
  have hl : lv_has ls 8 [(0, .ref a_mod), (1, .int (nI S)), (2, .int (nI J)), (3, .int (nI x0))] := hl
  refine lv_iload_n hx hb d_Mod_settled_0 rfl (lv_at hl 3 rfl) ?_
  refine lv_istore (lv' := [(4, .int (nI x0)), (0, .ref a_mod), (1, .int (nI S)), (2, .int (nI J)), (3, .int (nI x0))]) hx hb d_Mod_settled_1 hl (by decide) rfl (fun ls hl => ?_)
  refine lv_iconst (v := nI 0) hx hb d_Mod_settled_3 rfl ?_
  refine lv_istore (lv' := [(5, .int (nI 0)), (4, .int (nI x0)), (0, .ref a_mod), (1, .int (nI S)), (2, .int (nI J)), (3, .int (nI x0))]) hx hb d_Mod_settled_4 hl (by decide) rfl (fun ls hl => ?_)
  refine lv_iconst (v := nI 0) hx hb d_Mod_settled_6 rfl ?_
  refine lv_istore (lv' := [(6, .int (nI 0)), (5, .int (nI 0)), (4, .int (nI x0)), (0, .ref a_mod), (1, .int (nI S)), (2, .int (nI J)), (3, .int (nI x0))]) hx hb d_Mod_settled_7 hl (by decide) rfl (fun ls hl => ?_)
  have hI_1 : (mG ≤ 1280) ∧ (∀ j, mX j < 2786) ∧ (∀ j, mY j < 2786) ∧ (∀ j, mDe j < 1400) ∧ (∀ j, mBe j < 2786) ∧ (∀ j, mFi j < 2786) ∧ (∀ j, mTu j < 2) ∧ (0 = dp mSo 0) ∧ (0 ≤ mMs) ∧ (NJ mG gd P Dp Sl T) ∧ (MXY mG mX mY mDe P Dp) ∧ (AL K T mG) ∧ (x0 < 2786) ∧ (GI mSo Su Sr S (fun z => CB z J) (fun z => CB z 0) (fun z => mBi (8 * z)) T mG v0 0 (mVf x0 0 mBe) (sh mFi) (fun z => cL mSo Su 0 z) (sh mTu) T mG) := ⟨(by omega), b_mX, b_mY, b_mDe, b_mBe, b_mFi, b_mTu, rfl, (by omega), hN, hXY, hAL, (by have := hx0.1; omega), (GI_congr (GI_i (V1 := mVf x0 0 mBe) hx0.1 hx0.2) (fun z hz => by have hz : z ≤ 0 := hz; rw [show z = 0 by omega, upN_self, mVf_d]) (fun _ _ _ => rfl) (fun _ _ _ => rfl) (fun _ _ _ => rfl))⟩
  refine k_loop (σ := Nat × Nat × Nat × Nat × (Nat → Nat) × (Nat → Nat) × (Nat → Nat) × Nat × (Nat → Nat) × (Nat → Nat) × (Nat → Nat) × (Nat → Nat) × (Nat → Nat) × (Nat → Nat) × (Nat → Nat)) (D := (dC, dI)) (cl := classes) (A := A) (H0 := s.heap) (fun x => [(a_mod, .inr (6, [.ref a_mkind, .ref a_mwidth, .ref a_mreset, .ref a_mop, .ref a_mka, .ref a_mkb, .ref a_mkc, .ref a_mheld, .int (nI mN), .ref a_msort, .ref a_mof, .ref a_mfrom, .int (nI mMs), .ref a_mbit, .ref a_mdone, .ref a_mrests, .ref a_mxx, .ref a_myy, .ref a_mdepth, .ref a_mone, .int (nI x.2.2.2.1), .int (nI mCk), .int mFw, .int (nI mRd), .ref a_mbefore, .ref a_mfirst, .ref a_mturned])), (a_mwidth, .inl (cI, 14, .inl (nF mWd))), (a_msort, .inl (cI, 20, .inl (nF mSo))), (a_mof, .inl (cI, 20, .inl mOf)), (a_mfrom, .inl (cI, 20, .inl mFr)), (a_mbit, .inl (cI, 224, .inl (nF mBi))), (a_mbefore, .inl (cI, 6, .inl (nF x.2.2.2.2.2.2.2.2.2.2.2.2.1))), (a_mfirst, .inl (cI, 6, .inl (nF x.2.2.2.2.2.2.2.2.2.2.2.2.2.1))), (a_mturned, .inl (cZ, 6, .inl (nF x.2.2.2.2.2.2.2.2.2.2.2.2.2.2))), (a_mxx, .inl (cI, 2600, .inl (nF x.2.2.2.2.1))), (a_myy, .inl (cI, 2600, .inl (nF x.2.2.2.2.2.1))), (a_mdepth, .inl (cI, 2600, .inl (nF x.2.2.2.2.2.2.1)))]) (fun x => [(6, .int (nI x.2.2.1)), (5, .int (nI x.2.1)), (4, .int (nI x.1)), (0, .ref a_mod), (1, .int (nI S)), (2, .int (nI J)), (3, .int (nI x0))]) (fun x => (x.2.2.2.1 ≤ 1280) ∧ (∀ j, x.2.2.2.2.1 j < 2786) ∧ (∀ j, x.2.2.2.2.2.1 j < 2786) ∧ (∀ j, x.2.2.2.2.2.2.1 j < 1400) ∧ (∀ j, x.2.2.2.2.2.2.2.2.2.2.2.2.1 j < 2786) ∧ (∀ j, x.2.2.2.2.2.2.2.2.2.2.2.2.2.1 j < 2786) ∧ (∀ j, x.2.2.2.2.2.2.2.2.2.2.2.2.2.2 j < 2) ∧ (x.2.1 = dp mSo x.2.2.1) ∧ (x.2.2.1 ≤ mMs) ∧ (NJ x.2.2.2.1 x.2.2.2.2.2.2.2.1 x.2.2.2.2.2.2.2.2.1 x.2.2.2.2.2.2.2.2.2.1 x.2.2.2.2.2.2.2.2.2.2.1 x.2.2.2.2.2.2.2.2.2.2.2.1) ∧ (MXY x.2.2.2.1 x.2.2.2.2.1 x.2.2.2.2.2.1 x.2.2.2.2.2.2.1 x.2.2.2.2.2.2.2.2.1 x.2.2.2.2.2.2.2.2.2.1) ∧ (AL K x.2.2.2.2.2.2.2.2.2.2.2.1 x.2.2.2.1) ∧ (x.1 < 2786) ∧ (GI mSo Su Sr S (fun z => CB z J) (fun z => CB z 0) (fun z => mBi (8 * z)) T mG v0 x.2.2.1 (mVf x.1 x.2.1 x.2.2.2.2.2.2.2.2.2.2.2.2.1) (sh x.2.2.2.2.2.2.2.2.2.2.2.2.2.1) (fun z => cL mSo Su x.2.2.1 z) (sh x.2.2.2.2.2.2.2.2.2.2.2.2.2.2) x.2.2.2.2.2.2.2.2.2.2.2.1 x.2.2.2.1)) (fun x => mMs - x.2.2.1) ?_ (x0, 0, 0, mG, mX, mY, mDe, gd, P, Dp, Sl, T, mBe, mFi, mTu) hI_1 hP hD hS (lv_sub hl [0, 1, 2, 3, 4, 5, 6] rfl)
  rintro ⟨v, d, k, mG1, mX1, mY1, mDe1, gd1, P1, Dp1, Sl1, T1, B1, F1, U1⟩ hI ih_2 H locs ls hP hD hS hl
  obtain ⟨b_mG1, b_mX1, b_mY1, b_mDe1, b_B1, b_F1, b_U1, hd, hk, hN1, hXY1, hAL1, hvb, hGI⟩ : (mG1 ≤ 1280) ∧ (∀ j, mX1 j < 2786) ∧ (∀ j, mY1 j < 2786) ∧ (∀ j, mDe1 j < 1400) ∧ (∀ j, B1 j < 2786) ∧ (∀ j, F1 j < 2786) ∧ (∀ j, U1 j < 2) ∧ (d = dp mSo k) ∧ (k ≤ mMs) ∧ (NJ mG1 gd1 P1 Dp1 Sl1 T1) ∧ (MXY mG1 mX1 mY1 mDe1 P1 Dp1) ∧ (AL K T1 mG1) ∧ (v < 2786) ∧ (GI mSo Su Sr S (fun z => CB z J) (fun z => CB z 0) (fun z => mBi (8 * z)) T mG v0 k (mVf v d B1) (sh F1) (fun z => cL mSo Su k z) (sh U1) T1 mG1) := hI
  have hP : va_P (dC, dI) classes [(a_mod, .inr (6, [.ref a_mkind, .ref a_mwidth, .ref a_mreset, .ref a_mop, .ref a_mka, .ref a_mkb, .ref a_mkc, .ref a_mheld, .int (nI mN), .ref a_msort, .ref a_mof, .ref a_mfrom, .int (nI mMs), .ref a_mbit, .ref a_mdone, .ref a_mrests, .ref a_mxx, .ref a_myy, .ref a_mdepth, .ref a_mone, .int (nI mG1), .int (nI mCk), .int mFw, .int (nI mRd), .ref a_mbefore, .ref a_mfirst, .ref a_mturned])), (a_mwidth, .inl (cI, 14, .inl (nF mWd))), (a_msort, .inl (cI, 20, .inl (nF mSo))), (a_mof, .inl (cI, 20, .inl mOf)), (a_mfrom, .inl (cI, 20, .inl mFr)), (a_mbit, .inl (cI, 224, .inl (nF mBi))), (a_mbefore, .inl (cI, 6, .inl (nF B1))), (a_mfirst, .inl (cI, 6, .inl (nF F1))), (a_mturned, .inl (cZ, 6, .inl (nF U1))), (a_mxx, .inl (cI, 2600, .inl (nF mX1))), (a_myy, .inl (cI, 2600, .inl (nF mY1))), (a_mdepth, .inl (cI, 2600, .inl (nF mDe1)))] H := hP
  have hD : va_D A [(a_mod, .inr (6, [.ref a_mkind, .ref a_mwidth, .ref a_mreset, .ref a_mop, .ref a_mka, .ref a_mkb, .ref a_mkc, .ref a_mheld, .int (nI mN), .ref a_msort, .ref a_mof, .ref a_mfrom, .int (nI mMs), .ref a_mbit, .ref a_mdone, .ref a_mrests, .ref a_mxx, .ref a_myy, .ref a_mdepth, .ref a_mone, .int (nI mG1), .int (nI mCk), .int mFw, .int (nI mRd), .ref a_mbefore, .ref a_mfirst, .ref a_mturned])), (a_mwidth, .inl (cI, 14, .inl (nF mWd))), (a_msort, .inl (cI, 20, .inl (nF mSo))), (a_mof, .inl (cI, 20, .inl mOf)), (a_mfrom, .inl (cI, 20, .inl mFr)), (a_mbit, .inl (cI, 224, .inl (nF mBi))), (a_mbefore, .inl (cI, 6, .inl (nF B1))), (a_mfirst, .inl (cI, 6, .inl (nF F1))), (a_mturned, .inl (cZ, 6, .inl (nF U1))), (a_mxx, .inl (cI, 2600, .inl (nF mX1))), (a_myy, .inl (cI, 2600, .inl (nF mY1))), (a_mdepth, .inl (cI, 2600, .inl (nF mDe1)))] := hD
  have hl : lv_has ls 8 [(6, .int (nI k)), (5, .int (nI d)), (4, .int (nI v)), (0, .ref a_mod), (1, .int (nI S)), (2, .int (nI J)), (3, .int (nI x0))] := hl
  refine lv_iload hx hb d_Mod_settled_9 (lv_at hl 0 rfl) ?_
  refine lv_aload_n hx hb d_Mod_settled_11 rfl (lv_at hl 3 rfl) ?_
  refine va_get (D := (dC, dI)) (ci := 6) (v := .int (nI mMs)) (C := R_Mod) (T := F_Mod) (N := 27) hx hb hts (wi i_Mod) hown hK hP 0 rfl rfl 12 (by decide) (hts _ (mt 554 rfl rfl)) (fun _ h9 => h9) rfl d_Mod_settled_12 ?_
  refine lv_icmp_ge (tgt := 216) hx hb d_Mod_settled_15 (by decide) (fun c15 => ?_) (fun c15 => ?_)
  · skip
    have c15 : mMs ≤ k := (nI_leI (by omega) (by omega)).mp c15
    refine lv_iload hx hb d_Mod_settled_216 (lv_at hl 2 rfl) ?_
    exact W.iret (v := nI v) hx hb hr (fun t ht hW => ⟨⟨nI v, (mG1, mX1, mY1, mDe1, gd1, P1, Dp1, Sl1, T1, B1, F1, U1), rfl, ⟨v, rfl, (show mG1 ≤ 1280 from by omega), b_mX1, b_mY1, b_mDe1, b_B1, b_F1, b_U1, (show NJ mG1 gd1 P1 Dp1 Sl1 T1 from hN1), (show MXY mG1 mX1 mY1 mDe1 P1 Dp1 from hXY1), (show AL K T1 mG1 from hAL1), (show ST T mG T1 mG1 (gL mSo Su Sr S (fun z => CB z J) (fun z => CB z 0) v0 mMs) from by rw [show mMs = k by omega]; exact hGI.1), (show OKc T1 mG1 v (gVF mSo Su Sr S (fun z => CB z J) (fun z => CB z 0) v0 mMs 0).1 from by rw [show mMs = k by omega]; have hd00 : d = 0 := (by rw [hd, show k = mMs by omega]; exact hd0); have := hGI.2.1 0 (Nat.zero_le _); rw [hd00, mVf_d] at this; exact this)⟩, by rw [ht]; exact hP, va_K.moved hW.alike hK, hD⟩, hS.F ht⟩) hS.2.2 d_Mod_settled_218
  · skip
    have c15 : ¬ (mMs ≤ k) := fun h => c15 ((nI_leI (by omega) (by omega)).mpr h)
    have g1' := hLG k (by omega)
    have g4 := dp_le hLG k (by omega)
    have hs4 := b_mSo k
    refine lv_aload_n hx hb d_Mod_settled_18 rfl (lv_at hl 3 rfl) ?_
    refine va_get (D := (dC, dI)) (ci := 6) (v := .ref a_msort) (C := R_Mod) (T := F_Mod) (N := 27) hx hb hts (wi i_Mod) hown hK hP 0 rfl rfl 9 (by decide) (hts _ (mt 551 rfl rfl)) (fun _ h9 => h9) rfl d_Mod_settled_19 ?_
    refine lv_iload hx hb d_Mod_settled_22 (lv_at hl 0 rfl) ?_
    refine k_ild hx hb hK hP 2 0 rfl rfl (by omega) (by decide) d_Mod_settled_24 ?_
    have hb_3 := b_mSo k
    refine lv_if_ne (tgt := 53) hx hb d_Mod_settled_25 (by decide) (fun c25 => ?_) (fun c25 => ?_)
    · skip
      have c25 : ¬ ((mSo k) = 0) := fun h => c25 ((nI_eq0 (by omega)).mpr h)
      refine lv_aload_n hx hb d_Mod_settled_53 rfl (lv_at hl 3 rfl) ?_
      refine va_get (D := (dC, dI)) (ci := 6) (v := .ref a_msort) (C := R_Mod) (T := F_Mod) (N := 27) hx hb hts (wi i_Mod) hown hK hP 0 rfl rfl 9 (by decide) (hts _ (mt 551 rfl rfl)) (fun _ h9 => h9) rfl d_Mod_settled_54 ?_
      refine lv_iload hx hb d_Mod_settled_57 (lv_at hl 0 rfl) ?_
      refine k_ild hx hb hK hP 2 0 rfl rfl (by omega) (by decide) d_Mod_settled_59 ?_
      have hb_4 := b_mSo k
      refine lv_iconst (v := nI 1) hx hb d_Mod_settled_60 rfl ?_
      refine lv_icmp_ne (tgt := 84) hx hb d_Mod_settled_61 (by decide) (fun c61 => ?_) (fun c61 => ?_)
      · skip
        have c61 : ¬ ((mSo k) = 1) := fun h => c61 ((nI_eq (by omega) (by omega)).mpr h)
        refine lv_aload_n hx hb d_Mod_settled_84 rfl (lv_at hl 3 rfl) ?_
        refine va_get (D := (dC, dI)) (ci := 6) (v := .ref a_msort) (C := R_Mod) (T := F_Mod) (N := 27) hx hb hts (wi i_Mod) hown hK hP 0 rfl rfl 9 (by decide) (hts _ (mt 551 rfl rfl)) (fun _ h9 => h9) rfl d_Mod_settled_85 ?_
        refine lv_iload hx hb d_Mod_settled_88 (lv_at hl 0 rfl) ?_
        refine k_ild hx hb hK hP 2 0 rfl rfl (by omega) (by decide) d_Mod_settled_90 ?_
        have hb_5 := b_mSo k
        refine lv_iconst (v := nI 2) hx hb d_Mod_settled_91 rfl ?_
        refine lv_icmp_ne (tgt := 127) hx hb d_Mod_settled_92 (by decide) (fun c92 => ?_) (fun c92 => ?_)
        · skip
          have c92 : ¬ ((mSo k) = 2) := fun h => c92 ((nI_eq (by omega) (by omega)).mpr h)
          refine lv_aload_n hx hb d_Mod_settled_127 rfl (lv_at hl 3 rfl) ?_
          refine va_get (D := (dC, dI)) (ci := 6) (v := .ref a_msort) (C := R_Mod) (T := F_Mod) (N := 27) hx hb hts (wi i_Mod) hown hK hP 0 rfl rfl 9 (by decide) (hts _ (mt 551 rfl rfl)) (fun _ h9 => h9) rfl d_Mod_settled_128 ?_
          refine lv_iload hx hb d_Mod_settled_131 (lv_at hl 0 rfl) ?_
          refine k_ild hx hb hK hP 2 0 rfl rfl (by omega) (by decide) d_Mod_settled_133 ?_
          have hb_6 := b_mSo k
          refine lv_iconst (v := nI 3) hx hb d_Mod_settled_134 rfl ?_
          refine lv_icmp_ne (tgt := 210) hx hb d_Mod_settled_135 (by decide) (fun c135 => ?_) (fun c135 => ?_)
          · skip
            have c135 : ¬ ((mSo k) = 3) := fun h => c135 ((nI_eq (by omega) (by omega)).mpr h)
            have := b_mSo k; omega
          · skip
            have c135 : (mSo k) = 3 := (nI_eq (by omega) (by omega)).mp c135
            have h3' : mSo k = 3 := c135
            have hd0' : 0 < d := by have := g1'.2.1 h3'; omega
            have hct := cL_lt (fun k' h1 h2 => (hOf k' h1 (Or.inr h2)).2) k (by omega) (dp mSo k)
            have hes : sh U1 d = es mSo k d := (hGI.2.2.1 d hd0' (by omega)).2.1
            have hel := es_le (So := mSo) k d
            refine lv_iinc (v := nI (d - 1)) (lv' := [(5, .int (nI (d - 1))), (6, .int (nI k)), (4, .int (nI v)), (0, .ref a_mod), (1, .int (nI S)), (2, .int (nI J)), (3, .int (nI x0))]) hx hb d_Mod_settled_138 hl (k := 1) rfl (k_dec (by omega)) (by decide) rfl (fun ls hl => ?_)
            refine lv_aload_n hx hb d_Mod_settled_141 rfl (lv_at hl 3 rfl) ?_
            refine lv_iload hx hb d_Mod_settled_142 (lv_at hl 1 rfl) ?_
            refine k_i (wr := [(a_mwidth, .inl (cI, 14, .inl (nF mWd))), (a_mfrom, .inl (cI, 20, .inl mFr)), (a_mbit, .inl (cI, 224, .inl (nF mBi))), (a_mbefore, .inl (cI, 6, .inl (nF B1))), (a_mfirst, .inl (cI, 6, .inl (nF F1))), (a_mturned, .inl (cZ, 6, .inl (nF U1))), (a_mxx, .inl (cI, 2600, .inl (nF mX1))), (a_myy, .inl (cI, 2600, .inl (nF mY1))), (a_mdepth, .inl (cI, 2600, .inl (nF mDe1)))]) (w2 := fun (u : Unit) => [(a_mod, .inr (6, [.ref a_mkind, .ref a_mwidth, .ref a_mreset, .ref a_mop, .ref a_mka, .ref a_mkb, .ref a_mkc, .ref a_mheld, .int (nI mN), .ref a_msort, .ref a_mof, .ref a_mfrom, .int (nI mMs), .ref a_mbit, .ref a_mdone, .ref a_mrests, .ref a_mxx, .ref a_myy, .ref a_mdepth, .ref a_mone, .int (nI mG1), .int (nI mCk), .int mFw, .int (nI mRd), .ref a_mbefore, .ref a_mfirst, .ref a_mturned])), (a_mwidth, .inl (cI, 14, .inl (nF mWd))), (a_msort, .inl (cI, 20, .inl (nF mSo))), (a_mof, .inl (cI, 20, .inl mOf)), (a_mfrom, .inl (cI, 20, .inl mFr)), (a_mbit, .inl (cI, 224, .inl (nF mBi))), (a_mbefore, .inl (cI, 6, .inl (nF B1))), (a_mfirst, .inl (cI, 6, .inl (nF F1))), (a_mturned, .inl (cZ, 6, .inl (nF U1))), (a_mxx, .inl (cI, 2600, .inl (nF mX1))), (a_myy, .inl (cI, 2600, .inl (nF mY1))), (a_mdepth, .inl (cI, 2600, .inl (nF mDe1)))]) (va_runV (As := [.int (nI k)]) (rest := []) ⟨hx, hb, hml, hown, hts⟩ (c_Mod_openOf l dC dI cI cZ a_mod a_mkind a_mwidth a_mreset a_mop a_mka a_mkb a_mkc a_mheld a_msort a_mof a_mfrom a_mbit a_mdone a_mrests a_mxx a_myy a_mdepth a_mone a_mbefore a_mfirst a_mturned tt H.size mN mMs mG1 mCk mFw mRd mSo mOf Su k (by omega) (by omega) (by omega) (by omega) b_mSo hLG (by omega) (by omega) (fun k k1 k2 => (hOf k k1 (Or.inr k2)).1)) (cwV 1 hts (gd_V in_tl (mw 694 rfl rfl) (mw 696 rfl rfl) (mw 30 rfl rfl) (mw 47 rfl rfl) (mw 697 rfl rfl)) rfl rfl rfl (by decide +kernel) ⟨Nat.le_of_ble_eq_true rfl, Nat.le_of_ble_eq_true rfl⟩) (k_preV hK hP hD hS hA hE [0, 2, 3] (by decide) rfl 6 0 rfl rfl) rfl rfl hl.1 rfl (lv_room (Nat.le_of_ble_eq_true rfl)) d_Mod_settled_144 ⟨Nat.zero_le _, Nat.zero_le _⟩) hP hD hS hA [0, 2, 3] [1, 4, 5, 6, 7, 8, 9, 10, 11] [9, 0, 10, 11, 1, 2, 3, 4, 5, 6, 7, 8] rfl rfl (by decide) (by decide) (by decide) (fun _ => rfl) (fun r_7 u H locs hw hP hD hS => ?_)
            obtain rfl : (r_7 = nI (cL mSo Su k (dp mSo k))) := hw
            have hP : va_P (dC, dI) classes [(a_mod, .inr (6, [.ref a_mkind, .ref a_mwidth, .ref a_mreset, .ref a_mop, .ref a_mka, .ref a_mkb, .ref a_mkc, .ref a_mheld, .int (nI mN), .ref a_msort, .ref a_mof, .ref a_mfrom, .int (nI mMs), .ref a_mbit, .ref a_mdone, .ref a_mrests, .ref a_mxx, .ref a_myy, .ref a_mdepth, .ref a_mone, .int (nI mG1), .int (nI mCk), .int mFw, .int (nI mRd), .ref a_mbefore, .ref a_mfirst, .ref a_mturned])), (a_mwidth, .inl (cI, 14, .inl (nF mWd))), (a_msort, .inl (cI, 20, .inl (nF mSo))), (a_mof, .inl (cI, 20, .inl mOf)), (a_mfrom, .inl (cI, 20, .inl mFr)), (a_mbit, .inl (cI, 224, .inl (nF mBi))), (a_mbefore, .inl (cI, 6, .inl (nF B1))), (a_mfirst, .inl (cI, 6, .inl (nF F1))), (a_mturned, .inl (cZ, 6, .inl (nF U1))), (a_mxx, .inl (cI, 2600, .inl (nF mX1))), (a_myy, .inl (cI, 2600, .inl (nF mY1))), (a_mdepth, .inl (cI, 2600, .inl (nF mDe1)))] H := hP
            have hD : va_D A [(a_mod, .inr (6, [.ref a_mkind, .ref a_mwidth, .ref a_mreset, .ref a_mop, .ref a_mka, .ref a_mkb, .ref a_mkc, .ref a_mheld, .int (nI mN), .ref a_msort, .ref a_mof, .ref a_mfrom, .int (nI mMs), .ref a_mbit, .ref a_mdone, .ref a_mrests, .ref a_mxx, .ref a_myy, .ref a_mdepth, .ref a_mone, .int (nI mG1), .int (nI mCk), .int mFw, .int (nI mRd), .ref a_mbefore, .ref a_mfirst, .ref a_mturned])), (a_mwidth, .inl (cI, 14, .inl (nF mWd))), (a_msort, .inl (cI, 20, .inl (nF mSo))), (a_mof, .inl (cI, 20, .inl mOf)), (a_mfrom, .inl (cI, 20, .inl mFr)), (a_mbit, .inl (cI, 224, .inl (nF mBi))), (a_mbefore, .inl (cI, 6, .inl (nF B1))), (a_mfirst, .inl (cI, 6, .inl (nF F1))), (a_mturned, .inl (cZ, 6, .inl (nF U1))), (a_mxx, .inl (cI, 2600, .inl (nF mX1))), (a_myy, .inl (cI, 2600, .inl (nF mY1))), (a_mdepth, .inl (cI, 2600, .inl (nF mDe1)))] := hD
            refine lv_istore (lv' := [(7, .int (nI (cL mSo Su k (dp mSo k)))), (5, .int (nI (d - 1))), (6, .int (nI k)), (4, .int (nI v)), (0, .ref a_mod), (1, .int (nI S)), (2, .int (nI J)), (3, .int (nI x0))]) hx hb d_Mod_settled_147 hl (by decide) rfl (fun ls hl => ?_)
            refine lv_aload_n hx hb d_Mod_settled_149 rfl (lv_at hl 4 rfl) ?_
            refine va_get (D := (dC, dI)) (ci := 6) (v := .ref a_mturned) (C := R_Mod) (T := F_Mod) (N := 27) hx hb hts (wi i_Mod) hown hK hP 0 rfl rfl 26 (by decide) (hts _ (mt 568 rfl rfl)) (fun _ h9 => h9) rfl d_Mod_settled_150 ?_
            refine lv_iload hx hb d_Mod_settled_153 (lv_at hl 1 rfl) ?_
            refine k_zld hx hb hK hP 8 1 rfl rfl (by omega) (by decide) d_Mod_settled_155 ?_
            have hb_8 := b_U1 (d - 1)
            refine lv_if_eq (tgt := 185) hx hb d_Mod_settled_156 (by decide) (fun c156 => ?_) (fun c156 => ?_)
            · skip
              have c156 : (U1 (d - 1)) = 0 := (nI_eq0 (by omega)).mp c156
              have he1 : ¬ es mSo k d = 1 := by have e : sh U1 d = U1 (d - 1) := rfl; omega
              refine lv_aload_n hx hb d_Mod_settled_185 rfl (lv_at hl 4 rfl) ?_
              refine lv_aload_n hx hb d_Mod_settled_186 rfl (lv_at hl 4 rfl) ?_
              refine va_get (D := (dC, dI)) (ci := 6) (v := .ref a_mbit) (C := R_Mod) (T := F_Mod) (N := 27) hx hb hts (wi i_Mod) hown hK hP 0 rfl rfl 13 (by decide) (hts _ (mt 555 rfl rfl)) (fun _ h9 => h9) rfl d_Mod_settled_187 ?_
              refine lv_bipush (v := nI 8) hx hb d_Mod_settled_190 rfl ?_
              refine lv_iload hx hb d_Mod_settled_192 (lv_at hl 0 rfl) ?_
              refine lv_imul hx hb d_Mod_settled_194 ?_
              refine k_top (pk_mul _ _) ?_
              refine k_ild hx hb hK hP 5 0 rfl rfl (by omega) (by decide) d_Mod_settled_195 ?_
              have hb_9 := b_mBi (8 * (cL mSo Su k (dp mSo k)))
              refine lv_iload hx hb d_Mod_settled_196 (lv_at hl 3 rfl) ?_
              refine lv_aload_n hx hb d_Mod_settled_198 rfl (lv_at hl 4 rfl) ?_
              refine va_get (D := (dC, dI)) (ci := 6) (v := .ref a_mbefore) (C := R_Mod) (T := F_Mod) (N := 27) hx hb hts (wi i_Mod) hown hK hP 0 rfl rfl 24 (by decide) (hts _ (mt 566 rfl rfl)) (fun _ h9 => h9) rfl d_Mod_settled_199 ?_
              refine lv_iload hx hb d_Mod_settled_202 (lv_at hl 1 rfl) ?_
              refine k_ild hx hb hK hP 6 0 rfl rfl (by omega) (by decide) d_Mod_settled_204 ?_
              have hb_10 := b_B1 (d - 1)
              have hX : v = if es mSo k d = 1 then sh F1 d else mVf v d B1 d := by rw [if_neg he1, mVf_d]
              have hY : (B1 (d - 1)) = if es mSo k d = 1 then mVf v d B1 d else mVf v d B1 (d - 1) := by rw [if_neg he1, mVf_n (by omega)]
              have hxy := GI_xy hGI hd hd0' hX hY
              have hCc : (mBi (8 * (cL mSo Su k (dp mSo k)))) = mBi (8 * cL mSo Su k d) := by rw [hd]
              have hgg := hGI.1.1
              refine k_i (wr := [(a_mwidth, .inl (cI, 14, .inl (nF mWd))), (a_msort, .inl (cI, 20, .inl (nF mSo))), (a_mof, .inl (cI, 20, .inl mOf)), (a_mfrom, .inl (cI, 20, .inl mFr)), (a_mbit, .inl (cI, 224, .inl (nF mBi))), (a_mbefore, .inl (cI, 6, .inl (nF B1))), (a_mfirst, .inl (cI, 6, .inl (nF F1))), (a_mturned, .inl (cZ, 6, .inl (nF U1)))]) (w2 := fun (u : Nat × (Nat → Nat) × (Nat → Nat) × (Nat → Nat) × Nat × (Nat → Nat) × (Nat → Nat) × (Nat → Nat) × (Nat → Nat)) => [(a_mod, .inr (6, [.ref a_mkind, .ref a_mwidth, .ref a_mreset, .ref a_mop, .ref a_mka, .ref a_mkb, .ref a_mkc, .ref a_mheld, .int (nI mN), .ref a_msort, .ref a_mof, .ref a_mfrom, .int (nI mMs), .ref a_mbit, .ref a_mdone, .ref a_mrests, .ref a_mxx, .ref a_myy, .ref a_mdepth, .ref a_mone, .int (nI u.1), .int (nI mCk), .int mFw, .int (nI mRd), .ref a_mbefore, .ref a_mfirst, .ref a_mturned])), (a_mwidth, .inl (cI, 14, .inl (nF mWd))), (a_msort, .inl (cI, 20, .inl (nF mSo))), (a_mof, .inl (cI, 20, .inl mOf)), (a_mfrom, .inl (cI, 20, .inl mFr)), (a_mbit, .inl (cI, 224, .inl (nF mBi))), (a_mbefore, .inl (cI, 6, .inl (nF B1))), (a_mfirst, .inl (cI, 6, .inl (nF F1))), (a_mturned, .inl (cZ, 6, .inl (nF U1))), (a_mxx, .inl (cI, 2600, .inl (nF u.2.1))), (a_myy, .inl (cI, 2600, .inl (nF u.2.2.1))), (a_mdepth, .inl (cI, 2600, .inl (nF u.2.2.2.1)))]) (va_runV (As := [.int (nI (mBi (8 * (cL mSo Su k (dp mSo k))))), .int (nI v), .int (nI (B1 (d - 1)))]) (rest := []) ⟨hx, hb, hml, hown, hts⟩ (c_Mod_pick l dC dI cI cZ a_mod a_mkind a_mwidth a_mreset a_mop a_mka a_mkb a_mkc a_mheld a_msort a_mof a_mfrom a_mbit a_mdone a_mrests a_mxx a_myy a_mdepth a_mone a_mbefore a_mfirst a_mturned tt H.size mN mMs mG1 mCk mFw mRd mX1 mY1 mDe1 gd1 P1 Dp1 Sl1 T1 K (mBi (8 * (cL mSo Su k (dp mSo k)))) v (B1 (d - 1)) (by omega) (by omega) (by omega) (by omega) b_mX1 b_mY1 b_mDe1 hN1 hXY1 hAL1 (fun ne => by rw [hCc]; have := (hxy.2.1 ne).1; omega) (by have := b_mBi (8 * cL mSo Su k (dp mSo k)); omega) hxy.1.1 hxy.1.2 (by rw [hCc]; exact GI_in hGI hd hd0' h3' hX hY (by omega) hgl (LT_ee hN1.1 hxy.1.1 hxy.1.2))) (cwV 3 hts (gd_V in_tl (mw 698 rfl rfl) (mw 700 rfl rfl) (mw 31 rfl rfl) (mw 47 rfl rfl) (mw 701 rfl rfl)) rfl rfl rfl (by decide +kernel) ⟨Nat.le_of_ble_eq_true rfl, Nat.le_of_ble_eq_true rfl⟩) (k_preV hK hP hD hS hA hE [0, 9, 10, 11] (by decide) rfl 6 0 rfl rfl) rfl rfl hl.1 rfl (lv_room (Nat.le_of_ble_eq_true rfl)) d_Mod_settled_205 ⟨Nat.zero_le _, Nat.zero_le _⟩) hP hD hS hA [0, 9, 10, 11] [1, 2, 3, 4, 5, 6, 7, 8] [8, 0, 1, 2, 3, 4, 5, 6, 7, 9, 10, 11] rfl rfl (by decide) (by decide) (by decide) (fun _ => rfl) (fun r_20 u H locs hw hP hD hS => ?_)
              obtain ⟨mGv_11, mXv_12, mYv_13, mDev_14, gdv_15, Pv_16, Dpv_17, Slv_18, Tv_19⟩ := u
              obtain ⟨v_21, rfl, b_mGv_11, b_mXv_12, b_mYv_13, b_mDev_14, hN_205, hXY_205, hst_205, hrl_205, hc_205, hAL_205⟩ : ∃ rv : Nat, r_20 = nI rv ∧ (mGv_11 ≤ 1280) ∧ (∀ j, mXv_12 j < 2786) ∧ (∀ j, mYv_13 j < 2786) ∧ (∀ j, mDev_14 j < 1400) ∧ (NJ mGv_11 gdv_15 Pv_16 Dpv_17 Slv_18 Tv_19) ∧ (MXY mGv_11 mXv_12 mYv_13 mDev_14 Pv_16 Dpv_17) ∧ (ST T1 mG1 Tv_19 mGv_11 (pkl (LT T1 (mBi (8 * (cL mSo Su k (dp mSo k))))) (LT T1 v) (LT T1 (B1 (d - 1))))) ∧ (rv < 2 * (113 + mGv_11)) ∧ (LT Tv_19 rv = pk (LT T1 (mBi (8 * (cL mSo Su k (dp mSo k))))) (LT T1 v) (LT T1 (B1 (d - 1)))) ∧ (AL K Tv_19 mGv_11) := hw
              have hP : va_P (dC, dI) classes [(a_mod, .inr (6, [.ref a_mkind, .ref a_mwidth, .ref a_mreset, .ref a_mop, .ref a_mka, .ref a_mkb, .ref a_mkc, .ref a_mheld, .int (nI mN), .ref a_msort, .ref a_mof, .ref a_mfrom, .int (nI mMs), .ref a_mbit, .ref a_mdone, .ref a_mrests, .ref a_mxx, .ref a_myy, .ref a_mdepth, .ref a_mone, .int (nI mGv_11), .int (nI mCk), .int mFw, .int (nI mRd), .ref a_mbefore, .ref a_mfirst, .ref a_mturned])), (a_mwidth, .inl (cI, 14, .inl (nF mWd))), (a_msort, .inl (cI, 20, .inl (nF mSo))), (a_mof, .inl (cI, 20, .inl mOf)), (a_mfrom, .inl (cI, 20, .inl mFr)), (a_mbit, .inl (cI, 224, .inl (nF mBi))), (a_mbefore, .inl (cI, 6, .inl (nF B1))), (a_mfirst, .inl (cI, 6, .inl (nF F1))), (a_mturned, .inl (cZ, 6, .inl (nF U1))), (a_mxx, .inl (cI, 2600, .inl (nF mXv_12))), (a_myy, .inl (cI, 2600, .inl (nF mYv_13))), (a_mdepth, .inl (cI, 2600, .inl (nF mDev_14)))] H := hP
              have hD : va_D A [(a_mod, .inr (6, [.ref a_mkind, .ref a_mwidth, .ref a_mreset, .ref a_mop, .ref a_mka, .ref a_mkb, .ref a_mkc, .ref a_mheld, .int (nI mN), .ref a_msort, .ref a_mof, .ref a_mfrom, .int (nI mMs), .ref a_mbit, .ref a_mdone, .ref a_mrests, .ref a_mxx, .ref a_myy, .ref a_mdepth, .ref a_mone, .int (nI mGv_11), .int (nI mCk), .int mFw, .int (nI mRd), .ref a_mbefore, .ref a_mfirst, .ref a_mturned])), (a_mwidth, .inl (cI, 14, .inl (nF mWd))), (a_msort, .inl (cI, 20, .inl (nF mSo))), (a_mof, .inl (cI, 20, .inl mOf)), (a_mfrom, .inl (cI, 20, .inl mFr)), (a_mbit, .inl (cI, 224, .inl (nF mBi))), (a_mbefore, .inl (cI, 6, .inl (nF B1))), (a_mfirst, .inl (cI, 6, .inl (nF F1))), (a_mturned, .inl (cZ, 6, .inl (nF U1))), (a_mxx, .inl (cI, 2600, .inl (nF mXv_12))), (a_myy, .inl (cI, 2600, .inl (nF mYv_13))), (a_mdepth, .inl (cI, 2600, .inl (nF mDev_14)))] := hD
              have hpr := fun e => pk_rv hN_205.1 hst_205 hxy.1.1 hrl_205 hc_205 e
              rw [hCc] at hst_205 hc_205
              refine lv_istore (lv' := [(4, .int (nI v_21)), (7, .int (nI (cL mSo Su k (dp mSo k)))), (5, .int (nI (d - 1))), (6, .int (nI k)), (0, .ref a_mod), (1, .int (nI S)), (2, .int (nI J)), (3, .int (nI x0))]) hx hb d_Mod_settled_208 hl (by decide) rfl (fun ls hl => ?_)
              refine lv_iinc (v := nI (k + 1)) (lv' := [(6, .int (nI (k + 1))), (4, .int (nI v_21)), (7, .int (nI (cL mSo Su k (dp mSo k)))), (5, .int (nI (d - 1))), (0, .ref a_mod), (1, .int (nI S)), (2, .int (nI J)), (3, .int (nI x0))]) hx hb d_Mod_settled_210 hl (k := 3) rfl (k_inc _ 1) (by decide) rfl (fun ls hl => ?_)
              refine lv_goto (tgt := 9) hx hb d_Mod_settled_213 (by decide) ?_
              have hI_22 : (mGv_11 ≤ 1280) ∧ (∀ j, mXv_12 j < 2786) ∧ (∀ j, mYv_13 j < 2786) ∧ (∀ j, mDev_14 j < 1400) ∧ (∀ j, B1 j < 2786) ∧ (∀ j, F1 j < 2786) ∧ (∀ j, U1 j < 2) ∧ ((d - 1) = dp mSo (k + 1)) ∧ ((k + 1) ≤ mMs) ∧ (NJ mGv_11 gdv_15 Pv_16 Dpv_17 Slv_18 Tv_19) ∧ (MXY mGv_11 mXv_12 mYv_13 mDev_14 Pv_16 Dpv_17) ∧ (AL K Tv_19 mGv_11) ∧ (v_21 < 2786) ∧ (GI mSo Su Sr S (fun z => CB z J) (fun z => CB z 0) (fun z => mBi (8 * z)) T mG v0 (k + 1) (mVf v_21 (d - 1) B1) (sh F1) (fun z => cL mSo Su (k + 1) z) (sh U1) Tv_19 mGv_11) := ⟨(by omega), b_mXv_12, b_mYv_13, b_mDev_14, b_B1, b_F1, b_U1, (by rw [hd]; exact (dp_e h3').symm), (by omega), hN_205, hXY_205, hAL_205, (by omega), (GI_congr (GI_z hGI hd hd0' h3' hX hY (LT_ee hN1.1 hxy.1.1 hxy.1.2) hst_205 hrl_205 hc_205 hpr (V2 := mVf v_21 (d - 1) B1) (fun z hz => by rw [mVf_n (by omega), mVf_n (by omega)]) (mVf_d _ _ _) (fun _ _ => rfl) (fun _ _ => rfl)) (fun _ _ => rfl) (fun _ _ _ => rfl) (fun z _ _ => cL_n (by omega) z) (fun _ _ _ => rfl))⟩
              exact ih_2 (v_21, d - 1, k + 1, mGv_11, mXv_12, mYv_13, mDev_14, gdv_15, Pv_16, Dpv_17, Slv_18, Tv_19, B1, F1, U1) hI_22 (show mMs - (k + 1) < mMs - k from by omega) _ _ _ hP hD hS (lv_sub hl [0, 3, 1, 4, 5, 6, 7] rfl)
            · skip
              have c156 : ¬ ((U1 (d - 1)) = 0) := fun h => c156 ((nI_eq0 (by omega)).mpr h)
              have he1 : es mSo k d = 1 := by have e : sh U1 d = U1 (d - 1) := rfl; omega
              refine lv_aload_n hx hb d_Mod_settled_159 rfl (lv_at hl 4 rfl) ?_
              refine lv_aload_n hx hb d_Mod_settled_160 rfl (lv_at hl 4 rfl) ?_
              refine va_get (D := (dC, dI)) (ci := 6) (v := .ref a_mbit) (C := R_Mod) (T := F_Mod) (N := 27) hx hb hts (wi i_Mod) hown hK hP 0 rfl rfl 13 (by decide) (hts _ (mt 555 rfl rfl)) (fun _ h9 => h9) rfl d_Mod_settled_161 ?_
              refine lv_bipush (v := nI 8) hx hb d_Mod_settled_164 rfl ?_
              refine lv_iload hx hb d_Mod_settled_166 (lv_at hl 0 rfl) ?_
              refine lv_imul hx hb d_Mod_settled_168 ?_
              refine k_top (pk_mul _ _) ?_
              refine k_ild hx hb hK hP 5 0 rfl rfl (by omega) (by decide) d_Mod_settled_169 ?_
              have hb_23 := b_mBi (8 * (cL mSo Su k (dp mSo k)))
              refine lv_aload_n hx hb d_Mod_settled_170 rfl (lv_at hl 4 rfl) ?_
              refine va_get (D := (dC, dI)) (ci := 6) (v := .ref a_mfirst) (C := R_Mod) (T := F_Mod) (N := 27) hx hb hts (wi i_Mod) hown hK hP 0 rfl rfl 25 (by decide) (hts _ (mt 567 rfl rfl)) (fun _ h9 => h9) rfl d_Mod_settled_171 ?_
              refine lv_iload hx hb d_Mod_settled_174 (lv_at hl 1 rfl) ?_
              refine k_ild hx hb hK hP 7 0 rfl rfl (by omega) (by decide) d_Mod_settled_176 ?_
              have hb_24 := b_F1 (d - 1)
              refine lv_iload hx hb d_Mod_settled_177 (lv_at hl 3 rfl) ?_
              have hX : (F1 (d - 1)) = if es mSo k d = 1 then sh F1 d else mVf v d B1 d := by rw [if_pos he1]; rfl
              have hY : v = if es mSo k d = 1 then mVf v d B1 d else mVf v d B1 (d - 1) := by rw [if_pos he1, mVf_d]
              have hxy := GI_xy hGI hd hd0' hX hY
              have hCc : (mBi (8 * (cL mSo Su k (dp mSo k)))) = mBi (8 * cL mSo Su k d) := by rw [hd]
              have hgg := hGI.1.1
              refine k_i (wr := [(a_mwidth, .inl (cI, 14, .inl (nF mWd))), (a_msort, .inl (cI, 20, .inl (nF mSo))), (a_mof, .inl (cI, 20, .inl mOf)), (a_mfrom, .inl (cI, 20, .inl mFr)), (a_mbit, .inl (cI, 224, .inl (nF mBi))), (a_mbefore, .inl (cI, 6, .inl (nF B1))), (a_mfirst, .inl (cI, 6, .inl (nF F1))), (a_mturned, .inl (cZ, 6, .inl (nF U1)))]) (w2 := fun (u : Nat × (Nat → Nat) × (Nat → Nat) × (Nat → Nat) × Nat × (Nat → Nat) × (Nat → Nat) × (Nat → Nat) × (Nat → Nat)) => [(a_mod, .inr (6, [.ref a_mkind, .ref a_mwidth, .ref a_mreset, .ref a_mop, .ref a_mka, .ref a_mkb, .ref a_mkc, .ref a_mheld, .int (nI mN), .ref a_msort, .ref a_mof, .ref a_mfrom, .int (nI mMs), .ref a_mbit, .ref a_mdone, .ref a_mrests, .ref a_mxx, .ref a_myy, .ref a_mdepth, .ref a_mone, .int (nI u.1), .int (nI mCk), .int mFw, .int (nI mRd), .ref a_mbefore, .ref a_mfirst, .ref a_mturned])), (a_mwidth, .inl (cI, 14, .inl (nF mWd))), (a_msort, .inl (cI, 20, .inl (nF mSo))), (a_mof, .inl (cI, 20, .inl mOf)), (a_mfrom, .inl (cI, 20, .inl mFr)), (a_mbit, .inl (cI, 224, .inl (nF mBi))), (a_mbefore, .inl (cI, 6, .inl (nF B1))), (a_mfirst, .inl (cI, 6, .inl (nF F1))), (a_mturned, .inl (cZ, 6, .inl (nF U1))), (a_mxx, .inl (cI, 2600, .inl (nF u.2.1))), (a_myy, .inl (cI, 2600, .inl (nF u.2.2.1))), (a_mdepth, .inl (cI, 2600, .inl (nF u.2.2.2.1)))]) (va_runV (As := [.int (nI (mBi (8 * (cL mSo Su k (dp mSo k))))), .int (nI (F1 (d - 1))), .int (nI v)]) (rest := []) ⟨hx, hb, hml, hown, hts⟩ (c_Mod_pick l dC dI cI cZ a_mod a_mkind a_mwidth a_mreset a_mop a_mka a_mkb a_mkc a_mheld a_msort a_mof a_mfrom a_mbit a_mdone a_mrests a_mxx a_myy a_mdepth a_mone a_mbefore a_mfirst a_mturned tt H.size mN mMs mG1 mCk mFw mRd mX1 mY1 mDe1 gd1 P1 Dp1 Sl1 T1 K (mBi (8 * (cL mSo Su k (dp mSo k)))) (F1 (d - 1)) v (by omega) (by omega) (by omega) (by omega) b_mX1 b_mY1 b_mDe1 hN1 hXY1 hAL1 (fun ne => by rw [hCc]; have := (hxy.2.1 ne).1; omega) (by have := b_mBi (8 * cL mSo Su k (dp mSo k)); omega) hxy.1.1 hxy.1.2 (by rw [hCc]; exact GI_in hGI hd hd0' h3' hX hY (by omega) hgl (LT_ee hN1.1 hxy.1.1 hxy.1.2))) (cwV 3 hts (gd_V in_tl (mw 698 rfl rfl) (mw 700 rfl rfl) (mw 31 rfl rfl) (mw 47 rfl rfl) (mw 701 rfl rfl)) rfl rfl rfl (by decide +kernel) ⟨Nat.le_of_ble_eq_true rfl, Nat.le_of_ble_eq_true rfl⟩) (k_preV hK hP hD hS hA hE [0, 9, 10, 11] (by decide) rfl 6 0 rfl rfl) rfl rfl hl.1 rfl (lv_room (Nat.le_of_ble_eq_true rfl)) d_Mod_settled_179 ⟨Nat.zero_le _, Nat.zero_le _⟩) hP hD hS hA [0, 9, 10, 11] [1, 2, 3, 4, 5, 6, 7, 8] [8, 0, 1, 2, 3, 4, 5, 6, 7, 9, 10, 11] rfl rfl (by decide) (by decide) (by decide) (fun _ => rfl) (fun r_34 u H locs hw hP hD hS => ?_)
              obtain ⟨mGv_25, mXv_26, mYv_27, mDev_28, gdv_29, Pv_30, Dpv_31, Slv_32, Tv_33⟩ := u
              obtain ⟨v_35, rfl, b_mGv_25, b_mXv_26, b_mYv_27, b_mDev_28, hN_179, hXY_179, hst_179, hrl_179, hc_179, hAL_179⟩ : ∃ rv : Nat, r_34 = nI rv ∧ (mGv_25 ≤ 1280) ∧ (∀ j, mXv_26 j < 2786) ∧ (∀ j, mYv_27 j < 2786) ∧ (∀ j, mDev_28 j < 1400) ∧ (NJ mGv_25 gdv_29 Pv_30 Dpv_31 Slv_32 Tv_33) ∧ (MXY mGv_25 mXv_26 mYv_27 mDev_28 Pv_30 Dpv_31) ∧ (ST T1 mG1 Tv_33 mGv_25 (pkl (LT T1 (mBi (8 * (cL mSo Su k (dp mSo k))))) (LT T1 (F1 (d - 1))) (LT T1 v))) ∧ (rv < 2 * (113 + mGv_25)) ∧ (LT Tv_33 rv = pk (LT T1 (mBi (8 * (cL mSo Su k (dp mSo k))))) (LT T1 (F1 (d - 1))) (LT T1 v)) ∧ (AL K Tv_33 mGv_25) := hw
              have hP : va_P (dC, dI) classes [(a_mod, .inr (6, [.ref a_mkind, .ref a_mwidth, .ref a_mreset, .ref a_mop, .ref a_mka, .ref a_mkb, .ref a_mkc, .ref a_mheld, .int (nI mN), .ref a_msort, .ref a_mof, .ref a_mfrom, .int (nI mMs), .ref a_mbit, .ref a_mdone, .ref a_mrests, .ref a_mxx, .ref a_myy, .ref a_mdepth, .ref a_mone, .int (nI mGv_25), .int (nI mCk), .int mFw, .int (nI mRd), .ref a_mbefore, .ref a_mfirst, .ref a_mturned])), (a_mwidth, .inl (cI, 14, .inl (nF mWd))), (a_msort, .inl (cI, 20, .inl (nF mSo))), (a_mof, .inl (cI, 20, .inl mOf)), (a_mfrom, .inl (cI, 20, .inl mFr)), (a_mbit, .inl (cI, 224, .inl (nF mBi))), (a_mbefore, .inl (cI, 6, .inl (nF B1))), (a_mfirst, .inl (cI, 6, .inl (nF F1))), (a_mturned, .inl (cZ, 6, .inl (nF U1))), (a_mxx, .inl (cI, 2600, .inl (nF mXv_26))), (a_myy, .inl (cI, 2600, .inl (nF mYv_27))), (a_mdepth, .inl (cI, 2600, .inl (nF mDev_28)))] H := hP
              have hD : va_D A [(a_mod, .inr (6, [.ref a_mkind, .ref a_mwidth, .ref a_mreset, .ref a_mop, .ref a_mka, .ref a_mkb, .ref a_mkc, .ref a_mheld, .int (nI mN), .ref a_msort, .ref a_mof, .ref a_mfrom, .int (nI mMs), .ref a_mbit, .ref a_mdone, .ref a_mrests, .ref a_mxx, .ref a_myy, .ref a_mdepth, .ref a_mone, .int (nI mGv_25), .int (nI mCk), .int mFw, .int (nI mRd), .ref a_mbefore, .ref a_mfirst, .ref a_mturned])), (a_mwidth, .inl (cI, 14, .inl (nF mWd))), (a_msort, .inl (cI, 20, .inl (nF mSo))), (a_mof, .inl (cI, 20, .inl mOf)), (a_mfrom, .inl (cI, 20, .inl mFr)), (a_mbit, .inl (cI, 224, .inl (nF mBi))), (a_mbefore, .inl (cI, 6, .inl (nF B1))), (a_mfirst, .inl (cI, 6, .inl (nF F1))), (a_mturned, .inl (cZ, 6, .inl (nF U1))), (a_mxx, .inl (cI, 2600, .inl (nF mXv_26))), (a_myy, .inl (cI, 2600, .inl (nF mYv_27))), (a_mdepth, .inl (cI, 2600, .inl (nF mDev_28)))] := hD
              have hpr := fun e => pk_rv hN_179.1 hst_179 hxy.1.1 hrl_179 hc_179 e
              rw [hCc] at hst_179 hc_179
              refine lv_goto (tgt := 208) hx hb d_Mod_settled_182 (by decide) ?_
              refine lv_istore (lv' := [(4, .int (nI v_35)), (7, .int (nI (cL mSo Su k (dp mSo k)))), (5, .int (nI (d - 1))), (6, .int (nI k)), (0, .ref a_mod), (1, .int (nI S)), (2, .int (nI J)), (3, .int (nI x0))]) hx hb d_Mod_settled_208 hl (by decide) rfl (fun ls hl => ?_)
              refine lv_iinc (v := nI (k + 1)) (lv' := [(6, .int (nI (k + 1))), (4, .int (nI v_35)), (7, .int (nI (cL mSo Su k (dp mSo k)))), (5, .int (nI (d - 1))), (0, .ref a_mod), (1, .int (nI S)), (2, .int (nI J)), (3, .int (nI x0))]) hx hb d_Mod_settled_210 hl (k := 3) rfl (k_inc _ 1) (by decide) rfl (fun ls hl => ?_)
              refine lv_goto (tgt := 9) hx hb d_Mod_settled_213 (by decide) ?_
              have hI_36 : (mGv_25 ≤ 1280) ∧ (∀ j, mXv_26 j < 2786) ∧ (∀ j, mYv_27 j < 2786) ∧ (∀ j, mDev_28 j < 1400) ∧ (∀ j, B1 j < 2786) ∧ (∀ j, F1 j < 2786) ∧ (∀ j, U1 j < 2) ∧ ((d - 1) = dp mSo (k + 1)) ∧ ((k + 1) ≤ mMs) ∧ (NJ mGv_25 gdv_29 Pv_30 Dpv_31 Slv_32 Tv_33) ∧ (MXY mGv_25 mXv_26 mYv_27 mDev_28 Pv_30 Dpv_31) ∧ (AL K Tv_33 mGv_25) ∧ (v_35 < 2786) ∧ (GI mSo Su Sr S (fun z => CB z J) (fun z => CB z 0) (fun z => mBi (8 * z)) T mG v0 (k + 1) (mVf v_35 (d - 1) B1) (sh F1) (fun z => cL mSo Su (k + 1) z) (sh U1) Tv_33 mGv_25) := ⟨(by omega), b_mXv_26, b_mYv_27, b_mDev_28, b_B1, b_F1, b_U1, (by rw [hd]; exact (dp_e h3').symm), (by omega), hN_179, hXY_179, hAL_179, (by omega), (GI_congr (GI_z hGI hd hd0' h3' hX hY (LT_ee hN1.1 hxy.1.1 hxy.1.2) hst_179 hrl_179 hc_179 hpr (V2 := mVf v_35 (d - 1) B1) (fun z hz => by rw [mVf_n (by omega), mVf_n (by omega)]) (mVf_d _ _ _) (fun _ _ => rfl) (fun _ _ => rfl)) (fun _ _ => rfl) (fun _ _ _ => rfl) (fun z _ _ => cL_n (by omega) z) (fun _ _ _ => rfl))⟩
              exact ih_2 (v_35, d - 1, k + 1, mGv_25, mXv_26, mYv_27, mDev_28, gdv_29, Pv_30, Dpv_31, Slv_32, Tv_33, B1, F1, U1) hI_36 (show mMs - (k + 1) < mMs - k from by omega) _ _ _ hP hD hS (lv_sub hl [0, 3, 1, 4, 5, 6, 7] rfl)
        · skip
          have c92 : (mSo k) = 2 := (nI_eq (by omega) (by omega)).mp c92
          have g2' := g1'.2.2 c92
          refine lv_aload_n hx hb d_Mod_settled_95 rfl (lv_at hl 3 rfl) ?_
          refine va_get (D := (dC, dI)) (ci := 6) (v := .ref a_mfirst) (C := R_Mod) (T := F_Mod) (N := 27) hx hb hts (wi i_Mod) hown hK hP 0 rfl rfl 25 (by decide) (hts _ (mt 567 rfl rfl)) (fun _ h9 => h9) rfl d_Mod_settled_96 ?_
          refine lv_iload hx hb d_Mod_settled_99 (lv_at hl 1 rfl) ?_
          refine lv_iconst (v := nI 1) hx hb d_Mod_settled_101 rfl ?_
          refine lv_isub hx hb d_Mod_settled_102 ?_
          refine k_top (pk_sub (by omega)) ?_
          refine lv_iload hx hb d_Mod_settled_103 (lv_at hl 2 rfl) ?_
          refine k_ist hx hb hK hP hD hS 7 0 rfl rfl (by omega) (by decide) d_Mod_settled_105 (fun H locs hP hD hS => ?_)
          have bb_37 : ∀ j, upN F1 (d - 1) v j < 2786 := upN_lt b_F1 (by omega)
          have hP : va_P (dC, dI) classes [(a_mod, .inr (6, [.ref a_mkind, .ref a_mwidth, .ref a_mreset, .ref a_mop, .ref a_mka, .ref a_mkb, .ref a_mkc, .ref a_mheld, .int (nI mN), .ref a_msort, .ref a_mof, .ref a_mfrom, .int (nI mMs), .ref a_mbit, .ref a_mdone, .ref a_mrests, .ref a_mxx, .ref a_myy, .ref a_mdepth, .ref a_mone, .int (nI mG1), .int (nI mCk), .int mFw, .int (nI mRd), .ref a_mbefore, .ref a_mfirst, .ref a_mturned])), (a_mwidth, .inl (cI, 14, .inl (nF mWd))), (a_msort, .inl (cI, 20, .inl (nF mSo))), (a_mof, .inl (cI, 20, .inl mOf)), (a_mfrom, .inl (cI, 20, .inl mFr)), (a_mbit, .inl (cI, 224, .inl (nF mBi))), (a_mbefore, .inl (cI, 6, .inl (nF B1))), (a_mfirst, .inl (cI, 6, .inl (nF (upN F1 (d - 1) v)))), (a_mturned, .inl (cZ, 6, .inl (nF U1))), (a_mxx, .inl (cI, 2600, .inl (nF mX1))), (a_myy, .inl (cI, 2600, .inl (nF mY1))), (a_mdepth, .inl (cI, 2600, .inl (nF mDe1)))] H := hP
          have hD : va_D A [(a_mod, .inr (6, [.ref a_mkind, .ref a_mwidth, .ref a_mreset, .ref a_mop, .ref a_mka, .ref a_mkb, .ref a_mkc, .ref a_mheld, .int (nI mN), .ref a_msort, .ref a_mof, .ref a_mfrom, .int (nI mMs), .ref a_mbit, .ref a_mdone, .ref a_mrests, .ref a_mxx, .ref a_myy, .ref a_mdepth, .ref a_mone, .int (nI mG1), .int (nI mCk), .int mFw, .int (nI mRd), .ref a_mbefore, .ref a_mfirst, .ref a_mturned])), (a_mwidth, .inl (cI, 14, .inl (nF mWd))), (a_msort, .inl (cI, 20, .inl (nF mSo))), (a_mof, .inl (cI, 20, .inl mOf)), (a_mfrom, .inl (cI, 20, .inl mFr)), (a_mbit, .inl (cI, 224, .inl (nF mBi))), (a_mbefore, .inl (cI, 6, .inl (nF B1))), (a_mfirst, .inl (cI, 6, .inl (nF (upN F1 (d - 1) v)))), (a_mturned, .inl (cZ, 6, .inl (nF U1))), (a_mxx, .inl (cI, 2600, .inl (nF mX1))), (a_myy, .inl (cI, 2600, .inl (nF mY1))), (a_mdepth, .inl (cI, 2600, .inl (nF mDe1)))] := hD
          refine lv_aload_n hx hb d_Mod_settled_106 rfl (lv_at hl 3 rfl) ?_
          refine va_get (D := (dC, dI)) (ci := 6) (v := .ref a_mturned) (C := R_Mod) (T := F_Mod) (N := 27) hx hb hts (wi i_Mod) hown hK hP 0 rfl rfl 26 (by decide) (hts _ (mt 568 rfl rfl)) (fun _ h9 => h9) rfl d_Mod_settled_107 ?_
          refine lv_iload hx hb d_Mod_settled_110 (lv_at hl 1 rfl) ?_
          refine lv_iconst (v := nI 1) hx hb d_Mod_settled_112 rfl ?_
          refine lv_isub hx hb d_Mod_settled_113 ?_
          refine k_top (pk_sub (by omega)) ?_
          refine lv_iconst (v := nI 1) hx hb d_Mod_settled_114 rfl ?_
          refine k_zst hx hb hK hP hD hS 8 1 rfl rfl (by omega) (by decide) (by omega) d_Mod_settled_115 (fun H locs hP hD hS => ?_)
          have bb_38 : ∀ j, upN U1 (d - 1) 1 j < 2 := upN_lt b_U1 (by omega)
          have hP : va_P (dC, dI) classes [(a_mod, .inr (6, [.ref a_mkind, .ref a_mwidth, .ref a_mreset, .ref a_mop, .ref a_mka, .ref a_mkb, .ref a_mkc, .ref a_mheld, .int (nI mN), .ref a_msort, .ref a_mof, .ref a_mfrom, .int (nI mMs), .ref a_mbit, .ref a_mdone, .ref a_mrests, .ref a_mxx, .ref a_myy, .ref a_mdepth, .ref a_mone, .int (nI mG1), .int (nI mCk), .int mFw, .int (nI mRd), .ref a_mbefore, .ref a_mfirst, .ref a_mturned])), (a_mwidth, .inl (cI, 14, .inl (nF mWd))), (a_msort, .inl (cI, 20, .inl (nF mSo))), (a_mof, .inl (cI, 20, .inl mOf)), (a_mfrom, .inl (cI, 20, .inl mFr)), (a_mbit, .inl (cI, 224, .inl (nF mBi))), (a_mbefore, .inl (cI, 6, .inl (nF B1))), (a_mfirst, .inl (cI, 6, .inl (nF (upN F1 (d - 1) v)))), (a_mturned, .inl (cZ, 6, .inl (nF (upN U1 (d - 1) 1)))), (a_mxx, .inl (cI, 2600, .inl (nF mX1))), (a_myy, .inl (cI, 2600, .inl (nF mY1))), (a_mdepth, .inl (cI, 2600, .inl (nF mDe1)))] H := hP
          have hD : va_D A [(a_mod, .inr (6, [.ref a_mkind, .ref a_mwidth, .ref a_mreset, .ref a_mop, .ref a_mka, .ref a_mkb, .ref a_mkc, .ref a_mheld, .int (nI mN), .ref a_msort, .ref a_mof, .ref a_mfrom, .int (nI mMs), .ref a_mbit, .ref a_mdone, .ref a_mrests, .ref a_mxx, .ref a_myy, .ref a_mdepth, .ref a_mone, .int (nI mG1), .int (nI mCk), .int mFw, .int (nI mRd), .ref a_mbefore, .ref a_mfirst, .ref a_mturned])), (a_mwidth, .inl (cI, 14, .inl (nF mWd))), (a_msort, .inl (cI, 20, .inl (nF mSo))), (a_mof, .inl (cI, 20, .inl mOf)), (a_mfrom, .inl (cI, 20, .inl mFr)), (a_mbit, .inl (cI, 224, .inl (nF mBi))), (a_mbefore, .inl (cI, 6, .inl (nF B1))), (a_mfirst, .inl (cI, 6, .inl (nF (upN F1 (d - 1) v)))), (a_mturned, .inl (cZ, 6, .inl (nF (upN U1 (d - 1) 1)))), (a_mxx, .inl (cI, 2600, .inl (nF mX1))), (a_myy, .inl (cI, 2600, .inl (nF mY1))), (a_mdepth, .inl (cI, 2600, .inl (nF mDe1)))] := hD
          refine lv_aload_n hx hb d_Mod_settled_116 rfl (lv_at hl 3 rfl) ?_
          refine va_get (D := (dC, dI)) (ci := 6) (v := .ref a_mbefore) (C := R_Mod) (T := F_Mod) (N := 27) hx hb hts (wi i_Mod) hown hK hP 0 rfl rfl 24 (by decide) (hts _ (mt 566 rfl rfl)) (fun _ h9 => h9) rfl d_Mod_settled_117 ?_
          refine lv_iload hx hb d_Mod_settled_120 (lv_at hl 1 rfl) ?_
          refine lv_iconst (v := nI 1) hx hb d_Mod_settled_122 rfl ?_
          refine lv_isub hx hb d_Mod_settled_123 ?_
          refine k_top (pk_sub (by omega)) ?_
          refine k_ild hx hb hK hP 6 0 rfl rfl (by omega) (by decide) d_Mod_settled_124 ?_
          have hb_39 := b_B1 (d - 1)
          refine lv_istore (lv' := [(4, .int (nI (B1 (d - 1)))), (6, .int (nI k)), (5, .int (nI d)), (0, .ref a_mod), (1, .int (nI S)), (2, .int (nI J)), (3, .int (nI x0))]) hx hb d_Mod_settled_125 hl (by decide) rfl (fun ls hl => ?_)
          refine lv_aload_n hx hb d_Mod_settled_127 rfl (lv_at hl 3 rfl) ?_
          refine va_get (D := (dC, dI)) (ci := 6) (v := .ref a_msort) (C := R_Mod) (T := F_Mod) (N := 27) hx hb hts (wi i_Mod) hown hK hP 0 rfl rfl 9 (by decide) (hts _ (mt 551 rfl rfl)) (fun _ h9 => h9) rfl d_Mod_settled_128 ?_
          refine lv_iload hx hb d_Mod_settled_131 (lv_at hl 1 rfl) ?_
          refine k_ild hx hb hK hP 2 0 rfl rfl (by omega) (by decide) d_Mod_settled_133 ?_
          have hb_40 := b_mSo k
          refine lv_iconst (v := nI 3) hx hb d_Mod_settled_134 rfl ?_
          refine lv_icmp_ne (tgt := 210) hx hb d_Mod_settled_135 (by decide) (fun c135 => ?_) (fun c135 => ?_)
          · skip
            have c135 : ¬ ((mSo k) = 3) := fun h => c135 ((nI_eq (by omega) (by omega)).mpr h)
            refine lv_iinc (v := nI (k + 1)) (lv' := [(6, .int (nI (k + 1))), (4, .int (nI (B1 (d - 1)))), (5, .int (nI d)), (0, .ref a_mod), (1, .int (nI S)), (2, .int (nI J)), (3, .int (nI x0))]) hx hb d_Mod_settled_210 hl (k := 1) rfl (k_inc _ 1) (by decide) rfl (fun ls hl => ?_)
            refine lv_goto (tgt := 9) hx hb d_Mod_settled_213 (by decide) ?_
            have hI_41 : (mG1 ≤ 1280) ∧ (∀ j, mX1 j < 2786) ∧ (∀ j, mY1 j < 2786) ∧ (∀ j, mDe1 j < 1400) ∧ (∀ j, B1 j < 2786) ∧ (∀ j, (upN F1 (d - 1) v) j < 2786) ∧ (∀ j, (upN U1 (d - 1) 1) j < 2) ∧ (d = dp mSo (k + 1)) ∧ ((k + 1) ≤ mMs) ∧ (NJ mG1 gd1 P1 Dp1 Sl1 T1) ∧ (MXY mG1 mX1 mY1 mDe1 P1 Dp1) ∧ (AL K T1 mG1) ∧ ((B1 (d - 1)) < 2786) ∧ (GI mSo Su Sr S (fun z => CB z J) (fun z => CB z 0) (fun z => mBi (8 * z)) T mG v0 (k + 1) (mVf (B1 (d - 1)) d B1) (sh (upN F1 (d - 1) v)) (fun z => cL mSo Su (k + 1) z) (sh (upN U1 (d - 1) 1)) T1 mG1) := ⟨(by omega), b_mX1, b_mY1, b_mDe1, b_B1, bb_37, bb_38, (by rw [hd]; exact (dp_o (by omega) (by omega)).symm), (by omega), hN1, hXY1, hAL1, (b_B1 _), (GI_congr (GI_e hGI hd c92 (by omega) g2'.2) (fun z hz => by by_cases e : z = d; (rw [e, mVf_d, upN_self, mVf_n (by omega)]); (rw [mVf_n e, upN_ne _ _ e, mVf_n e])) (fun z z0 hz => by unfold sh; by_cases e : z = d; (rw [e, upN_self, upN_self, mVf_d]); (rw [upN_ne _ _ (by omega), upN_ne _ _ e])) (fun z _ _ => cL_n (by omega) z) (fun z z0 hz => by unfold sh; by_cases e : z = d; (rw [e, upN_self, upN_self]); (rw [upN_ne _ _ (by omega), upN_ne _ _ e])))⟩
            exact ih_2 (B1 (d - 1), d, k + 1, mG1, mX1, mY1, mDe1, gd1, P1, Dp1, Sl1, T1, B1, upN F1 (d - 1) v, upN U1 (d - 1) 1) hI_41 (show mMs - (k + 1) < mMs - k from by omega) _ _ _ hP hD hS (lv_sub hl [0, 2, 1, 3, 4, 5, 6] rfl)
          · skip
            have c135 : (mSo k) = 3 := (nI_eq (by omega) (by omega)).mp c135
            omega
      · skip
        have c61 : (mSo k) = 1 := (nI_eq (by omega) (by omega)).mp c61
        have g2' := g1'.1 c61
        refine lv_aload_n hx hb d_Mod_settled_64 rfl (lv_at hl 3 rfl) ?_
        refine va_get (D := (dC, dI)) (ci := 6) (v := .ref a_mbefore) (C := R_Mod) (T := F_Mod) (N := 27) hx hb hts (wi i_Mod) hown hK hP 0 rfl rfl 24 (by decide) (hts _ (mt 566 rfl rfl)) (fun _ h9 => h9) rfl d_Mod_settled_65 ?_
        refine lv_iload hx hb d_Mod_settled_68 (lv_at hl 1 rfl) ?_
        refine lv_iload hx hb d_Mod_settled_70 (lv_at hl 2 rfl) ?_
        refine k_ist hx hb hK hP hD hS 6 0 rfl rfl (by omega) (by decide) d_Mod_settled_72 (fun H locs hP hD hS => ?_)
        have bb_42 : ∀ j, upN B1 d v j < 2786 := upN_lt b_B1 (by omega)
        have hP : va_P (dC, dI) classes [(a_mod, .inr (6, [.ref a_mkind, .ref a_mwidth, .ref a_mreset, .ref a_mop, .ref a_mka, .ref a_mkb, .ref a_mkc, .ref a_mheld, .int (nI mN), .ref a_msort, .ref a_mof, .ref a_mfrom, .int (nI mMs), .ref a_mbit, .ref a_mdone, .ref a_mrests, .ref a_mxx, .ref a_myy, .ref a_mdepth, .ref a_mone, .int (nI mG1), .int (nI mCk), .int mFw, .int (nI mRd), .ref a_mbefore, .ref a_mfirst, .ref a_mturned])), (a_mwidth, .inl (cI, 14, .inl (nF mWd))), (a_msort, .inl (cI, 20, .inl (nF mSo))), (a_mof, .inl (cI, 20, .inl mOf)), (a_mfrom, .inl (cI, 20, .inl mFr)), (a_mbit, .inl (cI, 224, .inl (nF mBi))), (a_mbefore, .inl (cI, 6, .inl (nF (upN B1 d v)))), (a_mfirst, .inl (cI, 6, .inl (nF F1))), (a_mturned, .inl (cZ, 6, .inl (nF U1))), (a_mxx, .inl (cI, 2600, .inl (nF mX1))), (a_myy, .inl (cI, 2600, .inl (nF mY1))), (a_mdepth, .inl (cI, 2600, .inl (nF mDe1)))] H := hP
        have hD : va_D A [(a_mod, .inr (6, [.ref a_mkind, .ref a_mwidth, .ref a_mreset, .ref a_mop, .ref a_mka, .ref a_mkb, .ref a_mkc, .ref a_mheld, .int (nI mN), .ref a_msort, .ref a_mof, .ref a_mfrom, .int (nI mMs), .ref a_mbit, .ref a_mdone, .ref a_mrests, .ref a_mxx, .ref a_myy, .ref a_mdepth, .ref a_mone, .int (nI mG1), .int (nI mCk), .int mFw, .int (nI mRd), .ref a_mbefore, .ref a_mfirst, .ref a_mturned])), (a_mwidth, .inl (cI, 14, .inl (nF mWd))), (a_msort, .inl (cI, 20, .inl (nF mSo))), (a_mof, .inl (cI, 20, .inl mOf)), (a_mfrom, .inl (cI, 20, .inl mFr)), (a_mbit, .inl (cI, 224, .inl (nF mBi))), (a_mbefore, .inl (cI, 6, .inl (nF (upN B1 d v)))), (a_mfirst, .inl (cI, 6, .inl (nF F1))), (a_mturned, .inl (cZ, 6, .inl (nF U1))), (a_mxx, .inl (cI, 2600, .inl (nF mX1))), (a_myy, .inl (cI, 2600, .inl (nF mY1))), (a_mdepth, .inl (cI, 2600, .inl (nF mDe1)))] := hD
        refine lv_aload_n hx hb d_Mod_settled_73 rfl (lv_at hl 3 rfl) ?_
        refine va_get (D := (dC, dI)) (ci := 6) (v := .ref a_mturned) (C := R_Mod) (T := F_Mod) (N := 27) hx hb hts (wi i_Mod) hown hK hP 0 rfl rfl 26 (by decide) (hts _ (mt 568 rfl rfl)) (fun _ h9 => h9) rfl d_Mod_settled_74 ?_
        refine lv_iload hx hb d_Mod_settled_77 (lv_at hl 1 rfl) ?_
        refine lv_iconst (v := nI 0) hx hb d_Mod_settled_79 rfl ?_
        refine k_zst hx hb hK hP hD hS 8 1 rfl rfl (by omega) (by decide) (by omega) d_Mod_settled_80 (fun H locs hP hD hS => ?_)
        have bb_43 : ∀ j, upN U1 d 0 j < 2 := upN_lt b_U1 (by omega)
        have hP : va_P (dC, dI) classes [(a_mod, .inr (6, [.ref a_mkind, .ref a_mwidth, .ref a_mreset, .ref a_mop, .ref a_mka, .ref a_mkb, .ref a_mkc, .ref a_mheld, .int (nI mN), .ref a_msort, .ref a_mof, .ref a_mfrom, .int (nI mMs), .ref a_mbit, .ref a_mdone, .ref a_mrests, .ref a_mxx, .ref a_myy, .ref a_mdepth, .ref a_mone, .int (nI mG1), .int (nI mCk), .int mFw, .int (nI mRd), .ref a_mbefore, .ref a_mfirst, .ref a_mturned])), (a_mwidth, .inl (cI, 14, .inl (nF mWd))), (a_msort, .inl (cI, 20, .inl (nF mSo))), (a_mof, .inl (cI, 20, .inl mOf)), (a_mfrom, .inl (cI, 20, .inl mFr)), (a_mbit, .inl (cI, 224, .inl (nF mBi))), (a_mbefore, .inl (cI, 6, .inl (nF (upN B1 d v)))), (a_mfirst, .inl (cI, 6, .inl (nF F1))), (a_mturned, .inl (cZ, 6, .inl (nF (upN U1 d 0)))), (a_mxx, .inl (cI, 2600, .inl (nF mX1))), (a_myy, .inl (cI, 2600, .inl (nF mY1))), (a_mdepth, .inl (cI, 2600, .inl (nF mDe1)))] H := hP
        have hD : va_D A [(a_mod, .inr (6, [.ref a_mkind, .ref a_mwidth, .ref a_mreset, .ref a_mop, .ref a_mka, .ref a_mkb, .ref a_mkc, .ref a_mheld, .int (nI mN), .ref a_msort, .ref a_mof, .ref a_mfrom, .int (nI mMs), .ref a_mbit, .ref a_mdone, .ref a_mrests, .ref a_mxx, .ref a_myy, .ref a_mdepth, .ref a_mone, .int (nI mG1), .int (nI mCk), .int mFw, .int (nI mRd), .ref a_mbefore, .ref a_mfirst, .ref a_mturned])), (a_mwidth, .inl (cI, 14, .inl (nF mWd))), (a_msort, .inl (cI, 20, .inl (nF mSo))), (a_mof, .inl (cI, 20, .inl mOf)), (a_mfrom, .inl (cI, 20, .inl mFr)), (a_mbit, .inl (cI, 224, .inl (nF mBi))), (a_mbefore, .inl (cI, 6, .inl (nF (upN B1 d v)))), (a_mfirst, .inl (cI, 6, .inl (nF F1))), (a_mturned, .inl (cZ, 6, .inl (nF (upN U1 d 0)))), (a_mxx, .inl (cI, 2600, .inl (nF mX1))), (a_myy, .inl (cI, 2600, .inl (nF mY1))), (a_mdepth, .inl (cI, 2600, .inl (nF mDe1)))] := hD
        refine lv_iinc (v := nI (d + 1)) (lv' := [(5, .int (nI (d + 1))), (6, .int (nI k)), (4, .int (nI v)), (0, .ref a_mod), (1, .int (nI S)), (2, .int (nI J)), (3, .int (nI x0))]) hx hb d_Mod_settled_81 hl (k := 1) rfl (k_inc _ 1) (by decide) rfl (fun ls hl => ?_)
        refine lv_aload_n hx hb d_Mod_settled_84 rfl (lv_at hl 3 rfl) ?_
        refine va_get (D := (dC, dI)) (ci := 6) (v := .ref a_msort) (C := R_Mod) (T := F_Mod) (N := 27) hx hb hts (wi i_Mod) hown hK hP 0 rfl rfl 9 (by decide) (hts _ (mt 551 rfl rfl)) (fun _ h9 => h9) rfl d_Mod_settled_85 ?_
        refine lv_iload hx hb d_Mod_settled_88 (lv_at hl 1 rfl) ?_
        refine k_ild hx hb hK hP 2 0 rfl rfl (by omega) (by decide) d_Mod_settled_90 ?_
        have hb_44 := b_mSo k
        refine lv_iconst (v := nI 2) hx hb d_Mod_settled_91 rfl ?_
        refine lv_icmp_ne (tgt := 127) hx hb d_Mod_settled_92 (by decide) (fun c92 => ?_) (fun c92 => ?_)
        · skip
          have c92 : ¬ ((mSo k) = 2) := fun h => c92 ((nI_eq (by omega) (by omega)).mpr h)
          refine lv_aload_n hx hb d_Mod_settled_127 rfl (lv_at hl 3 rfl) ?_
          refine va_get (D := (dC, dI)) (ci := 6) (v := .ref a_msort) (C := R_Mod) (T := F_Mod) (N := 27) hx hb hts (wi i_Mod) hown hK hP 0 rfl rfl 9 (by decide) (hts _ (mt 551 rfl rfl)) (fun _ h9 => h9) rfl d_Mod_settled_128 ?_
          refine lv_iload hx hb d_Mod_settled_131 (lv_at hl 1 rfl) ?_
          refine k_ild hx hb hK hP 2 0 rfl rfl (by omega) (by decide) d_Mod_settled_133 ?_
          have hb_45 := b_mSo k
          refine lv_iconst (v := nI 3) hx hb d_Mod_settled_134 rfl ?_
          refine lv_icmp_ne (tgt := 210) hx hb d_Mod_settled_135 (by decide) (fun c135 => ?_) (fun c135 => ?_)
          · skip
            have c135 : ¬ ((mSo k) = 3) := fun h => c135 ((nI_eq (by omega) (by omega)).mpr h)
            refine lv_iinc (v := nI (k + 1)) (lv' := [(6, .int (nI (k + 1))), (5, .int (nI (d + 1))), (4, .int (nI v)), (0, .ref a_mod), (1, .int (nI S)), (2, .int (nI J)), (3, .int (nI x0))]) hx hb d_Mod_settled_210 hl (k := 1) rfl (k_inc _ 1) (by decide) rfl (fun ls hl => ?_)
            refine lv_goto (tgt := 9) hx hb d_Mod_settled_213 (by decide) ?_
            have hI_46 : (mG1 ≤ 1280) ∧ (∀ j, mX1 j < 2786) ∧ (∀ j, mY1 j < 2786) ∧ (∀ j, mDe1 j < 1400) ∧ (∀ j, (upN B1 d v) j < 2786) ∧ (∀ j, F1 j < 2786) ∧ (∀ j, (upN U1 d 0) j < 2) ∧ ((d + 1) = dp mSo (k + 1)) ∧ ((k + 1) ≤ mMs) ∧ (NJ mG1 gd1 P1 Dp1 Sl1 T1) ∧ (MXY mG1 mX1 mY1 mDe1 P1 Dp1) ∧ (AL K T1 mG1) ∧ (v < 2786) ∧ (GI mSo Su Sr S (fun z => CB z J) (fun z => CB z 0) (fun z => mBi (8 * z)) T mG v0 (k + 1) (mVf v (d + 1) (upN B1 d v)) (sh F1) (fun z => cL mSo Su (k + 1) z) (sh (upN U1 d 0)) T1 mG1) := ⟨(by omega), b_mX1, b_mY1, b_mDe1, bb_42, b_F1, bb_43, (by rw [hd]; exact (dp_w c61).symm), (by omega), hN1, hXY1, hAL1, (by omega), (GI_congr (GI_w hGI hd c61) (fun z hz => by by_cases e : z = d + 1; (rw [e, mVf_d, upN_self, show d + 1 - 1 = d by omega, mVf_d]); (rw [mVf_n e, upN_ne _ _ e]; by_cases e2 : z = d; (rw [e2, upN_self, mVf_d]); (rw [upN_ne _ _ e2, mVf_n e2]))) (fun _ _ _ => rfl) (fun z z0 hz => by rw [cL_1 c61]; by_cases e : z = d + 1; (rw [if_pos (by omega), e, upN_self]); (rw [if_neg (by omega), upN_ne _ _ e])) (fun z z0 hz => by unfold sh; by_cases e : z = d + 1; (rw [e, show d + 1 - 1 = d by omega, upN_self, upN_self]); (rw [upN_ne _ _ (by omega), upN_ne _ _ e])))⟩
            exact ih_2 (v, d + 1, k + 1, mG1, mX1, mY1, mDe1, gd1, P1, Dp1, Sl1, T1, upN B1 d v, F1, upN U1 d 0) hI_46 (show mMs - (k + 1) < mMs - k from by omega) _ _ _ hP hD hS (lv_sub hl [0, 1, 2, 3, 4, 5, 6] rfl)
          · skip
            have c135 : (mSo k) = 3 := (nI_eq (by omega) (by omega)).mp c135
            omega
        · skip
          have c92 : (mSo k) = 2 := (nI_eq (by omega) (by omega)).mp c92
          omega
    · skip
      have c25 : (mSo k) = 0 := (nI_eq0 (by omega)).mp c25
      refine lv_aload_n hx hb d_Mod_settled_28 rfl (lv_at hl 3 rfl) ?_
      refine va_get (D := (dC, dI)) (ci := 6) (v := .ref a_mof) (C := R_Mod) (T := F_Mod) (N := 27) hx hb hts (wi i_Mod) hown hK hP 0 rfl rfl 10 (by decide) (hts _ (mt 552 rfl rfl)) (fun _ h9 => h9) rfl d_Mod_settled_29 ?_
      refine lv_iload hx hb d_Mod_settled_32 (lv_at hl 0 rfl) ?_
      refine k_rld hx hb hK hP 3 0 rfl rfl (by omega) (by decide) d_Mod_settled_34 ?_
      have hof := hOf k (by omega) (Or.inl c25)
      refine k_top (show mOf k = nI (Su k) from hof.1) ?_
      refine lv_iload_n hx hb d_Mod_settled_35 rfl (lv_at hl 4 rfl) ?_
      refine lv_icmp_ne (tgt := 53) hx hb d_Mod_settled_36 (by decide) (fun c36 => ?_) (fun c36 => ?_)
      · skip
        have c36 : ¬ ((Su k) = S) := fun h => c36 ((nI_eq (by omega) (by omega)).mpr h)
        refine lv_aload_n hx hb d_Mod_settled_53 rfl (lv_at hl 3 rfl) ?_
        refine va_get (D := (dC, dI)) (ci := 6) (v := .ref a_msort) (C := R_Mod) (T := F_Mod) (N := 27) hx hb hts (wi i_Mod) hown hK hP 0 rfl rfl 9 (by decide) (hts _ (mt 551 rfl rfl)) (fun _ h9 => h9) rfl d_Mod_settled_54 ?_
        refine lv_iload hx hb d_Mod_settled_57 (lv_at hl 0 rfl) ?_
        refine k_ild hx hb hK hP 2 0 rfl rfl (by omega) (by decide) d_Mod_settled_59 ?_
        have hb_47 := b_mSo k
        refine lv_iconst (v := nI 1) hx hb d_Mod_settled_60 rfl ?_
        refine lv_icmp_ne (tgt := 84) hx hb d_Mod_settled_61 (by decide) (fun c61 => ?_) (fun c61 => ?_)
        · skip
          have c61 : ¬ ((mSo k) = 1) := fun h => c61 ((nI_eq (by omega) (by omega)).mpr h)
          refine lv_aload_n hx hb d_Mod_settled_84 rfl (lv_at hl 3 rfl) ?_
          refine va_get (D := (dC, dI)) (ci := 6) (v := .ref a_msort) (C := R_Mod) (T := F_Mod) (N := 27) hx hb hts (wi i_Mod) hown hK hP 0 rfl rfl 9 (by decide) (hts _ (mt 551 rfl rfl)) (fun _ h9 => h9) rfl d_Mod_settled_85 ?_
          refine lv_iload hx hb d_Mod_settled_88 (lv_at hl 0 rfl) ?_
          refine k_ild hx hb hK hP 2 0 rfl rfl (by omega) (by decide) d_Mod_settled_90 ?_
          have hb_48 := b_mSo k
          refine lv_iconst (v := nI 2) hx hb d_Mod_settled_91 rfl ?_
          refine lv_icmp_ne (tgt := 127) hx hb d_Mod_settled_92 (by decide) (fun c92 => ?_) (fun c92 => ?_)
          · skip
            have c92 : ¬ ((mSo k) = 2) := fun h => c92 ((nI_eq (by omega) (by omega)).mpr h)
            refine lv_aload_n hx hb d_Mod_settled_127 rfl (lv_at hl 3 rfl) ?_
            refine va_get (D := (dC, dI)) (ci := 6) (v := .ref a_msort) (C := R_Mod) (T := F_Mod) (N := 27) hx hb hts (wi i_Mod) hown hK hP 0 rfl rfl 9 (by decide) (hts _ (mt 551 rfl rfl)) (fun _ h9 => h9) rfl d_Mod_settled_128 ?_
            refine lv_iload hx hb d_Mod_settled_131 (lv_at hl 0 rfl) ?_
            refine k_ild hx hb hK hP 2 0 rfl rfl (by omega) (by decide) d_Mod_settled_133 ?_
            have hb_49 := b_mSo k
            refine lv_iconst (v := nI 3) hx hb d_Mod_settled_134 rfl ?_
            refine lv_icmp_ne (tgt := 210) hx hb d_Mod_settled_135 (by decide) (fun c135 => ?_) (fun c135 => ?_)
            · skip
              have c135 : ¬ ((mSo k) = 3) := fun h => c135 ((nI_eq (by omega) (by omega)).mpr h)
              refine lv_iinc (v := nI (k + 1)) (lv' := [(6, .int (nI (k + 1))), (5, .int (nI d)), (4, .int (nI v)), (0, .ref a_mod), (1, .int (nI S)), (2, .int (nI J)), (3, .int (nI x0))]) hx hb d_Mod_settled_210 hl (k := 0) rfl (k_inc _ 1) (by decide) rfl (fun ls hl => ?_)
              refine lv_goto (tgt := 9) hx hb d_Mod_settled_213 (by decide) ?_
              have hI_50 : (mG1 ≤ 1280) ∧ (∀ j, mX1 j < 2786) ∧ (∀ j, mY1 j < 2786) ∧ (∀ j, mDe1 j < 1400) ∧ (∀ j, B1 j < 2786) ∧ (∀ j, F1 j < 2786) ∧ (∀ j, U1 j < 2) ∧ (d = dp mSo (k + 1)) ∧ ((k + 1) ≤ mMs) ∧ (NJ mG1 gd1 P1 Dp1 Sl1 T1) ∧ (MXY mG1 mX1 mY1 mDe1 P1 Dp1) ∧ (AL K T1 mG1) ∧ (v < 2786) ∧ (GI mSo Su Sr S (fun z => CB z J) (fun z => CB z 0) (fun z => mBi (8 * z)) T mG v0 (k + 1) (mVf v d B1) (sh F1) (fun z => cL mSo Su (k + 1) z) (sh U1) T1 mG1) := ⟨(by omega), b_mX1, b_mY1, b_mDe1, b_B1, b_F1, b_U1, (by rw [hd]; exact (dp_o (by omega) (by omega)).symm), (by omega), hN1, hXY1, hAL1, (by omega), (GI_congr (GI_o hGI c25 c36) (fun _ _ => rfl) (fun _ _ _ => rfl) (fun z _ _ => cL_n (by omega) z) (fun _ _ _ => rfl))⟩
              exact ih_2 (v, d, k + 1, mG1, mX1, mY1, mDe1, gd1, P1, Dp1, Sl1, T1, B1, F1, U1) hI_50 (show mMs - (k + 1) < mMs - k from by omega) _ _ _ hP hD hS (lv_sub hl [0, 1, 2, 3, 4, 5, 6] rfl)
            · skip
              have c135 : (mSo k) = 3 := (nI_eq (by omega) (by omega)).mp c135
              omega
          · skip
            have c92 : (mSo k) = 2 := (nI_eq (by omega) (by omega)).mp c92
            omega
        · skip
          have c61 : (mSo k) = 1 := (nI_eq (by omega) (by omega)).mp c61
          omega
      · skip
        have c36 : (Su k) = S := (nI_eq (by omega) (by omega)).mp c36
        have hfr := hFr k (by omega) c25
        have hsr := hsrc k (by omega) c25 c36
        have hll := lit_lt (Wd := mWd) b_mBi (Sr k) J
        refine lv_aload_n hx hb d_Mod_settled_39 rfl (lv_at hl 3 rfl) ?_
        refine lv_aload_n hx hb d_Mod_settled_40 rfl (lv_at hl 3 rfl) ?_
        refine va_get (D := (dC, dI)) (ci := 6) (v := .ref a_mfrom) (C := R_Mod) (T := F_Mod) (N := 27) hx hb hts (wi i_Mod) hown hK hP 0 rfl rfl 11 (by decide) (hts _ (mt 553 rfl rfl)) (fun _ h9 => h9) rfl d_Mod_settled_41 ?_
        refine lv_iload hx hb d_Mod_settled_44 (lv_at hl 0 rfl) ?_
        refine k_rld hx hb hK hP 4 0 rfl rfl (by omega) (by decide) d_Mod_settled_46 ?_
        refine k_top (show mFr k = nI (Sr k) from hfr.1) ?_
        refine lv_iload_n hx hb d_Mod_settled_47 rfl (lv_at hl 5 rfl) ?_
        refine k_i (wr := [(a_msort, .inl (cI, 20, .inl (nF mSo))), (a_mof, .inl (cI, 20, .inl mOf)), (a_mfrom, .inl (cI, 20, .inl mFr)), (a_mbefore, .inl (cI, 6, .inl (nF B1))), (a_mfirst, .inl (cI, 6, .inl (nF F1))), (a_mturned, .inl (cZ, 6, .inl (nF U1))), (a_mxx, .inl (cI, 2600, .inl (nF mX1))), (a_myy, .inl (cI, 2600, .inl (nF mY1))), (a_mdepth, .inl (cI, 2600, .inl (nF mDe1)))]) (w2 := fun (u : Unit) => [(a_mod, .inr (6, [.ref a_mkind, .ref a_mwidth, .ref a_mreset, .ref a_mop, .ref a_mka, .ref a_mkb, .ref a_mkc, .ref a_mheld, .int (nI mN), .ref a_msort, .ref a_mof, .ref a_mfrom, .int (nI mMs), .ref a_mbit, .ref a_mdone, .ref a_mrests, .ref a_mxx, .ref a_myy, .ref a_mdepth, .ref a_mone, .int (nI mG1), .int (nI mCk), .int mFw, .int (nI mRd), .ref a_mbefore, .ref a_mfirst, .ref a_mturned])), (a_mwidth, .inl (cI, 14, .inl (nF mWd))), (a_msort, .inl (cI, 20, .inl (nF mSo))), (a_mof, .inl (cI, 20, .inl mOf)), (a_mfrom, .inl (cI, 20, .inl mFr)), (a_mbit, .inl (cI, 224, .inl (nF mBi))), (a_mbefore, .inl (cI, 6, .inl (nF B1))), (a_mfirst, .inl (cI, 6, .inl (nF F1))), (a_mturned, .inl (cZ, 6, .inl (nF U1))), (a_mxx, .inl (cI, 2600, .inl (nF mX1))), (a_myy, .inl (cI, 2600, .inl (nF mY1))), (a_mdepth, .inl (cI, 2600, .inl (nF mDe1)))]) (va_runV (As := [.int (nI (Sr k)), .int (nI J)]) (rest := []) ⟨hx, hb, hml, hown, hts⟩ (c_Mod_bitOf l dC dI cI cZ a_mod a_mkind a_mwidth a_mreset a_mop a_mka a_mkb a_mkc a_mheld a_msort a_mof a_mfrom a_mbit a_mdone a_mrests a_mxx a_myy a_mdepth a_mone a_mbefore a_mfirst a_mturned tt H.size mN mMs mG1 mCk mFw mRd mWd mBi (Sr k) J (by omega) (by omega) (by omega) (by omega) b_mWd b_mBi hfr.2 (by omega)) (cwV 2 hts (gd_V in_tl (mw 690 rfl rfl) (mw 692 rfl rfl) (mw 29 rfl rfl) (mw 47 rfl rfl) (mw 693 rfl rfl)) rfl rfl rfl (by decide +kernel) ⟨Nat.le_of_ble_eq_true rfl, Nat.le_of_ble_eq_true rfl⟩) (k_preV hK hP hD hS hA hE [0, 1, 5] (by decide) rfl 6 0 rfl rfl) rfl rfl hl.1 rfl (lv_room (Nat.le_of_ble_eq_true rfl)) d_Mod_settled_48 ⟨Nat.zero_le _, Nat.zero_le _⟩) hP hD hS hA [0, 1, 5] [2, 3, 4, 6, 7, 8, 9, 10, 11] [9, 10, 0, 1, 2, 11, 3, 4, 5, 6, 7, 8] rfl rfl (by decide) (by decide) (by decide) (fun _ => rfl) (fun r_51 u H locs hw hP hD hS => ?_)
        obtain rfl : (r_51 = nI (lit mBi mWd (Sr k) J)) := hw
        have hP : va_P (dC, dI) classes [(a_mod, .inr (6, [.ref a_mkind, .ref a_mwidth, .ref a_mreset, .ref a_mop, .ref a_mka, .ref a_mkb, .ref a_mkc, .ref a_mheld, .int (nI mN), .ref a_msort, .ref a_mof, .ref a_mfrom, .int (nI mMs), .ref a_mbit, .ref a_mdone, .ref a_mrests, .ref a_mxx, .ref a_myy, .ref a_mdepth, .ref a_mone, .int (nI mG1), .int (nI mCk), .int mFw, .int (nI mRd), .ref a_mbefore, .ref a_mfirst, .ref a_mturned])), (a_mwidth, .inl (cI, 14, .inl (nF mWd))), (a_msort, .inl (cI, 20, .inl (nF mSo))), (a_mof, .inl (cI, 20, .inl mOf)), (a_mfrom, .inl (cI, 20, .inl mFr)), (a_mbit, .inl (cI, 224, .inl (nF mBi))), (a_mbefore, .inl (cI, 6, .inl (nF B1))), (a_mfirst, .inl (cI, 6, .inl (nF F1))), (a_mturned, .inl (cZ, 6, .inl (nF U1))), (a_mxx, .inl (cI, 2600, .inl (nF mX1))), (a_myy, .inl (cI, 2600, .inl (nF mY1))), (a_mdepth, .inl (cI, 2600, .inl (nF mDe1)))] H := hP
        have hD : va_D A [(a_mod, .inr (6, [.ref a_mkind, .ref a_mwidth, .ref a_mreset, .ref a_mop, .ref a_mka, .ref a_mkb, .ref a_mkc, .ref a_mheld, .int (nI mN), .ref a_msort, .ref a_mof, .ref a_mfrom, .int (nI mMs), .ref a_mbit, .ref a_mdone, .ref a_mrests, .ref a_mxx, .ref a_myy, .ref a_mdepth, .ref a_mone, .int (nI mG1), .int (nI mCk), .int mFw, .int (nI mRd), .ref a_mbefore, .ref a_mfirst, .ref a_mturned])), (a_mwidth, .inl (cI, 14, .inl (nF mWd))), (a_msort, .inl (cI, 20, .inl (nF mSo))), (a_mof, .inl (cI, 20, .inl mOf)), (a_mfrom, .inl (cI, 20, .inl mFr)), (a_mbit, .inl (cI, 224, .inl (nF mBi))), (a_mbefore, .inl (cI, 6, .inl (nF B1))), (a_mfirst, .inl (cI, 6, .inl (nF F1))), (a_mturned, .inl (cZ, 6, .inl (nF U1))), (a_mxx, .inl (cI, 2600, .inl (nF mX1))), (a_myy, .inl (cI, 2600, .inl (nF mY1))), (a_mdepth, .inl (cI, 2600, .inl (nF mDe1)))] := hD
        refine lv_istore (lv' := [(4, .int (nI (lit mBi mWd (Sr k) J))), (6, .int (nI k)), (5, .int (nI d)), (0, .ref a_mod), (1, .int (nI S)), (2, .int (nI J)), (3, .int (nI x0))]) hx hb d_Mod_settled_51 hl (by decide) rfl (fun ls hl => ?_)
        refine lv_aload_n hx hb d_Mod_settled_53 rfl (lv_at hl 3 rfl) ?_
        refine va_get (D := (dC, dI)) (ci := 6) (v := .ref a_msort) (C := R_Mod) (T := F_Mod) (N := 27) hx hb hts (wi i_Mod) hown hK hP 0 rfl rfl 9 (by decide) (hts _ (mt 551 rfl rfl)) (fun _ h9 => h9) rfl d_Mod_settled_54 ?_
        refine lv_iload hx hb d_Mod_settled_57 (lv_at hl 1 rfl) ?_
        refine k_ild hx hb hK hP 2 0 rfl rfl (by omega) (by decide) d_Mod_settled_59 ?_
        have hb_52 := b_mSo k
        refine lv_iconst (v := nI 1) hx hb d_Mod_settled_60 rfl ?_
        refine lv_icmp_ne (tgt := 84) hx hb d_Mod_settled_61 (by decide) (fun c61 => ?_) (fun c61 => ?_)
        · skip
          have c61 : ¬ ((mSo k) = 1) := fun h => c61 ((nI_eq (by omega) (by omega)).mpr h)
          refine lv_aload_n hx hb d_Mod_settled_84 rfl (lv_at hl 3 rfl) ?_
          refine va_get (D := (dC, dI)) (ci := 6) (v := .ref a_msort) (C := R_Mod) (T := F_Mod) (N := 27) hx hb hts (wi i_Mod) hown hK hP 0 rfl rfl 9 (by decide) (hts _ (mt 551 rfl rfl)) (fun _ h9 => h9) rfl d_Mod_settled_85 ?_
          refine lv_iload hx hb d_Mod_settled_88 (lv_at hl 1 rfl) ?_
          refine k_ild hx hb hK hP 2 0 rfl rfl (by omega) (by decide) d_Mod_settled_90 ?_
          have hb_53 := b_mSo k
          refine lv_iconst (v := nI 2) hx hb d_Mod_settled_91 rfl ?_
          refine lv_icmp_ne (tgt := 127) hx hb d_Mod_settled_92 (by decide) (fun c92 => ?_) (fun c92 => ?_)
          · skip
            have c92 : ¬ ((mSo k) = 2) := fun h => c92 ((nI_eq (by omega) (by omega)).mpr h)
            refine lv_aload_n hx hb d_Mod_settled_127 rfl (lv_at hl 3 rfl) ?_
            refine va_get (D := (dC, dI)) (ci := 6) (v := .ref a_msort) (C := R_Mod) (T := F_Mod) (N := 27) hx hb hts (wi i_Mod) hown hK hP 0 rfl rfl 9 (by decide) (hts _ (mt 551 rfl rfl)) (fun _ h9 => h9) rfl d_Mod_settled_128 ?_
            refine lv_iload hx hb d_Mod_settled_131 (lv_at hl 1 rfl) ?_
            refine k_ild hx hb hK hP 2 0 rfl rfl (by omega) (by decide) d_Mod_settled_133 ?_
            have hb_54 := b_mSo k
            refine lv_iconst (v := nI 3) hx hb d_Mod_settled_134 rfl ?_
            refine lv_icmp_ne (tgt := 210) hx hb d_Mod_settled_135 (by decide) (fun c135 => ?_) (fun c135 => ?_)
            · skip
              have c135 : ¬ ((mSo k) = 3) := fun h => c135 ((nI_eq (by omega) (by omega)).mpr h)
              refine lv_iinc (v := nI (k + 1)) (lv' := [(6, .int (nI (k + 1))), (4, .int (nI (lit mBi mWd (Sr k) J))), (5, .int (nI d)), (0, .ref a_mod), (1, .int (nI S)), (2, .int (nI J)), (3, .int (nI x0))]) hx hb d_Mod_settled_210 hl (k := 1) rfl (k_inc _ 1) (by decide) rfl (fun ls hl => ?_)
              refine lv_goto (tgt := 9) hx hb d_Mod_settled_213 (by decide) ?_
              have hI_55 : (mG1 ≤ 1280) ∧ (∀ j, mX1 j < 2786) ∧ (∀ j, mY1 j < 2786) ∧ (∀ j, mDe1 j < 1400) ∧ (∀ j, B1 j < 2786) ∧ (∀ j, F1 j < 2786) ∧ (∀ j, U1 j < 2) ∧ (d = dp mSo (k + 1)) ∧ ((k + 1) ≤ mMs) ∧ (NJ mG1 gd1 P1 Dp1 Sl1 T1) ∧ (MXY mG1 mX1 mY1 mDe1 P1 Dp1) ∧ (AL K T1 mG1) ∧ ((lit mBi mWd (Sr k) J) < 2786) ∧ (GI mSo Su Sr S (fun z => CB z J) (fun z => CB z 0) (fun z => mBi (8 * z)) T mG v0 (k + 1) (mVf (lit mBi mWd (Sr k) J) d B1) (sh F1) (fun z => cL mSo Su (k + 1) z) (sh U1) T1 mG1) := ⟨(by omega), b_mX1, b_mY1, b_mDe1, b_B1, b_F1, b_U1, (by rw [hd]; exact (dp_o (by omega) (by omega)).symm), (by omega), hN1, hXY1, hAL1, hll, (GI_congr (GI_s hGI hd c25 c36 hsr.1 hsr.2 (hcnd k (by omega) c25 c36)) (fun z _ => by by_cases e : z = d; (rw [e, mVf_d, upN_self]); (rw [mVf_n e, upN_ne _ _ e, mVf_n e])) (fun _ _ _ => rfl) (fun z _ _ => cL_n (by omega) z) (fun _ _ _ => rfl))⟩
              exact ih_2 (lit mBi mWd (Sr k) J, d, k + 1, mG1, mX1, mY1, mDe1, gd1, P1, Dp1, Sl1, T1, B1, F1, U1) hI_55 (show mMs - (k + 1) < mMs - k from by omega) _ _ _ hP hD hS (lv_sub hl [0, 2, 1, 3, 4, 5, 6] rfl)
            · skip
              have c135 : (mSo k) = 3 := (nI_eq (by omega) (by omega)).mp c135
              omega
          · skip
            have c92 : (mSo k) = 2 := (nI_eq (by omega) (by omega)).mp c92
            omega
        · skip
          have c61 : (mSo k) = 1 := (nI_eq (by omega) (by omega)).mp c61
          omega
